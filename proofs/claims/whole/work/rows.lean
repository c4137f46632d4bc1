section
-- ===== PART A: goes FIRST, ahead of the names: the tables' words, and 'selects' of the private methods out of them =====
/-- a private method of a class that the tables say can be made, by its rows of tables_1 -/
def lw_okq (q : MethodName × Nat) : Prop := (q.1.cls ≠ "java/lang/invoke/MethodHandle" ∧ q.1.cls ≠ "java/lang/invoke/VarHandle") ∧ Cond.instantiable q.1.cls q.2 ∈ tables_1 ∧ Cond.privateMethod q.1 ∈ tables_1 ∧ Cond.instanceMethod q.1 ∈ tables_1
theorem lw_p0 : lw_okq (⟨"FlowletSwitch", "runItem", "()Z"⟩, 5) := ⟨⟨by decide +kernel, by decide +kernel⟩, List.mem_of_getElem? (i := 11) (by decide +kernel), List.mem_of_getElem? (i := 630) (by decide +kernel), List.mem_of_getElem? (i := 631) (by decide +kernel)⟩
theorem lw_p1 : lw_okq (⟨"FlowletSwitchModel", "makeNew", "(II)V"⟩, 11) := ⟨⟨by decide +kernel, by decide +kernel⟩, List.mem_of_getElem? (i := 655) (by decide +kernel), List.mem_of_getElem? (i := 661) (by decide +kernel), List.mem_of_getElem? (i := 662) (by decide +kernel)⟩
theorem lw_p2 : lw_okq (⟨"FlowletSwitchModel", "keep", "()V"⟩, 11) := ⟨⟨by decide +kernel, by decide +kernel⟩, List.mem_of_getElem? (i := 655) (by decide +kernel), List.mem_of_getElem? (i := 706) (by decide +kernel), List.mem_of_getElem? (i := 707) (by decide +kernel)⟩
theorem lw_p3 : lw_okq (⟨"FlowletSwitchModel", "slotOf", "(I)I"⟩, 11) := ⟨⟨by decide +kernel, by decide +kernel⟩, List.mem_of_getElem? (i := 655) (by decide +kernel), List.mem_of_getElem? (i := 710) (by decide +kernel), List.mem_of_getElem? (i := 711) (by decide +kernel)⟩
theorem lw_p4 : lw_okq (⟨"FlowletSwitchModel", "isPath", "(I)Z"⟩, 11) := ⟨⟨by decide +kernel, by decide +kernel⟩, List.mem_of_getElem? (i := 655) (by decide +kernel), List.mem_of_getElem? (i := 718) (by decide +kernel), List.mem_of_getElem? (i := 719) (by decide +kernel)⟩
theorem lw_p5 : lw_okq (⟨"FlowletSwitchModel", "change", "(II)I"⟩, 11) := ⟨⟨by decide +kernel, by decide +kernel⟩, List.mem_of_getElem? (i := 655) (by decide +kernel), List.mem_of_getElem? (i := 722) (by decide +kernel), List.mem_of_getElem? (i := 723) (by decide +kernel)⟩
theorem lw_p6 : lw_okq (⟨"FlowletSwitchModel", "whyNotPass", "(I)I"⟩, 11) := ⟨⟨by decide +kernel, by decide +kernel⟩, List.mem_of_getElem? (i := 655) (by decide +kernel), List.mem_of_getElem? (i := 758) (by decide +kernel), List.mem_of_getElem? (i := 759) (by decide +kernel)⟩
theorem lw_p7 : lw_okq (⟨"FlowletSwitchModel", "pass", "(I)I"⟩, 11) := ⟨⟨by decide +kernel, by decide +kernel⟩, List.mem_of_getElem? (i := 655) (by decide +kernel), List.mem_of_getElem? (i := 763) (by decide +kernel), List.mem_of_getElem? (i := 764) (by decide +kernel)⟩
theorem lw_p8 : lw_okq (⟨"FlowletSwitchModel", "tick", "()V"⟩, 11) := ⟨⟨by decide +kernel, by decide +kernel⟩, List.mem_of_getElem? (i := 655) (by decide +kernel), List.mem_of_getElem? (i := 767) (by decide +kernel), List.mem_of_getElem? (i := 768) (by decide +kernel)⟩
theorem lw_p9 : lw_okq (⟨"FlowletSwitchModel", "age", "()V"⟩, 11) := ⟨⟨by decide +kernel, by decide +kernel⟩, List.mem_of_getElem? (i := 655) (by decide +kernel), List.mem_of_getElem? (i := 771) (by decide +kernel), List.mem_of_getElem? (i := 772) (by decide +kernel)⟩
theorem lw_p10 : lw_okq (⟨"FlowletSwitchModel", "transmit", "(II)I"⟩, 11) := ⟨⟨by decide +kernel, by decide +kernel⟩, List.mem_of_getElem? (i := 655) (by decide +kernel), List.mem_of_getElem? (i := 785) (by decide +kernel), List.mem_of_getElem? (i := 786) (by decide +kernel)⟩
theorem lw_p11 : lw_okq (⟨"FlowletSwitchModel", "choose", "(I)I"⟩, 11) := ⟨⟨by decide +kernel, by decide +kernel⟩, List.mem_of_getElem? (i := 655) (by decide +kernel), List.mem_of_getElem? (i := 789) (by decide +kernel), List.mem_of_getElem? (i := 790) (by decide +kernel)⟩
theorem lw_p12 : lw_okq (⟨"FlowletSwitchModel", "isLive", "(I)Z"⟩, 11) := ⟨⟨by decide +kernel, by decide +kernel⟩, List.mem_of_getElem? (i := 655) (by decide +kernel), List.mem_of_getElem? (i := 793) (by decide +kernel), List.mem_of_getElem? (i := 794) (by decide +kernel)⟩
theorem lw_p13 : lw_okq (⟨"FlowletSwitchModel", "leastLoaded", "(I)I"⟩, 11) := ⟨⟨by decide +kernel, by decide +kernel⟩, List.mem_of_getElem? (i := 655) (by decide +kernel), List.mem_of_getElem? (i := 797) (by decide +kernel), List.mem_of_getElem? (i := 798) (by decide +kernel)⟩
theorem lw_p14 : lw_okq (⟨"FlowletSwitchModel", "metricOf", "(I)I"⟩, 11) := ⟨⟨by decide +kernel, by decide +kernel⟩, List.mem_of_getElem? (i := 655) (by decide +kernel), List.mem_of_getElem? (i := 801) (by decide +kernel), List.mem_of_getElem? (i := 802) (by decide +kernel)⟩
theorem lw_p15 : lw_okq (⟨"FlowletSwitchModel", "nextGenerator", "()I"⟩, 11) := ⟨⟨by decide +kernel, by decide +kernel⟩, List.mem_of_getElem? (i := 655) (by decide +kernel), List.mem_of_getElem? (i := 805) (by decide +kernel), List.mem_of_getElem? (i := 806) (by decide +kernel)⟩
def lw_privs_1 : List (MethodName × Nat) := [(⟨"FlowletSwitch", "runItem", "()Z"⟩, 5), (⟨"FlowletSwitchModel", "makeNew", "(II)V"⟩, 11), (⟨"FlowletSwitchModel", "keep", "()V"⟩, 11), (⟨"FlowletSwitchModel", "slotOf", "(I)I"⟩, 11), (⟨"FlowletSwitchModel", "isPath", "(I)Z"⟩, 11), (⟨"FlowletSwitchModel", "change", "(II)I"⟩, 11), (⟨"FlowletSwitchModel", "whyNotPass", "(I)I"⟩, 11), (⟨"FlowletSwitchModel", "pass", "(I)I"⟩, 11), (⟨"FlowletSwitchModel", "tick", "()V"⟩, 11), (⟨"FlowletSwitchModel", "age", "()V"⟩, 11), (⟨"FlowletSwitchModel", "transmit", "(II)I"⟩, 11), (⟨"FlowletSwitchModel", "choose", "(I)I"⟩, 11), (⟨"FlowletSwitchModel", "isLive", "(I)Z"⟩, 11), (⟨"FlowletSwitchModel", "leastLoaded", "(I)I"⟩, 11), (⟨"FlowletSwitchModel", "metricOf", "(I)I"⟩, 11), (⟨"FlowletSwitchModel", "nextGenerator", "()I"⟩, 11)]
theorem lw_r1 : ∀ q ∈ lw_privs_1, lw_okq q := List.forall_mem_cons.mpr ⟨lw_p0, List.forall_mem_cons.mpr ⟨lw_p1, List.forall_mem_cons.mpr ⟨lw_p2, List.forall_mem_cons.mpr ⟨lw_p3, List.forall_mem_cons.mpr ⟨lw_p4, List.forall_mem_cons.mpr ⟨lw_p5, List.forall_mem_cons.mpr ⟨lw_p6, List.forall_mem_cons.mpr ⟨lw_p7, List.forall_mem_cons.mpr ⟨lw_p8, List.forall_mem_cons.mpr ⟨lw_p9, List.forall_mem_cons.mpr ⟨lw_p10, List.forall_mem_cons.mpr ⟨lw_p11, List.forall_mem_cons.mpr ⟨lw_p12, List.forall_mem_cons.mpr ⟨lw_p13, List.forall_mem_cons.mpr ⟨lw_p14, List.forall_mem_cons.mpr ⟨lw_p15, fun _ h => absurd h List.not_mem_nil⟩⟩⟩⟩⟩⟩⟩⟩⟩⟩⟩⟩⟩⟩⟩⟩
theorem lw_p16 : lw_okq (⟨"FlowletSwitchModel", "take", "(II)V"⟩, 11) := ⟨⟨by decide +kernel, by decide +kernel⟩, List.mem_of_getElem? (i := 655) (by decide +kernel), List.mem_of_getElem? (i := 813) (by decide +kernel), List.mem_of_getElem? (i := 814) (by decide +kernel)⟩
theorem lw_p17 : lw_okq (⟨"FlowletSwitchModel", "isByFlowlets", "()Z"⟩, 11) := ⟨⟨by decide +kernel, by decide +kernel⟩, List.mem_of_getElem? (i := 655) (by decide +kernel), List.mem_of_getElem? (i := 817) (by decide +kernel), List.mem_of_getElem? (i := 818) (by decide +kernel)⟩
theorem lw_p18 : lw_okq (⟨"FlowletSwitchModel", "isTooBusy", "(I)Z"⟩, 11) := ⟨⟨by decide +kernel, by decide +kernel⟩, List.mem_of_getElem? (i := 655) (by decide +kernel), List.mem_of_getElem? (i := 821) (by decide +kernel), List.mem_of_getElem? (i := 822) (by decide +kernel)⟩
theorem lw_p19 : lw_okq (⟨"FlowletSwitchModel", "endOf", "(II)I"⟩, 11) := ⟨⟨by decide +kernel, by decide +kernel⟩, List.mem_of_getElem? (i := 655) (by decide +kernel), List.mem_of_getElem? (i := 825) (by decide +kernel), List.mem_of_getElem? (i := 826) (by decide +kernel)⟩
theorem lw_p20 : lw_okq (⟨"FlowletSwitchModel", "isEntry", "(I)Z"⟩, 11) := ⟨⟨by decide +kernel, by decide +kernel⟩, List.mem_of_getElem? (i := 655) (by decide +kernel), List.mem_of_getElem? (i := 841) (by decide +kernel), List.mem_of_getElem? (i := 842) (by decide +kernel)⟩
theorem lw_p21 : lw_okq (⟨"FlowletSwitchModel", "ofPath", "(II)I"⟩, 11) := ⟨⟨by decide +kernel, by decide +kernel⟩, List.mem_of_getElem? (i := 655) (by decide +kernel), List.mem_of_getElem? (i := 865) (by decide +kernel), List.mem_of_getElem? (i := 866) (by decide +kernel)⟩
theorem lw_p22 : lw_okq (⟨"FlowletSwitchModel", "latencyOf", "(II)I"⟩, 11) := ⟨⟨by decide +kernel, by decide +kernel⟩, List.mem_of_getElem? (i := 655) (by decide +kernel), List.mem_of_getElem? (i := 881) (by decide +kernel), List.mem_of_getElem? (i := 882) (by decide +kernel)⟩
theorem lw_p23 : lw_okq (⟨"FlowletSwitchModel", "ofFlow", "(II)I"⟩, 11) := ⟨⟨by decide +kernel, by decide +kernel⟩, List.mem_of_getElem? (i := 655) (by decide +kernel), List.mem_of_getElem? (i := 917) (by decide +kernel), List.mem_of_getElem? (i := 918) (by decide +kernel)⟩
theorem lw_p24 : lw_okq (⟨"FlowletSwitchModel", "readText", "()Z"⟩, 11) := ⟨⟨by decide +kernel, by decide +kernel⟩, List.mem_of_getElem? (i := 655) (by decide +kernel), List.mem_of_getElem? (i := 945) (by decide +kernel), List.mem_of_getElem? (i := 946) (by decide +kernel)⟩
theorem lw_p25 : lw_okq (⟨"FlowletSwitchModel", "readItem", "()Z"⟩, 11) := ⟨⟨by decide +kernel, by decide +kernel⟩, List.mem_of_getElem? (i := 655) (by decide +kernel), List.mem_of_getElem? (i := 949) (by decide +kernel), List.mem_of_getElem? (i := 950) (by decide +kernel)⟩
theorem lw_p26 : lw_okq (⟨"FlowletSwitchModel", "reads", "(I)Z"⟩, 11) := ⟨⟨by decide +kernel, by decide +kernel⟩, List.mem_of_getElem? (i := 655) (by decide +kernel), List.mem_of_getElem? (i := 953) (by decide +kernel), List.mem_of_getElem? (i := 954) (by decide +kernel)⟩
theorem lw_p27 : lw_okq (⟨"FlowletSwitchModel", "sign", "()I"⟩, 11) := ⟨⟨by decide +kernel, by decide +kernel⟩, List.mem_of_getElem? (i := 655) (by decide +kernel), List.mem_of_getElem? (i := 957) (by decide +kernel), List.mem_of_getElem? (i := 958) (by decide +kernel)⟩
theorem lw_p28 : lw_okq (⟨"FlowletSwitchModel", "number", "()I"⟩, 11) := ⟨⟨by decide +kernel, by decide +kernel⟩, List.mem_of_getElem? (i := 655) (by decide +kernel), List.mem_of_getElem? (i := 961) (by decide +kernel), List.mem_of_getElem? (i := 962) (by decide +kernel)⟩
theorem lw_p29 : lw_okq (⟨"FlowletSwitchModel", "execute", "(I)Z"⟩, 11) := ⟨⟨by decide +kernel, by decide +kernel⟩, List.mem_of_getElem? (i := 655) (by decide +kernel), List.mem_of_getElem? (i := 965) (by decide +kernel), List.mem_of_getElem? (i := 966) (by decide +kernel)⟩
def lw_privs_2 : List (MethodName × Nat) := [(⟨"FlowletSwitchModel", "take", "(II)V"⟩, 11), (⟨"FlowletSwitchModel", "isByFlowlets", "()Z"⟩, 11), (⟨"FlowletSwitchModel", "isTooBusy", "(I)Z"⟩, 11), (⟨"FlowletSwitchModel", "endOf", "(II)I"⟩, 11), (⟨"FlowletSwitchModel", "isEntry", "(I)Z"⟩, 11), (⟨"FlowletSwitchModel", "ofPath", "(II)I"⟩, 11), (⟨"FlowletSwitchModel", "latencyOf", "(II)I"⟩, 11), (⟨"FlowletSwitchModel", "ofFlow", "(II)I"⟩, 11), (⟨"FlowletSwitchModel", "readText", "()Z"⟩, 11), (⟨"FlowletSwitchModel", "readItem", "()Z"⟩, 11), (⟨"FlowletSwitchModel", "reads", "(I)Z"⟩, 11), (⟨"FlowletSwitchModel", "sign", "()I"⟩, 11), (⟨"FlowletSwitchModel", "number", "()I"⟩, 11), (⟨"FlowletSwitchModel", "execute", "(I)Z"⟩, 11)]
theorem lw_r2 : ∀ q ∈ lw_privs_2, lw_okq q := List.forall_mem_cons.mpr ⟨lw_p16, List.forall_mem_cons.mpr ⟨lw_p17, List.forall_mem_cons.mpr ⟨lw_p18, List.forall_mem_cons.mpr ⟨lw_p19, List.forall_mem_cons.mpr ⟨lw_p20, List.forall_mem_cons.mpr ⟨lw_p21, List.forall_mem_cons.mpr ⟨lw_p22, List.forall_mem_cons.mpr ⟨lw_p23, List.forall_mem_cons.mpr ⟨lw_p24, List.forall_mem_cons.mpr ⟨lw_p25, List.forall_mem_cons.mpr ⟨lw_p26, List.forall_mem_cons.mpr ⟨lw_p27, List.forall_mem_cons.mpr ⟨lw_p28, List.forall_mem_cons.mpr ⟨lw_p29, fun _ h => absurd h List.not_mem_nil⟩⟩⟩⟩⟩⟩⟩⟩⟩⟩⟩⟩⟩⟩
def lw_privs : List (MethodName × Nat) := lw_privs_1 ++ (lw_privs_2)
def lw_tbl : List Cond := k2_sels lw_privs ++ tables_1
theorem lw_privs_ok : ∀ q ∈ lw_privs, lw_okq q := by
  show ∀ q ∈ lw_privs_1 ++ (lw_privs_2), lw_okq q
  exact List.forall_mem_append.mpr ⟨lw_r1, lw_r2⟩
end
section
def RX0 : String := "FlowletSwitch$Entry"
def TX0 : u_T := fun k => match k with
  | 0 => ("FlowletSwitch$Entry", "valid", "Z", false)
  | 1 => ("FlowletSwitch$Entry", "path", "I", false)
  | 2 => ("FlowletSwitch$Entry", "latest", "I", false)
  | _ => ("FlowletSwitch$Entry", "age", "I", false)
def tyX0 : Nat → FieldType := fun k => match k with
  | 0 => .boolean
  | 1 => .int
  | 2 => .int
  | _ => .int
abbrev wsX00 : List Cond := u_ws RX0 TX0 4
theorem nmX0 : ∀ a, a < 4 → ∀ b, b < 4 → a ≠ b → (TX0 a).2.1 ≠ (TX0 b).2.1 := by decide +kernel
theorem tyX0_ok : ∀ k, k < 4 → parseFieldDescriptor (TX0 k).2.2.1 = some (tyX0 k) := by decide +kernel
abbrev cX0_init : ByteArray := prog_2_method_1_code
def yX0_init : MethodName := ⟨RX0, "<init>", "()V"⟩
abbrev cX0_reset : ByteArray := prog_2_method_2_code
def yX0_reset : MethodName := ⟨RX0, "reset", "()V"⟩
abbrev cX0_copyFrom : ByteArray := prog_2_method_3_code
def yX0_copyFrom : MethodName := ⟨RX0, "copyFrom", "(LFlowletSwitch$Entry;)V"⟩
abbrev cX0_isUnused : ByteArray := prog_2_method_4_code
def yX0_isUnused : MethodName := ⟨RX0, "isUnused", "()Z"⟩
abbrev cX0_take : ByteArray := prog_2_method_5_code
def yX0_take : MethodName := ⟨RX0, "take", "(II)V"⟩
abbrev cX0_growOlder : ByteArray := prog_2_method_6_code
def yX0_growOlder : MethodName := ⟨RX0, "growOlder", "()V"⟩
def RX1 : String := "FlowletSwitch$Flow"
def TX1 : u_T := fun k => match k with
  | 0 => ("FlowletSwitch$Flow", "flowletCount", "I", false)
  | 1 => ("FlowletSwitch$Flow", "changeCount", "I", false)
  | 2 => ("FlowletSwitch$Flow", "reorderCount", "I", false)
  | 3 => ("FlowletSwitch$Flow", "latestPath", "I", false)
  | _ => ("FlowletSwitch$Flow", "latestArrival", "I", false)
def tyX1 : Nat → FieldType := fun k => match k with
  | 0 => .int
  | 1 => .int
  | 2 => .int
  | 3 => .int
  | _ => .int
abbrev wsX10 : List Cond := u_ws RX1 TX1 5
theorem nmX1 : ∀ a, a < 5 → ∀ b, b < 5 → a ≠ b → (TX1 a).2.1 ≠ (TX1 b).2.1 := by decide +kernel
theorem tyX1_ok : ∀ k, k < 5 → parseFieldDescriptor (TX1 k).2.2.1 = some (tyX1 k) := by decide +kernel
abbrev cX1_init : ByteArray := prog_3_method_1_code
def yX1_init : MethodName := ⟨RX1, "<init>", "()V"⟩
abbrev cX1_reset : ByteArray := prog_3_method_2_code
def yX1_reset : MethodName := ⟨RX1, "reset", "()V"⟩
abbrev cX1_copyFrom : ByteArray := prog_3_method_3_code
def yX1_copyFrom : MethodName := ⟨RX1, "copyFrom", "(LFlowletSwitch$Flow;)V"⟩
abbrev cX1_isOvertakenBy : ByteArray := prog_3_method_4_code
def yX1_isOvertakenBy : MethodName := ⟨RX1, "isOvertakenBy", "(I)Z"⟩
abbrev cX1_deliver : ByteArray := prog_3_method_5_code
def yX1_deliver : MethodName := ⟨RX1, "deliver", "(II)V"⟩
def RX2 : String := "FlowletSwitch$Path"
def TX2 : u_T := fun k => match k with
  | 0 => ("FlowletSwitch$Path", "delay", "I", false)
  | 1 => ("FlowletSwitch$Path", "rate", "I", false)
  | 2 => ("FlowletSwitch$Path", "remoteLevel", "I", false)
  | 3 => ("FlowletSwitch$Path", "register", "I", false)
  | 4 => ("FlowletSwitch$Path", "busyUntil", "I", false)
  | 5 => ("FlowletSwitch$Path", "packetCount", "I", false)
  | 6 => ("FlowletSwitch$Path", "byteCount", "I", false)
  | _ => ("FlowletSwitch$Path", "dropCount", "I", false)
def tyX2 : Nat → FieldType := fun k => match k with
  | 0 => .int
  | 1 => .int
  | 2 => .int
  | 3 => .int
  | 4 => .int
  | 5 => .int
  | 6 => .int
  | _ => .int
abbrev wsX20 : List Cond := u_ws RX2 TX2 8
theorem nmX2 : ∀ a, a < 8 → ∀ b, b < 8 → a ≠ b → (TX2 a).2.1 ≠ (TX2 b).2.1 := by decide +kernel
theorem tyX2_ok : ∀ k, k < 8 → parseFieldDescriptor (TX2 k).2.2.1 = some (tyX2 k) := by decide +kernel
abbrev cX2_init : ByteArray := prog_4_method_1_code
def yX2_init : MethodName := ⟨RX2, "<init>", "()V"⟩
abbrev cX2_reset : ByteArray := prog_4_method_2_code
def yX2_reset : MethodName := ⟨RX2, "reset", "()V"⟩
abbrev cX2_copyFrom : ByteArray := prog_4_method_3_code
def yX2_copyFrom : MethodName := ⟨RX2, "copyFrom", "(LFlowletSwitch$Path;)V"⟩
abbrev cX2_congestion : ByteArray := prog_4_method_4_code
def yX2_congestion : MethodName := ⟨RX2, "congestion", "()I"⟩
abbrev cX2_decay : ByteArray := prog_4_method_5_code
def yX2_decay : MethodName := ⟨RX2, "decay", "(I)V"⟩
abbrev cX2_waitAt : ByteArray := prog_4_method_6_code
def yX2_waitAt : MethodName := ⟨RX2, "waitAt", "(I)I"⟩
abbrev cX2_dropsAt : ByteArray := prog_4_method_7_code
def yX2_dropsAt : MethodName := ⟨RX2, "dropsAt", "(I)Z"⟩
abbrev cX2_ticksToTransmit : ByteArray := prog_4_method_8_code
def yX2_ticksToTransmit : MethodName := ⟨RX2, "ticksToTransmit", "(I)I"⟩
abbrev cX2_ticksToArrive : ByteArray := prog_4_method_9_code
def yX2_ticksToArrive : MethodName := ⟨RX2, "ticksToArrive", "(II)I"⟩
abbrev cX2_transmit : ByteArray := prog_4_method_10_code
def yX2_transmit : MethodName := ⟨RX2, "transmit", "(II)V"⟩
def RX3 : String := "FlowletSwitch$SavedStates"
def TX3 : u_T := fun k => match k with
  | 0 => ("FlowletSwitch$SavedStates", "ring", "[LFlowletSwitch$SwitchState;", true)
  | 1 => ("FlowletSwitch$SavedStates", "next", "I", false)
  | _ => ("FlowletSwitch$SavedStates", "count", "I", false)
def tyX3 : Nat → FieldType := fun k => match k with
  | 0 => .array (.object "FlowletSwitch$SwitchState")
  | 1 => .int
  | _ => .int
abbrev wsX30 : List Cond := u_ws RX3 TX3 3
theorem nmX3 : ∀ a, a < 3 → ∀ b, b < 3 → a ≠ b → (TX3 a).2.1 ≠ (TX3 b).2.1 := by decide +kernel
theorem tyX3_ok : ∀ k, k < 3 → parseFieldDescriptor (TX3 k).2.2.1 = some (tyX3 k) := by decide +kernel
abbrev cX3_init : ByteArray := prog_5_method_1_code
def yX3_init : MethodName := ⟨RX3, "<init>", "()V"⟩
abbrev cX3_push : ByteArray := prog_5_method_2_code
def yX3_push : MethodName := ⟨RX3, "push", "(LFlowletSwitch$SwitchState;)V"⟩
abbrev cX3_popInto : ByteArray := prog_5_method_3_code
def yX3_popInto : MethodName := ⟨RX3, "popInto", "(LFlowletSwitch$SwitchState;)V"⟩
abbrev cX3_discardAll : ByteArray := prog_5_method_4_code
def yX3_discardAll : MethodName := ⟨RX3, "discardAll", "()V"⟩
def RX4 : String := "FlowletSwitch$SwitchState"
def TX4 : u_T := fun k => match k with
  | 0 => ("FlowletSwitch$SwitchState", "pathCount", "I", false)
  | 1 => ("FlowletSwitch$SwitchState", "entryCount", "I", false)
  | 2 => ("FlowletSwitch$SwitchState", "time", "I", false)
  | 3 => ("FlowletSwitch$SwitchState", "mode", "I", false)
  | 4 => ("FlowletSwitch$SwitchState", "detection", "I", false)
  | 5 => ("FlowletSwitch$SwitchState", "gap", "I", false)
  | 6 => ("FlowletSwitch$SwitchState", "shift", "I", false)
  | 7 => ("FlowletSwitch$SwitchState", "generator", "I", false)
  | 8 => ("FlowletSwitch$SwitchState", "turn", "I", false)
  | 9 => ("FlowletSwitch$SwitchState", "paths", "[LFlowletSwitch$Path;", true)
  | 10 => ("FlowletSwitch$SwitchState", "entries", "[LFlowletSwitch$Entry;", true)
  | _ => ("FlowletSwitch$SwitchState", "flows", "[LFlowletSwitch$Flow;", true)
def tyX4 : Nat → FieldType := fun k => match k with
  | 0 => .int
  | 1 => .int
  | 2 => .int
  | 3 => .int
  | 4 => .int
  | 5 => .int
  | 6 => .int
  | 7 => .int
  | 8 => .int
  | 9 => .array (.object "FlowletSwitch$Path")
  | 10 => .array (.object "FlowletSwitch$Entry")
  | _ => .array (.object "FlowletSwitch$Flow")
abbrev wsX40 : List Cond := u_ws RX4 TX4 12
theorem nmX4 : ∀ a, a < 12 → ∀ b, b < 12 → a ≠ b → (TX4 a).2.1 ≠ (TX4 b).2.1 := by decide +kernel
theorem tyX4_ok : ∀ k, k < 12 → parseFieldDescriptor (TX4 k).2.2.1 = some (tyX4 k) := by decide +kernel
abbrev cX4_init : ByteArray := prog_6_method_1_code
def yX4_init : MethodName := ⟨RX4, "<init>", "()V"⟩
abbrev cX4_reset : ByteArray := prog_6_method_2_code
def yX4_reset : MethodName := ⟨RX4, "reset", "(II)V"⟩
abbrev cX4_copyFrom : ByteArray := prog_6_method_3_code
def yX4_copyFrom : MethodName := ⟨RX4, "copyFrom", "(LFlowletSwitch$SwitchState;)V"⟩
abbrev cX4_hasPath : ByteArray := prog_6_method_4_code
def yX4_hasPath : MethodName := ⟨RX4, "hasPath", "(I)Z"⟩
abbrev cX4_hasEntry : ByteArray := prog_6_method_5_code
def yX4_hasEntry : MethodName := ⟨RX4, "hasEntry", "(I)Z"⟩
abbrev cX4_hasTimeFor : ByteArray := prog_6_method_6_code
def yX4_hasTimeFor : MethodName := ⟨RX4, "hasTimeFor", "(I)Z"⟩
abbrev cX4_entryNumber : ByteArray := prog_6_method_7_code
def yX4_entryNumber : MethodName := ⟨RX4, "entryNumber", "(I)I"⟩
abbrev cX4_countFlowsOfEntry : ByteArray := prog_6_method_8_code
def yX4_countFlowsOfEntry : MethodName := ⟨RX4, "countFlowsOfEntry", "(I)I"⟩
abbrev cX4_isInUse : ByteArray := prog_6_method_9_code
def yX4_isInUse : MethodName := ⟨RX4, "isInUse", "(LFlowletSwitch$Entry;)Z"⟩
abbrev cX4_countEntriesInUse : ByteArray := prog_6_method_10_code
def yX4_countEntriesInUse : MethodName := ⟨RX4, "countEntriesInUse", "()I"⟩
abbrev cX4_spreadOfLatencies : ByteArray := prog_6_method_11_code
def yX4_spreadOfLatencies : MethodName := ⟨RX4, "spreadOfLatencies", "(I)I"⟩
abbrev cX4_spreadOfBytes : ByteArray := prog_6_method_12_code
def yX4_spreadOfBytes : MethodName := ⟨RX4, "spreadOfBytes", "()I"⟩
abbrev cX4_letTimePass : ByteArray := prog_6_method_13_code
def yX4_letTimePass : MethodName := ⟨RX4, "letTimePass", "(I)V"⟩
abbrev cX4_decayLoads : ByteArray := prog_6_method_14_code
def yX4_decayLoads : MethodName := ⟨RX4, "decayLoads", "()V"⟩
abbrev cX4_ageEntries : ByteArray := prog_6_method_15_code
def yX4_ageEntries : MethodName := ⟨RX4, "ageEntries", "()V"⟩
abbrev cX4_usesTable : ByteArray := prog_6_method_16_code
def yX4_usesTable : MethodName := ⟨RX4, "usesTable", "()Z"⟩
abbrev cX4_pathFor : ByteArray := prog_6_method_17_code
def yX4_pathFor : MethodName := ⟨RX4, "pathFor", "(I)I"⟩
abbrev cX4_leastCongestedPath : ByteArray := prog_6_method_18_code
def yX4_leastCongestedPath : MethodName := ⟨RX4, "leastCongestedPath", "(I)I"⟩
abbrev cX4_randomPath : ByteArray := prog_6_method_19_code
def yX4_randomPath : MethodName := ⟨RX4, "randomPath", "()I"⟩
abbrev cX4_nextGenerator : ByteArray := prog_6_method_20_code
def yX4_nextGenerator : MethodName := ⟨RX4, "nextGenerator", "()I"⟩
abbrev cX4_sendPacket : ByteArray := prog_6_method_21_code
def yX4_sendPacket : MethodName := ⟨RX4, "sendPacket", "(II)I"⟩
abbrev cX4_noteChoice : ByteArray := prog_6_method_22_code
def yX4_noteChoice : MethodName := ⟨RX4, "noteChoice", "(II)V"⟩
abbrev cX4_noteInTable : ByteArray := prog_6_method_23_code
def yX4_noteInTable : MethodName := ⟨RX4, "noteInTable", "(II)V"⟩
abbrev cX4_wouldOvertake : ByteArray := prog_6_method_24_code
def yX4_wouldOvertake : MethodName := ⟨RX4, "wouldOvertake", "(II)Z"⟩
def RX5 : String := "FlowletSwitch$Trace"
def TX5 : u_T := fun k => match k with
  | 0 => ("FlowletSwitch$Trace", "codes", "[I", true)
  | 1 => ("FlowletSwitch$Trace", "length", "I", false)
  | 2 => ("FlowletSwitch$Trace", "position", "I", false)
  | 3 => ("FlowletSwitch$Trace", "itemIsPacket", "Z", false)
  | 4 => ("FlowletSwitch$Trace", "itemFlow", "I", false)
  | _ => ("FlowletSwitch$Trace", "itemAmount", "I", false)
def tyX5 : Nat → FieldType := fun k => match k with
  | 0 => .array .int
  | 1 => .int
  | 2 => .int
  | 3 => .boolean
  | 4 => .int
  | _ => .int
abbrev wsX50 : List Cond := u_ws RX5 TX5 6
theorem nmX5 : ∀ a, a < 6 → ∀ b, b < 6 → a ≠ b → (TX5 a).2.1 ≠ (TX5 b).2.1 := by decide +kernel
theorem tyX5_ok : ∀ k, k < 6 → parseFieldDescriptor (TX5 k).2.2.1 = some (tyX5 k) := by decide +kernel
abbrev cX5_init : ByteArray := prog_7_method_1_code
def yX5_init : MethodName := ⟨RX5, "<init>", "()V"⟩
abbrev cX5_isFull : ByteArray := prog_7_method_2_code
def yX5_isFull : MethodName := ⟨RX5, "isFull", "()Z"⟩
abbrev cX5_append : ByteArray := prog_7_method_3_code
def yX5_append : MethodName := ⟨RX5, "append", "(I)V"⟩
abbrev cX5_clear : ByteArray := prog_7_method_4_code
def yX5_clear : MethodName := ⟨RX5, "clear", "()V"⟩
abbrev cX5_rewind : ByteArray := prog_7_method_5_code
def yX5_rewind : MethodName := ⟨RX5, "rewind", "()V"⟩
abbrev cX5_errorPosition : ByteArray := prog_7_method_6_code
def yX5_errorPosition : MethodName := ⟨RX5, "errorPosition", "()I"⟩
abbrev cX5_readItem : ByteArray := prog_7_method_7_code
def yX5_readItem : MethodName := ⟨RX5, "readItem", "()Z"⟩
abbrev cX5_readNumber : ByteArray := prog_7_method_8_code
def yX5_readNumber : MethodName := ⟨RX5, "readNumber", "()I"⟩
abbrev cX5_accept : ByteArray := prog_7_method_9_code
def yX5_accept : MethodName := ⟨RX5, "accept", "(C)Z"⟩
abbrev cX5_skipSpaces : ByteArray := prog_7_method_10_code
def yX5_skipSpaces : MethodName := ⟨RX5, "skipSpaces", "()V"⟩
abbrev cX5_isAtEnd : ByteArray := prog_7_method_11_code
def yX5_isAtEnd : MethodName := ⟨RX5, "isAtEnd", "()Z"⟩
abbrev cX5_isDigitHere : ByteArray := prog_7_method_12_code
def yX5_isDigitHere : MethodName := ⟨RX5, "isDigitHere", "()Z"⟩
abbrev cX5_codeHere : ByteArray := prog_7_method_13_code
def yX5_codeHere : MethodName := ⟨RX5, "codeHere", "()I"⟩
def RX6 : String := "FlowletSwitch"
def TX6 : u_T := fun k => match k with
  | 0 => ("FlowletSwitch", "state", "LFlowletSwitch$SwitchState;", true)
  | 1 => ("FlowletSwitch", "savedStates", "LFlowletSwitch$SavedStates;", true)
  | 2 => ("FlowletSwitch", "snapshots", "[LFlowletSwitch$SwitchState;", true)
  | 3 => ("FlowletSwitch", "slotFilled", "[Z", true)
  | _ => ("FlowletSwitch", "trace", "LFlowletSwitch$Trace;", true)
def tyX6 : Nat → FieldType := fun k => match k with
  | 0 => .object "FlowletSwitch$SwitchState"
  | 1 => .object "FlowletSwitch$SavedStates"
  | 2 => .array (.object "FlowletSwitch$SwitchState")
  | 3 => .array .boolean
  | _ => .object "FlowletSwitch$Trace"
abbrev wsX60 : List Cond := u_ws RX6 TX6 5
theorem nmX6 : ∀ a, a < 5 → ∀ b, b < 5 → a ≠ b → (TX6 a).2.1 ≠ (TX6 b).2.1 := by decide +kernel
theorem tyX6_ok : ∀ k, k < 5 → parseFieldDescriptor (TX6 k).2.2.1 = some (tyX6 k) := by decide +kernel
abbrev cX6_init : ByteArray := prog_1_method_1_code
def yX6_init : MethodName := ⟨RX6, "<init>", "()V"⟩
abbrev cX6_configure : ByteArray := prog_1_method_2_code
def yX6_configure : MethodName := ⟨RX6, "configure", "(II)I"⟩
abbrev cX6_setDelay : ByteArray := prog_1_method_3_code
def yX6_setDelay : MethodName := ⟨RX6, "setDelay", "(II)I"⟩
abbrev cX6_setRate : ByteArray := prog_1_method_4_code
def yX6_setRate : MethodName := ⟨RX6, "setRate", "(II)I"⟩
abbrev cX6_setRemoteLevel : ByteArray := prog_1_method_5_code
def yX6_setRemoteLevel : MethodName := ⟨RX6, "setRemoteLevel", "(II)I"⟩
abbrev cX6_setMode : ByteArray := prog_1_method_6_code
def yX6_setMode : MethodName := ⟨RX6, "setMode", "(I)I"⟩
abbrev cX6_setDetection : ByteArray := prog_1_method_7_code
def yX6_setDetection : MethodName := ⟨RX6, "setDetection", "(I)I"⟩
abbrev cX6_setGap : ByteArray := prog_1_method_8_code
def yX6_setGap : MethodName := ⟨RX6, "setGap", "(I)I"⟩
abbrev cX6_setShift : ByteArray := prog_1_method_9_code
def yX6_setShift : MethodName := ⟨RX6, "setShift", "(I)I"⟩
abbrev cX6_setGenerator : ByteArray := prog_1_method_10_code
def yX6_setGenerator : MethodName := ⟨RX6, "setGenerator", "(I)I"⟩
abbrev cX6_advance : ByteArray := prog_1_method_11_code
def yX6_advance : MethodName := ⟨RX6, "advance", "(I)I"⟩
abbrev cX6_send : ByteArray := prog_1_method_12_code
def yX6_send : MethodName := ⟨RX6, "send", "(II)I"⟩
abbrev cX6_now : ByteArray := prog_1_method_13_code
def yX6_now : MethodName := ⟨RX6, "now", "()I"⟩
abbrev cX6_entryOf : ByteArray := prog_1_method_14_code
def yX6_entryOf : MethodName := ⟨RX6, "entryOf", "(I)I"⟩
abbrev cX6_isActive : ByteArray := prog_1_method_15_code
def yX6_isActive : MethodName := ⟨RX6, "isActive", "(I)I"⟩
abbrev cX6_entryPath : ByteArray := prog_1_method_16_code
def yX6_entryPath : MethodName := ⟨RX6, "entryPath", "(I)I"⟩
abbrev cX6_ageBit : ByteArray := prog_1_method_17_code
def yX6_ageBit : MethodName := ⟨RX6, "ageBit", "(I)I"⟩
abbrev cX6_idleTime : ByteArray := prog_1_method_18_code
def yX6_idleTime : MethodName := ⟨RX6, "idleTime", "(I)I"⟩
abbrev cX6_activeEntries : ByteArray := prog_1_method_19_code
def yX6_activeEntries : MethodName := ⟨RX6, "activeEntries", "()I"⟩
abbrev cX6_load : ByteArray := prog_1_method_20_code
def yX6_load : MethodName := ⟨RX6, "load", "(I)I"⟩
abbrev cX6_metric : ByteArray := prog_1_method_21_code
def yX6_metric : MethodName := ⟨RX6, "metric", "(I)I"⟩
abbrev cX6_busyTime : ByteArray := prog_1_method_22_code
def yX6_busyTime : MethodName := ⟨RX6, "busyTime", "(I)I"⟩
abbrev cX6_latency : ByteArray := prog_1_method_23_code
def yX6_latency : MethodName := ⟨RX6, "latency", "(II)I"⟩
abbrev cX6_safeGap : ByteArray := prog_1_method_24_code
def yX6_safeGap : MethodName := ⟨RX6, "safeGap", "(I)I"⟩
abbrev cX6_packets : ByteArray := prog_1_method_25_code
def yX6_packets : MethodName := ⟨RX6, "packets", "(I)I"⟩
abbrev cX6_bytes : ByteArray := prog_1_method_26_code
def yX6_bytes : MethodName := ⟨RX6, "bytes", "(I)I"⟩
abbrev cX6_drops : ByteArray := prog_1_method_27_code
def yX6_drops : MethodName := ⟨RX6, "drops", "(I)I"⟩
abbrev cX6_imbalance : ByteArray := prog_1_method_28_code
def yX6_imbalance : MethodName := ⟨RX6, "imbalance", "()I"⟩
abbrev cX6_nextPath : ByteArray := prog_1_method_29_code
def yX6_nextPath : MethodName := ⟨RX6, "nextPath", "(I)I"⟩
abbrev cX6_wouldReorder : ByteArray := prog_1_method_30_code
def yX6_wouldReorder : MethodName := ⟨RX6, "wouldReorder", "(II)I"⟩
abbrev cX6_flowlets : ByteArray := prog_1_method_31_code
def yX6_flowlets : MethodName := ⟨RX6, "flowlets", "(I)I"⟩
abbrev cX6_pathChanges : ByteArray := prog_1_method_32_code
def yX6_pathChanges : MethodName := ⟨RX6, "pathChanges", "(I)I"⟩
abbrev cX6_reordered : ByteArray := prog_1_method_33_code
def yX6_reordered : MethodName := ⟨RX6, "reordered", "(I)I"⟩
abbrev cX6_lastArrival : ByteArray := prog_1_method_34_code
def yX6_lastArrival : MethodName := ⟨RX6, "lastArrival", "(I)I"⟩
abbrev cX6_appendCharacter : ByteArray := prog_1_method_35_code
def yX6_appendCharacter : MethodName := ⟨RX6, "appendCharacter", "(I)I"⟩
abbrev cX6_clearText : ByteArray := prog_1_method_36_code
def yX6_clearText : MethodName := ⟨RX6, "clearText", "()I"⟩
abbrev cX6_runTrace : ByteArray := prog_1_method_37_code
def yX6_runTrace : MethodName := ⟨RX6, "runTrace", "()I"⟩
abbrev cX6_undo : ByteArray := prog_1_method_38_code
def yX6_undo : MethodName := ⟨RX6, "undo", "()I"⟩
abbrev cX6_save : ByteArray := prog_1_method_39_code
def yX6_save : MethodName := ⟨RX6, "save", "(I)I"⟩
abbrev cX6_restore : ByteArray := prog_1_method_40_code
def yX6_restore : MethodName := ⟨RX6, "restore", "(I)I"⟩
abbrev cX6_isBetween : ByteArray := prog_1_method_41_code
def yX6_isBetween : MethodName := ⟨RX6, "isBetween", "(III)Z"⟩
abbrev cX6_isFlow : ByteArray := prog_1_method_42_code
def yX6_isFlow : MethodName := ⟨RX6, "isFlow", "(I)Z"⟩
abbrev cX6_isSize : ByteArray := prog_1_method_43_code
def yX6_isSize : MethodName := ⟨RX6, "isSize", "(I)Z"⟩
abbrev cX6_runItem : ByteArray := prog_1_method_44_code
def yX6_runItem : MethodName := ⟨RX6, "runItem", "()Z"⟩
def RX7 : String := "FlowletSwitchModel"
def TX7 : u_T := fun k => match k with
  | 0 => ("FlowletSwitchModel", "now", "[I", true)
  | 1 => ("FlowletSwitchModel", "saved", "[I", true)
  | 2 => ("FlowletSwitchModel", "savedCount", "I", false)
  | 3 => ("FlowletSwitchModel", "slots", "[I", true)
  | 4 => ("FlowletSwitchModel", "isFilled", "[Z", true)
  | 5 => ("FlowletSwitchModel", "text", "[I", true)
  | 6 => ("FlowletSwitchModel", "length", "I", false)
  | 7 => ("FlowletSwitchModel", "at", "I", false)
  | 8 => ("FlowletSwitchModel", "items", "I", false)
  | 9 => ("FlowletSwitchModel", "itemFlow", "[I", true)
  | _ => ("FlowletSwitchModel", "itemNumber", "[I", true)
def tyX7 : Nat → FieldType := fun k => match k with
  | 0 => .array .int
  | 1 => .array .int
  | 2 => .int
  | 3 => .array .int
  | 4 => .array .boolean
  | 5 => .array .int
  | 6 => .int
  | 7 => .int
  | 8 => .int
  | 9 => .array .int
  | _ => .array .int
abbrev wsX70 : List Cond := u_ws RX7 TX7 11
theorem nmX7 : ∀ a, a < 11 → ∀ b, b < 11 → a ≠ b → (TX7 a).2.1 ≠ (TX7 b).2.1 := by decide +kernel
theorem tyX7_ok : ∀ k, k < 11 → parseFieldDescriptor (TX7 k).2.2.1 = some (tyX7 k) := by decide +kernel
abbrev cX7_init : ByteArray := prog_9_method_1_code
def yX7_init : MethodName := ⟨RX7, "<init>", "()V"⟩
abbrev cX7_in : ByteArray := prog_9_method_3_code
def yX7_in : MethodName := ⟨RX7, "in", "(III)Z"⟩
abbrev cX7_isPath : ByteArray := prog_9_method_4_code
def yX7_isPath : MethodName := ⟨RX7, "isPath", "(I)Z"⟩
abbrev cX7_isEntry : ByteArray := prog_9_method_5_code
def yX7_isEntry : MethodName := ⟨RX7, "isEntry", "(I)Z"⟩
abbrev cX7_isFlow : ByteArray := prog_9_method_6_code
def yX7_isFlow : MethodName := ⟨RX7, "isFlow", "(I)Z"⟩
abbrev cX7_isSize : ByteArray := prog_9_method_7_code
def yX7_isSize : MethodName := ⟨RX7, "isSize", "(I)Z"⟩
abbrev cX7_makeNew : ByteArray := prog_9_method_8_code
def yX7_makeNew : MethodName := ⟨RX7, "makeNew", "(II)V"⟩
abbrev cX7_keep : ByteArray := prog_9_method_9_code
def yX7_keep : MethodName := ⟨RX7, "keep", "()V"⟩
abbrev cX7_slotOf : ByteArray := prog_9_method_10_code
def yX7_slotOf : MethodName := ⟨RX7, "slotOf", "(I)I"⟩
abbrev cX7_configure : ByteArray := prog_9_method_11_code
def yX7_configure : MethodName := ⟨RX7, "configure", "(II)I"⟩
abbrev cX7_change : ByteArray := prog_9_method_12_code
def yX7_change : MethodName := ⟨RX7, "change", "(II)I"⟩
abbrev cX7_setDelay : ByteArray := prog_9_method_13_code
def yX7_setDelay : MethodName := ⟨RX7, "setDelay", "(II)I"⟩
abbrev cX7_setRate : ByteArray := prog_9_method_14_code
def yX7_setRate : MethodName := ⟨RX7, "setRate", "(II)I"⟩
abbrev cX7_setRemoteLevel : ByteArray := prog_9_method_15_code
def yX7_setRemoteLevel : MethodName := ⟨RX7, "setRemoteLevel", "(II)I"⟩
abbrev cX7_setMode : ByteArray := prog_9_method_16_code
def yX7_setMode : MethodName := ⟨RX7, "setMode", "(I)I"⟩
abbrev cX7_setDetection : ByteArray := prog_9_method_17_code
def yX7_setDetection : MethodName := ⟨RX7, "setDetection", "(I)I"⟩
abbrev cX7_setGap : ByteArray := prog_9_method_18_code
def yX7_setGap : MethodName := ⟨RX7, "setGap", "(I)I"⟩
abbrev cX7_setShift : ByteArray := prog_9_method_19_code
def yX7_setShift : MethodName := ⟨RX7, "setShift", "(I)I"⟩
abbrev cX7_setGenerator : ByteArray := prog_9_method_20_code
def yX7_setGenerator : MethodName := ⟨RX7, "setGenerator", "(I)I"⟩
abbrev cX7_age : ByteArray := prog_9_method_21_code
def yX7_age : MethodName := ⟨RX7, "age", "()V"⟩
abbrev cX7_tick : ByteArray := prog_9_method_22_code
def yX7_tick : MethodName := ⟨RX7, "tick", "()V"⟩
abbrev cX7_pass : ByteArray := prog_9_method_23_code
def yX7_pass : MethodName := ⟨RX7, "pass", "(I)I"⟩
abbrev cX7_whyNotPass : ByteArray := prog_9_method_24_code
def yX7_whyNotPass : MethodName := ⟨RX7, "whyNotPass", "(I)I"⟩
abbrev cX7_advance : ByteArray := prog_9_method_25_code
def yX7_advance : MethodName := ⟨RX7, "advance", "(I)I"⟩
abbrev cX7_isLive : ByteArray := prog_9_method_26_code
def yX7_isLive : MethodName := ⟨RX7, "isLive", "(I)Z"⟩
abbrev cX7_metricOf : ByteArray := prog_9_method_27_code
def yX7_metricOf : MethodName := ⟨RX7, "metricOf", "(I)I"⟩
abbrev cX7_leastLoaded : ByteArray := prog_9_method_28_code
def yX7_leastLoaded : MethodName := ⟨RX7, "leastLoaded", "(I)I"⟩
abbrev cX7_nextGenerator : ByteArray := prog_9_method_29_code
def yX7_nextGenerator : MethodName := ⟨RX7, "nextGenerator", "()I"⟩
abbrev cX7_isByFlowlets : ByteArray := prog_9_method_30_code
def yX7_isByFlowlets : MethodName := ⟨RX7, "isByFlowlets", "()Z"⟩
abbrev cX7_choose : ByteArray := prog_9_method_31_code
def yX7_choose : MethodName := ⟨RX7, "choose", "(I)I"⟩
abbrev cX7_take : ByteArray := prog_9_method_32_code
def yX7_take : MethodName := ⟨RX7, "take", "(II)V"⟩
abbrev cX7_isTooBusy : ByteArray := prog_9_method_33_code
def yX7_isTooBusy : MethodName := ⟨RX7, "isTooBusy", "(I)Z"⟩
abbrev cX7_endOf : ByteArray := prog_9_method_34_code
def yX7_endOf : MethodName := ⟨RX7, "endOf", "(II)I"⟩
abbrev cX7_transmit : ByteArray := prog_9_method_35_code
def yX7_transmit : MethodName := ⟨RX7, "transmit", "(II)I"⟩
abbrev cX7_send : ByteArray := prog_9_method_36_code
def yX7_send : MethodName := ⟨RX7, "send", "(II)I"⟩
abbrev cX7_now : ByteArray := prog_9_method_37_code
def yX7_now : MethodName := ⟨RX7, "now", "()I"⟩
abbrev cX7_entryOf : ByteArray := prog_9_method_38_code
def yX7_entryOf : MethodName := ⟨RX7, "entryOf", "(I)I"⟩
abbrev cX7_isActive : ByteArray := prog_9_method_39_code
def yX7_isActive : MethodName := ⟨RX7, "isActive", "(I)I"⟩
abbrev cX7_entryPath : ByteArray := prog_9_method_40_code
def yX7_entryPath : MethodName := ⟨RX7, "entryPath", "(I)I"⟩
abbrev cX7_ageBit : ByteArray := prog_9_method_41_code
def yX7_ageBit : MethodName := ⟨RX7, "ageBit", "(I)I"⟩
abbrev cX7_idleTime : ByteArray := prog_9_method_42_code
def yX7_idleTime : MethodName := ⟨RX7, "idleTime", "(I)I"⟩
abbrev cX7_activeEntries : ByteArray := prog_9_method_43_code
def yX7_activeEntries : MethodName := ⟨RX7, "activeEntries", "()I"⟩
abbrev cX7_ofPath : ByteArray := prog_9_method_44_code
def yX7_ofPath : MethodName := ⟨RX7, "ofPath", "(II)I"⟩
abbrev cX7_load : ByteArray := prog_9_method_45_code
def yX7_load : MethodName := ⟨RX7, "load", "(I)I"⟩
abbrev cX7_metric : ByteArray := prog_9_method_46_code
def yX7_metric : MethodName := ⟨RX7, "metric", "(I)I"⟩
abbrev cX7_busyTime : ByteArray := prog_9_method_47_code
def yX7_busyTime : MethodName := ⟨RX7, "busyTime", "(I)I"⟩
abbrev cX7_latencyOf : ByteArray := prog_9_method_48_code
def yX7_latencyOf : MethodName := ⟨RX7, "latencyOf", "(II)I"⟩
abbrev cX7_latency : ByteArray := prog_9_method_49_code
def yX7_latency : MethodName := ⟨RX7, "latency", "(II)I"⟩
abbrev cX7_safeGap : ByteArray := prog_9_method_50_code
def yX7_safeGap : MethodName := ⟨RX7, "safeGap", "(I)I"⟩
abbrev cX7_packets : ByteArray := prog_9_method_51_code
def yX7_packets : MethodName := ⟨RX7, "packets", "(I)I"⟩
abbrev cX7_bytes : ByteArray := prog_9_method_52_code
def yX7_bytes : MethodName := ⟨RX7, "bytes", "(I)I"⟩
abbrev cX7_drops : ByteArray := prog_9_method_53_code
def yX7_drops : MethodName := ⟨RX7, "drops", "(I)I"⟩
abbrev cX7_imbalance : ByteArray := prog_9_method_54_code
def yX7_imbalance : MethodName := ⟨RX7, "imbalance", "()I"⟩
abbrev cX7_nextPath : ByteArray := prog_9_method_55_code
def yX7_nextPath : MethodName := ⟨RX7, "nextPath", "(I)I"⟩
abbrev cX7_wouldReorder : ByteArray := prog_9_method_56_code
def yX7_wouldReorder : MethodName := ⟨RX7, "wouldReorder", "(II)I"⟩
abbrev cX7_ofFlow : ByteArray := prog_9_method_57_code
def yX7_ofFlow : MethodName := ⟨RX7, "ofFlow", "(II)I"⟩
abbrev cX7_flowlets : ByteArray := prog_9_method_58_code
def yX7_flowlets : MethodName := ⟨RX7, "flowlets", "(I)I"⟩
abbrev cX7_pathChanges : ByteArray := prog_9_method_59_code
def yX7_pathChanges : MethodName := ⟨RX7, "pathChanges", "(I)I"⟩
abbrev cX7_reordered : ByteArray := prog_9_method_60_code
def yX7_reordered : MethodName := ⟨RX7, "reordered", "(I)I"⟩
abbrev cX7_lastArrival : ByteArray := prog_9_method_61_code
def yX7_lastArrival : MethodName := ⟨RX7, "lastArrival", "(I)I"⟩
abbrev cX7_appendCharacter : ByteArray := prog_9_method_62_code
def yX7_appendCharacter : MethodName := ⟨RX7, "appendCharacter", "(I)I"⟩
abbrev cX7_clearText : ByteArray := prog_9_method_63_code
def yX7_clearText : MethodName := ⟨RX7, "clearText", "()I"⟩
abbrev cX7_sign : ByteArray := prog_9_method_64_code
def yX7_sign : MethodName := ⟨RX7, "sign", "()I"⟩
abbrev cX7_reads : ByteArray := prog_9_method_65_code
def yX7_reads : MethodName := ⟨RX7, "reads", "(I)Z"⟩
abbrev cX7_number : ByteArray := prog_9_method_66_code
def yX7_number : MethodName := ⟨RX7, "number", "()I"⟩
abbrev cX7_readItem : ByteArray := prog_9_method_67_code
def yX7_readItem : MethodName := ⟨RX7, "readItem", "()Z"⟩
abbrev cX7_readText : ByteArray := prog_9_method_68_code
def yX7_readText : MethodName := ⟨RX7, "readText", "()Z"⟩
abbrev cX7_execute : ByteArray := prog_9_method_69_code
def yX7_execute : MethodName := ⟨RX7, "execute", "(I)Z"⟩
abbrev cX7_runTrace : ByteArray := prog_9_method_70_code
def yX7_runTrace : MethodName := ⟨RX7, "runTrace", "()I"⟩
abbrev cX7_undo : ByteArray := prog_9_method_71_code
def yX7_undo : MethodName := ⟨RX7, "undo", "()I"⟩
abbrev cX7_save : ByteArray := prog_9_method_72_code
def yX7_save : MethodName := ⟨RX7, "save", "(I)I"⟩
abbrev cX7_restore : ByteArray := prog_9_method_73_code
def yX7_restore : MethodName := ⟨RX7, "restore", "(I)I"⟩
def RJ9 : String := "java/lang/Math"
abbrev cJ9_max_7cf53 : ByteArray := prog_10_method_65_code
def yJ9_max_7cf53 : MethodName := ⟨RJ9, "max", "(II)I"⟩
abbrev cJ9_min_7cf53 : ByteArray := prog_10_method_69_code
def yJ9_min_7cf53 : MethodName := ⟨RJ9, "min", "(II)I"⟩
def RL : String := "FlowletSwitchLaw"
abbrev cL_law : ByteArray := code
def yL_law : MethodName := ⟨RL, "law", "([I)Z"⟩
abbrev vwCl : List vw_C := [(RX0, TX0, 4), (RX1, TX1, 5), (RX2, TX2, 8), (RX3, TX3, 3), (RX4, TX4, 12), (RX5, TX5, 6), (RX6, TX6, 5), (RX7, TX7, 11)]
def okW (w : Cond) : Bool := w.onTables && w.keepsH
def tbk : List Cond := lw_tbl.filter okW
theorem tb_at {w : Cond} (i : Nat) (h : lw_tbl[i]? = some w) (hk : okW w = true) : w ∈ tbk := List.mem_filter.mpr ⟨List.mem_of_getElem? h, hk⟩
theorem tb_sub {ws : List Cond} (ps : List Nat) (h : ws = ps.filterMap (fun i => lw_tbl[i]?)) (hk : ws.all okW = true) : ∀ w ∈ ws, w ∈ tbk := by
  intro w hw
  have h1 := List.all_eq_true.mp hk w hw
  rw [h] at hw
  obtain ⟨i, -, hi⟩ := List.mem_filterMap.mp hw
  exact tb_at i hi h1
theorem tb_in {w : Cond} (h : w ∈ tbk) : w ∈ lw_tbl ∧ w.onTables = true ∧ w.keepsH = true := by
  obtain ⟨h1, h2⟩ := List.mem_filter.mp h
  simp only [okW, Bool.and_eq_true] at h2
  exact ⟨h1, h2.1, h2.2⟩
set_option maxRecDepth 20000 in
theorem inX0 : ∀ w ∈ wsX00, w ∈ tbk := tb_sub [115, 117, 119, 121] (by decide +kernel) (by decide +kernel)
set_option maxRecDepth 20000 in
theorem inX1 : ∀ w ∈ wsX10, w ∈ tbk := tb_sub [139, 141, 143, 145, 147] (by decide +kernel) (by decide +kernel)
set_option maxRecDepth 20000 in
theorem inX2 : ∀ w ∈ wsX20, w ∈ tbk := tb_sub [82, 84, 86, 88, 90, 92, 94, 96] (by decide +kernel) (by decide +kernel)
set_option maxRecDepth 20000 in
theorem inX3 : ∀ w ∈ wsX30, w ∈ tbk := tb_sub [225, 227, 229] (by decide +kernel) (by decide +kernel)
set_option maxRecDepth 20000 in
theorem inX4 : ∀ w ∈ wsX40, w ∈ tbk := tb_sub [187, 189, 191, 193, 195, 197, 199, 201, 203, 205, 207, 209] (by decide +kernel) (by decide +kernel)
set_option maxRecDepth 20000 in
theorem inX5 : ∀ w ∈ wsX50, w ∈ tbk := tb_sub [248, 250, 252, 254, 256, 258] (by decide +kernel) (by decide +kernel)
set_option maxRecDepth 20000 in
theorem inX6 : ∀ w ∈ wsX60, w ∈ tbk := tb_sub [268, 270, 272, 274, 276] (by decide +kernel) (by decide +kernel)
set_option maxRecDepth 20000 in
theorem inX7 : ∀ w ∈ wsX70, w ∈ tbk := tb_sub [705, 707, 709, 711, 713, 715, 717, 719, 721, 723, 725] (by decide +kernel) (by decide +kernel)
set_option maxRecDepth 20000 in
theorem wS_X6_runItem : Cond.selects RX6 yX6_runItem yX6_runItem ∈ tbk := tb_at 0 (by decide +kernel) rfl
set_option maxRecDepth 20000 in
theorem wS_X7_makeNew : Cond.selects RX7 yX7_makeNew yX7_makeNew ∈ tbk := tb_at 1 (by decide +kernel) rfl
set_option maxRecDepth 20000 in
theorem wS_X7_keep : Cond.selects RX7 yX7_keep yX7_keep ∈ tbk := tb_at 2 (by decide +kernel) rfl
set_option maxRecDepth 20000 in
theorem wS_X7_slotOf : Cond.selects RX7 yX7_slotOf yX7_slotOf ∈ tbk := tb_at 3 (by decide +kernel) rfl
set_option maxRecDepth 20000 in
theorem wS_X7_isPath : Cond.selects RX7 yX7_isPath yX7_isPath ∈ tbk := tb_at 4 (by decide +kernel) rfl
set_option maxRecDepth 20000 in
theorem wS_X7_change : Cond.selects RX7 yX7_change yX7_change ∈ tbk := tb_at 5 (by decide +kernel) rfl
set_option maxRecDepth 20000 in
theorem wS_X7_whyNotPass : Cond.selects RX7 yX7_whyNotPass yX7_whyNotPass ∈ tbk := tb_at 6 (by decide +kernel) rfl
set_option maxRecDepth 20000 in
theorem wS_X7_pass : Cond.selects RX7 yX7_pass yX7_pass ∈ tbk := tb_at 7 (by decide +kernel) rfl
set_option maxRecDepth 20000 in
theorem wS_X7_tick : Cond.selects RX7 yX7_tick yX7_tick ∈ tbk := tb_at 8 (by decide +kernel) rfl
set_option maxRecDepth 20000 in
theorem wS_X7_age : Cond.selects RX7 yX7_age yX7_age ∈ tbk := tb_at 9 (by decide +kernel) rfl
set_option maxRecDepth 20000 in
theorem wS_X7_transmit : Cond.selects RX7 yX7_transmit yX7_transmit ∈ tbk := tb_at 10 (by decide +kernel) rfl
set_option maxRecDepth 20000 in
theorem wS_X7_choose : Cond.selects RX7 yX7_choose yX7_choose ∈ tbk := tb_at 11 (by decide +kernel) rfl
set_option maxRecDepth 20000 in
theorem wS_X7_isLive : Cond.selects RX7 yX7_isLive yX7_isLive ∈ tbk := tb_at 12 (by decide +kernel) rfl
set_option maxRecDepth 20000 in
theorem wS_X7_leastLoaded : Cond.selects RX7 yX7_leastLoaded yX7_leastLoaded ∈ tbk := tb_at 13 (by decide +kernel) rfl
set_option maxRecDepth 20000 in
theorem wS_X7_metricOf : Cond.selects RX7 yX7_metricOf yX7_metricOf ∈ tbk := tb_at 14 (by decide +kernel) rfl
set_option maxRecDepth 20000 in
theorem wS_X7_nextGenerator : Cond.selects RX7 yX7_nextGenerator yX7_nextGenerator ∈ tbk := tb_at 15 (by decide +kernel) rfl
set_option maxRecDepth 20000 in
theorem wS_X7_take : Cond.selects RX7 yX7_take yX7_take ∈ tbk := tb_at 16 (by decide +kernel) rfl
set_option maxRecDepth 20000 in
theorem wS_X7_isByFlowlets : Cond.selects RX7 yX7_isByFlowlets yX7_isByFlowlets ∈ tbk := tb_at 17 (by decide +kernel) rfl
set_option maxRecDepth 20000 in
theorem wS_X7_isTooBusy : Cond.selects RX7 yX7_isTooBusy yX7_isTooBusy ∈ tbk := tb_at 18 (by decide +kernel) rfl
set_option maxRecDepth 20000 in
theorem wS_X7_endOf : Cond.selects RX7 yX7_endOf yX7_endOf ∈ tbk := tb_at 19 (by decide +kernel) rfl
set_option maxRecDepth 20000 in
theorem wS_X7_isEntry : Cond.selects RX7 yX7_isEntry yX7_isEntry ∈ tbk := tb_at 20 (by decide +kernel) rfl
set_option maxRecDepth 20000 in
theorem wS_X7_ofPath : Cond.selects RX7 yX7_ofPath yX7_ofPath ∈ tbk := tb_at 21 (by decide +kernel) rfl
set_option maxRecDepth 20000 in
theorem wS_X7_latencyOf : Cond.selects RX7 yX7_latencyOf yX7_latencyOf ∈ tbk := tb_at 22 (by decide +kernel) rfl
set_option maxRecDepth 20000 in
theorem wS_X7_ofFlow : Cond.selects RX7 yX7_ofFlow yX7_ofFlow ∈ tbk := tb_at 23 (by decide +kernel) rfl
set_option maxRecDepth 20000 in
theorem wS_X7_readText : Cond.selects RX7 yX7_readText yX7_readText ∈ tbk := tb_at 24 (by decide +kernel) rfl
set_option maxRecDepth 20000 in
theorem wS_X7_readItem : Cond.selects RX7 yX7_readItem yX7_readItem ∈ tbk := tb_at 25 (by decide +kernel) rfl
set_option maxRecDepth 20000 in
theorem wS_X7_reads : Cond.selects RX7 yX7_reads yX7_reads ∈ tbk := tb_at 26 (by decide +kernel) rfl
set_option maxRecDepth 20000 in
theorem wS_X7_sign : Cond.selects RX7 yX7_sign yX7_sign ∈ tbk := tb_at 27 (by decide +kernel) rfl
set_option maxRecDepth 20000 in
theorem wS_X7_number : Cond.selects RX7 yX7_number yX7_number ∈ tbk := tb_at 28 (by decide +kernel) rfl
set_option maxRecDepth 20000 in
theorem wS_X7_execute : Cond.selects RX7 yX7_execute yX7_execute ∈ tbk := tb_at 29 (by decide +kernel) rfl
set_option maxRecDepth 20000 in
theorem wN_L : Cond.initialized RL ∈ tbk := tb_at 30 (by decide +kernel) rfl
set_option maxRecDepth 20000 in
theorem wN_X6 : Cond.initialized RX6 ∈ tbk := tb_at 31 (by decide +kernel) rfl
set_option maxRecDepth 20000 in
theorem wN_X4 : Cond.initialized RX4 ∈ tbk := tb_at 32 (by decide +kernel) rfl
set_option maxRecDepth 20000 in
theorem wN_X2 : Cond.initialized RX2 ∈ tbk := tb_at 33 (by decide +kernel) rfl
set_option maxRecDepth 20000 in
theorem wN_X0 : Cond.initialized RX0 ∈ tbk := tb_at 34 (by decide +kernel) rfl
set_option maxRecDepth 20000 in
theorem wN_X1 : Cond.initialized RX1 ∈ tbk := tb_at 35 (by decide +kernel) rfl
set_option maxRecDepth 20000 in
theorem wN_X3 : Cond.initialized RX3 ∈ tbk := tb_at 36 (by decide +kernel) rfl
set_option maxRecDepth 20000 in
theorem wN_X5 : Cond.initialized RX5 ∈ tbk := tb_at 37 (by decide +kernel) rfl
set_option maxRecDepth 20000 in
theorem wN_X7 : Cond.initialized RX7 ∈ tbk := tb_at 38 (by decide +kernel) rfl
set_option maxRecDepth 20000 in
theorem wN_J9 : Cond.initialized RJ9 ∈ tbk := tb_at 39 (by decide +kernel) rfl
set_option maxRecDepth 20000 in
theorem wL_L_7 : Cond.classLink RL 7 RX6 ∈ tbk := tb_at 40 (by decide +kernel) rfl
set_option maxRecDepth 20000 in
theorem wB_X6 : Cond.instantiable RX6 5 ∈ tbk := tb_at 41 (by decide +kernel) rfl
set_option maxRecDepth 20000 in
theorem wM_L_9 : Cond.methodLink RL 9 yX6_init ∈ tbk := tb_at 42 (by decide +kernel) rfl
set_option maxRecDepth 20000 in
theorem wI_X6_init : Cond.instanceMethod yX6_init ∈ tbk := tb_at 43 (by decide +kernel) rfl
set_option maxRecDepth 20000 in
theorem wC_X6_init : Cond.code yX6_init cX6_init 2 none ∈ tbk := tb_at 44 (by decide +kernel) rfl
set_option maxRecDepth 20000 in
theorem wM_X6_1 : Cond.methodLink RX6 1 objectInit ∈ tbk := tb_at 45 (by decide +kernel) rfl
set_option maxRecDepth 20000 in
theorem wI_obj : Cond.instanceMethod objectInit ∈ tbk := tb_at 46 (by decide +kernel) rfl
set_option maxRecDepth 20000 in
theorem wC_obj : Cond.code objectInit ⟨#[0xb1]⟩ 1 none ∈ tbk := tb_at 47 (by decide +kernel) rfl
set_option maxRecDepth 20000 in
theorem wL_X6_7 : Cond.classLink RX6 7 RX4 ∈ tbk := tb_at 48 (by decide +kernel) rfl
set_option maxRecDepth 20000 in
theorem wB_X4 : Cond.instantiable RX4 12 ∈ tbk := tb_at 49 (by decide +kernel) rfl
set_option maxRecDepth 20000 in
theorem wM_X6_9 : Cond.methodLink RX6 9 yX4_init ∈ tbk := tb_at 50 (by decide +kernel) rfl
set_option maxRecDepth 20000 in
theorem wI_X4_init : Cond.instanceMethod yX4_init ∈ tbk := tb_at 51 (by decide +kernel) rfl
set_option maxRecDepth 20000 in
theorem wC_X4_init : Cond.code yX4_init cX4_init 2 none ∈ tbk := tb_at 52 (by decide +kernel) rfl
set_option maxRecDepth 20000 in
theorem wM_X4_3 : Cond.methodLink RX4 3 objectInit ∈ tbk := tb_at 53 (by decide +kernel) rfl
set_option maxRecDepth 20000 in
theorem wL_X4_9 : Cond.classLink RX4 9 RX2 ∈ tbk := tb_at 54 (by decide +kernel) rfl
set_option maxRecDepth 20000 in
theorem wA_X2 : Cond.arrayOver (.object RX2) ∈ lw_tbl := List.mem_of_getElem? (i := 55) (by decide +kernel)
set_option maxRecDepth 20000 in
theorem wL_X4_17 : Cond.classLink RX4 17 RX0 ∈ tbk := tb_at 56 (by decide +kernel) rfl
set_option maxRecDepth 20000 in
theorem wA_X0 : Cond.arrayOver (.object RX0) ∈ lw_tbl := List.mem_of_getElem? (i := 57) (by decide +kernel)
set_option maxRecDepth 20000 in
theorem wL_X4_23 : Cond.classLink RX4 23 RX1 ∈ tbk := tb_at 58 (by decide +kernel) rfl
set_option maxRecDepth 20000 in
theorem wA_X1 : Cond.arrayOver (.object RX1) ∈ lw_tbl := List.mem_of_getElem? (i := 59) (by decide +kernel)
set_option maxRecDepth 20000 in
theorem wB_X2 : Cond.instantiable RX2 8 ∈ tbk := tb_at 60 (by decide +kernel) rfl
set_option maxRecDepth 20000 in
theorem wM_X4_29 : Cond.methodLinkNest RX4 29 yX2_init "FlowletSwitch" ∈ tbk := tb_at 61 (by decide +kernel) rfl
set_option maxRecDepth 20000 in
theorem wI_X2_init : Cond.instanceMethod yX2_init ∈ tbk := tb_at 62 (by decide +kernel) rfl
set_option maxRecDepth 20000 in
theorem wC_X2_init : Cond.code yX2_init cX2_init 1 none ∈ tbk := tb_at 63 (by decide +kernel) rfl
set_option maxRecDepth 20000 in
theorem wM_X2_3 : Cond.methodLink RX2 3 objectInit ∈ tbk := tb_at 64 (by decide +kernel) rfl
set_option maxRecDepth 20000 in
theorem wF_X2_9 : Cond.fieldLink RX2 9 "FlowletSwitch$Path" "delay" "I" ∈ tbk := tb_at 65 (by decide +kernel) rfl
set_option maxRecDepth 20000 in
theorem wF_X6_62 : Cond.fieldLink RX6 62 "FlowletSwitch$Path" "delay" "I" ∈ tbk := tb_at 66 (by decide +kernel) rfl
set_option maxRecDepth 20000 in
theorem wF_X2_15 : Cond.fieldLink RX2 15 "FlowletSwitch$Path" "rate" "I" ∈ tbk := tb_at 67 (by decide +kernel) rfl
set_option maxRecDepth 20000 in
theorem wF_X6_68 : Cond.fieldLink RX6 68 "FlowletSwitch$Path" "rate" "I" ∈ tbk := tb_at 68 (by decide +kernel) rfl
set_option maxRecDepth 20000 in
theorem wF_X2_18 : Cond.fieldLink RX2 18 "FlowletSwitch$Path" "remoteLevel" "I" ∈ tbk := tb_at 69 (by decide +kernel) rfl
set_option maxRecDepth 20000 in
theorem wF_X6_71 : Cond.fieldLink RX6 71 "FlowletSwitch$Path" "remoteLevel" "I" ∈ tbk := tb_at 70 (by decide +kernel) rfl
set_option maxRecDepth 20000 in
theorem wF_X2_21 : Cond.fieldLink RX2 21 "FlowletSwitch$Path" "register" "I" ∈ tbk := tb_at 71 (by decide +kernel) rfl
set_option maxRecDepth 20000 in
theorem wF_X6_146 : Cond.fieldLink RX6 146 "FlowletSwitch$Path" "register" "I" ∈ tbk := tb_at 72 (by decide +kernel) rfl
set_option maxRecDepth 20000 in
theorem wF_X2_24 : Cond.fieldLink RX2 24 "FlowletSwitch$Path" "busyUntil" "I" ∈ tbk := tb_at 73 (by decide +kernel) rfl
set_option maxRecDepth 20000 in
theorem wF_X2_27 : Cond.fieldLink RX2 27 "FlowletSwitch$Path" "packetCount" "I" ∈ tbk := tb_at 74 (by decide +kernel) rfl
set_option maxRecDepth 20000 in
theorem wF_X6_161 : Cond.fieldLink RX6 161 "FlowletSwitch$Path" "packetCount" "I" ∈ tbk := tb_at 75 (by decide +kernel) rfl
set_option maxRecDepth 20000 in
theorem wF_X2_30 : Cond.fieldLink RX2 30 "FlowletSwitch$Path" "byteCount" "I" ∈ tbk := tb_at 76 (by decide +kernel) rfl
set_option maxRecDepth 20000 in
theorem wF_X4_110 : Cond.fieldLink RX4 110 "FlowletSwitch$Path" "byteCount" "I" ∈ tbk := tb_at 77 (by decide +kernel) rfl
set_option maxRecDepth 20000 in
theorem wF_X6_164 : Cond.fieldLink RX6 164 "FlowletSwitch$Path" "byteCount" "I" ∈ tbk := tb_at 78 (by decide +kernel) rfl
set_option maxRecDepth 20000 in
theorem wF_X2_33 : Cond.fieldLink RX2 33 "FlowletSwitch$Path" "dropCount" "I" ∈ tbk := tb_at 79 (by decide +kernel) rfl
set_option maxRecDepth 20000 in
theorem wF_X4_158 : Cond.fieldLink RX4 158 "FlowletSwitch$Path" "dropCount" "I" ∈ tbk := tb_at 80 (by decide +kernel) rfl
set_option maxRecDepth 20000 in
theorem wF_X6_167 : Cond.fieldLink RX6 167 "FlowletSwitch$Path" "dropCount" "I" ∈ tbk := tb_at 81 (by decide +kernel) rfl
set_option maxRecDepth 20000 in
theorem wB_X0 : Cond.instantiable RX0 4 ∈ tbk := tb_at 99 (by decide +kernel) rfl
set_option maxRecDepth 20000 in
theorem wM_X4_30 : Cond.methodLinkNest RX4 30 yX0_init "FlowletSwitch" ∈ tbk := tb_at 100 (by decide +kernel) rfl
set_option maxRecDepth 20000 in
theorem wI_X0_init : Cond.instanceMethod yX0_init ∈ tbk := tb_at 101 (by decide +kernel) rfl
set_option maxRecDepth 20000 in
theorem wC_X0_init : Cond.code yX0_init cX0_init 1 none ∈ tbk := tb_at 102 (by decide +kernel) rfl
set_option maxRecDepth 20000 in
theorem wM_X0_3 : Cond.methodLink RX0 3 objectInit ∈ tbk := tb_at 103 (by decide +kernel) rfl
set_option maxRecDepth 20000 in
theorem wF_X0_9 : Cond.fieldLink RX0 9 "FlowletSwitch$Entry" "valid" "Z" ∈ tbk := tb_at 104 (by decide +kernel) rfl
set_option maxRecDepth 20000 in
theorem wF_X4_87 : Cond.fieldLink RX4 87 "FlowletSwitch$Entry" "valid" "Z" ∈ tbk := tb_at 105 (by decide +kernel) rfl
set_option maxRecDepth 20000 in
theorem wF_X6_128 : Cond.fieldLink RX6 128 "FlowletSwitch$Entry" "valid" "Z" ∈ tbk := tb_at 106 (by decide +kernel) rfl
set_option maxRecDepth 20000 in
theorem wF_X0_15 : Cond.fieldLink RX0 15 "FlowletSwitch$Entry" "path" "I" ∈ tbk := tb_at 107 (by decide +kernel) rfl
set_option maxRecDepth 20000 in
theorem wF_X6_123 : Cond.fieldLink RX6 123 "FlowletSwitch$Entry" "path" "I" ∈ tbk := tb_at 108 (by decide +kernel) rfl
set_option maxRecDepth 20000 in
theorem wF_X4_126 : Cond.fieldLink RX4 126 "FlowletSwitch$Entry" "path" "I" ∈ tbk := tb_at 109 (by decide +kernel) rfl
set_option maxRecDepth 20000 in
theorem wF_X0_19 : Cond.fieldLink RX0 19 "FlowletSwitch$Entry" "latest" "I" ∈ tbk := tb_at 110 (by decide +kernel) rfl
set_option maxRecDepth 20000 in
theorem wF_X4_91 : Cond.fieldLink RX4 91 "FlowletSwitch$Entry" "latest" "I" ∈ tbk := tb_at 111 (by decide +kernel) rfl
set_option maxRecDepth 20000 in
theorem wF_X6_139 : Cond.fieldLink RX6 139 "FlowletSwitch$Entry" "latest" "I" ∈ tbk := tb_at 112 (by decide +kernel) rfl
set_option maxRecDepth 20000 in
theorem wF_X0_22 : Cond.fieldLink RX0 22 "FlowletSwitch$Entry" "age" "I" ∈ tbk := tb_at 113 (by decide +kernel) rfl
set_option maxRecDepth 20000 in
theorem wF_X6_132 : Cond.fieldLink RX6 132 "FlowletSwitch$Entry" "age" "I" ∈ tbk := tb_at 114 (by decide +kernel) rfl
set_option maxRecDepth 20000 in
theorem wB_X1 : Cond.instantiable RX1 5 ∈ tbk := tb_at 124 (by decide +kernel) rfl
set_option maxRecDepth 20000 in
theorem wM_X4_31 : Cond.methodLinkNest RX4 31 yX1_init "FlowletSwitch" ∈ tbk := tb_at 125 (by decide +kernel) rfl
set_option maxRecDepth 20000 in
theorem wI_X1_init : Cond.instanceMethod yX1_init ∈ tbk := tb_at 126 (by decide +kernel) rfl
set_option maxRecDepth 20000 in
theorem wC_X1_init : Cond.code yX1_init cX1_init 1 none ∈ tbk := tb_at 127 (by decide +kernel) rfl
set_option maxRecDepth 20000 in
theorem wM_X1_3 : Cond.methodLink RX1 3 objectInit ∈ tbk := tb_at 128 (by decide +kernel) rfl
set_option maxRecDepth 20000 in
theorem wF_X1_9 : Cond.fieldLink RX1 9 "FlowletSwitch$Flow" "flowletCount" "I" ∈ tbk := tb_at 129 (by decide +kernel) rfl
set_option maxRecDepth 20000 in
theorem wF_X4_174 : Cond.fieldLink RX4 174 "FlowletSwitch$Flow" "flowletCount" "I" ∈ tbk := tb_at 130 (by decide +kernel) rfl
set_option maxRecDepth 20000 in
theorem wF_X6_184 : Cond.fieldLink RX6 184 "FlowletSwitch$Flow" "flowletCount" "I" ∈ tbk := tb_at 131 (by decide +kernel) rfl
set_option maxRecDepth 20000 in
theorem wF_X1_15 : Cond.fieldLink RX1 15 "FlowletSwitch$Flow" "changeCount" "I" ∈ tbk := tb_at 132 (by decide +kernel) rfl
set_option maxRecDepth 20000 in
theorem wF_X6_189 : Cond.fieldLink RX6 189 "FlowletSwitch$Flow" "changeCount" "I" ∈ tbk := tb_at 133 (by decide +kernel) rfl
set_option maxRecDepth 20000 in
theorem wF_X1_18 : Cond.fieldLink RX1 18 "FlowletSwitch$Flow" "reorderCount" "I" ∈ tbk := tb_at 134 (by decide +kernel) rfl
set_option maxRecDepth 20000 in
theorem wF_X6_192 : Cond.fieldLink RX6 192 "FlowletSwitch$Flow" "reorderCount" "I" ∈ tbk := tb_at 135 (by decide +kernel) rfl
set_option maxRecDepth 20000 in
theorem wF_X1_21 : Cond.fieldLink RX1 21 "FlowletSwitch$Flow" "latestPath" "I" ∈ tbk := tb_at 136 (by decide +kernel) rfl
set_option maxRecDepth 20000 in
theorem wF_X1_24 : Cond.fieldLink RX1 24 "FlowletSwitch$Flow" "latestArrival" "I" ∈ tbk := tb_at 137 (by decide +kernel) rfl
set_option maxRecDepth 20000 in
theorem wF_X6_195 : Cond.fieldLink RX6 195 "FlowletSwitch$Flow" "latestArrival" "I" ∈ tbk := tb_at 138 (by decide +kernel) rfl
set_option maxRecDepth 20000 in
theorem wM_X4_32 : Cond.methodLink RX4 32 yX4_reset ∈ tbk := tb_at 150 (by decide +kernel) rfl
set_option maxRecDepth 20000 in
theorem wI_X4_reset : Cond.instanceMethod yX4_reset ∈ tbk := tb_at 151 (by decide +kernel) rfl
set_option maxRecDepth 20000 in
theorem wS_X4_reset : Cond.selects RX4 yX4_reset yX4_reset ∈ tbk := tb_at 152 (by decide +kernel) rfl
set_option maxRecDepth 20000 in
theorem wC_X4_reset : Cond.code yX4_reset cX4_reset 4 none ∈ tbk := tb_at 153 (by decide +kernel) rfl
set_option maxRecDepth 20000 in
theorem wM_X4_64 : Cond.methodLink RX4 64 yX2_reset ∈ tbk := tb_at 154 (by decide +kernel) rfl
set_option maxRecDepth 20000 in
theorem wI_X2_reset : Cond.instanceMethod yX2_reset ∈ tbk := tb_at 155 (by decide +kernel) rfl
set_option maxRecDepth 20000 in
theorem wS_X2_reset : Cond.selects RX2 yX2_reset yX2_reset ∈ tbk := tb_at 156 (by decide +kernel) rfl
set_option maxRecDepth 20000 in
theorem wC_X2_reset : Cond.code yX2_reset cX2_reset 1 none ∈ tbk := tb_at 157 (by decide +kernel) rfl
set_option maxRecDepth 20000 in
theorem wM_X4_66 : Cond.methodLink RX4 66 yX0_reset ∈ tbk := tb_at 158 (by decide +kernel) rfl
set_option maxRecDepth 20000 in
theorem wI_X0_reset : Cond.instanceMethod yX0_reset ∈ tbk := tb_at 159 (by decide +kernel) rfl
set_option maxRecDepth 20000 in
theorem wS_X0_reset : Cond.selects RX0 yX0_reset yX0_reset ∈ tbk := tb_at 160 (by decide +kernel) rfl
set_option maxRecDepth 20000 in
theorem wC_X0_reset : Cond.code yX0_reset cX0_reset 1 none ∈ tbk := tb_at 161 (by decide +kernel) rfl
set_option maxRecDepth 20000 in
theorem wM_X4_67 : Cond.methodLink RX4 67 yX1_reset ∈ tbk := tb_at 162 (by decide +kernel) rfl
set_option maxRecDepth 20000 in
theorem wI_X1_reset : Cond.instanceMethod yX1_reset ∈ tbk := tb_at 163 (by decide +kernel) rfl
set_option maxRecDepth 20000 in
theorem wS_X1_reset : Cond.selects RX1 yX1_reset yX1_reset ∈ tbk := tb_at 164 (by decide +kernel) rfl
set_option maxRecDepth 20000 in
theorem wC_X1_reset : Cond.code yX1_reset cX1_reset 1 none ∈ tbk := tb_at 165 (by decide +kernel) rfl
set_option maxRecDepth 20000 in
theorem wF_X4_36 : Cond.fieldLink RX4 36 "FlowletSwitch$SwitchState" "pathCount" "I" ∈ tbk := tb_at 166 (by decide +kernel) rfl
set_option maxRecDepth 20000 in
theorem wF_X4_40 : Cond.fieldLink RX4 40 "FlowletSwitch$SwitchState" "entryCount" "I" ∈ tbk := tb_at 167 (by decide +kernel) rfl
set_option maxRecDepth 20000 in
theorem wF_X4_43 : Cond.fieldLink RX4 43 "FlowletSwitch$SwitchState" "time" "I" ∈ tbk := tb_at 168 (by decide +kernel) rfl
set_option maxRecDepth 20000 in
theorem wF_X6_96 : Cond.fieldLink RX6 96 "FlowletSwitch$SwitchState" "time" "I" ∈ tbk := tb_at 169 (by decide +kernel) rfl
set_option maxRecDepth 20000 in
theorem wF_X4_46 : Cond.fieldLink RX4 46 "FlowletSwitch$SwitchState" "mode" "I" ∈ tbk := tb_at 170 (by decide +kernel) rfl
set_option maxRecDepth 20000 in
theorem wF_X6_74 : Cond.fieldLink RX6 74 "FlowletSwitch$SwitchState" "mode" "I" ∈ tbk := tb_at 171 (by decide +kernel) rfl
set_option maxRecDepth 20000 in
theorem wF_X4_49 : Cond.fieldLink RX4 49 "FlowletSwitch$SwitchState" "detection" "I" ∈ tbk := tb_at 172 (by decide +kernel) rfl
set_option maxRecDepth 20000 in
theorem wF_X6_77 : Cond.fieldLink RX6 77 "FlowletSwitch$SwitchState" "detection" "I" ∈ tbk := tb_at 173 (by decide +kernel) rfl
set_option maxRecDepth 20000 in
theorem wF_X4_52 : Cond.fieldLink RX4 52 "FlowletSwitch$SwitchState" "gap" "I" ∈ tbk := tb_at 174 (by decide +kernel) rfl
set_option maxRecDepth 20000 in
theorem wF_X6_80 : Cond.fieldLink RX6 80 "FlowletSwitch$SwitchState" "gap" "I" ∈ tbk := tb_at 175 (by decide +kernel) rfl
set_option maxRecDepth 20000 in
theorem wF_X4_55 : Cond.fieldLink RX4 55 "FlowletSwitch$SwitchState" "shift" "I" ∈ tbk := tb_at 176 (by decide +kernel) rfl
set_option maxRecDepth 20000 in
theorem wF_X6_83 : Cond.fieldLink RX6 83 "FlowletSwitch$SwitchState" "shift" "I" ∈ tbk := tb_at 177 (by decide +kernel) rfl
set_option maxRecDepth 20000 in
theorem wF_X4_58 : Cond.fieldLink RX4 58 "FlowletSwitch$SwitchState" "generator" "I" ∈ tbk := tb_at 178 (by decide +kernel) rfl
set_option maxRecDepth 20000 in
theorem wF_X6_86 : Cond.fieldLink RX6 86 "FlowletSwitch$SwitchState" "generator" "I" ∈ tbk := tb_at 179 (by decide +kernel) rfl
set_option maxRecDepth 20000 in
theorem wF_X4_61 : Cond.fieldLink RX4 61 "FlowletSwitch$SwitchState" "turn" "I" ∈ tbk := tb_at 180 (by decide +kernel) rfl
set_option maxRecDepth 20000 in
theorem wF_X4_11 : Cond.fieldLink RX4 11 "FlowletSwitch$SwitchState" "paths" "[LFlowletSwitch$Path;" ∈ tbk := tb_at 181 (by decide +kernel) rfl
set_option maxRecDepth 20000 in
theorem wF_X6_58 : Cond.fieldLink RX6 58 "FlowletSwitch$SwitchState" "paths" "[LFlowletSwitch$Path;" ∈ tbk := tb_at 182 (by decide +kernel) rfl
set_option maxRecDepth 20000 in
theorem wF_X4_19 : Cond.fieldLink RX4 19 "FlowletSwitch$SwitchState" "entries" "[LFlowletSwitch$Entry;" ∈ tbk := tb_at 183 (by decide +kernel) rfl
set_option maxRecDepth 20000 in
theorem wF_X6_115 : Cond.fieldLink RX6 115 "FlowletSwitch$SwitchState" "entries" "[LFlowletSwitch$Entry;" ∈ tbk := tb_at 184 (by decide +kernel) rfl
set_option maxRecDepth 20000 in
theorem wF_X4_25 : Cond.fieldLink RX4 25 "FlowletSwitch$SwitchState" "flows" "[LFlowletSwitch$Flow;" ∈ tbk := tb_at 185 (by decide +kernel) rfl
set_option maxRecDepth 20000 in
theorem wF_X6_180 : Cond.fieldLink RX6 180 "FlowletSwitch$SwitchState" "flows" "[LFlowletSwitch$Flow;" ∈ tbk := tb_at 186 (by decide +kernel) rfl
set_option maxRecDepth 20000 in
theorem wL_X6_16 : Cond.classLink RX6 16 RX3 ∈ tbk := tb_at 212 (by decide +kernel) rfl
set_option maxRecDepth 20000 in
theorem wB_X3 : Cond.instantiable RX3 3 ∈ tbk := tb_at 213 (by decide +kernel) rfl
set_option maxRecDepth 20000 in
theorem wM_X6_18 : Cond.methodLink RX6 18 yX3_init ∈ tbk := tb_at 214 (by decide +kernel) rfl
set_option maxRecDepth 20000 in
theorem wI_X3_init : Cond.instanceMethod yX3_init ∈ tbk := tb_at 215 (by decide +kernel) rfl
set_option maxRecDepth 20000 in
theorem wC_X3_init : Cond.code yX3_init cX3_init 2 none ∈ tbk := tb_at 216 (by decide +kernel) rfl
set_option maxRecDepth 20000 in
theorem wM_X3_3 : Cond.methodLink RX3 3 objectInit ∈ tbk := tb_at 217 (by decide +kernel) rfl
set_option maxRecDepth 20000 in
theorem wL_X3_9 : Cond.classLink RX3 9 RX4 ∈ tbk := tb_at 218 (by decide +kernel) rfl
set_option maxRecDepth 20000 in
theorem wA_X4 : Cond.arrayOver (.object RX4) ∈ lw_tbl := List.mem_of_getElem? (i := 219) (by decide +kernel)
set_option maxRecDepth 20000 in
theorem wM_X3_17 : Cond.methodLink RX3 17 yX4_init ∈ tbk := tb_at 220 (by decide +kernel) rfl
set_option maxRecDepth 20000 in
theorem wF_X3_11 : Cond.fieldLink RX3 11 "FlowletSwitch$SavedStates" "ring" "[LFlowletSwitch$SwitchState;" ∈ tbk := tb_at 221 (by decide +kernel) rfl
set_option maxRecDepth 20000 in
theorem wF_X3_18 : Cond.fieldLink RX3 18 "FlowletSwitch$SavedStates" "next" "I" ∈ tbk := tb_at 222 (by decide +kernel) rfl
set_option maxRecDepth 20000 in
theorem wF_X3_26 : Cond.fieldLink RX3 26 "FlowletSwitch$SavedStates" "count" "I" ∈ tbk := tb_at 223 (by decide +kernel) rfl
set_option maxRecDepth 20000 in
theorem wF_X6_222 : Cond.fieldLink RX6 222 "FlowletSwitch$SavedStates" "count" "I" ∈ tbk := tb_at 224 (by decide +kernel) rfl
set_option maxRecDepth 20000 in
theorem wL_X6_31 : Cond.classLink RX6 31 RX5 ∈ tbk := tb_at 232 (by decide +kernel) rfl
set_option maxRecDepth 20000 in
theorem wB_X5 : Cond.instantiable RX5 6 ∈ tbk := tb_at 233 (by decide +kernel) rfl
set_option maxRecDepth 20000 in
theorem wM_X6_33 : Cond.methodLinkNest RX6 33 yX5_init "FlowletSwitch" ∈ tbk := tb_at 234 (by decide +kernel) rfl
set_option maxRecDepth 20000 in
theorem wI_X5_init : Cond.instanceMethod yX5_init ∈ tbk := tb_at 235 (by decide +kernel) rfl
set_option maxRecDepth 20000 in
theorem wC_X5_init : Cond.code yX5_init cX5_init 1 none ∈ tbk := tb_at 236 (by decide +kernel) rfl
set_option maxRecDepth 20000 in
theorem wM_X5_3 : Cond.methodLink RX5 3 objectInit ∈ tbk := tb_at 237 (by decide +kernel) rfl
set_option maxRecDepth 20000 in
theorem wF_X5_9 : Cond.fieldLink RX5 9 "FlowletSwitch$Trace" "codes" "[I" ∈ tbk := tb_at 238 (by decide +kernel) rfl
set_option maxRecDepth 20000 in
theorem wF_X5_15 : Cond.fieldLink RX5 15 "FlowletSwitch$Trace" "length" "I" ∈ tbk := tb_at 239 (by decide +kernel) rfl
set_option maxRecDepth 20000 in
theorem wF_X6_204 : Cond.fieldLink RX6 204 "FlowletSwitch$Trace" "length" "I" ∈ tbk := tb_at 240 (by decide +kernel) rfl
set_option maxRecDepth 20000 in
theorem wF_X5_19 : Cond.fieldLink RX5 19 "FlowletSwitch$Trace" "position" "I" ∈ tbk := tb_at 241 (by decide +kernel) rfl
set_option maxRecDepth 20000 in
theorem wF_X5_39 : Cond.fieldLink RX5 39 "FlowletSwitch$Trace" "itemIsPacket" "Z" ∈ tbk := tb_at 242 (by decide +kernel) rfl
set_option maxRecDepth 20000 in
theorem wF_X6_234 : Cond.fieldLink RX6 234 "FlowletSwitch$Trace" "itemIsPacket" "Z" ∈ tbk := tb_at 243 (by decide +kernel) rfl
set_option maxRecDepth 20000 in
theorem wF_X5_47 : Cond.fieldLink RX5 47 "FlowletSwitch$Trace" "itemFlow" "I" ∈ tbk := tb_at 244 (by decide +kernel) rfl
set_option maxRecDepth 20000 in
theorem wF_X6_237 : Cond.fieldLink RX6 237 "FlowletSwitch$Trace" "itemFlow" "I" ∈ tbk := tb_at 245 (by decide +kernel) rfl
set_option maxRecDepth 20000 in
theorem wF_X5_50 : Cond.fieldLink RX5 50 "FlowletSwitch$Trace" "itemAmount" "I" ∈ tbk := tb_at 246 (by decide +kernel) rfl
set_option maxRecDepth 20000 in
theorem wF_X6_240 : Cond.fieldLink RX6 240 "FlowletSwitch$Trace" "itemAmount" "I" ∈ tbk := tb_at 247 (by decide +kernel) rfl
set_option maxRecDepth 20000 in
theorem wA_boolean : Cond.arrayClass .boolean ∈ lw_tbl := List.mem_of_getElem? (i := 261) (by decide +kernel)
set_option maxRecDepth 20000 in
theorem wA_int : Cond.arrayClass .int ∈ lw_tbl := List.mem_of_getElem? (i := 262) (by decide +kernel)
set_option maxRecDepth 20000 in
theorem wF_X6_10 : Cond.fieldLink RX6 10 "FlowletSwitch" "state" "LFlowletSwitch$SwitchState;" ∈ tbk := tb_at 263 (by decide +kernel) rfl
set_option maxRecDepth 20000 in
theorem wF_X6_19 : Cond.fieldLink RX6 19 "FlowletSwitch" "savedStates" "LFlowletSwitch$SavedStates;" ∈ tbk := tb_at 264 (by decide +kernel) rfl
set_option maxRecDepth 20000 in
theorem wF_X6_23 : Cond.fieldLink RX6 23 "FlowletSwitch" "snapshots" "[LFlowletSwitch$SwitchState;" ∈ tbk := tb_at 265 (by decide +kernel) rfl
set_option maxRecDepth 20000 in
theorem wF_X6_27 : Cond.fieldLink RX6 27 "FlowletSwitch" "slotFilled" "[Z" ∈ tbk := tb_at 266 (by decide +kernel) rfl
set_option maxRecDepth 20000 in
theorem wF_X6_34 : Cond.fieldLink RX6 34 "FlowletSwitch" "trace" "LFlowletSwitch$Trace;" ∈ tbk := tb_at 267 (by decide +kernel) rfl
set_option maxRecDepth 20000 in
theorem wM_L_13 : Cond.methodLink RL 13 yX6_configure ∈ tbk := tb_at 279 (by decide +kernel) rfl
set_option maxRecDepth 20000 in
theorem wI_X6_configure : Cond.instanceMethod yX6_configure ∈ tbk := tb_at 280 (by decide +kernel) rfl
set_option maxRecDepth 20000 in
theorem wS_X6_configure : Cond.selects RX6 yX6_configure yX6_configure ∈ tbk := tb_at 281 (by decide +kernel) rfl
set_option maxRecDepth 20000 in
theorem wC_X6_configure : Cond.code yX6_configure cX6_configure 3 (some .int) ∈ tbk := tb_at 282 (by decide +kernel) rfl
set_option maxRecDepth 20000 in
theorem wM_X6_38 : Cond.methodLink RX6 38 yX6_isBetween ∈ tbk := tb_at 283 (by decide +kernel) rfl
set_option maxRecDepth 20000 in
theorem wT_X6_isBetween : Cond.static yX6_isBetween ∈ tbk := tb_at 284 (by decide +kernel) rfl
set_option maxRecDepth 20000 in
theorem wC_X6_isBetween : Cond.code yX6_isBetween cX6_isBetween 3 (some .boolean) ∈ tbk := tb_at 285 (by decide +kernel) rfl
set_option maxRecDepth 20000 in
theorem wM_X6_42 : Cond.methodLink RX6 42 yX3_push ∈ tbk := tb_at 286 (by decide +kernel) rfl
set_option maxRecDepth 20000 in
theorem wI_X3_push : Cond.instanceMethod yX3_push ∈ tbk := tb_at 287 (by decide +kernel) rfl
set_option maxRecDepth 20000 in
theorem wS_X3_push : Cond.selects RX3 yX3_push yX3_push ∈ tbk := tb_at 288 (by decide +kernel) rfl
set_option maxRecDepth 20000 in
theorem wC_X3_push : Cond.code yX3_push cX3_push 2 none ∈ tbk := tb_at 289 (by decide +kernel) rfl
set_option maxRecDepth 20000 in
theorem wM_X3_22 : Cond.methodLink RX3 22 yX4_copyFrom ∈ tbk := tb_at 290 (by decide +kernel) rfl
set_option maxRecDepth 20000 in
theorem wI_X4_copyFrom : Cond.instanceMethod yX4_copyFrom ∈ tbk := tb_at 291 (by decide +kernel) rfl
set_option maxRecDepth 20000 in
theorem wS_X4_copyFrom : Cond.selects RX4 yX4_copyFrom yX4_copyFrom ∈ tbk := tb_at 292 (by decide +kernel) rfl
set_option maxRecDepth 20000 in
theorem wC_X4_copyFrom : Cond.code yX4_copyFrom cX4_copyFrom 3 none ∈ tbk := tb_at 293 (by decide +kernel) rfl
set_option maxRecDepth 20000 in
theorem wM_X4_68 : Cond.methodLink RX4 68 yX2_copyFrom ∈ tbk := tb_at 294 (by decide +kernel) rfl
set_option maxRecDepth 20000 in
theorem wI_X2_copyFrom : Cond.instanceMethod yX2_copyFrom ∈ tbk := tb_at 295 (by decide +kernel) rfl
set_option maxRecDepth 20000 in
theorem wS_X2_copyFrom : Cond.selects RX2 yX2_copyFrom yX2_copyFrom ∈ tbk := tb_at 296 (by decide +kernel) rfl
set_option maxRecDepth 20000 in
theorem wC_X2_copyFrom : Cond.code yX2_copyFrom cX2_copyFrom 2 none ∈ tbk := tb_at 297 (by decide +kernel) rfl
set_option maxRecDepth 20000 in
theorem wM_X4_72 : Cond.methodLink RX4 72 yX0_copyFrom ∈ tbk := tb_at 298 (by decide +kernel) rfl
set_option maxRecDepth 20000 in
theorem wI_X0_copyFrom : Cond.instanceMethod yX0_copyFrom ∈ tbk := tb_at 299 (by decide +kernel) rfl
set_option maxRecDepth 20000 in
theorem wS_X0_copyFrom : Cond.selects RX0 yX0_copyFrom yX0_copyFrom ∈ tbk := tb_at 300 (by decide +kernel) rfl
set_option maxRecDepth 20000 in
theorem wC_X0_copyFrom : Cond.code yX0_copyFrom cX0_copyFrom 2 none ∈ tbk := tb_at 301 (by decide +kernel) rfl
set_option maxRecDepth 20000 in
theorem wM_X4_75 : Cond.methodLink RX4 75 yX1_copyFrom ∈ tbk := tb_at 302 (by decide +kernel) rfl
set_option maxRecDepth 20000 in
theorem wI_X1_copyFrom : Cond.instanceMethod yX1_copyFrom ∈ tbk := tb_at 303 (by decide +kernel) rfl
set_option maxRecDepth 20000 in
theorem wS_X1_copyFrom : Cond.selects RX1 yX1_copyFrom yX1_copyFrom ∈ tbk := tb_at 304 (by decide +kernel) rfl
set_option maxRecDepth 20000 in
theorem wC_X1_copyFrom : Cond.code yX1_copyFrom cX1_copyFrom 2 none ∈ tbk := tb_at 305 (by decide +kernel) rfl
set_option maxRecDepth 20000 in
theorem wM_X3_29 : Cond.methodLink RX3 29 yJ9_min_7cf53 ∈ tbk := tb_at 306 (by decide +kernel) rfl
set_option maxRecDepth 20000 in
theorem wT_J9_min_7cf53 : Cond.static yJ9_min_7cf53 ∈ tbk := tb_at 307 (by decide +kernel) rfl
set_option maxRecDepth 20000 in
theorem wC_J9_min_7cf53 : Cond.code yJ9_min_7cf53 cJ9_min_7cf53 2 (some .int) ∈ tbk := tb_at 308 (by decide +kernel) rfl
set_option maxRecDepth 20000 in
theorem wM_X6_46 : Cond.methodLink RX6 46 yX4_reset ∈ tbk := tb_at 309 (by decide +kernel) rfl
set_option maxRecDepth 20000 in
theorem wM_X6_50 : Cond.methodLink RX6 50 yX4_countFlowsOfEntry ∈ tbk := tb_at 310 (by decide +kernel) rfl
set_option maxRecDepth 20000 in
theorem wI_X4_countFlowsOfEntry : Cond.instanceMethod yX4_countFlowsOfEntry ∈ tbk := tb_at 311 (by decide +kernel) rfl
set_option maxRecDepth 20000 in
theorem wS_X4_countFlowsOfEntry : Cond.selects RX4 yX4_countFlowsOfEntry yX4_countFlowsOfEntry ∈ tbk := tb_at 312 (by decide +kernel) rfl
set_option maxRecDepth 20000 in
theorem wC_X4_countFlowsOfEntry : Cond.code yX4_countFlowsOfEntry cX4_countFlowsOfEntry 4 (some .int) ∈ tbk := tb_at 313 (by decide +kernel) rfl
set_option maxRecDepth 20000 in
theorem wM_X4_83 : Cond.methodLink RX4 83 yX4_entryNumber ∈ tbk := tb_at 314 (by decide +kernel) rfl
set_option maxRecDepth 20000 in
theorem wI_X4_entryNumber : Cond.instanceMethod yX4_entryNumber ∈ tbk := tb_at 315 (by decide +kernel) rfl
set_option maxRecDepth 20000 in
theorem wS_X4_entryNumber : Cond.selects RX4 yX4_entryNumber yX4_entryNumber ∈ tbk := tb_at 316 (by decide +kernel) rfl
set_option maxRecDepth 20000 in
theorem wC_X4_entryNumber : Cond.code yX4_entryNumber cX4_entryNumber 2 (some .int) ∈ tbk := tb_at 317 (by decide +kernel) rfl
set_option maxRecDepth 20000 in
theorem wM_L_18 : Cond.methodLink RL 18 yX6_setDelay ∈ tbk := tb_at 318 (by decide +kernel) rfl
set_option maxRecDepth 20000 in
theorem wI_X6_setDelay : Cond.instanceMethod yX6_setDelay ∈ tbk := tb_at 319 (by decide +kernel) rfl
set_option maxRecDepth 20000 in
theorem wS_X6_setDelay : Cond.selects RX6 yX6_setDelay yX6_setDelay ∈ tbk := tb_at 320 (by decide +kernel) rfl
set_option maxRecDepth 20000 in
theorem wC_X6_setDelay : Cond.code yX6_setDelay cX6_setDelay 4 (some .int) ∈ tbk := tb_at 321 (by decide +kernel) rfl
set_option maxRecDepth 20000 in
theorem wM_X6_54 : Cond.methodLink RX6 54 yX4_hasPath ∈ tbk := tb_at 322 (by decide +kernel) rfl
set_option maxRecDepth 20000 in
theorem wI_X4_hasPath : Cond.instanceMethod yX4_hasPath ∈ tbk := tb_at 323 (by decide +kernel) rfl
set_option maxRecDepth 20000 in
theorem wS_X4_hasPath : Cond.selects RX4 yX4_hasPath yX4_hasPath ∈ tbk := tb_at 324 (by decide +kernel) rfl
set_option maxRecDepth 20000 in
theorem wC_X4_hasPath : Cond.code yX4_hasPath cX4_hasPath 2 (some .boolean) ∈ tbk := tb_at 325 (by decide +kernel) rfl
set_option maxRecDepth 20000 in
theorem wM_X4_78 : Cond.methodLinkNest RX4 78 yX6_isBetween "FlowletSwitch" ∈ tbk := tb_at 326 (by decide +kernel) rfl
set_option maxRecDepth 20000 in
theorem wM_L_22 : Cond.methodLink RL 22 yX6_setRate ∈ tbk := tb_at 327 (by decide +kernel) rfl
set_option maxRecDepth 20000 in
theorem wI_X6_setRate : Cond.instanceMethod yX6_setRate ∈ tbk := tb_at 328 (by decide +kernel) rfl
set_option maxRecDepth 20000 in
theorem wS_X6_setRate : Cond.selects RX6 yX6_setRate yX6_setRate ∈ tbk := tb_at 329 (by decide +kernel) rfl
set_option maxRecDepth 20000 in
theorem wC_X6_setRate : Cond.code yX6_setRate cX6_setRate 4 (some .int) ∈ tbk := tb_at 330 (by decide +kernel) rfl
set_option maxRecDepth 20000 in
theorem wM_L_26 : Cond.methodLink RL 26 yX6_setRemoteLevel ∈ tbk := tb_at 331 (by decide +kernel) rfl
set_option maxRecDepth 20000 in
theorem wI_X6_setRemoteLevel : Cond.instanceMethod yX6_setRemoteLevel ∈ tbk := tb_at 332 (by decide +kernel) rfl
set_option maxRecDepth 20000 in
theorem wS_X6_setRemoteLevel : Cond.selects RX6 yX6_setRemoteLevel yX6_setRemoteLevel ∈ tbk := tb_at 333 (by decide +kernel) rfl
set_option maxRecDepth 20000 in
theorem wC_X6_setRemoteLevel : Cond.code yX6_setRemoteLevel cX6_setRemoteLevel 4 (some .int) ∈ tbk := tb_at 334 (by decide +kernel) rfl
set_option maxRecDepth 20000 in
theorem wM_L_30 : Cond.methodLink RL 30 yX6_setMode ∈ tbk := tb_at 335 (by decide +kernel) rfl
set_option maxRecDepth 20000 in
theorem wI_X6_setMode : Cond.instanceMethod yX6_setMode ∈ tbk := tb_at 336 (by decide +kernel) rfl
set_option maxRecDepth 20000 in
theorem wS_X6_setMode : Cond.selects RX6 yX6_setMode yX6_setMode ∈ tbk := tb_at 337 (by decide +kernel) rfl
set_option maxRecDepth 20000 in
theorem wC_X6_setMode : Cond.code yX6_setMode cX6_setMode 3 (some .int) ∈ tbk := tb_at 338 (by decide +kernel) rfl
set_option maxRecDepth 20000 in
theorem wM_L_35 : Cond.methodLink RL 35 yX6_setDetection ∈ tbk := tb_at 339 (by decide +kernel) rfl
set_option maxRecDepth 20000 in
theorem wI_X6_setDetection : Cond.instanceMethod yX6_setDetection ∈ tbk := tb_at 340 (by decide +kernel) rfl
set_option maxRecDepth 20000 in
theorem wS_X6_setDetection : Cond.selects RX6 yX6_setDetection yX6_setDetection ∈ tbk := tb_at 341 (by decide +kernel) rfl
set_option maxRecDepth 20000 in
theorem wC_X6_setDetection : Cond.code yX6_setDetection cX6_setDetection 3 (some .int) ∈ tbk := tb_at 342 (by decide +kernel) rfl
set_option maxRecDepth 20000 in
theorem wM_L_39 : Cond.methodLink RL 39 yX6_setGap ∈ tbk := tb_at 343 (by decide +kernel) rfl
set_option maxRecDepth 20000 in
theorem wI_X6_setGap : Cond.instanceMethod yX6_setGap ∈ tbk := tb_at 344 (by decide +kernel) rfl
set_option maxRecDepth 20000 in
theorem wS_X6_setGap : Cond.selects RX6 yX6_setGap yX6_setGap ∈ tbk := tb_at 345 (by decide +kernel) rfl
set_option maxRecDepth 20000 in
theorem wC_X6_setGap : Cond.code yX6_setGap cX6_setGap 3 (some .int) ∈ tbk := tb_at 346 (by decide +kernel) rfl
set_option maxRecDepth 20000 in
theorem wM_L_43 : Cond.methodLink RL 43 yX6_setShift ∈ tbk := tb_at 347 (by decide +kernel) rfl
set_option maxRecDepth 20000 in
theorem wI_X6_setShift : Cond.instanceMethod yX6_setShift ∈ tbk := tb_at 348 (by decide +kernel) rfl
set_option maxRecDepth 20000 in
theorem wS_X6_setShift : Cond.selects RX6 yX6_setShift yX6_setShift ∈ tbk := tb_at 349 (by decide +kernel) rfl
set_option maxRecDepth 20000 in
theorem wC_X6_setShift : Cond.code yX6_setShift cX6_setShift 3 (some .int) ∈ tbk := tb_at 350 (by decide +kernel) rfl
set_option maxRecDepth 20000 in
theorem wM_L_47 : Cond.methodLink RL 47 yX6_setGenerator ∈ tbk := tb_at 351 (by decide +kernel) rfl
set_option maxRecDepth 20000 in
theorem wI_X6_setGenerator : Cond.instanceMethod yX6_setGenerator ∈ tbk := tb_at 352 (by decide +kernel) rfl
set_option maxRecDepth 20000 in
theorem wS_X6_setGenerator : Cond.selects RX6 yX6_setGenerator yX6_setGenerator ∈ tbk := tb_at 353 (by decide +kernel) rfl
set_option maxRecDepth 20000 in
theorem wC_X6_setGenerator : Cond.code yX6_setGenerator cX6_setGenerator 3 (some .int) ∈ tbk := tb_at 354 (by decide +kernel) rfl
set_option maxRecDepth 20000 in
theorem wM_L_51 : Cond.methodLink RL 51 yX6_advance ∈ tbk := tb_at 355 (by decide +kernel) rfl
set_option maxRecDepth 20000 in
theorem wI_X6_advance : Cond.instanceMethod yX6_advance ∈ tbk := tb_at 356 (by decide +kernel) rfl
set_option maxRecDepth 20000 in
theorem wS_X6_advance : Cond.selects RX6 yX6_advance yX6_advance ∈ tbk := tb_at 357 (by decide +kernel) rfl
set_option maxRecDepth 20000 in
theorem wC_X6_advance : Cond.code yX6_advance cX6_advance 2 (some .int) ∈ tbk := tb_at 358 (by decide +kernel) rfl
set_option maxRecDepth 20000 in
theorem wM_X6_89 : Cond.methodLink RX6 89 yX4_hasTimeFor ∈ tbk := tb_at 359 (by decide +kernel) rfl
set_option maxRecDepth 20000 in
theorem wI_X4_hasTimeFor : Cond.instanceMethod yX4_hasTimeFor ∈ tbk := tb_at 360 (by decide +kernel) rfl
set_option maxRecDepth 20000 in
theorem wS_X4_hasTimeFor : Cond.selects RX4 yX4_hasTimeFor yX4_hasTimeFor ∈ tbk := tb_at 361 (by decide +kernel) rfl
set_option maxRecDepth 20000 in
theorem wC_X4_hasTimeFor : Cond.code yX4_hasTimeFor cX4_hasTimeFor 2 (some .boolean) ∈ tbk := tb_at 362 (by decide +kernel) rfl
set_option maxRecDepth 20000 in
theorem wK_X4_82 : Cond.constant RX4 82 (1000000) ∈ tbk := tb_at 363 (by decide +kernel) rfl
set_option maxRecDepth 20000 in
theorem wM_X6_92 : Cond.methodLink RX6 92 yX4_letTimePass ∈ tbk := tb_at 364 (by decide +kernel) rfl
set_option maxRecDepth 20000 in
theorem wI_X4_letTimePass : Cond.instanceMethod yX4_letTimePass ∈ tbk := tb_at 365 (by decide +kernel) rfl
set_option maxRecDepth 20000 in
theorem wS_X4_letTimePass : Cond.selects RX4 yX4_letTimePass yX4_letTimePass ∈ tbk := tb_at 366 (by decide +kernel) rfl
set_option maxRecDepth 20000 in
theorem wC_X4_letTimePass : Cond.code yX4_letTimePass cX4_letTimePass 3 none ∈ tbk := tb_at 367 (by decide +kernel) rfl
set_option maxRecDepth 20000 in
theorem wM_X4_113 : Cond.methodLink RX4 113 yX4_decayLoads ∈ tbk := tb_at 368 (by decide +kernel) rfl
set_option maxRecDepth 20000 in
theorem wI_X4_decayLoads : Cond.instanceMethod yX4_decayLoads ∈ tbk := tb_at 369 (by decide +kernel) rfl
set_option maxRecDepth 20000 in
theorem wS_X4_decayLoads : Cond.selects RX4 yX4_decayLoads yX4_decayLoads ∈ tbk := tb_at 370 (by decide +kernel) rfl
set_option maxRecDepth 20000 in
theorem wC_X4_decayLoads : Cond.code yX4_decayLoads cX4_decayLoads 2 none ∈ tbk := tb_at 371 (by decide +kernel) rfl
set_option maxRecDepth 20000 in
theorem wM_X4_119 : Cond.methodLink RX4 119 yX2_decay ∈ tbk := tb_at 372 (by decide +kernel) rfl
set_option maxRecDepth 20000 in
theorem wI_X2_decay : Cond.instanceMethod yX2_decay ∈ tbk := tb_at 373 (by decide +kernel) rfl
set_option maxRecDepth 20000 in
theorem wS_X2_decay : Cond.selects RX2 yX2_decay yX2_decay ∈ tbk := tb_at 374 (by decide +kernel) rfl
set_option maxRecDepth 20000 in
theorem wC_X2_decay : Cond.code yX2_decay cX2_decay 2 none ∈ tbk := tb_at 375 (by decide +kernel) rfl
set_option maxRecDepth 20000 in
theorem wM_X4_116 : Cond.methodLink RX4 116 yX4_ageEntries ∈ tbk := tb_at 376 (by decide +kernel) rfl
set_option maxRecDepth 20000 in
theorem wI_X4_ageEntries : Cond.instanceMethod yX4_ageEntries ∈ tbk := tb_at 377 (by decide +kernel) rfl
set_option maxRecDepth 20000 in
theorem wS_X4_ageEntries : Cond.selects RX4 yX4_ageEntries yX4_ageEntries ∈ tbk := tb_at 378 (by decide +kernel) rfl
set_option maxRecDepth 20000 in
theorem wC_X4_ageEntries : Cond.code yX4_ageEntries cX4_ageEntries 2 none ∈ tbk := tb_at 379 (by decide +kernel) rfl
set_option maxRecDepth 20000 in
theorem wM_X4_123 : Cond.methodLink RX4 123 yX0_growOlder ∈ tbk := tb_at 380 (by decide +kernel) rfl
set_option maxRecDepth 20000 in
theorem wI_X0_growOlder : Cond.instanceMethod yX0_growOlder ∈ tbk := tb_at 381 (by decide +kernel) rfl
set_option maxRecDepth 20000 in
theorem wS_X0_growOlder : Cond.selects RX0 yX0_growOlder yX0_growOlder ∈ tbk := tb_at 382 (by decide +kernel) rfl
set_option maxRecDepth 20000 in
theorem wC_X0_growOlder : Cond.code yX0_growOlder cX0_growOlder 1 none ∈ tbk := tb_at 383 (by decide +kernel) rfl
set_option maxRecDepth 20000 in
theorem wM_L_55 : Cond.methodLink RL 55 yX6_send ∈ tbk := tb_at 384 (by decide +kernel) rfl
set_option maxRecDepth 20000 in
theorem wI_X6_send : Cond.instanceMethod yX6_send ∈ tbk := tb_at 385 (by decide +kernel) rfl
set_option maxRecDepth 20000 in
theorem wS_X6_send : Cond.selects RX6 yX6_send yX6_send ∈ tbk := tb_at 386 (by decide +kernel) rfl
set_option maxRecDepth 20000 in
theorem wC_X6_send : Cond.code yX6_send cX6_send 3 (some .int) ∈ tbk := tb_at 387 (by decide +kernel) rfl
set_option maxRecDepth 20000 in
theorem wM_X6_99 : Cond.methodLink RX6 99 yX6_isFlow ∈ tbk := tb_at 388 (by decide +kernel) rfl
set_option maxRecDepth 20000 in
theorem wT_X6_isFlow : Cond.static yX6_isFlow ∈ tbk := tb_at 389 (by decide +kernel) rfl
set_option maxRecDepth 20000 in
theorem wC_X6_isFlow : Cond.code yX6_isFlow cX6_isFlow 1 (some .boolean) ∈ tbk := tb_at 390 (by decide +kernel) rfl
set_option maxRecDepth 20000 in
theorem wM_X6_102 : Cond.methodLink RX6 102 yX6_isSize ∈ tbk := tb_at 391 (by decide +kernel) rfl
set_option maxRecDepth 20000 in
theorem wT_X6_isSize : Cond.static yX6_isSize ∈ tbk := tb_at 392 (by decide +kernel) rfl
set_option maxRecDepth 20000 in
theorem wC_X6_isSize : Cond.code yX6_isSize cX6_isSize 1 (some .boolean) ∈ tbk := tb_at 393 (by decide +kernel) rfl
set_option maxRecDepth 20000 in
theorem wM_X6_105 : Cond.methodLink RX6 105 yX4_sendPacket ∈ tbk := tb_at 394 (by decide +kernel) rfl
set_option maxRecDepth 20000 in
theorem wI_X4_sendPacket : Cond.instanceMethod yX4_sendPacket ∈ tbk := tb_at 395 (by decide +kernel) rfl
set_option maxRecDepth 20000 in
theorem wS_X4_sendPacket : Cond.selects RX4 yX4_sendPacket yX4_sendPacket ∈ tbk := tb_at 396 (by decide +kernel) rfl
set_option maxRecDepth 20000 in
theorem wC_X4_sendPacket : Cond.code yX4_sendPacket cX4_sendPacket 5 (some .int) ∈ tbk := tb_at 397 (by decide +kernel) rfl
set_option maxRecDepth 20000 in
theorem wM_X4_149 : Cond.methodLink RX4 149 yX4_pathFor ∈ tbk := tb_at 398 (by decide +kernel) rfl
set_option maxRecDepth 20000 in
theorem wI_X4_pathFor : Cond.instanceMethod yX4_pathFor ∈ tbk := tb_at 399 (by decide +kernel) rfl
set_option maxRecDepth 20000 in
theorem wS_X4_pathFor : Cond.selects RX4 yX4_pathFor yX4_pathFor ∈ tbk := tb_at 400 (by decide +kernel) rfl
set_option maxRecDepth 20000 in
theorem wC_X4_pathFor : Cond.code yX4_pathFor cX4_pathFor 3 (some .int) ∈ tbk := tb_at 401 (by decide +kernel) rfl
set_option maxRecDepth 20000 in
theorem wM_X4_94 : Cond.methodLink RX4 94 yX4_isInUse ∈ tbk := tb_at 402 (by decide +kernel) rfl
set_option maxRecDepth 20000 in
theorem wI_X4_isInUse : Cond.instanceMethod yX4_isInUse ∈ tbk := tb_at 403 (by decide +kernel) rfl
set_option maxRecDepth 20000 in
theorem wS_X4_isInUse : Cond.selects RX4 yX4_isInUse yX4_isInUse ∈ tbk := tb_at 404 (by decide +kernel) rfl
set_option maxRecDepth 20000 in
theorem wC_X4_isInUse : Cond.code yX4_isInUse cX4_isInUse 2 (some .boolean) ∈ tbk := tb_at 405 (by decide +kernel) rfl
set_option maxRecDepth 20000 in
theorem wM_X4_129 : Cond.methodLink RX4 129 yX4_leastCongestedPath ∈ tbk := tb_at 406 (by decide +kernel) rfl
set_option maxRecDepth 20000 in
theorem wI_X4_leastCongestedPath : Cond.instanceMethod yX4_leastCongestedPath ∈ tbk := tb_at 407 (by decide +kernel) rfl
set_option maxRecDepth 20000 in
theorem wS_X4_leastCongestedPath : Cond.selects RX4 yX4_leastCongestedPath yX4_leastCongestedPath ∈ tbk := tb_at 408 (by decide +kernel) rfl
set_option maxRecDepth 20000 in
theorem wC_X4_leastCongestedPath : Cond.code yX4_leastCongestedPath cX4_leastCongestedPath 4 (some .int) ∈ tbk := tb_at 409 (by decide +kernel) rfl
set_option maxRecDepth 20000 in
theorem wM_X4_136 : Cond.methodLink RX4 136 yX2_congestion ∈ tbk := tb_at 410 (by decide +kernel) rfl
set_option maxRecDepth 20000 in
theorem wI_X2_congestion : Cond.instanceMethod yX2_congestion ∈ tbk := tb_at 411 (by decide +kernel) rfl
set_option maxRecDepth 20000 in
theorem wS_X2_congestion : Cond.selects RX2 yX2_congestion yX2_congestion ∈ tbk := tb_at 412 (by decide +kernel) rfl
set_option maxRecDepth 20000 in
theorem wC_X2_congestion : Cond.code yX2_congestion cX2_congestion 2 (some .int) ∈ tbk := tb_at 413 (by decide +kernel) rfl
set_option maxRecDepth 20000 in
theorem wM_X2_36 : Cond.methodLink RX2 36 yJ9_min_7cf53 ∈ tbk := tb_at 414 (by decide +kernel) rfl
set_option maxRecDepth 20000 in
theorem wM_X2_42 : Cond.methodLink RX2 42 yJ9_max_7cf53 ∈ tbk := tb_at 415 (by decide +kernel) rfl
set_option maxRecDepth 20000 in
theorem wT_J9_max_7cf53 : Cond.static yJ9_max_7cf53 ∈ tbk := tb_at 416 (by decide +kernel) rfl
set_option maxRecDepth 20000 in
theorem wC_J9_max_7cf53 : Cond.code yJ9_max_7cf53 cJ9_max_7cf53 2 (some .int) ∈ tbk := tb_at 417 (by decide +kernel) rfl
set_option maxRecDepth 20000 in
theorem wM_X4_139 : Cond.methodLink RX4 139 yX4_hasPath ∈ tbk := tb_at 418 (by decide +kernel) rfl
set_option maxRecDepth 20000 in
theorem wM_X4_132 : Cond.methodLink RX4 132 yX4_randomPath ∈ tbk := tb_at 419 (by decide +kernel) rfl
set_option maxRecDepth 20000 in
theorem wI_X4_randomPath : Cond.instanceMethod yX4_randomPath ∈ tbk := tb_at 420 (by decide +kernel) rfl
set_option maxRecDepth 20000 in
theorem wS_X4_randomPath : Cond.selects RX4 yX4_randomPath yX4_randomPath ∈ tbk := tb_at 421 (by decide +kernel) rfl
set_option maxRecDepth 20000 in
theorem wC_X4_randomPath : Cond.code yX4_randomPath cX4_randomPath 1 (some .int) ∈ tbk := tb_at 422 (by decide +kernel) rfl
set_option maxRecDepth 20000 in
theorem wM_X4_143 : Cond.methodLink RX4 143 yX4_nextGenerator ∈ tbk := tb_at 423 (by decide +kernel) rfl
set_option maxRecDepth 20000 in
theorem wI_X4_nextGenerator : Cond.instanceMethod yX4_nextGenerator ∈ tbk := tb_at 424 (by decide +kernel) rfl
set_option maxRecDepth 20000 in
theorem wS_X4_nextGenerator : Cond.selects RX4 yX4_nextGenerator yX4_nextGenerator ∈ tbk := tb_at 425 (by decide +kernel) rfl
set_option maxRecDepth 20000 in
theorem wC_X4_nextGenerator : Cond.code yX4_nextGenerator cX4_nextGenerator 1 (some .int) ∈ tbk := tb_at 426 (by decide +kernel) rfl
set_option maxRecDepth 20000 in
theorem wK_X4_147 : Cond.constant RX4 147 (1103515245) ∈ tbk := tb_at 427 (by decide +kernel) rfl
set_option maxRecDepth 20000 in
theorem wK_X4_148 : Cond.constant RX4 148 (2147483647) ∈ tbk := tb_at 428 (by decide +kernel) rfl
set_option maxRecDepth 20000 in
theorem wK_X4_146 : Cond.constant RX4 146 (65536) ∈ tbk := tb_at 429 (by decide +kernel) rfl
set_option maxRecDepth 20000 in
theorem wM_X4_152 : Cond.methodLink RX4 152 yX4_noteChoice ∈ tbk := tb_at 430 (by decide +kernel) rfl
set_option maxRecDepth 20000 in
theorem wI_X4_noteChoice : Cond.instanceMethod yX4_noteChoice ∈ tbk := tb_at 431 (by decide +kernel) rfl
set_option maxRecDepth 20000 in
theorem wS_X4_noteChoice : Cond.selects RX4 yX4_noteChoice yX4_noteChoice ∈ tbk := tb_at 432 (by decide +kernel) rfl
set_option maxRecDepth 20000 in
theorem wC_X4_noteChoice : Cond.code yX4_noteChoice cX4_noteChoice 3 none ∈ tbk := tb_at 433 (by decide +kernel) rfl
set_option maxRecDepth 20000 in
theorem wM_X4_167 : Cond.methodLink RX4 167 yX4_usesTable ∈ tbk := tb_at 434 (by decide +kernel) rfl
set_option maxRecDepth 20000 in
theorem wI_X4_usesTable : Cond.instanceMethod yX4_usesTable ∈ tbk := tb_at 435 (by decide +kernel) rfl
set_option maxRecDepth 20000 in
theorem wS_X4_usesTable : Cond.selects RX4 yX4_usesTable yX4_usesTable ∈ tbk := tb_at 436 (by decide +kernel) rfl
set_option maxRecDepth 20000 in
theorem wC_X4_usesTable : Cond.code yX4_usesTable cX4_usesTable 1 (some .boolean) ∈ tbk := tb_at 437 (by decide +kernel) rfl
set_option maxRecDepth 20000 in
theorem wM_X4_171 : Cond.methodLink RX4 171 yX4_noteInTable ∈ tbk := tb_at 438 (by decide +kernel) rfl
set_option maxRecDepth 20000 in
theorem wI_X4_noteInTable : Cond.instanceMethod yX4_noteInTable ∈ tbk := tb_at 439 (by decide +kernel) rfl
set_option maxRecDepth 20000 in
theorem wS_X4_noteInTable : Cond.selects RX4 yX4_noteInTable yX4_noteInTable ∈ tbk := tb_at 440 (by decide +kernel) rfl
set_option maxRecDepth 20000 in
theorem wC_X4_noteInTable : Cond.code yX4_noteInTable cX4_noteInTable 4 none ∈ tbk := tb_at 441 (by decide +kernel) rfl
set_option maxRecDepth 20000 in
theorem wM_X4_177 : Cond.methodLink RX4 177 yX0_take ∈ tbk := tb_at 442 (by decide +kernel) rfl
set_option maxRecDepth 20000 in
theorem wI_X0_take : Cond.instanceMethod yX0_take ∈ tbk := tb_at 443 (by decide +kernel) rfl
set_option maxRecDepth 20000 in
theorem wS_X0_take : Cond.selects RX0 yX0_take yX0_take ∈ tbk := tb_at 444 (by decide +kernel) rfl
set_option maxRecDepth 20000 in
theorem wC_X0_take : Cond.code yX0_take cX0_take 3 none ∈ tbk := tb_at 445 (by decide +kernel) rfl
set_option maxRecDepth 20000 in
theorem wM_X4_155 : Cond.methodLink RX4 155 yX2_dropsAt ∈ tbk := tb_at 446 (by decide +kernel) rfl
set_option maxRecDepth 20000 in
theorem wI_X2_dropsAt : Cond.instanceMethod yX2_dropsAt ∈ tbk := tb_at 447 (by decide +kernel) rfl
set_option maxRecDepth 20000 in
theorem wS_X2_dropsAt : Cond.selects RX2 yX2_dropsAt yX2_dropsAt ∈ tbk := tb_at 448 (by decide +kernel) rfl
set_option maxRecDepth 20000 in
theorem wC_X2_dropsAt : Cond.code yX2_dropsAt cX2_dropsAt 2 (some .boolean) ∈ tbk := tb_at 449 (by decide +kernel) rfl
set_option maxRecDepth 20000 in
theorem wM_X2_45 : Cond.methodLink RX2 45 yX2_waitAt ∈ tbk := tb_at 450 (by decide +kernel) rfl
set_option maxRecDepth 20000 in
theorem wI_X2_waitAt : Cond.instanceMethod yX2_waitAt ∈ tbk := tb_at 451 (by decide +kernel) rfl
set_option maxRecDepth 20000 in
theorem wS_X2_waitAt : Cond.selects RX2 yX2_waitAt yX2_waitAt ∈ tbk := tb_at 452 (by decide +kernel) rfl
set_option maxRecDepth 20000 in
theorem wC_X2_waitAt : Cond.code yX2_waitAt cX2_waitAt 2 (some .int) ∈ tbk := tb_at 453 (by decide +kernel) rfl
set_option maxRecDepth 20000 in
theorem wM_X4_98 : Cond.methodLink RX4 98 yX2_ticksToArrive ∈ tbk := tb_at 454 (by decide +kernel) rfl
set_option maxRecDepth 20000 in
theorem wI_X2_ticksToArrive : Cond.instanceMethod yX2_ticksToArrive ∈ tbk := tb_at 455 (by decide +kernel) rfl
set_option maxRecDepth 20000 in
theorem wS_X2_ticksToArrive : Cond.selects RX2 yX2_ticksToArrive yX2_ticksToArrive ∈ tbk := tb_at 456 (by decide +kernel) rfl
set_option maxRecDepth 20000 in
theorem wC_X2_ticksToArrive : Cond.code yX2_ticksToArrive cX2_ticksToArrive 3 (some .int) ∈ tbk := tb_at 457 (by decide +kernel) rfl
set_option maxRecDepth 20000 in
theorem wM_X2_49 : Cond.methodLink RX2 49 yX2_ticksToTransmit ∈ tbk := tb_at 458 (by decide +kernel) rfl
set_option maxRecDepth 20000 in
theorem wI_X2_ticksToTransmit : Cond.instanceMethod yX2_ticksToTransmit ∈ tbk := tb_at 459 (by decide +kernel) rfl
set_option maxRecDepth 20000 in
theorem wS_X2_ticksToTransmit : Cond.selects RX2 yX2_ticksToTransmit yX2_ticksToTransmit ∈ tbk := tb_at 460 (by decide +kernel) rfl
set_option maxRecDepth 20000 in
theorem wC_X2_ticksToTransmit : Cond.code yX2_ticksToTransmit cX2_ticksToTransmit 2 (some .int) ∈ tbk := tb_at 461 (by decide +kernel) rfl
set_option maxRecDepth 20000 in
theorem wM_X4_161 : Cond.methodLink RX4 161 yX1_deliver ∈ tbk := tb_at 462 (by decide +kernel) rfl
set_option maxRecDepth 20000 in
theorem wI_X1_deliver : Cond.instanceMethod yX1_deliver ∈ tbk := tb_at 463 (by decide +kernel) rfl
set_option maxRecDepth 20000 in
theorem wS_X1_deliver : Cond.selects RX1 yX1_deliver yX1_deliver ∈ tbk := tb_at 464 (by decide +kernel) rfl
set_option maxRecDepth 20000 in
theorem wC_X1_deliver : Cond.code yX1_deliver cX1_deliver 3 none ∈ tbk := tb_at 465 (by decide +kernel) rfl
set_option maxRecDepth 20000 in
theorem wM_X1_27 : Cond.methodLink RX1 27 yX1_isOvertakenBy ∈ tbk := tb_at 466 (by decide +kernel) rfl
set_option maxRecDepth 20000 in
theorem wI_X1_isOvertakenBy : Cond.instanceMethod yX1_isOvertakenBy ∈ tbk := tb_at 467 (by decide +kernel) rfl
set_option maxRecDepth 20000 in
theorem wS_X1_isOvertakenBy : Cond.selects RX1 yX1_isOvertakenBy yX1_isOvertakenBy ∈ tbk := tb_at 468 (by decide +kernel) rfl
set_option maxRecDepth 20000 in
theorem wC_X1_isOvertakenBy : Cond.code yX1_isOvertakenBy cX1_isOvertakenBy 2 (some .boolean) ∈ tbk := tb_at 469 (by decide +kernel) rfl
set_option maxRecDepth 20000 in
theorem wM_X1_31 : Cond.methodLink RX1 31 yJ9_max_7cf53 ∈ tbk := tb_at 470 (by decide +kernel) rfl
set_option maxRecDepth 20000 in
theorem wM_X4_164 : Cond.methodLink RX4 164 yX2_transmit ∈ tbk := tb_at 471 (by decide +kernel) rfl
set_option maxRecDepth 20000 in
theorem wI_X2_transmit : Cond.instanceMethod yX2_transmit ∈ tbk := tb_at 472 (by decide +kernel) rfl
set_option maxRecDepth 20000 in
theorem wS_X2_transmit : Cond.selects RX2 yX2_transmit yX2_transmit ∈ tbk := tb_at 473 (by decide +kernel) rfl
set_option maxRecDepth 20000 in
theorem wC_X2_transmit : Cond.code yX2_transmit cX2_transmit 3 none ∈ tbk := tb_at 474 (by decide +kernel) rfl
set_option maxRecDepth 20000 in
theorem wM_L_59 : Cond.methodLink RL 59 yX6_now ∈ tbk := tb_at 475 (by decide +kernel) rfl
set_option maxRecDepth 20000 in
theorem wI_X6_now : Cond.instanceMethod yX6_now ∈ tbk := tb_at 476 (by decide +kernel) rfl
set_option maxRecDepth 20000 in
theorem wS_X6_now : Cond.selects RX6 yX6_now yX6_now ∈ tbk := tb_at 477 (by decide +kernel) rfl
set_option maxRecDepth 20000 in
theorem wC_X6_now : Cond.code yX6_now cX6_now 1 (some .int) ∈ tbk := tb_at 478 (by decide +kernel) rfl
set_option maxRecDepth 20000 in
theorem wM_L_64 : Cond.methodLink RL 64 yX6_entryOf ∈ tbk := tb_at 479 (by decide +kernel) rfl
set_option maxRecDepth 20000 in
theorem wI_X6_entryOf : Cond.instanceMethod yX6_entryOf ∈ tbk := tb_at 480 (by decide +kernel) rfl
set_option maxRecDepth 20000 in
theorem wS_X6_entryOf : Cond.selects RX6 yX6_entryOf yX6_entryOf ∈ tbk := tb_at 481 (by decide +kernel) rfl
set_option maxRecDepth 20000 in
theorem wC_X6_entryOf : Cond.code yX6_entryOf cX6_entryOf 2 (some .int) ∈ tbk := tb_at 482 (by decide +kernel) rfl
set_option maxRecDepth 20000 in
theorem wM_X6_109 : Cond.methodLink RX6 109 yX4_entryNumber ∈ tbk := tb_at 483 (by decide +kernel) rfl
set_option maxRecDepth 20000 in
theorem wM_L_68 : Cond.methodLink RL 68 yX6_isActive ∈ tbk := tb_at 484 (by decide +kernel) rfl
set_option maxRecDepth 20000 in
theorem wI_X6_isActive : Cond.instanceMethod yX6_isActive ∈ tbk := tb_at 485 (by decide +kernel) rfl
set_option maxRecDepth 20000 in
theorem wS_X6_isActive : Cond.selects RX6 yX6_isActive yX6_isActive ∈ tbk := tb_at 486 (by decide +kernel) rfl
set_option maxRecDepth 20000 in
theorem wC_X6_isActive : Cond.code yX6_isActive cX6_isActive 2 (some .int) ∈ tbk := tb_at 487 (by decide +kernel) rfl
set_option maxRecDepth 20000 in
theorem wM_X6_112 : Cond.methodLink RX6 112 yX4_hasEntry ∈ tbk := tb_at 488 (by decide +kernel) rfl
set_option maxRecDepth 20000 in
theorem wI_X4_hasEntry : Cond.instanceMethod yX4_hasEntry ∈ tbk := tb_at 489 (by decide +kernel) rfl
set_option maxRecDepth 20000 in
theorem wS_X4_hasEntry : Cond.selects RX4 yX4_hasEntry yX4_hasEntry ∈ tbk := tb_at 490 (by decide +kernel) rfl
set_option maxRecDepth 20000 in
theorem wC_X4_hasEntry : Cond.code yX4_hasEntry cX4_hasEntry 2 (some .boolean) ∈ tbk := tb_at 491 (by decide +kernel) rfl
set_option maxRecDepth 20000 in
theorem wM_X6_119 : Cond.methodLink RX6 119 yX4_isInUse ∈ tbk := tb_at 492 (by decide +kernel) rfl
set_option maxRecDepth 20000 in
theorem wM_L_72 : Cond.methodLink RL 72 yX6_entryPath ∈ tbk := tb_at 493 (by decide +kernel) rfl
set_option maxRecDepth 20000 in
theorem wI_X6_entryPath : Cond.instanceMethod yX6_entryPath ∈ tbk := tb_at 494 (by decide +kernel) rfl
set_option maxRecDepth 20000 in
theorem wS_X6_entryPath : Cond.selects RX6 yX6_entryPath yX6_entryPath ∈ tbk := tb_at 495 (by decide +kernel) rfl
set_option maxRecDepth 20000 in
theorem wC_X6_entryPath : Cond.code yX6_entryPath cX6_entryPath 2 (some .int) ∈ tbk := tb_at 496 (by decide +kernel) rfl
set_option maxRecDepth 20000 in
theorem wM_L_76 : Cond.methodLink RL 76 yX6_ageBit ∈ tbk := tb_at 497 (by decide +kernel) rfl
set_option maxRecDepth 20000 in
theorem wI_X6_ageBit : Cond.instanceMethod yX6_ageBit ∈ tbk := tb_at 498 (by decide +kernel) rfl
set_option maxRecDepth 20000 in
theorem wS_X6_ageBit : Cond.selects RX6 yX6_ageBit yX6_ageBit ∈ tbk := tb_at 499 (by decide +kernel) rfl
set_option maxRecDepth 20000 in
theorem wC_X6_ageBit : Cond.code yX6_ageBit cX6_ageBit 2 (some .int) ∈ tbk := tb_at 500 (by decide +kernel) rfl
set_option maxRecDepth 20000 in
theorem wM_L_80 : Cond.methodLink RL 80 yX6_idleTime ∈ tbk := tb_at 501 (by decide +kernel) rfl
set_option maxRecDepth 20000 in
theorem wI_X6_idleTime : Cond.instanceMethod yX6_idleTime ∈ tbk := tb_at 502 (by decide +kernel) rfl
set_option maxRecDepth 20000 in
theorem wS_X6_idleTime : Cond.selects RX6 yX6_idleTime yX6_idleTime ∈ tbk := tb_at 503 (by decide +kernel) rfl
set_option maxRecDepth 20000 in
theorem wC_X6_idleTime : Cond.code yX6_idleTime cX6_idleTime 2 (some .int) ∈ tbk := tb_at 504 (by decide +kernel) rfl
set_option maxRecDepth 20000 in
theorem wM_X6_135 : Cond.methodLink RX6 135 yX0_isUnused ∈ tbk := tb_at 505 (by decide +kernel) rfl
set_option maxRecDepth 20000 in
theorem wI_X0_isUnused : Cond.instanceMethod yX0_isUnused ∈ tbk := tb_at 506 (by decide +kernel) rfl
set_option maxRecDepth 20000 in
theorem wS_X0_isUnused : Cond.selects RX0 yX0_isUnused yX0_isUnused ∈ tbk := tb_at 507 (by decide +kernel) rfl
set_option maxRecDepth 20000 in
theorem wC_X0_isUnused : Cond.code yX0_isUnused cX0_isUnused 1 (some .boolean) ∈ tbk := tb_at 508 (by decide +kernel) rfl
set_option maxRecDepth 20000 in
theorem wM_L_84 : Cond.methodLink RL 84 yX6_activeEntries ∈ tbk := tb_at 509 (by decide +kernel) rfl
set_option maxRecDepth 20000 in
theorem wI_X6_activeEntries : Cond.instanceMethod yX6_activeEntries ∈ tbk := tb_at 510 (by decide +kernel) rfl
set_option maxRecDepth 20000 in
theorem wS_X6_activeEntries : Cond.selects RX6 yX6_activeEntries yX6_activeEntries ∈ tbk := tb_at 511 (by decide +kernel) rfl
set_option maxRecDepth 20000 in
theorem wC_X6_activeEntries : Cond.code yX6_activeEntries cX6_activeEntries 1 (some .int) ∈ tbk := tb_at 512 (by decide +kernel) rfl
set_option maxRecDepth 20000 in
theorem wM_X6_142 : Cond.methodLink RX6 142 yX4_countEntriesInUse ∈ tbk := tb_at 513 (by decide +kernel) rfl
set_option maxRecDepth 20000 in
theorem wI_X4_countEntriesInUse : Cond.instanceMethod yX4_countEntriesInUse ∈ tbk := tb_at 514 (by decide +kernel) rfl
set_option maxRecDepth 20000 in
theorem wS_X4_countEntriesInUse : Cond.selects RX4 yX4_countEntriesInUse yX4_countEntriesInUse ∈ tbk := tb_at 515 (by decide +kernel) rfl
set_option maxRecDepth 20000 in
theorem wC_X4_countEntriesInUse : Cond.code yX4_countEntriesInUse cX4_countEntriesInUse 3 (some .int) ∈ tbk := tb_at 516 (by decide +kernel) rfl
set_option maxRecDepth 20000 in
theorem wM_L_88 : Cond.methodLink RL 88 yX6_load ∈ tbk := tb_at 517 (by decide +kernel) rfl
set_option maxRecDepth 20000 in
theorem wI_X6_load : Cond.instanceMethod yX6_load ∈ tbk := tb_at 518 (by decide +kernel) rfl
set_option maxRecDepth 20000 in
theorem wS_X6_load : Cond.selects RX6 yX6_load yX6_load ∈ tbk := tb_at 519 (by decide +kernel) rfl
set_option maxRecDepth 20000 in
theorem wC_X6_load : Cond.code yX6_load cX6_load 2 (some .int) ∈ tbk := tb_at 520 (by decide +kernel) rfl
set_option maxRecDepth 20000 in
theorem wM_L_92 : Cond.methodLink RL 92 yX6_metric ∈ tbk := tb_at 521 (by decide +kernel) rfl
set_option maxRecDepth 20000 in
theorem wI_X6_metric : Cond.instanceMethod yX6_metric ∈ tbk := tb_at 522 (by decide +kernel) rfl
set_option maxRecDepth 20000 in
theorem wS_X6_metric : Cond.selects RX6 yX6_metric yX6_metric ∈ tbk := tb_at 523 (by decide +kernel) rfl
set_option maxRecDepth 20000 in
theorem wC_X6_metric : Cond.code yX6_metric cX6_metric 2 (some .int) ∈ tbk := tb_at 524 (by decide +kernel) rfl
set_option maxRecDepth 20000 in
theorem wM_X6_149 : Cond.methodLink RX6 149 yX2_congestion ∈ tbk := tb_at 525 (by decide +kernel) rfl
set_option maxRecDepth 20000 in
theorem wM_L_96 : Cond.methodLink RL 96 yX6_busyTime ∈ tbk := tb_at 526 (by decide +kernel) rfl
set_option maxRecDepth 20000 in
theorem wI_X6_busyTime : Cond.instanceMethod yX6_busyTime ∈ tbk := tb_at 527 (by decide +kernel) rfl
set_option maxRecDepth 20000 in
theorem wS_X6_busyTime : Cond.selects RX6 yX6_busyTime yX6_busyTime ∈ tbk := tb_at 528 (by decide +kernel) rfl
set_option maxRecDepth 20000 in
theorem wC_X6_busyTime : Cond.code yX6_busyTime cX6_busyTime 2 (some .int) ∈ tbk := tb_at 529 (by decide +kernel) rfl
set_option maxRecDepth 20000 in
theorem wM_X6_152 : Cond.methodLink RX6 152 yX2_waitAt ∈ tbk := tb_at 530 (by decide +kernel) rfl
set_option maxRecDepth 20000 in
theorem wM_L_100 : Cond.methodLink RL 100 yX6_latency ∈ tbk := tb_at 531 (by decide +kernel) rfl
set_option maxRecDepth 20000 in
theorem wI_X6_latency : Cond.instanceMethod yX6_latency ∈ tbk := tb_at 532 (by decide +kernel) rfl
set_option maxRecDepth 20000 in
theorem wS_X6_latency : Cond.selects RX6 yX6_latency yX6_latency ∈ tbk := tb_at 533 (by decide +kernel) rfl
set_option maxRecDepth 20000 in
theorem wC_X6_latency : Cond.code yX6_latency cX6_latency 3 (some .int) ∈ tbk := tb_at 534 (by decide +kernel) rfl
set_option maxRecDepth 20000 in
theorem wM_X6_155 : Cond.methodLink RX6 155 yX2_ticksToArrive ∈ tbk := tb_at 535 (by decide +kernel) rfl
set_option maxRecDepth 20000 in
theorem wM_L_104 : Cond.methodLink RL 104 yX6_safeGap ∈ tbk := tb_at 536 (by decide +kernel) rfl
set_option maxRecDepth 20000 in
theorem wI_X6_safeGap : Cond.instanceMethod yX6_safeGap ∈ tbk := tb_at 537 (by decide +kernel) rfl
set_option maxRecDepth 20000 in
theorem wS_X6_safeGap : Cond.selects RX6 yX6_safeGap yX6_safeGap ∈ tbk := tb_at 538 (by decide +kernel) rfl
set_option maxRecDepth 20000 in
theorem wC_X6_safeGap : Cond.code yX6_safeGap cX6_safeGap 2 (some .int) ∈ tbk := tb_at 539 (by decide +kernel) rfl
set_option maxRecDepth 20000 in
theorem wM_X6_158 : Cond.methodLink RX6 158 yX4_spreadOfLatencies ∈ tbk := tb_at 540 (by decide +kernel) rfl
set_option maxRecDepth 20000 in
theorem wI_X4_spreadOfLatencies : Cond.instanceMethod yX4_spreadOfLatencies ∈ tbk := tb_at 541 (by decide +kernel) rfl
set_option maxRecDepth 20000 in
theorem wS_X4_spreadOfLatencies : Cond.selects RX4 yX4_spreadOfLatencies yX4_spreadOfLatencies ∈ tbk := tb_at 542 (by decide +kernel) rfl
set_option maxRecDepth 20000 in
theorem wC_X4_spreadOfLatencies : Cond.code yX4_spreadOfLatencies cX4_spreadOfLatencies 6 (some .int) ∈ tbk := tb_at 543 (by decide +kernel) rfl
set_option maxRecDepth 20000 in
theorem wM_X4_102 : Cond.methodLink RX4 102 yJ9_min_7cf53 ∈ tbk := tb_at 544 (by decide +kernel) rfl
set_option maxRecDepth 20000 in
theorem wM_X4_107 : Cond.methodLink RX4 107 yJ9_max_7cf53 ∈ tbk := tb_at 545 (by decide +kernel) rfl
set_option maxRecDepth 20000 in
theorem wM_L_108 : Cond.methodLink RL 108 yX6_packets ∈ tbk := tb_at 546 (by decide +kernel) rfl
set_option maxRecDepth 20000 in
theorem wI_X6_packets : Cond.instanceMethod yX6_packets ∈ tbk := tb_at 547 (by decide +kernel) rfl
set_option maxRecDepth 20000 in
theorem wS_X6_packets : Cond.selects RX6 yX6_packets yX6_packets ∈ tbk := tb_at 548 (by decide +kernel) rfl
set_option maxRecDepth 20000 in
theorem wC_X6_packets : Cond.code yX6_packets cX6_packets 2 (some .int) ∈ tbk := tb_at 549 (by decide +kernel) rfl
set_option maxRecDepth 20000 in
theorem wM_L_112 : Cond.methodLink RL 112 yX6_bytes ∈ tbk := tb_at 550 (by decide +kernel) rfl
set_option maxRecDepth 20000 in
theorem wI_X6_bytes : Cond.instanceMethod yX6_bytes ∈ tbk := tb_at 551 (by decide +kernel) rfl
set_option maxRecDepth 20000 in
theorem wS_X6_bytes : Cond.selects RX6 yX6_bytes yX6_bytes ∈ tbk := tb_at 552 (by decide +kernel) rfl
set_option maxRecDepth 20000 in
theorem wC_X6_bytes : Cond.code yX6_bytes cX6_bytes 2 (some .int) ∈ tbk := tb_at 553 (by decide +kernel) rfl
set_option maxRecDepth 20000 in
theorem wM_L_116 : Cond.methodLink RL 116 yX6_drops ∈ tbk := tb_at 554 (by decide +kernel) rfl
set_option maxRecDepth 20000 in
theorem wI_X6_drops : Cond.instanceMethod yX6_drops ∈ tbk := tb_at 555 (by decide +kernel) rfl
set_option maxRecDepth 20000 in
theorem wS_X6_drops : Cond.selects RX6 yX6_drops yX6_drops ∈ tbk := tb_at 556 (by decide +kernel) rfl
set_option maxRecDepth 20000 in
theorem wC_X6_drops : Cond.code yX6_drops cX6_drops 2 (some .int) ∈ tbk := tb_at 557 (by decide +kernel) rfl
set_option maxRecDepth 20000 in
theorem wM_L_120 : Cond.methodLink RL 120 yX6_imbalance ∈ tbk := tb_at 558 (by decide +kernel) rfl
set_option maxRecDepth 20000 in
theorem wI_X6_imbalance : Cond.instanceMethod yX6_imbalance ∈ tbk := tb_at 559 (by decide +kernel) rfl
set_option maxRecDepth 20000 in
theorem wS_X6_imbalance : Cond.selects RX6 yX6_imbalance yX6_imbalance ∈ tbk := tb_at 560 (by decide +kernel) rfl
set_option maxRecDepth 20000 in
theorem wC_X6_imbalance : Cond.code yX6_imbalance cX6_imbalance 1 (some .int) ∈ tbk := tb_at 561 (by decide +kernel) rfl
set_option maxRecDepth 20000 in
theorem wM_X6_170 : Cond.methodLink RX6 170 yX4_spreadOfBytes ∈ tbk := tb_at 562 (by decide +kernel) rfl
set_option maxRecDepth 20000 in
theorem wI_X4_spreadOfBytes : Cond.instanceMethod yX4_spreadOfBytes ∈ tbk := tb_at 563 (by decide +kernel) rfl
set_option maxRecDepth 20000 in
theorem wS_X4_spreadOfBytes : Cond.selects RX4 yX4_spreadOfBytes yX4_spreadOfBytes ∈ tbk := tb_at 564 (by decide +kernel) rfl
set_option maxRecDepth 20000 in
theorem wC_X4_spreadOfBytes : Cond.code yX4_spreadOfBytes cX4_spreadOfBytes 4 (some .int) ∈ tbk := tb_at 565 (by decide +kernel) rfl
set_option maxRecDepth 20000 in
theorem wM_L_124 : Cond.methodLink RL 124 yX6_nextPath ∈ tbk := tb_at 566 (by decide +kernel) rfl
set_option maxRecDepth 20000 in
theorem wI_X6_nextPath : Cond.instanceMethod yX6_nextPath ∈ tbk := tb_at 567 (by decide +kernel) rfl
set_option maxRecDepth 20000 in
theorem wS_X6_nextPath : Cond.selects RX6 yX6_nextPath yX6_nextPath ∈ tbk := tb_at 568 (by decide +kernel) rfl
set_option maxRecDepth 20000 in
theorem wC_X6_nextPath : Cond.code yX6_nextPath cX6_nextPath 2 (some .int) ∈ tbk := tb_at 569 (by decide +kernel) rfl
set_option maxRecDepth 20000 in
theorem wM_X6_173 : Cond.methodLink RX6 173 yX4_pathFor ∈ tbk := tb_at 570 (by decide +kernel) rfl
set_option maxRecDepth 20000 in
theorem wM_L_128 : Cond.methodLink RL 128 yX6_wouldReorder ∈ tbk := tb_at 571 (by decide +kernel) rfl
set_option maxRecDepth 20000 in
theorem wI_X6_wouldReorder : Cond.instanceMethod yX6_wouldReorder ∈ tbk := tb_at 572 (by decide +kernel) rfl
set_option maxRecDepth 20000 in
theorem wS_X6_wouldReorder : Cond.selects RX6 yX6_wouldReorder yX6_wouldReorder ∈ tbk := tb_at 573 (by decide +kernel) rfl
set_option maxRecDepth 20000 in
theorem wC_X6_wouldReorder : Cond.code yX6_wouldReorder cX6_wouldReorder 3 (some .int) ∈ tbk := tb_at 574 (by decide +kernel) rfl
set_option maxRecDepth 20000 in
theorem wM_X6_176 : Cond.methodLink RX6 176 yX4_wouldOvertake ∈ tbk := tb_at 575 (by decide +kernel) rfl
set_option maxRecDepth 20000 in
theorem wI_X4_wouldOvertake : Cond.instanceMethod yX4_wouldOvertake ∈ tbk := tb_at 576 (by decide +kernel) rfl
set_option maxRecDepth 20000 in
theorem wS_X4_wouldOvertake : Cond.selects RX4 yX4_wouldOvertake yX4_wouldOvertake ∈ tbk := tb_at 577 (by decide +kernel) rfl
set_option maxRecDepth 20000 in
theorem wC_X4_wouldOvertake : Cond.code yX4_wouldOvertake cX4_wouldOvertake 4 (some .boolean) ∈ tbk := tb_at 578 (by decide +kernel) rfl
set_option maxRecDepth 20000 in
theorem wM_X4_180 : Cond.methodLink RX4 180 yX1_isOvertakenBy ∈ tbk := tb_at 579 (by decide +kernel) rfl
set_option maxRecDepth 20000 in
theorem wM_L_132 : Cond.methodLink RL 132 yX6_flowlets ∈ tbk := tb_at 580 (by decide +kernel) rfl
set_option maxRecDepth 20000 in
theorem wI_X6_flowlets : Cond.instanceMethod yX6_flowlets ∈ tbk := tb_at 581 (by decide +kernel) rfl
set_option maxRecDepth 20000 in
theorem wS_X6_flowlets : Cond.selects RX6 yX6_flowlets yX6_flowlets ∈ tbk := tb_at 582 (by decide +kernel) rfl
set_option maxRecDepth 20000 in
theorem wC_X6_flowlets : Cond.code yX6_flowlets cX6_flowlets 2 (some .int) ∈ tbk := tb_at 583 (by decide +kernel) rfl
set_option maxRecDepth 20000 in
theorem wM_L_136 : Cond.methodLink RL 136 yX6_pathChanges ∈ tbk := tb_at 584 (by decide +kernel) rfl
set_option maxRecDepth 20000 in
theorem wI_X6_pathChanges : Cond.instanceMethod yX6_pathChanges ∈ tbk := tb_at 585 (by decide +kernel) rfl
set_option maxRecDepth 20000 in
theorem wS_X6_pathChanges : Cond.selects RX6 yX6_pathChanges yX6_pathChanges ∈ tbk := tb_at 586 (by decide +kernel) rfl
set_option maxRecDepth 20000 in
theorem wC_X6_pathChanges : Cond.code yX6_pathChanges cX6_pathChanges 2 (some .int) ∈ tbk := tb_at 587 (by decide +kernel) rfl
set_option maxRecDepth 20000 in
theorem wM_L_140 : Cond.methodLink RL 140 yX6_reordered ∈ tbk := tb_at 588 (by decide +kernel) rfl
set_option maxRecDepth 20000 in
theorem wI_X6_reordered : Cond.instanceMethod yX6_reordered ∈ tbk := tb_at 589 (by decide +kernel) rfl
set_option maxRecDepth 20000 in
theorem wS_X6_reordered : Cond.selects RX6 yX6_reordered yX6_reordered ∈ tbk := tb_at 590 (by decide +kernel) rfl
set_option maxRecDepth 20000 in
theorem wC_X6_reordered : Cond.code yX6_reordered cX6_reordered 2 (some .int) ∈ tbk := tb_at 591 (by decide +kernel) rfl
set_option maxRecDepth 20000 in
theorem wM_L_144 : Cond.methodLink RL 144 yX6_lastArrival ∈ tbk := tb_at 592 (by decide +kernel) rfl
set_option maxRecDepth 20000 in
theorem wI_X6_lastArrival : Cond.instanceMethod yX6_lastArrival ∈ tbk := tb_at 593 (by decide +kernel) rfl
set_option maxRecDepth 20000 in
theorem wS_X6_lastArrival : Cond.selects RX6 yX6_lastArrival yX6_lastArrival ∈ tbk := tb_at 594 (by decide +kernel) rfl
set_option maxRecDepth 20000 in
theorem wC_X6_lastArrival : Cond.code yX6_lastArrival cX6_lastArrival 2 (some .int) ∈ tbk := tb_at 595 (by decide +kernel) rfl
set_option maxRecDepth 20000 in
theorem wM_L_148 : Cond.methodLink RL 148 yX6_appendCharacter ∈ tbk := tb_at 596 (by decide +kernel) rfl
set_option maxRecDepth 20000 in
theorem wI_X6_appendCharacter : Cond.instanceMethod yX6_appendCharacter ∈ tbk := tb_at 597 (by decide +kernel) rfl
set_option maxRecDepth 20000 in
theorem wS_X6_appendCharacter : Cond.selects RX6 yX6_appendCharacter yX6_appendCharacter ∈ tbk := tb_at 598 (by decide +kernel) rfl
set_option maxRecDepth 20000 in
theorem wC_X6_appendCharacter : Cond.code yX6_appendCharacter cX6_appendCharacter 2 (some .int) ∈ tbk := tb_at 599 (by decide +kernel) rfl
set_option maxRecDepth 20000 in
theorem wM_X6_198 : Cond.methodLink RX6 198 yX5_isFull ∈ tbk := tb_at 600 (by decide +kernel) rfl
set_option maxRecDepth 20000 in
theorem wI_X5_isFull : Cond.instanceMethod yX5_isFull ∈ tbk := tb_at 601 (by decide +kernel) rfl
set_option maxRecDepth 20000 in
theorem wS_X5_isFull : Cond.selects RX5 yX5_isFull yX5_isFull ∈ tbk := tb_at 602 (by decide +kernel) rfl
set_option maxRecDepth 20000 in
theorem wC_X5_isFull : Cond.code yX5_isFull cX5_isFull 1 (some .boolean) ∈ tbk := tb_at 603 (by decide +kernel) rfl
set_option maxRecDepth 20000 in
theorem wM_X6_201 : Cond.methodLink RX6 201 yX5_append ∈ tbk := tb_at 604 (by decide +kernel) rfl
set_option maxRecDepth 20000 in
theorem wI_X5_append : Cond.instanceMethod yX5_append ∈ tbk := tb_at 605 (by decide +kernel) rfl
set_option maxRecDepth 20000 in
theorem wS_X5_append : Cond.selects RX5 yX5_append yX5_append ∈ tbk := tb_at 606 (by decide +kernel) rfl
set_option maxRecDepth 20000 in
theorem wC_X5_append : Cond.code yX5_append cX5_append 2 none ∈ tbk := tb_at 607 (by decide +kernel) rfl
set_option maxRecDepth 20000 in
theorem wM_L_152 : Cond.methodLink RL 152 yX6_clearText ∈ tbk := tb_at 608 (by decide +kernel) rfl
set_option maxRecDepth 20000 in
theorem wI_X6_clearText : Cond.instanceMethod yX6_clearText ∈ tbk := tb_at 609 (by decide +kernel) rfl
set_option maxRecDepth 20000 in
theorem wS_X6_clearText : Cond.selects RX6 yX6_clearText yX6_clearText ∈ tbk := tb_at 610 (by decide +kernel) rfl
set_option maxRecDepth 20000 in
theorem wC_X6_clearText : Cond.code yX6_clearText cX6_clearText 2 (some .int) ∈ tbk := tb_at 611 (by decide +kernel) rfl
set_option maxRecDepth 20000 in
theorem wM_X6_207 : Cond.methodLink RX6 207 yX5_clear ∈ tbk := tb_at 612 (by decide +kernel) rfl
set_option maxRecDepth 20000 in
theorem wI_X5_clear : Cond.instanceMethod yX5_clear ∈ tbk := tb_at 613 (by decide +kernel) rfl
set_option maxRecDepth 20000 in
theorem wS_X5_clear : Cond.selects RX5 yX5_clear yX5_clear ∈ tbk := tb_at 614 (by decide +kernel) rfl
set_option maxRecDepth 20000 in
theorem wC_X5_clear : Cond.code yX5_clear cX5_clear 1 none ∈ tbk := tb_at 615 (by decide +kernel) rfl
set_option maxRecDepth 20000 in
theorem wM_L_156 : Cond.methodLink RL 156 yX6_runTrace ∈ tbk := tb_at 616 (by decide +kernel) rfl
set_option maxRecDepth 20000 in
theorem wI_X6_runTrace : Cond.instanceMethod yX6_runTrace ∈ tbk := tb_at 617 (by decide +kernel) rfl
set_option maxRecDepth 20000 in
theorem wS_X6_runTrace : Cond.selects RX6 yX6_runTrace yX6_runTrace ∈ tbk := tb_at 618 (by decide +kernel) rfl
set_option maxRecDepth 20000 in
theorem wC_X6_runTrace : Cond.code yX6_runTrace cX6_runTrace 4 (some .int) ∈ tbk := tb_at 619 (by decide +kernel) rfl
set_option maxRecDepth 20000 in
theorem wM_X6_210 : Cond.methodLink RX6 210 yX5_errorPosition ∈ tbk := tb_at 620 (by decide +kernel) rfl
set_option maxRecDepth 20000 in
theorem wI_X5_errorPosition : Cond.instanceMethod yX5_errorPosition ∈ tbk := tb_at 621 (by decide +kernel) rfl
set_option maxRecDepth 20000 in
theorem wS_X5_errorPosition : Cond.selects RX5 yX5_errorPosition yX5_errorPosition ∈ tbk := tb_at 622 (by decide +kernel) rfl
set_option maxRecDepth 20000 in
theorem wC_X5_errorPosition : Cond.code yX5_errorPosition cX5_errorPosition 3 (some .int) ∈ tbk := tb_at 623 (by decide +kernel) rfl
set_option maxRecDepth 20000 in
theorem wM_X5_25 : Cond.methodLink RX5 25 yX5_rewind ∈ tbk := tb_at 624 (by decide +kernel) rfl
set_option maxRecDepth 20000 in
theorem wI_X5_rewind : Cond.instanceMethod yX5_rewind ∈ tbk := tb_at 625 (by decide +kernel) rfl
set_option maxRecDepth 20000 in
theorem wS_X5_rewind : Cond.selects RX5 yX5_rewind yX5_rewind ∈ tbk := tb_at 626 (by decide +kernel) rfl
set_option maxRecDepth 20000 in
theorem wC_X5_rewind : Cond.code yX5_rewind cX5_rewind 1 none ∈ tbk := tb_at 627 (by decide +kernel) rfl
set_option maxRecDepth 20000 in
theorem wM_X5_22 : Cond.methodLink RX5 22 yX5_skipSpaces ∈ tbk := tb_at 628 (by decide +kernel) rfl
set_option maxRecDepth 20000 in
theorem wI_X5_skipSpaces : Cond.instanceMethod yX5_skipSpaces ∈ tbk := tb_at 629 (by decide +kernel) rfl
set_option maxRecDepth 20000 in
theorem wS_X5_skipSpaces : Cond.selects RX5 yX5_skipSpaces yX5_skipSpaces ∈ tbk := tb_at 630 (by decide +kernel) rfl
set_option maxRecDepth 20000 in
theorem wC_X5_skipSpaces : Cond.code yX5_skipSpaces cX5_skipSpaces 1 none ∈ tbk := tb_at 631 (by decide +kernel) rfl
set_option maxRecDepth 20000 in
theorem wM_X5_56 : Cond.methodLink RX5 56 yX5_codeHere ∈ tbk := tb_at 632 (by decide +kernel) rfl
set_option maxRecDepth 20000 in
theorem wI_X5_codeHere : Cond.instanceMethod yX5_codeHere ∈ tbk := tb_at 633 (by decide +kernel) rfl
set_option maxRecDepth 20000 in
theorem wS_X5_codeHere : Cond.selects RX5 yX5_codeHere yX5_codeHere ∈ tbk := tb_at 634 (by decide +kernel) rfl
set_option maxRecDepth 20000 in
theorem wC_X5_codeHere : Cond.code yX5_codeHere cX5_codeHere 1 (some .int) ∈ tbk := tb_at 635 (by decide +kernel) rfl
set_option maxRecDepth 20000 in
theorem wM_X5_28 : Cond.methodLink RX5 28 yX5_isAtEnd ∈ tbk := tb_at 636 (by decide +kernel) rfl
set_option maxRecDepth 20000 in
theorem wI_X5_isAtEnd : Cond.instanceMethod yX5_isAtEnd ∈ tbk := tb_at 637 (by decide +kernel) rfl
set_option maxRecDepth 20000 in
theorem wS_X5_isAtEnd : Cond.selects RX5 yX5_isAtEnd yX5_isAtEnd ∈ tbk := tb_at 638 (by decide +kernel) rfl
set_option maxRecDepth 20000 in
theorem wC_X5_isAtEnd : Cond.code yX5_isAtEnd cX5_isAtEnd 1 (some .boolean) ∈ tbk := tb_at 639 (by decide +kernel) rfl
set_option maxRecDepth 20000 in
theorem wM_X5_32 : Cond.methodLink RX5 32 yX5_readItem ∈ tbk := tb_at 640 (by decide +kernel) rfl
set_option maxRecDepth 20000 in
theorem wI_X5_readItem : Cond.instanceMethod yX5_readItem ∈ tbk := tb_at 641 (by decide +kernel) rfl
set_option maxRecDepth 20000 in
theorem wS_X5_readItem : Cond.selects RX5 yX5_readItem yX5_readItem ∈ tbk := tb_at 642 (by decide +kernel) rfl
set_option maxRecDepth 20000 in
theorem wC_X5_readItem : Cond.code yX5_readItem cX5_readItem 1 (some .boolean) ∈ tbk := tb_at 643 (by decide +kernel) rfl
set_option maxRecDepth 20000 in
theorem wM_X5_35 : Cond.methodLink RX5 35 yX5_accept ∈ tbk := tb_at 644 (by decide +kernel) rfl
set_option maxRecDepth 20000 in
theorem wI_X5_accept : Cond.instanceMethod yX5_accept ∈ tbk := tb_at 645 (by decide +kernel) rfl
set_option maxRecDepth 20000 in
theorem wS_X5_accept : Cond.selects RX5 yX5_accept yX5_accept ∈ tbk := tb_at 646 (by decide +kernel) rfl
set_option maxRecDepth 20000 in
theorem wC_X5_accept : Cond.code yX5_accept cX5_accept 2 (some .boolean) ∈ tbk := tb_at 647 (by decide +kernel) rfl
set_option maxRecDepth 20000 in
theorem wM_X5_43 : Cond.methodLink RX5 43 yX5_readNumber ∈ tbk := tb_at 648 (by decide +kernel) rfl
set_option maxRecDepth 20000 in
theorem wI_X5_readNumber : Cond.instanceMethod yX5_readNumber ∈ tbk := tb_at 649 (by decide +kernel) rfl
set_option maxRecDepth 20000 in
theorem wS_X5_readNumber : Cond.selects RX5 yX5_readNumber yX5_readNumber ∈ tbk := tb_at 650 (by decide +kernel) rfl
set_option maxRecDepth 20000 in
theorem wC_X5_readNumber : Cond.code yX5_readNumber cX5_readNumber 3 (some .int) ∈ tbk := tb_at 651 (by decide +kernel) rfl
set_option maxRecDepth 20000 in
theorem wM_X5_53 : Cond.methodLink RX5 53 yX5_isDigitHere ∈ tbk := tb_at 652 (by decide +kernel) rfl
set_option maxRecDepth 20000 in
theorem wI_X5_isDigitHere : Cond.instanceMethod yX5_isDigitHere ∈ tbk := tb_at 653 (by decide +kernel) rfl
set_option maxRecDepth 20000 in
theorem wS_X5_isDigitHere : Cond.selects RX5 yX5_isDigitHere yX5_isDigitHere ∈ tbk := tb_at 654 (by decide +kernel) rfl
set_option maxRecDepth 20000 in
theorem wC_X5_isDigitHere : Cond.code yX5_isDigitHere cX5_isDigitHere 1 (some .boolean) ∈ tbk := tb_at 655 (by decide +kernel) rfl
set_option maxRecDepth 20000 in
theorem wM_X5_59 : Cond.methodLinkNest RX5 59 yX6_isBetween "FlowletSwitch" ∈ tbk := tb_at 656 (by decide +kernel) rfl
set_option maxRecDepth 20000 in
theorem wM_X6_213 : Cond.methodLink RX6 213 yX5_rewind ∈ tbk := tb_at 657 (by decide +kernel) rfl
set_option maxRecDepth 20000 in
theorem wM_X6_216 : Cond.methodLink RX6 216 yX5_readItem ∈ tbk := tb_at 658 (by decide +kernel) rfl
set_option maxRecDepth 20000 in
theorem wM_X6_219 : Cond.methodLink RX6 219 yX6_runItem ∈ tbk := tb_at 659 (by decide +kernel) rfl
set_option maxRecDepth 20000 in
theorem wI_X6_runItem : Cond.instanceMethod yX6_runItem ∈ tbk := tb_at 661 (by decide +kernel) rfl
set_option maxRecDepth 20000 in
theorem wC_X6_runItem : Cond.code yX6_runItem cX6_runItem 2 (some .boolean) ∈ tbk := tb_at 662 (by decide +kernel) rfl
set_option maxRecDepth 20000 in
theorem wM_L_160 : Cond.methodLink RL 160 yX6_undo ∈ tbk := tb_at 663 (by decide +kernel) rfl
set_option maxRecDepth 20000 in
theorem wI_X6_undo : Cond.instanceMethod yX6_undo ∈ tbk := tb_at 664 (by decide +kernel) rfl
set_option maxRecDepth 20000 in
theorem wS_X6_undo : Cond.selects RX6 yX6_undo yX6_undo ∈ tbk := tb_at 665 (by decide +kernel) rfl
set_option maxRecDepth 20000 in
theorem wC_X6_undo : Cond.code yX6_undo cX6_undo 1 (some .int) ∈ tbk := tb_at 666 (by decide +kernel) rfl
set_option maxRecDepth 20000 in
theorem wM_X6_225 : Cond.methodLink RX6 225 yX3_popInto ∈ tbk := tb_at 667 (by decide +kernel) rfl
set_option maxRecDepth 20000 in
theorem wI_X3_popInto : Cond.instanceMethod yX3_popInto ∈ tbk := tb_at 668 (by decide +kernel) rfl
set_option maxRecDepth 20000 in
theorem wS_X3_popInto : Cond.selects RX3 yX3_popInto yX3_popInto ∈ tbk := tb_at 669 (by decide +kernel) rfl
set_option maxRecDepth 20000 in
theorem wC_X3_popInto : Cond.code yX3_popInto cX3_popInto 2 none ∈ tbk := tb_at 670 (by decide +kernel) rfl
set_option maxRecDepth 20000 in
theorem wM_L_164 : Cond.methodLink RL 164 yX6_save ∈ tbk := tb_at 671 (by decide +kernel) rfl
set_option maxRecDepth 20000 in
theorem wI_X6_save : Cond.instanceMethod yX6_save ∈ tbk := tb_at 672 (by decide +kernel) rfl
set_option maxRecDepth 20000 in
theorem wS_X6_save : Cond.selects RX6 yX6_save yX6_save ∈ tbk := tb_at 673 (by decide +kernel) rfl
set_option maxRecDepth 20000 in
theorem wC_X6_save : Cond.code yX6_save cX6_save 2 (some .int) ∈ tbk := tb_at 674 (by decide +kernel) rfl
set_option maxRecDepth 20000 in
theorem wM_X6_228 : Cond.methodLink RX6 228 yX4_copyFrom ∈ tbk := tb_at 675 (by decide +kernel) rfl
set_option maxRecDepth 20000 in
theorem wM_L_168 : Cond.methodLink RL 168 yX6_restore ∈ tbk := tb_at 676 (by decide +kernel) rfl
set_option maxRecDepth 20000 in
theorem wI_X6_restore : Cond.instanceMethod yX6_restore ∈ tbk := tb_at 677 (by decide +kernel) rfl
set_option maxRecDepth 20000 in
theorem wS_X6_restore : Cond.selects RX6 yX6_restore yX6_restore ∈ tbk := tb_at 678 (by decide +kernel) rfl
set_option maxRecDepth 20000 in
theorem wC_X6_restore : Cond.code yX6_restore cX6_restore 2 (some .int) ∈ tbk := tb_at 679 (by decide +kernel) rfl
set_option maxRecDepth 20000 in
theorem wM_X6_231 : Cond.methodLink RX6 231 yX3_discardAll ∈ tbk := tb_at 680 (by decide +kernel) rfl
set_option maxRecDepth 20000 in
theorem wI_X3_discardAll : Cond.instanceMethod yX3_discardAll ∈ tbk := tb_at 681 (by decide +kernel) rfl
set_option maxRecDepth 20000 in
theorem wS_X3_discardAll : Cond.selects RX3 yX3_discardAll yX3_discardAll ∈ tbk := tb_at 682 (by decide +kernel) rfl
set_option maxRecDepth 20000 in
theorem wC_X3_discardAll : Cond.code yX3_discardAll cX3_discardAll 1 none ∈ tbk := tb_at 683 (by decide +kernel) rfl
set_option maxRecDepth 20000 in
theorem wL_L_10 : Cond.classLink RL 10 RX7 ∈ tbk := tb_at 684 (by decide +kernel) rfl
set_option maxRecDepth 20000 in
theorem wB_X7 : Cond.instantiable RX7 11 ∈ tbk := tb_at 685 (by decide +kernel) rfl
set_option maxRecDepth 20000 in
theorem wM_L_12 : Cond.methodLink RL 12 yX7_init ∈ tbk := tb_at 686 (by decide +kernel) rfl
set_option maxRecDepth 20000 in
theorem wI_X7_init : Cond.instanceMethod yX7_init ∈ tbk := tb_at 687 (by decide +kernel) rfl
set_option maxRecDepth 20000 in
theorem wC_X7_init : Cond.code yX7_init cX7_init 1 none ∈ tbk := tb_at 688 (by decide +kernel) rfl
set_option maxRecDepth 20000 in
theorem wM_X7_1 : Cond.methodLink RX7 1 objectInit ∈ tbk := tb_at 689 (by decide +kernel) rfl
set_option maxRecDepth 20000 in
theorem wM_X7_32 : Cond.methodLink RX7 32 yX7_makeNew ∈ tbk := tb_at 690 (by decide +kernel) rfl
set_option maxRecDepth 20000 in
theorem wI_X7_makeNew : Cond.instanceMethod yX7_makeNew ∈ tbk := tb_at 692 (by decide +kernel) rfl
set_option maxRecDepth 20000 in
theorem wC_X7_makeNew : Cond.code yX7_makeNew cX7_makeNew 4 none ∈ tbk := tb_at 693 (by decide +kernel) rfl
set_option maxRecDepth 20000 in
theorem wF_X7_7 : Cond.fieldLink RX7 7 "FlowletSwitchModel" "now" "[I" ∈ tbk := tb_at 694 (by decide +kernel) rfl
set_option maxRecDepth 20000 in
theorem wF_X7_13 : Cond.fieldLink RX7 13 "FlowletSwitchModel" "saved" "[I" ∈ tbk := tb_at 695 (by decide +kernel) rfl
set_option maxRecDepth 20000 in
theorem wF_X7_40 : Cond.fieldLink RX7 40 "FlowletSwitchModel" "savedCount" "I" ∈ tbk := tb_at 696 (by decide +kernel) rfl
set_option maxRecDepth 20000 in
theorem wF_X7_16 : Cond.fieldLink RX7 16 "FlowletSwitchModel" "slots" "[I" ∈ tbk := tb_at 697 (by decide +kernel) rfl
set_option maxRecDepth 20000 in
theorem wF_X7_19 : Cond.fieldLink RX7 19 "FlowletSwitchModel" "isFilled" "[Z" ∈ tbk := tb_at 698 (by decide +kernel) rfl
set_option maxRecDepth 20000 in
theorem wF_X7_23 : Cond.fieldLink RX7 23 "FlowletSwitchModel" "text" "[I" ∈ tbk := tb_at 699 (by decide +kernel) rfl
set_option maxRecDepth 20000 in
theorem wF_X7_129 : Cond.fieldLink RX7 129 "FlowletSwitchModel" "length" "I" ∈ tbk := tb_at 700 (by decide +kernel) rfl
set_option maxRecDepth 20000 in
theorem wF_X7_132 : Cond.fieldLink RX7 132 "FlowletSwitchModel" "at" "I" ∈ tbk := tb_at 701 (by decide +kernel) rfl
set_option maxRecDepth 20000 in
theorem wF_X7_144 : Cond.fieldLink RX7 144 "FlowletSwitchModel" "items" "I" ∈ tbk := tb_at 702 (by decide +kernel) rfl
set_option maxRecDepth 20000 in
theorem wF_X7_26 : Cond.fieldLink RX7 26 "FlowletSwitchModel" "itemFlow" "[I" ∈ tbk := tb_at 703 (by decide +kernel) rfl
set_option maxRecDepth 20000 in
theorem wF_X7_29 : Cond.fieldLink RX7 29 "FlowletSwitchModel" "itemNumber" "[I" ∈ tbk := tb_at 704 (by decide +kernel) rfl
set_option maxRecDepth 20000 in
theorem wM_L_17 : Cond.methodLink RL 17 yX7_configure ∈ tbk := tb_at 728 (by decide +kernel) rfl
set_option maxRecDepth 20000 in
theorem wI_X7_configure : Cond.instanceMethod yX7_configure ∈ tbk := tb_at 729 (by decide +kernel) rfl
set_option maxRecDepth 20000 in
theorem wS_X7_configure : Cond.selects RX7 yX7_configure yX7_configure ∈ tbk := tb_at 730 (by decide +kernel) rfl
set_option maxRecDepth 20000 in
theorem wC_X7_configure : Cond.code yX7_configure cX7_configure 5 (some .int) ∈ tbk := tb_at 731 (by decide +kernel) rfl
set_option maxRecDepth 20000 in
theorem wM_X7_36 : Cond.methodLink RX7 36 yX7_in ∈ tbk := tb_at 732 (by decide +kernel) rfl
set_option maxRecDepth 20000 in
theorem wT_X7_in : Cond.static yX7_in ∈ tbk := tb_at 733 (by decide +kernel) rfl
set_option maxRecDepth 20000 in
theorem wC_X7_in : Cond.code yX7_in cX7_in 3 (some .boolean) ∈ tbk := tb_at 734 (by decide +kernel) rfl
set_option maxRecDepth 20000 in
theorem wM_X7_44 : Cond.methodLink RX7 44 yX7_keep ∈ tbk := tb_at 735 (by decide +kernel) rfl
set_option maxRecDepth 20000 in
theorem wI_X7_keep : Cond.instanceMethod yX7_keep ∈ tbk := tb_at 737 (by decide +kernel) rfl
set_option maxRecDepth 20000 in
theorem wC_X7_keep : Cond.code yX7_keep cX7_keep 2 none ∈ tbk := tb_at 738 (by decide +kernel) rfl
set_option maxRecDepth 20000 in
theorem wM_X7_47 : Cond.methodLink RX7 47 yX7_slotOf ∈ tbk := tb_at 739 (by decide +kernel) rfl
set_option maxRecDepth 20000 in
theorem wI_X7_slotOf : Cond.instanceMethod yX7_slotOf ∈ tbk := tb_at 741 (by decide +kernel) rfl
set_option maxRecDepth 20000 in
theorem wC_X7_slotOf : Cond.code yX7_slotOf cX7_slotOf 2 (some .int) ∈ tbk := tb_at 742 (by decide +kernel) rfl
set_option maxRecDepth 20000 in
theorem wM_L_21 : Cond.methodLink RL 21 yX7_setDelay ∈ tbk := tb_at 743 (by decide +kernel) rfl
set_option maxRecDepth 20000 in
theorem wI_X7_setDelay : Cond.instanceMethod yX7_setDelay ∈ tbk := tb_at 744 (by decide +kernel) rfl
set_option maxRecDepth 20000 in
theorem wS_X7_setDelay : Cond.selects RX7 yX7_setDelay yX7_setDelay ∈ tbk := tb_at 745 (by decide +kernel) rfl
set_option maxRecDepth 20000 in
theorem wC_X7_setDelay : Cond.code yX7_setDelay cX7_setDelay 3 (some .int) ∈ tbk := tb_at 746 (by decide +kernel) rfl
set_option maxRecDepth 20000 in
theorem wM_X7_51 : Cond.methodLink RX7 51 yX7_isPath ∈ tbk := tb_at 747 (by decide +kernel) rfl
set_option maxRecDepth 20000 in
theorem wI_X7_isPath : Cond.instanceMethod yX7_isPath ∈ tbk := tb_at 749 (by decide +kernel) rfl
set_option maxRecDepth 20000 in
theorem wC_X7_isPath : Cond.code yX7_isPath cX7_isPath 2 (some .boolean) ∈ tbk := tb_at 750 (by decide +kernel) rfl
set_option maxRecDepth 20000 in
theorem wM_X7_55 : Cond.methodLink RX7 55 yX7_change ∈ tbk := tb_at 751 (by decide +kernel) rfl
set_option maxRecDepth 20000 in
theorem wI_X7_change : Cond.instanceMethod yX7_change ∈ tbk := tb_at 753 (by decide +kernel) rfl
set_option maxRecDepth 20000 in
theorem wC_X7_change : Cond.code yX7_change cX7_change 4 (some .int) ∈ tbk := tb_at 754 (by decide +kernel) rfl
set_option maxRecDepth 20000 in
theorem wM_L_25 : Cond.methodLink RL 25 yX7_setRate ∈ tbk := tb_at 755 (by decide +kernel) rfl
set_option maxRecDepth 20000 in
theorem wI_X7_setRate : Cond.instanceMethod yX7_setRate ∈ tbk := tb_at 756 (by decide +kernel) rfl
set_option maxRecDepth 20000 in
theorem wS_X7_setRate : Cond.selects RX7 yX7_setRate yX7_setRate ∈ tbk := tb_at 757 (by decide +kernel) rfl
set_option maxRecDepth 20000 in
theorem wC_X7_setRate : Cond.code yX7_setRate cX7_setRate 3 (some .int) ∈ tbk := tb_at 758 (by decide +kernel) rfl
set_option maxRecDepth 20000 in
theorem wM_L_29 : Cond.methodLink RL 29 yX7_setRemoteLevel ∈ tbk := tb_at 759 (by decide +kernel) rfl
set_option maxRecDepth 20000 in
theorem wI_X7_setRemoteLevel : Cond.instanceMethod yX7_setRemoteLevel ∈ tbk := tb_at 760 (by decide +kernel) rfl
set_option maxRecDepth 20000 in
theorem wS_X7_setRemoteLevel : Cond.selects RX7 yX7_setRemoteLevel yX7_setRemoteLevel ∈ tbk := tb_at 761 (by decide +kernel) rfl
set_option maxRecDepth 20000 in
theorem wC_X7_setRemoteLevel : Cond.code yX7_setRemoteLevel cX7_setRemoteLevel 3 (some .int) ∈ tbk := tb_at 762 (by decide +kernel) rfl
set_option maxRecDepth 20000 in
theorem wM_L_34 : Cond.methodLink RL 34 yX7_setMode ∈ tbk := tb_at 763 (by decide +kernel) rfl
set_option maxRecDepth 20000 in
theorem wI_X7_setMode : Cond.instanceMethod yX7_setMode ∈ tbk := tb_at 764 (by decide +kernel) rfl
set_option maxRecDepth 20000 in
theorem wS_X7_setMode : Cond.selects RX7 yX7_setMode yX7_setMode ∈ tbk := tb_at 765 (by decide +kernel) rfl
set_option maxRecDepth 20000 in
theorem wC_X7_setMode : Cond.code yX7_setMode cX7_setMode 2 (some .int) ∈ tbk := tb_at 766 (by decide +kernel) rfl
set_option maxRecDepth 20000 in
theorem wM_L_38 : Cond.methodLink RL 38 yX7_setDetection ∈ tbk := tb_at 767 (by decide +kernel) rfl
set_option maxRecDepth 20000 in
theorem wI_X7_setDetection : Cond.instanceMethod yX7_setDetection ∈ tbk := tb_at 768 (by decide +kernel) rfl
set_option maxRecDepth 20000 in
theorem wS_X7_setDetection : Cond.selects RX7 yX7_setDetection yX7_setDetection ∈ tbk := tb_at 769 (by decide +kernel) rfl
set_option maxRecDepth 20000 in
theorem wC_X7_setDetection : Cond.code yX7_setDetection cX7_setDetection 2 (some .int) ∈ tbk := tb_at 770 (by decide +kernel) rfl
set_option maxRecDepth 20000 in
theorem wM_L_42 : Cond.methodLink RL 42 yX7_setGap ∈ tbk := tb_at 771 (by decide +kernel) rfl
set_option maxRecDepth 20000 in
theorem wI_X7_setGap : Cond.instanceMethod yX7_setGap ∈ tbk := tb_at 772 (by decide +kernel) rfl
set_option maxRecDepth 20000 in
theorem wS_X7_setGap : Cond.selects RX7 yX7_setGap yX7_setGap ∈ tbk := tb_at 773 (by decide +kernel) rfl
set_option maxRecDepth 20000 in
theorem wC_X7_setGap : Cond.code yX7_setGap cX7_setGap 2 (some .int) ∈ tbk := tb_at 774 (by decide +kernel) rfl
set_option maxRecDepth 20000 in
theorem wM_L_46 : Cond.methodLink RL 46 yX7_setShift ∈ tbk := tb_at 775 (by decide +kernel) rfl
set_option maxRecDepth 20000 in
theorem wI_X7_setShift : Cond.instanceMethod yX7_setShift ∈ tbk := tb_at 776 (by decide +kernel) rfl
set_option maxRecDepth 20000 in
theorem wS_X7_setShift : Cond.selects RX7 yX7_setShift yX7_setShift ∈ tbk := tb_at 777 (by decide +kernel) rfl
set_option maxRecDepth 20000 in
theorem wC_X7_setShift : Cond.code yX7_setShift cX7_setShift 2 (some .int) ∈ tbk := tb_at 778 (by decide +kernel) rfl
set_option maxRecDepth 20000 in
theorem wM_L_50 : Cond.methodLink RL 50 yX7_setGenerator ∈ tbk := tb_at 779 (by decide +kernel) rfl
set_option maxRecDepth 20000 in
theorem wI_X7_setGenerator : Cond.instanceMethod yX7_setGenerator ∈ tbk := tb_at 780 (by decide +kernel) rfl
set_option maxRecDepth 20000 in
theorem wS_X7_setGenerator : Cond.selects RX7 yX7_setGenerator yX7_setGenerator ∈ tbk := tb_at 781 (by decide +kernel) rfl
set_option maxRecDepth 20000 in
theorem wC_X7_setGenerator : Cond.code yX7_setGenerator cX7_setGenerator 2 (some .int) ∈ tbk := tb_at 782 (by decide +kernel) rfl
set_option maxRecDepth 20000 in
theorem wM_L_54 : Cond.methodLink RL 54 yX7_advance ∈ tbk := tb_at 783 (by decide +kernel) rfl
set_option maxRecDepth 20000 in
theorem wI_X7_advance : Cond.instanceMethod yX7_advance ∈ tbk := tb_at 784 (by decide +kernel) rfl
set_option maxRecDepth 20000 in
theorem wS_X7_advance : Cond.selects RX7 yX7_advance yX7_advance ∈ tbk := tb_at 785 (by decide +kernel) rfl
set_option maxRecDepth 20000 in
theorem wC_X7_advance : Cond.code yX7_advance cX7_advance 3 (some .int) ∈ tbk := tb_at 786 (by decide +kernel) rfl
set_option maxRecDepth 20000 in
theorem wM_X7_66 : Cond.methodLink RX7 66 yX7_whyNotPass ∈ tbk := tb_at 787 (by decide +kernel) rfl
set_option maxRecDepth 20000 in
theorem wI_X7_whyNotPass : Cond.instanceMethod yX7_whyNotPass ∈ tbk := tb_at 789 (by decide +kernel) rfl
set_option maxRecDepth 20000 in
theorem wC_X7_whyNotPass : Cond.code yX7_whyNotPass cX7_whyNotPass 2 (some .int) ∈ tbk := tb_at 790 (by decide +kernel) rfl
set_option maxRecDepth 20000 in
theorem wK_X7_65 : Cond.constant RX7 65 (1000000) ∈ tbk := tb_at 791 (by decide +kernel) rfl
set_option maxRecDepth 20000 in
theorem wM_X7_69 : Cond.methodLink RX7 69 yX7_pass ∈ tbk := tb_at 792 (by decide +kernel) rfl
set_option maxRecDepth 20000 in
theorem wI_X7_pass : Cond.instanceMethod yX7_pass ∈ tbk := tb_at 794 (by decide +kernel) rfl
set_option maxRecDepth 20000 in
theorem wC_X7_pass : Cond.code yX7_pass cX7_pass 3 (some .int) ∈ tbk := tb_at 795 (by decide +kernel) rfl
set_option maxRecDepth 20000 in
theorem wM_X7_62 : Cond.methodLink RX7 62 yX7_tick ∈ tbk := tb_at 796 (by decide +kernel) rfl
set_option maxRecDepth 20000 in
theorem wI_X7_tick : Cond.instanceMethod yX7_tick ∈ tbk := tb_at 798 (by decide +kernel) rfl
set_option maxRecDepth 20000 in
theorem wC_X7_tick : Cond.code yX7_tick cX7_tick 2 none ∈ tbk := tb_at 799 (by decide +kernel) rfl
set_option maxRecDepth 20000 in
theorem wM_X7_59 : Cond.methodLink RX7 59 yX7_age ∈ tbk := tb_at 800 (by decide +kernel) rfl
set_option maxRecDepth 20000 in
theorem wI_X7_age : Cond.instanceMethod yX7_age ∈ tbk := tb_at 802 (by decide +kernel) rfl
set_option maxRecDepth 20000 in
theorem wC_X7_age : Cond.code yX7_age cX7_age 2 none ∈ tbk := tb_at 803 (by decide +kernel) rfl
set_option maxRecDepth 20000 in
theorem wM_L_58 : Cond.methodLink RL 58 yX7_send ∈ tbk := tb_at 804 (by decide +kernel) rfl
set_option maxRecDepth 20000 in
theorem wI_X7_send : Cond.instanceMethod yX7_send ∈ tbk := tb_at 805 (by decide +kernel) rfl
set_option maxRecDepth 20000 in
theorem wS_X7_send : Cond.selects RX7 yX7_send yX7_send ∈ tbk := tb_at 806 (by decide +kernel) rfl
set_option maxRecDepth 20000 in
theorem wC_X7_send : Cond.code yX7_send cX7_send 3 (some .int) ∈ tbk := tb_at 807 (by decide +kernel) rfl
set_option maxRecDepth 20000 in
theorem wM_X7_108 : Cond.methodLink RX7 108 yX7_isFlow ∈ tbk := tb_at 808 (by decide +kernel) rfl
set_option maxRecDepth 20000 in
theorem wT_X7_isFlow : Cond.static yX7_isFlow ∈ tbk := tb_at 809 (by decide +kernel) rfl
set_option maxRecDepth 20000 in
theorem wC_X7_isFlow : Cond.code yX7_isFlow cX7_isFlow 1 (some .boolean) ∈ tbk := tb_at 810 (by decide +kernel) rfl
set_option maxRecDepth 20000 in
theorem wM_X7_111 : Cond.methodLink RX7 111 yX7_isSize ∈ tbk := tb_at 811 (by decide +kernel) rfl
set_option maxRecDepth 20000 in
theorem wT_X7_isSize : Cond.static yX7_isSize ∈ tbk := tb_at 812 (by decide +kernel) rfl
set_option maxRecDepth 20000 in
theorem wC_X7_isSize : Cond.code yX7_isSize cX7_isSize 1 (some .boolean) ∈ tbk := tb_at 813 (by decide +kernel) rfl
set_option maxRecDepth 20000 in
theorem wM_X7_114 : Cond.methodLink RX7 114 yX7_transmit ∈ tbk := tb_at 814 (by decide +kernel) rfl
set_option maxRecDepth 20000 in
theorem wI_X7_transmit : Cond.instanceMethod yX7_transmit ∈ tbk := tb_at 816 (by decide +kernel) rfl
set_option maxRecDepth 20000 in
theorem wC_X7_transmit : Cond.code yX7_transmit cX7_transmit 6 (some .int) ∈ tbk := tb_at 817 (by decide +kernel) rfl
set_option maxRecDepth 20000 in
theorem wM_X7_96 : Cond.methodLink RX7 96 yX7_choose ∈ tbk := tb_at 818 (by decide +kernel) rfl
set_option maxRecDepth 20000 in
theorem wI_X7_choose : Cond.instanceMethod yX7_choose ∈ tbk := tb_at 820 (by decide +kernel) rfl
set_option maxRecDepth 20000 in
theorem wC_X7_choose : Cond.code yX7_choose cX7_choose 3 (some .int) ∈ tbk := tb_at 821 (by decide +kernel) rfl
set_option maxRecDepth 20000 in
theorem wM_X7_81 : Cond.methodLink RX7 81 yX7_isLive ∈ tbk := tb_at 822 (by decide +kernel) rfl
set_option maxRecDepth 20000 in
theorem wI_X7_isLive : Cond.instanceMethod yX7_isLive ∈ tbk := tb_at 824 (by decide +kernel) rfl
set_option maxRecDepth 20000 in
theorem wC_X7_isLive : Cond.code yX7_isLive cX7_isLive 3 (some .boolean) ∈ tbk := tb_at 825 (by decide +kernel) rfl
set_option maxRecDepth 20000 in
theorem wM_X7_84 : Cond.methodLink RX7 84 yX7_leastLoaded ∈ tbk := tb_at 826 (by decide +kernel) rfl
set_option maxRecDepth 20000 in
theorem wI_X7_leastLoaded : Cond.instanceMethod yX7_leastLoaded ∈ tbk := tb_at 828 (by decide +kernel) rfl
set_option maxRecDepth 20000 in
theorem wC_X7_leastLoaded : Cond.code yX7_leastLoaded cX7_leastLoaded 4 (some .int) ∈ tbk := tb_at 829 (by decide +kernel) rfl
set_option maxRecDepth 20000 in
theorem wM_X7_72 : Cond.methodLink RX7 72 yX7_metricOf ∈ tbk := tb_at 830 (by decide +kernel) rfl
set_option maxRecDepth 20000 in
theorem wI_X7_metricOf : Cond.instanceMethod yX7_metricOf ∈ tbk := tb_at 832 (by decide +kernel) rfl
set_option maxRecDepth 20000 in
theorem wC_X7_metricOf : Cond.code yX7_metricOf cX7_metricOf 3 (some .int) ∈ tbk := tb_at 833 (by decide +kernel) rfl
set_option maxRecDepth 20000 in
theorem wM_X7_87 : Cond.methodLink RX7 87 yX7_nextGenerator ∈ tbk := tb_at 834 (by decide +kernel) rfl
set_option maxRecDepth 20000 in
theorem wI_X7_nextGenerator : Cond.instanceMethod yX7_nextGenerator ∈ tbk := tb_at 836 (by decide +kernel) rfl
set_option maxRecDepth 20000 in
theorem wC_X7_nextGenerator : Cond.code yX7_nextGenerator cX7_nextGenerator 1 (some .int) ∈ tbk := tb_at 837 (by decide +kernel) rfl
set_option maxRecDepth 20000 in
theorem wK_X7_75 : Cond.constantLong RX7 75 (1103515245) ∈ tbk := tb_at 838 (by decide +kernel) rfl
set_option maxRecDepth 20000 in
theorem wK_X7_77 : Cond.constantLong RX7 77 (12345) ∈ tbk := tb_at 839 (by decide +kernel) rfl
set_option maxRecDepth 20000 in
theorem wK_X7_79 : Cond.constantLong RX7 79 (2147483648) ∈ tbk := tb_at 840 (by decide +kernel) rfl
set_option maxRecDepth 20000 in
theorem wK_X7_91 : Cond.constant RX7 91 (65536) ∈ tbk := tb_at 841 (by decide +kernel) rfl
set_option maxRecDepth 20000 in
theorem wM_X7_99 : Cond.methodLink RX7 99 yX7_take ∈ tbk := tb_at 842 (by decide +kernel) rfl
set_option maxRecDepth 20000 in
theorem wI_X7_take : Cond.instanceMethod yX7_take ∈ tbk := tb_at 844 (by decide +kernel) rfl
set_option maxRecDepth 20000 in
theorem wC_X7_take : Cond.code yX7_take cX7_take 4 none ∈ tbk := tb_at 845 (by decide +kernel) rfl
set_option maxRecDepth 20000 in
theorem wM_X7_92 : Cond.methodLink RX7 92 yX7_isByFlowlets ∈ tbk := tb_at 846 (by decide +kernel) rfl
set_option maxRecDepth 20000 in
theorem wI_X7_isByFlowlets : Cond.instanceMethod yX7_isByFlowlets ∈ tbk := tb_at 848 (by decide +kernel) rfl
set_option maxRecDepth 20000 in
theorem wC_X7_isByFlowlets : Cond.code yX7_isByFlowlets cX7_isByFlowlets 1 (some .boolean) ∈ tbk := tb_at 849 (by decide +kernel) rfl
set_option maxRecDepth 20000 in
theorem wM_X7_102 : Cond.methodLink RX7 102 yX7_isTooBusy ∈ tbk := tb_at 850 (by decide +kernel) rfl
set_option maxRecDepth 20000 in
theorem wI_X7_isTooBusy : Cond.instanceMethod yX7_isTooBusy ∈ tbk := tb_at 852 (by decide +kernel) rfl
set_option maxRecDepth 20000 in
theorem wC_X7_isTooBusy : Cond.code yX7_isTooBusy cX7_isTooBusy 2 (some .boolean) ∈ tbk := tb_at 853 (by decide +kernel) rfl
set_option maxRecDepth 20000 in
theorem wM_X7_105 : Cond.methodLink RX7 105 yX7_endOf ∈ tbk := tb_at 854 (by decide +kernel) rfl
set_option maxRecDepth 20000 in
theorem wI_X7_endOf : Cond.instanceMethod yX7_endOf ∈ tbk := tb_at 856 (by decide +kernel) rfl
set_option maxRecDepth 20000 in
theorem wC_X7_endOf : Cond.code yX7_endOf cX7_endOf 4 (some .int) ∈ tbk := tb_at 857 (by decide +kernel) rfl
set_option maxRecDepth 20000 in
theorem wM_L_63 : Cond.methodLink RL 63 yX7_now ∈ tbk := tb_at 858 (by decide +kernel) rfl
set_option maxRecDepth 20000 in
theorem wI_X7_now : Cond.instanceMethod yX7_now ∈ tbk := tb_at 859 (by decide +kernel) rfl
set_option maxRecDepth 20000 in
theorem wS_X7_now : Cond.selects RX7 yX7_now yX7_now ∈ tbk := tb_at 860 (by decide +kernel) rfl
set_option maxRecDepth 20000 in
theorem wC_X7_now : Cond.code yX7_now cX7_now 1 (some .int) ∈ tbk := tb_at 861 (by decide +kernel) rfl
set_option maxRecDepth 20000 in
theorem wM_L_67 : Cond.methodLink RL 67 yX7_entryOf ∈ tbk := tb_at 862 (by decide +kernel) rfl
set_option maxRecDepth 20000 in
theorem wI_X7_entryOf : Cond.instanceMethod yX7_entryOf ∈ tbk := tb_at 863 (by decide +kernel) rfl
set_option maxRecDepth 20000 in
theorem wS_X7_entryOf : Cond.selects RX7 yX7_entryOf yX7_entryOf ∈ tbk := tb_at 864 (by decide +kernel) rfl
set_option maxRecDepth 20000 in
theorem wC_X7_entryOf : Cond.code yX7_entryOf cX7_entryOf 2 (some .int) ∈ tbk := tb_at 865 (by decide +kernel) rfl
set_option maxRecDepth 20000 in
theorem wM_L_71 : Cond.methodLink RL 71 yX7_isActive ∈ tbk := tb_at 866 (by decide +kernel) rfl
set_option maxRecDepth 20000 in
theorem wI_X7_isActive : Cond.instanceMethod yX7_isActive ∈ tbk := tb_at 867 (by decide +kernel) rfl
set_option maxRecDepth 20000 in
theorem wS_X7_isActive : Cond.selects RX7 yX7_isActive yX7_isActive ∈ tbk := tb_at 868 (by decide +kernel) rfl
set_option maxRecDepth 20000 in
theorem wC_X7_isActive : Cond.code yX7_isActive cX7_isActive 2 (some .int) ∈ tbk := tb_at 869 (by decide +kernel) rfl
set_option maxRecDepth 20000 in
theorem wM_X7_117 : Cond.methodLink RX7 117 yX7_isEntry ∈ tbk := tb_at 870 (by decide +kernel) rfl
set_option maxRecDepth 20000 in
theorem wI_X7_isEntry : Cond.instanceMethod yX7_isEntry ∈ tbk := tb_at 872 (by decide +kernel) rfl
set_option maxRecDepth 20000 in
theorem wC_X7_isEntry : Cond.code yX7_isEntry cX7_isEntry 2 (some .boolean) ∈ tbk := tb_at 873 (by decide +kernel) rfl
set_option maxRecDepth 20000 in
theorem wM_L_75 : Cond.methodLink RL 75 yX7_entryPath ∈ tbk := tb_at 874 (by decide +kernel) rfl
set_option maxRecDepth 20000 in
theorem wI_X7_entryPath : Cond.instanceMethod yX7_entryPath ∈ tbk := tb_at 875 (by decide +kernel) rfl
set_option maxRecDepth 20000 in
theorem wS_X7_entryPath : Cond.selects RX7 yX7_entryPath yX7_entryPath ∈ tbk := tb_at 876 (by decide +kernel) rfl
set_option maxRecDepth 20000 in
theorem wC_X7_entryPath : Cond.code yX7_entryPath cX7_entryPath 2 (some .int) ∈ tbk := tb_at 877 (by decide +kernel) rfl
set_option maxRecDepth 20000 in
theorem wM_L_79 : Cond.methodLink RL 79 yX7_ageBit ∈ tbk := tb_at 878 (by decide +kernel) rfl
set_option maxRecDepth 20000 in
theorem wI_X7_ageBit : Cond.instanceMethod yX7_ageBit ∈ tbk := tb_at 879 (by decide +kernel) rfl
set_option maxRecDepth 20000 in
theorem wS_X7_ageBit : Cond.selects RX7 yX7_ageBit yX7_ageBit ∈ tbk := tb_at 880 (by decide +kernel) rfl
set_option maxRecDepth 20000 in
theorem wC_X7_ageBit : Cond.code yX7_ageBit cX7_ageBit 2 (some .int) ∈ tbk := tb_at 881 (by decide +kernel) rfl
set_option maxRecDepth 20000 in
theorem wM_L_83 : Cond.methodLink RL 83 yX7_idleTime ∈ tbk := tb_at 882 (by decide +kernel) rfl
set_option maxRecDepth 20000 in
theorem wI_X7_idleTime : Cond.instanceMethod yX7_idleTime ∈ tbk := tb_at 883 (by decide +kernel) rfl
set_option maxRecDepth 20000 in
theorem wS_X7_idleTime : Cond.selects RX7 yX7_idleTime yX7_idleTime ∈ tbk := tb_at 884 (by decide +kernel) rfl
set_option maxRecDepth 20000 in
theorem wC_X7_idleTime : Cond.code yX7_idleTime cX7_idleTime 2 (some .int) ∈ tbk := tb_at 885 (by decide +kernel) rfl
set_option maxRecDepth 20000 in
theorem wM_L_87 : Cond.methodLink RL 87 yX7_activeEntries ∈ tbk := tb_at 886 (by decide +kernel) rfl
set_option maxRecDepth 20000 in
theorem wI_X7_activeEntries : Cond.instanceMethod yX7_activeEntries ∈ tbk := tb_at 887 (by decide +kernel) rfl
set_option maxRecDepth 20000 in
theorem wS_X7_activeEntries : Cond.selects RX7 yX7_activeEntries yX7_activeEntries ∈ tbk := tb_at 888 (by decide +kernel) rfl
set_option maxRecDepth 20000 in
theorem wC_X7_activeEntries : Cond.code yX7_activeEntries cX7_activeEntries 3 (some .int) ∈ tbk := tb_at 889 (by decide +kernel) rfl
set_option maxRecDepth 20000 in
theorem wM_L_91 : Cond.methodLink RL 91 yX7_load ∈ tbk := tb_at 890 (by decide +kernel) rfl
set_option maxRecDepth 20000 in
theorem wI_X7_load : Cond.instanceMethod yX7_load ∈ tbk := tb_at 891 (by decide +kernel) rfl
set_option maxRecDepth 20000 in
theorem wS_X7_load : Cond.selects RX7 yX7_load yX7_load ∈ tbk := tb_at 892 (by decide +kernel) rfl
set_option maxRecDepth 20000 in
theorem wC_X7_load : Cond.code yX7_load cX7_load 2 (some .int) ∈ tbk := tb_at 893 (by decide +kernel) rfl
set_option maxRecDepth 20000 in
theorem wM_X7_120 : Cond.methodLink RX7 120 yX7_ofPath ∈ tbk := tb_at 894 (by decide +kernel) rfl
set_option maxRecDepth 20000 in
theorem wI_X7_ofPath : Cond.instanceMethod yX7_ofPath ∈ tbk := tb_at 896 (by decide +kernel) rfl
set_option maxRecDepth 20000 in
theorem wC_X7_ofPath : Cond.code yX7_ofPath cX7_ofPath 3 (some .int) ∈ tbk := tb_at 897 (by decide +kernel) rfl
set_option maxRecDepth 20000 in
theorem wM_L_95 : Cond.methodLink RL 95 yX7_metric ∈ tbk := tb_at 898 (by decide +kernel) rfl
set_option maxRecDepth 20000 in
theorem wI_X7_metric : Cond.instanceMethod yX7_metric ∈ tbk := tb_at 899 (by decide +kernel) rfl
set_option maxRecDepth 20000 in
theorem wS_X7_metric : Cond.selects RX7 yX7_metric yX7_metric ∈ tbk := tb_at 900 (by decide +kernel) rfl
set_option maxRecDepth 20000 in
theorem wC_X7_metric : Cond.code yX7_metric cX7_metric 2 (some .int) ∈ tbk := tb_at 901 (by decide +kernel) rfl
set_option maxRecDepth 20000 in
theorem wM_L_99 : Cond.methodLink RL 99 yX7_busyTime ∈ tbk := tb_at 902 (by decide +kernel) rfl
set_option maxRecDepth 20000 in
theorem wI_X7_busyTime : Cond.instanceMethod yX7_busyTime ∈ tbk := tb_at 903 (by decide +kernel) rfl
set_option maxRecDepth 20000 in
theorem wS_X7_busyTime : Cond.selects RX7 yX7_busyTime yX7_busyTime ∈ tbk := tb_at 904 (by decide +kernel) rfl
set_option maxRecDepth 20000 in
theorem wC_X7_busyTime : Cond.code yX7_busyTime cX7_busyTime 3 (some .int) ∈ tbk := tb_at 905 (by decide +kernel) rfl
set_option maxRecDepth 20000 in
theorem wM_L_103 : Cond.methodLink RL 103 yX7_latency ∈ tbk := tb_at 906 (by decide +kernel) rfl
set_option maxRecDepth 20000 in
theorem wI_X7_latency : Cond.instanceMethod yX7_latency ∈ tbk := tb_at 907 (by decide +kernel) rfl
set_option maxRecDepth 20000 in
theorem wS_X7_latency : Cond.selects RX7 yX7_latency yX7_latency ∈ tbk := tb_at 908 (by decide +kernel) rfl
set_option maxRecDepth 20000 in
theorem wC_X7_latency : Cond.code yX7_latency cX7_latency 3 (some .int) ∈ tbk := tb_at 909 (by decide +kernel) rfl
set_option maxRecDepth 20000 in
theorem wM_X7_123 : Cond.methodLink RX7 123 yX7_latencyOf ∈ tbk := tb_at 910 (by decide +kernel) rfl
set_option maxRecDepth 20000 in
theorem wI_X7_latencyOf : Cond.instanceMethod yX7_latencyOf ∈ tbk := tb_at 912 (by decide +kernel) rfl
set_option maxRecDepth 20000 in
theorem wC_X7_latencyOf : Cond.code yX7_latencyOf cX7_latencyOf 3 (some .int) ∈ tbk := tb_at 913 (by decide +kernel) rfl
set_option maxRecDepth 20000 in
theorem wM_L_107 : Cond.methodLink RL 107 yX7_safeGap ∈ tbk := tb_at 914 (by decide +kernel) rfl
set_option maxRecDepth 20000 in
theorem wI_X7_safeGap : Cond.instanceMethod yX7_safeGap ∈ tbk := tb_at 915 (by decide +kernel) rfl
set_option maxRecDepth 20000 in
theorem wS_X7_safeGap : Cond.selects RX7 yX7_safeGap yX7_safeGap ∈ tbk := tb_at 916 (by decide +kernel) rfl
set_option maxRecDepth 20000 in
theorem wC_X7_safeGap : Cond.code yX7_safeGap cX7_safeGap 6 (some .int) ∈ tbk := tb_at 917 (by decide +kernel) rfl
set_option maxRecDepth 20000 in
theorem wM_L_111 : Cond.methodLink RL 111 yX7_packets ∈ tbk := tb_at 918 (by decide +kernel) rfl
set_option maxRecDepth 20000 in
theorem wI_X7_packets : Cond.instanceMethod yX7_packets ∈ tbk := tb_at 919 (by decide +kernel) rfl
set_option maxRecDepth 20000 in
theorem wS_X7_packets : Cond.selects RX7 yX7_packets yX7_packets ∈ tbk := tb_at 920 (by decide +kernel) rfl
set_option maxRecDepth 20000 in
theorem wC_X7_packets : Cond.code yX7_packets cX7_packets 2 (some .int) ∈ tbk := tb_at 921 (by decide +kernel) rfl
set_option maxRecDepth 20000 in
theorem wM_L_115 : Cond.methodLink RL 115 yX7_bytes ∈ tbk := tb_at 922 (by decide +kernel) rfl
set_option maxRecDepth 20000 in
theorem wI_X7_bytes : Cond.instanceMethod yX7_bytes ∈ tbk := tb_at 923 (by decide +kernel) rfl
set_option maxRecDepth 20000 in
theorem wS_X7_bytes : Cond.selects RX7 yX7_bytes yX7_bytes ∈ tbk := tb_at 924 (by decide +kernel) rfl
set_option maxRecDepth 20000 in
theorem wC_X7_bytes : Cond.code yX7_bytes cX7_bytes 2 (some .int) ∈ tbk := tb_at 925 (by decide +kernel) rfl
set_option maxRecDepth 20000 in
theorem wM_L_119 : Cond.methodLink RL 119 yX7_drops ∈ tbk := tb_at 926 (by decide +kernel) rfl
set_option maxRecDepth 20000 in
theorem wI_X7_drops : Cond.instanceMethod yX7_drops ∈ tbk := tb_at 927 (by decide +kernel) rfl
set_option maxRecDepth 20000 in
theorem wS_X7_drops : Cond.selects RX7 yX7_drops yX7_drops ∈ tbk := tb_at 928 (by decide +kernel) rfl
set_option maxRecDepth 20000 in
theorem wC_X7_drops : Cond.code yX7_drops cX7_drops 2 (some .int) ∈ tbk := tb_at 929 (by decide +kernel) rfl
set_option maxRecDepth 20000 in
theorem wM_L_123 : Cond.methodLink RL 123 yX7_imbalance ∈ tbk := tb_at 930 (by decide +kernel) rfl
set_option maxRecDepth 20000 in
theorem wI_X7_imbalance : Cond.instanceMethod yX7_imbalance ∈ tbk := tb_at 931 (by decide +kernel) rfl
set_option maxRecDepth 20000 in
theorem wS_X7_imbalance : Cond.selects RX7 yX7_imbalance yX7_imbalance ∈ tbk := tb_at 932 (by decide +kernel) rfl
set_option maxRecDepth 20000 in
theorem wC_X7_imbalance : Cond.code yX7_imbalance cX7_imbalance 5 (some .int) ∈ tbk := tb_at 933 (by decide +kernel) rfl
set_option maxRecDepth 20000 in
theorem wM_L_127 : Cond.methodLink RL 127 yX7_nextPath ∈ tbk := tb_at 934 (by decide +kernel) rfl
set_option maxRecDepth 20000 in
theorem wI_X7_nextPath : Cond.instanceMethod yX7_nextPath ∈ tbk := tb_at 935 (by decide +kernel) rfl
set_option maxRecDepth 20000 in
theorem wS_X7_nextPath : Cond.selects RX7 yX7_nextPath yX7_nextPath ∈ tbk := tb_at 936 (by decide +kernel) rfl
set_option maxRecDepth 20000 in
theorem wC_X7_nextPath : Cond.code yX7_nextPath cX7_nextPath 2 (some .int) ∈ tbk := tb_at 937 (by decide +kernel) rfl
set_option maxRecDepth 20000 in
theorem wM_L_131 : Cond.methodLink RL 131 yX7_wouldReorder ∈ tbk := tb_at 938 (by decide +kernel) rfl
set_option maxRecDepth 20000 in
theorem wI_X7_wouldReorder : Cond.instanceMethod yX7_wouldReorder ∈ tbk := tb_at 939 (by decide +kernel) rfl
set_option maxRecDepth 20000 in
theorem wS_X7_wouldReorder : Cond.selects RX7 yX7_wouldReorder yX7_wouldReorder ∈ tbk := tb_at 940 (by decide +kernel) rfl
set_option maxRecDepth 20000 in
theorem wC_X7_wouldReorder : Cond.code yX7_wouldReorder cX7_wouldReorder 5 (some .int) ∈ tbk := tb_at 941 (by decide +kernel) rfl
set_option maxRecDepth 20000 in
theorem wM_L_135 : Cond.methodLink RL 135 yX7_flowlets ∈ tbk := tb_at 942 (by decide +kernel) rfl
set_option maxRecDepth 20000 in
theorem wI_X7_flowlets : Cond.instanceMethod yX7_flowlets ∈ tbk := tb_at 943 (by decide +kernel) rfl
set_option maxRecDepth 20000 in
theorem wS_X7_flowlets : Cond.selects RX7 yX7_flowlets yX7_flowlets ∈ tbk := tb_at 944 (by decide +kernel) rfl
set_option maxRecDepth 20000 in
theorem wC_X7_flowlets : Cond.code yX7_flowlets cX7_flowlets 2 (some .int) ∈ tbk := tb_at 945 (by decide +kernel) rfl
set_option maxRecDepth 20000 in
theorem wM_X7_126 : Cond.methodLink RX7 126 yX7_ofFlow ∈ tbk := tb_at 946 (by decide +kernel) rfl
set_option maxRecDepth 20000 in
theorem wI_X7_ofFlow : Cond.instanceMethod yX7_ofFlow ∈ tbk := tb_at 948 (by decide +kernel) rfl
set_option maxRecDepth 20000 in
theorem wC_X7_ofFlow : Cond.code yX7_ofFlow cX7_ofFlow 3 (some .int) ∈ tbk := tb_at 949 (by decide +kernel) rfl
set_option maxRecDepth 20000 in
theorem wM_L_139 : Cond.methodLink RL 139 yX7_pathChanges ∈ tbk := tb_at 950 (by decide +kernel) rfl
set_option maxRecDepth 20000 in
theorem wI_X7_pathChanges : Cond.instanceMethod yX7_pathChanges ∈ tbk := tb_at 951 (by decide +kernel) rfl
set_option maxRecDepth 20000 in
theorem wS_X7_pathChanges : Cond.selects RX7 yX7_pathChanges yX7_pathChanges ∈ tbk := tb_at 952 (by decide +kernel) rfl
set_option maxRecDepth 20000 in
theorem wC_X7_pathChanges : Cond.code yX7_pathChanges cX7_pathChanges 2 (some .int) ∈ tbk := tb_at 953 (by decide +kernel) rfl
set_option maxRecDepth 20000 in
theorem wM_L_143 : Cond.methodLink RL 143 yX7_reordered ∈ tbk := tb_at 954 (by decide +kernel) rfl
set_option maxRecDepth 20000 in
theorem wI_X7_reordered : Cond.instanceMethod yX7_reordered ∈ tbk := tb_at 955 (by decide +kernel) rfl
set_option maxRecDepth 20000 in
theorem wS_X7_reordered : Cond.selects RX7 yX7_reordered yX7_reordered ∈ tbk := tb_at 956 (by decide +kernel) rfl
set_option maxRecDepth 20000 in
theorem wC_X7_reordered : Cond.code yX7_reordered cX7_reordered 2 (some .int) ∈ tbk := tb_at 957 (by decide +kernel) rfl
set_option maxRecDepth 20000 in
theorem wM_L_147 : Cond.methodLink RL 147 yX7_lastArrival ∈ tbk := tb_at 958 (by decide +kernel) rfl
set_option maxRecDepth 20000 in
theorem wI_X7_lastArrival : Cond.instanceMethod yX7_lastArrival ∈ tbk := tb_at 959 (by decide +kernel) rfl
set_option maxRecDepth 20000 in
theorem wS_X7_lastArrival : Cond.selects RX7 yX7_lastArrival yX7_lastArrival ∈ tbk := tb_at 960 (by decide +kernel) rfl
set_option maxRecDepth 20000 in
theorem wC_X7_lastArrival : Cond.code yX7_lastArrival cX7_lastArrival 2 (some .int) ∈ tbk := tb_at 961 (by decide +kernel) rfl
set_option maxRecDepth 20000 in
theorem wM_L_151 : Cond.methodLink RL 151 yX7_appendCharacter ∈ tbk := tb_at 962 (by decide +kernel) rfl
set_option maxRecDepth 20000 in
theorem wI_X7_appendCharacter : Cond.instanceMethod yX7_appendCharacter ∈ tbk := tb_at 963 (by decide +kernel) rfl
set_option maxRecDepth 20000 in
theorem wS_X7_appendCharacter : Cond.selects RX7 yX7_appendCharacter yX7_appendCharacter ∈ tbk := tb_at 964 (by decide +kernel) rfl
set_option maxRecDepth 20000 in
theorem wC_X7_appendCharacter : Cond.code yX7_appendCharacter cX7_appendCharacter 2 (some .int) ∈ tbk := tb_at 965 (by decide +kernel) rfl
set_option maxRecDepth 20000 in
theorem wM_L_155 : Cond.methodLink RL 155 yX7_clearText ∈ tbk := tb_at 966 (by decide +kernel) rfl
set_option maxRecDepth 20000 in
theorem wI_X7_clearText : Cond.instanceMethod yX7_clearText ∈ tbk := tb_at 967 (by decide +kernel) rfl
set_option maxRecDepth 20000 in
theorem wS_X7_clearText : Cond.selects RX7 yX7_clearText yX7_clearText ∈ tbk := tb_at 968 (by decide +kernel) rfl
set_option maxRecDepth 20000 in
theorem wC_X7_clearText : Cond.code yX7_clearText cX7_clearText 2 (some .int) ∈ tbk := tb_at 969 (by decide +kernel) rfl
set_option maxRecDepth 20000 in
theorem wM_L_159 : Cond.methodLink RL 159 yX7_runTrace ∈ tbk := tb_at 970 (by decide +kernel) rfl
set_option maxRecDepth 20000 in
theorem wI_X7_runTrace : Cond.instanceMethod yX7_runTrace ∈ tbk := tb_at 971 (by decide +kernel) rfl
set_option maxRecDepth 20000 in
theorem wS_X7_runTrace : Cond.selects RX7 yX7_runTrace yX7_runTrace ∈ tbk := tb_at 972 (by decide +kernel) rfl
set_option maxRecDepth 20000 in
theorem wC_X7_runTrace : Cond.code yX7_runTrace cX7_runTrace 3 (some .int) ∈ tbk := tb_at 973 (by decide +kernel) rfl
set_option maxRecDepth 20000 in
theorem wM_X7_150 : Cond.methodLink RX7 150 yX7_readText ∈ tbk := tb_at 974 (by decide +kernel) rfl
set_option maxRecDepth 20000 in
theorem wI_X7_readText : Cond.instanceMethod yX7_readText ∈ tbk := tb_at 976 (by decide +kernel) rfl
set_option maxRecDepth 20000 in
theorem wC_X7_readText : Cond.code yX7_readText cX7_readText 2 (some .boolean) ∈ tbk := tb_at 977 (by decide +kernel) rfl
set_option maxRecDepth 20000 in
theorem wM_X7_147 : Cond.methodLink RX7 147 yX7_readItem ∈ tbk := tb_at 978 (by decide +kernel) rfl
set_option maxRecDepth 20000 in
theorem wI_X7_readItem : Cond.instanceMethod yX7_readItem ∈ tbk := tb_at 980 (by decide +kernel) rfl
set_option maxRecDepth 20000 in
theorem wC_X7_readItem : Cond.code yX7_readItem cX7_readItem 3 (some .boolean) ∈ tbk := tb_at 981 (by decide +kernel) rfl
set_option maxRecDepth 20000 in
theorem wM_X7_138 : Cond.methodLink RX7 138 yX7_reads ∈ tbk := tb_at 982 (by decide +kernel) rfl
set_option maxRecDepth 20000 in
theorem wI_X7_reads : Cond.instanceMethod yX7_reads ∈ tbk := tb_at 984 (by decide +kernel) rfl
set_option maxRecDepth 20000 in
theorem wC_X7_reads : Cond.code yX7_reads cX7_reads 3 (some .boolean) ∈ tbk := tb_at 985 (by decide +kernel) rfl
set_option maxRecDepth 20000 in
theorem wM_X7_135 : Cond.methodLink RX7 135 yX7_sign ∈ tbk := tb_at 986 (by decide +kernel) rfl
set_option maxRecDepth 20000 in
theorem wI_X7_sign : Cond.instanceMethod yX7_sign ∈ tbk := tb_at 988 (by decide +kernel) rfl
set_option maxRecDepth 20000 in
theorem wC_X7_sign : Cond.code yX7_sign cX7_sign 1 (some .int) ∈ tbk := tb_at 989 (by decide +kernel) rfl
set_option maxRecDepth 20000 in
theorem wM_X7_141 : Cond.methodLink RX7 141 yX7_number ∈ tbk := tb_at 990 (by decide +kernel) rfl
set_option maxRecDepth 20000 in
theorem wI_X7_number : Cond.instanceMethod yX7_number ∈ tbk := tb_at 992 (by decide +kernel) rfl
set_option maxRecDepth 20000 in
theorem wC_X7_number : Cond.code yX7_number cX7_number 3 (some .int) ∈ tbk := tb_at 993 (by decide +kernel) rfl
set_option maxRecDepth 20000 in
theorem wM_X7_153 : Cond.methodLink RX7 153 yX7_execute ∈ tbk := tb_at 994 (by decide +kernel) rfl
set_option maxRecDepth 20000 in
theorem wI_X7_execute : Cond.instanceMethod yX7_execute ∈ tbk := tb_at 996 (by decide +kernel) rfl
set_option maxRecDepth 20000 in
theorem wC_X7_execute : Cond.code yX7_execute cX7_execute 5 (some .boolean) ∈ tbk := tb_at 997 (by decide +kernel) rfl
set_option maxRecDepth 20000 in
theorem wM_L_163 : Cond.methodLink RL 163 yX7_undo ∈ tbk := tb_at 998 (by decide +kernel) rfl
set_option maxRecDepth 20000 in
theorem wI_X7_undo : Cond.instanceMethod yX7_undo ∈ tbk := tb_at 999 (by decide +kernel) rfl
set_option maxRecDepth 20000 in
theorem wS_X7_undo : Cond.selects RX7 yX7_undo yX7_undo ∈ tbk := tb_at 1000 (by decide +kernel) rfl
set_option maxRecDepth 20000 in
theorem wC_X7_undo : Cond.code yX7_undo cX7_undo 2 (some .int) ∈ tbk := tb_at 1001 (by decide +kernel) rfl
set_option maxRecDepth 20000 in
theorem wM_L_167 : Cond.methodLink RL 167 yX7_save ∈ tbk := tb_at 1002 (by decide +kernel) rfl
set_option maxRecDepth 20000 in
theorem wI_X7_save : Cond.instanceMethod yX7_save ∈ tbk := tb_at 1003 (by decide +kernel) rfl
set_option maxRecDepth 20000 in
theorem wS_X7_save : Cond.selects RX7 yX7_save yX7_save ∈ tbk := tb_at 1004 (by decide +kernel) rfl
set_option maxRecDepth 20000 in
theorem wC_X7_save : Cond.code yX7_save cX7_save 3 (some .int) ∈ tbk := tb_at 1005 (by decide +kernel) rfl
set_option maxRecDepth 20000 in
theorem wM_L_171 : Cond.methodLink RL 171 yX7_restore ∈ tbk := tb_at 1006 (by decide +kernel) rfl
set_option maxRecDepth 20000 in
theorem wI_X7_restore : Cond.instanceMethod yX7_restore ∈ tbk := tb_at 1007 (by decide +kernel) rfl
set_option maxRecDepth 20000 in
theorem wS_X7_restore : Cond.selects RX7 yX7_restore yX7_restore ∈ tbk := tb_at 1008 (by decide +kernel) rfl
set_option maxRecDepth 20000 in
theorem wC_X7_restore : Cond.code yX7_restore cX7_restore 3 (some .int) ∈ tbk := tb_at 1009 (by decide +kernel) rfl
/-- what the tables say of a method that is called: by its object, statically, as a constructor -/
def MWv (y : MethodName) (cc : ByteArray) (maxL : Nat) (ret : Option FieldType) (n : Nat) : Prop := Cond.instanceMethod y ∈ tbk ∧ Cond.selects y.cls y y ∈ tbk ∧ Cond.initialized y.cls ∈ tbk ∧ Cond.code y cc maxL ret ∈ tbk ∧ y.cls ≠ "java/lang/invoke/MethodHandle" ∧ y.cls ≠ "java/lang/invoke/VarHandle" ∧ (parseMethodDescriptor y.desc).map (fun d => d.parameters.length) = some n
def MWs (y : MethodName) (cc : ByteArray) (maxL : Nat) (ret : Option FieldType) (n : Nat) : Prop := Cond.static y ∈ tbk ∧ Cond.initialized y.cls ∈ tbk ∧ Cond.code y cc maxL ret ∈ tbk ∧ y.cls ≠ "java/lang/invoke/MethodHandle" ∧ y.cls ≠ "java/lang/invoke/VarHandle" ∧ (parseMethodDescriptor y.desc).map (fun d => d.parameters.length) = some n
def MWi (y : MethodName) (cc : ByteArray) (maxL : Nat) (n : Nat) : Prop := Cond.instanceMethod y ∈ tbk ∧ Cond.initialized y.cls ∈ tbk ∧ Cond.code y cc maxL none ∈ tbk ∧ y.name = "<init>" ∧ y.cls ≠ "java/lang/invoke/MethodHandle" ∧ y.cls ≠ "java/lang/invoke/VarHandle" ∧ (parseMethodDescriptor y.desc).map (fun d => d.parameters.length) = some n
theorem mw_X6_runItem : MWv yX6_runItem cX6_runItem 2 (some .boolean) 0 := ⟨wI_X6_runItem, wS_X6_runItem, wN_X6, wC_X6_runItem, by decide +kernel, by decide +kernel, by decide +kernel⟩
theorem mw_X7_makeNew : MWv yX7_makeNew cX7_makeNew 4 none 2 := ⟨wI_X7_makeNew, wS_X7_makeNew, wN_X7, wC_X7_makeNew, by decide +kernel, by decide +kernel, by decide +kernel⟩
theorem mw_X7_keep : MWv yX7_keep cX7_keep 2 none 0 := ⟨wI_X7_keep, wS_X7_keep, wN_X7, wC_X7_keep, by decide +kernel, by decide +kernel, by decide +kernel⟩
theorem mw_X7_slotOf : MWv yX7_slotOf cX7_slotOf 2 (some .int) 1 := ⟨wI_X7_slotOf, wS_X7_slotOf, wN_X7, wC_X7_slotOf, by decide +kernel, by decide +kernel, by decide +kernel⟩
theorem mw_X7_isPath : MWv yX7_isPath cX7_isPath 2 (some .boolean) 1 := ⟨wI_X7_isPath, wS_X7_isPath, wN_X7, wC_X7_isPath, by decide +kernel, by decide +kernel, by decide +kernel⟩
theorem mw_X7_change : MWv yX7_change cX7_change 4 (some .int) 2 := ⟨wI_X7_change, wS_X7_change, wN_X7, wC_X7_change, by decide +kernel, by decide +kernel, by decide +kernel⟩
theorem mw_X7_whyNotPass : MWv yX7_whyNotPass cX7_whyNotPass 2 (some .int) 1 := ⟨wI_X7_whyNotPass, wS_X7_whyNotPass, wN_X7, wC_X7_whyNotPass, by decide +kernel, by decide +kernel, by decide +kernel⟩
theorem mw_X7_pass : MWv yX7_pass cX7_pass 3 (some .int) 1 := ⟨wI_X7_pass, wS_X7_pass, wN_X7, wC_X7_pass, by decide +kernel, by decide +kernel, by decide +kernel⟩
theorem mw_X7_tick : MWv yX7_tick cX7_tick 2 none 0 := ⟨wI_X7_tick, wS_X7_tick, wN_X7, wC_X7_tick, by decide +kernel, by decide +kernel, by decide +kernel⟩
theorem mw_X7_age : MWv yX7_age cX7_age 2 none 0 := ⟨wI_X7_age, wS_X7_age, wN_X7, wC_X7_age, by decide +kernel, by decide +kernel, by decide +kernel⟩
theorem mw_X7_transmit : MWv yX7_transmit cX7_transmit 6 (some .int) 2 := ⟨wI_X7_transmit, wS_X7_transmit, wN_X7, wC_X7_transmit, by decide +kernel, by decide +kernel, by decide +kernel⟩
theorem mw_X7_choose : MWv yX7_choose cX7_choose 3 (some .int) 1 := ⟨wI_X7_choose, wS_X7_choose, wN_X7, wC_X7_choose, by decide +kernel, by decide +kernel, by decide +kernel⟩
theorem mw_X7_isLive : MWv yX7_isLive cX7_isLive 3 (some .boolean) 1 := ⟨wI_X7_isLive, wS_X7_isLive, wN_X7, wC_X7_isLive, by decide +kernel, by decide +kernel, by decide +kernel⟩
theorem mw_X7_leastLoaded : MWv yX7_leastLoaded cX7_leastLoaded 4 (some .int) 1 := ⟨wI_X7_leastLoaded, wS_X7_leastLoaded, wN_X7, wC_X7_leastLoaded, by decide +kernel, by decide +kernel, by decide +kernel⟩
theorem mw_X7_metricOf : MWv yX7_metricOf cX7_metricOf 3 (some .int) 1 := ⟨wI_X7_metricOf, wS_X7_metricOf, wN_X7, wC_X7_metricOf, by decide +kernel, by decide +kernel, by decide +kernel⟩
theorem mw_X7_nextGenerator : MWv yX7_nextGenerator cX7_nextGenerator 1 (some .int) 0 := ⟨wI_X7_nextGenerator, wS_X7_nextGenerator, wN_X7, wC_X7_nextGenerator, by decide +kernel, by decide +kernel, by decide +kernel⟩
theorem mw_X7_take : MWv yX7_take cX7_take 4 none 2 := ⟨wI_X7_take, wS_X7_take, wN_X7, wC_X7_take, by decide +kernel, by decide +kernel, by decide +kernel⟩
theorem mw_X7_isByFlowlets : MWv yX7_isByFlowlets cX7_isByFlowlets 1 (some .boolean) 0 := ⟨wI_X7_isByFlowlets, wS_X7_isByFlowlets, wN_X7, wC_X7_isByFlowlets, by decide +kernel, by decide +kernel, by decide +kernel⟩
theorem mw_X7_isTooBusy : MWv yX7_isTooBusy cX7_isTooBusy 2 (some .boolean) 1 := ⟨wI_X7_isTooBusy, wS_X7_isTooBusy, wN_X7, wC_X7_isTooBusy, by decide +kernel, by decide +kernel, by decide +kernel⟩
theorem mw_X7_endOf : MWv yX7_endOf cX7_endOf 4 (some .int) 2 := ⟨wI_X7_endOf, wS_X7_endOf, wN_X7, wC_X7_endOf, by decide +kernel, by decide +kernel, by decide +kernel⟩
theorem mw_X7_isEntry : MWv yX7_isEntry cX7_isEntry 2 (some .boolean) 1 := ⟨wI_X7_isEntry, wS_X7_isEntry, wN_X7, wC_X7_isEntry, by decide +kernel, by decide +kernel, by decide +kernel⟩
theorem mw_X7_ofPath : MWv yX7_ofPath cX7_ofPath 3 (some .int) 2 := ⟨wI_X7_ofPath, wS_X7_ofPath, wN_X7, wC_X7_ofPath, by decide +kernel, by decide +kernel, by decide +kernel⟩
theorem mw_X7_latencyOf : MWv yX7_latencyOf cX7_latencyOf 3 (some .int) 2 := ⟨wI_X7_latencyOf, wS_X7_latencyOf, wN_X7, wC_X7_latencyOf, by decide +kernel, by decide +kernel, by decide +kernel⟩
theorem mw_X7_ofFlow : MWv yX7_ofFlow cX7_ofFlow 3 (some .int) 2 := ⟨wI_X7_ofFlow, wS_X7_ofFlow, wN_X7, wC_X7_ofFlow, by decide +kernel, by decide +kernel, by decide +kernel⟩
theorem mw_X7_readText : MWv yX7_readText cX7_readText 2 (some .boolean) 0 := ⟨wI_X7_readText, wS_X7_readText, wN_X7, wC_X7_readText, by decide +kernel, by decide +kernel, by decide +kernel⟩
theorem mw_X7_readItem : MWv yX7_readItem cX7_readItem 3 (some .boolean) 0 := ⟨wI_X7_readItem, wS_X7_readItem, wN_X7, wC_X7_readItem, by decide +kernel, by decide +kernel, by decide +kernel⟩
theorem mw_X7_reads : MWv yX7_reads cX7_reads 3 (some .boolean) 1 := ⟨wI_X7_reads, wS_X7_reads, wN_X7, wC_X7_reads, by decide +kernel, by decide +kernel, by decide +kernel⟩
theorem mw_X7_sign : MWv yX7_sign cX7_sign 1 (some .int) 0 := ⟨wI_X7_sign, wS_X7_sign, wN_X7, wC_X7_sign, by decide +kernel, by decide +kernel, by decide +kernel⟩
theorem mw_X7_number : MWv yX7_number cX7_number 3 (some .int) 0 := ⟨wI_X7_number, wS_X7_number, wN_X7, wC_X7_number, by decide +kernel, by decide +kernel, by decide +kernel⟩
theorem mw_X7_execute : MWv yX7_execute cX7_execute 5 (some .boolean) 1 := ⟨wI_X7_execute, wS_X7_execute, wN_X7, wC_X7_execute, by decide +kernel, by decide +kernel, by decide +kernel⟩
theorem mw_X6_init : MWi yX6_init cX6_init 2 0 := ⟨wI_X6_init, wN_X6, wC_X6_init, rfl, by decide +kernel, by decide +kernel, by decide +kernel⟩
theorem mw_X4_init : MWi yX4_init cX4_init 2 0 := ⟨wI_X4_init, wN_X4, wC_X4_init, rfl, by decide +kernel, by decide +kernel, by decide +kernel⟩
theorem mw_X2_init : MWi yX2_init cX2_init 1 0 := ⟨wI_X2_init, wN_X2, wC_X2_init, rfl, by decide +kernel, by decide +kernel, by decide +kernel⟩
theorem mw_X0_init : MWi yX0_init cX0_init 1 0 := ⟨wI_X0_init, wN_X0, wC_X0_init, rfl, by decide +kernel, by decide +kernel, by decide +kernel⟩
theorem mw_X1_init : MWi yX1_init cX1_init 1 0 := ⟨wI_X1_init, wN_X1, wC_X1_init, rfl, by decide +kernel, by decide +kernel, by decide +kernel⟩
theorem mw_X4_reset : MWv yX4_reset cX4_reset 4 none 2 := ⟨wI_X4_reset, wS_X4_reset, wN_X4, wC_X4_reset, by decide +kernel, by decide +kernel, by decide +kernel⟩
theorem mw_X2_reset : MWv yX2_reset cX2_reset 1 none 0 := ⟨wI_X2_reset, wS_X2_reset, wN_X2, wC_X2_reset, by decide +kernel, by decide +kernel, by decide +kernel⟩
theorem mw_X0_reset : MWv yX0_reset cX0_reset 1 none 0 := ⟨wI_X0_reset, wS_X0_reset, wN_X0, wC_X0_reset, by decide +kernel, by decide +kernel, by decide +kernel⟩
theorem mw_X1_reset : MWv yX1_reset cX1_reset 1 none 0 := ⟨wI_X1_reset, wS_X1_reset, wN_X1, wC_X1_reset, by decide +kernel, by decide +kernel, by decide +kernel⟩
theorem mw_X3_init : MWi yX3_init cX3_init 2 0 := ⟨wI_X3_init, wN_X3, wC_X3_init, rfl, by decide +kernel, by decide +kernel, by decide +kernel⟩
theorem mw_X5_init : MWi yX5_init cX5_init 1 0 := ⟨wI_X5_init, wN_X5, wC_X5_init, rfl, by decide +kernel, by decide +kernel, by decide +kernel⟩
theorem mw_X6_configure : MWv yX6_configure cX6_configure 3 (some .int) 2 := ⟨wI_X6_configure, wS_X6_configure, wN_X6, wC_X6_configure, by decide +kernel, by decide +kernel, by decide +kernel⟩
theorem mw_X6_isBetween : MWs yX6_isBetween cX6_isBetween 3 (some .boolean) 3 := ⟨wT_X6_isBetween, wN_X6, wC_X6_isBetween, by decide +kernel, by decide +kernel, by decide +kernel⟩
theorem mw_X3_push : MWv yX3_push cX3_push 2 none 1 := ⟨wI_X3_push, wS_X3_push, wN_X3, wC_X3_push, by decide +kernel, by decide +kernel, by decide +kernel⟩
theorem mw_X4_copyFrom : MWv yX4_copyFrom cX4_copyFrom 3 none 1 := ⟨wI_X4_copyFrom, wS_X4_copyFrom, wN_X4, wC_X4_copyFrom, by decide +kernel, by decide +kernel, by decide +kernel⟩
theorem mw_X2_copyFrom : MWv yX2_copyFrom cX2_copyFrom 2 none 1 := ⟨wI_X2_copyFrom, wS_X2_copyFrom, wN_X2, wC_X2_copyFrom, by decide +kernel, by decide +kernel, by decide +kernel⟩
theorem mw_X0_copyFrom : MWv yX0_copyFrom cX0_copyFrom 2 none 1 := ⟨wI_X0_copyFrom, wS_X0_copyFrom, wN_X0, wC_X0_copyFrom, by decide +kernel, by decide +kernel, by decide +kernel⟩
theorem mw_X1_copyFrom : MWv yX1_copyFrom cX1_copyFrom 2 none 1 := ⟨wI_X1_copyFrom, wS_X1_copyFrom, wN_X1, wC_X1_copyFrom, by decide +kernel, by decide +kernel, by decide +kernel⟩
theorem mw_J9_min_7cf53 : MWs yJ9_min_7cf53 cJ9_min_7cf53 2 (some .int) 2 := ⟨wT_J9_min_7cf53, wN_J9, wC_J9_min_7cf53, by decide +kernel, by decide +kernel, by decide +kernel⟩
theorem mw_X4_countFlowsOfEntry : MWv yX4_countFlowsOfEntry cX4_countFlowsOfEntry 4 (some .int) 1 := ⟨wI_X4_countFlowsOfEntry, wS_X4_countFlowsOfEntry, wN_X4, wC_X4_countFlowsOfEntry, by decide +kernel, by decide +kernel, by decide +kernel⟩
theorem mw_X4_entryNumber : MWv yX4_entryNumber cX4_entryNumber 2 (some .int) 1 := ⟨wI_X4_entryNumber, wS_X4_entryNumber, wN_X4, wC_X4_entryNumber, by decide +kernel, by decide +kernel, by decide +kernel⟩
theorem mw_X6_setDelay : MWv yX6_setDelay cX6_setDelay 4 (some .int) 2 := ⟨wI_X6_setDelay, wS_X6_setDelay, wN_X6, wC_X6_setDelay, by decide +kernel, by decide +kernel, by decide +kernel⟩
theorem mw_X4_hasPath : MWv yX4_hasPath cX4_hasPath 2 (some .boolean) 1 := ⟨wI_X4_hasPath, wS_X4_hasPath, wN_X4, wC_X4_hasPath, by decide +kernel, by decide +kernel, by decide +kernel⟩
theorem mw_X6_setRate : MWv yX6_setRate cX6_setRate 4 (some .int) 2 := ⟨wI_X6_setRate, wS_X6_setRate, wN_X6, wC_X6_setRate, by decide +kernel, by decide +kernel, by decide +kernel⟩
theorem mw_X6_setRemoteLevel : MWv yX6_setRemoteLevel cX6_setRemoteLevel 4 (some .int) 2 := ⟨wI_X6_setRemoteLevel, wS_X6_setRemoteLevel, wN_X6, wC_X6_setRemoteLevel, by decide +kernel, by decide +kernel, by decide +kernel⟩
theorem mw_X6_setMode : MWv yX6_setMode cX6_setMode 3 (some .int) 1 := ⟨wI_X6_setMode, wS_X6_setMode, wN_X6, wC_X6_setMode, by decide +kernel, by decide +kernel, by decide +kernel⟩
theorem mw_X6_setDetection : MWv yX6_setDetection cX6_setDetection 3 (some .int) 1 := ⟨wI_X6_setDetection, wS_X6_setDetection, wN_X6, wC_X6_setDetection, by decide +kernel, by decide +kernel, by decide +kernel⟩
theorem mw_X6_setGap : MWv yX6_setGap cX6_setGap 3 (some .int) 1 := ⟨wI_X6_setGap, wS_X6_setGap, wN_X6, wC_X6_setGap, by decide +kernel, by decide +kernel, by decide +kernel⟩
theorem mw_X6_setShift : MWv yX6_setShift cX6_setShift 3 (some .int) 1 := ⟨wI_X6_setShift, wS_X6_setShift, wN_X6, wC_X6_setShift, by decide +kernel, by decide +kernel, by decide +kernel⟩
theorem mw_X6_setGenerator : MWv yX6_setGenerator cX6_setGenerator 3 (some .int) 1 := ⟨wI_X6_setGenerator, wS_X6_setGenerator, wN_X6, wC_X6_setGenerator, by decide +kernel, by decide +kernel, by decide +kernel⟩
theorem mw_X6_advance : MWv yX6_advance cX6_advance 2 (some .int) 1 := ⟨wI_X6_advance, wS_X6_advance, wN_X6, wC_X6_advance, by decide +kernel, by decide +kernel, by decide +kernel⟩
theorem mw_X4_hasTimeFor : MWv yX4_hasTimeFor cX4_hasTimeFor 2 (some .boolean) 1 := ⟨wI_X4_hasTimeFor, wS_X4_hasTimeFor, wN_X4, wC_X4_hasTimeFor, by decide +kernel, by decide +kernel, by decide +kernel⟩
theorem mw_X4_letTimePass : MWv yX4_letTimePass cX4_letTimePass 3 none 1 := ⟨wI_X4_letTimePass, wS_X4_letTimePass, wN_X4, wC_X4_letTimePass, by decide +kernel, by decide +kernel, by decide +kernel⟩
theorem mw_X4_decayLoads : MWv yX4_decayLoads cX4_decayLoads 2 none 0 := ⟨wI_X4_decayLoads, wS_X4_decayLoads, wN_X4, wC_X4_decayLoads, by decide +kernel, by decide +kernel, by decide +kernel⟩
theorem mw_X2_decay : MWv yX2_decay cX2_decay 2 none 1 := ⟨wI_X2_decay, wS_X2_decay, wN_X2, wC_X2_decay, by decide +kernel, by decide +kernel, by decide +kernel⟩
theorem mw_X4_ageEntries : MWv yX4_ageEntries cX4_ageEntries 2 none 0 := ⟨wI_X4_ageEntries, wS_X4_ageEntries, wN_X4, wC_X4_ageEntries, by decide +kernel, by decide +kernel, by decide +kernel⟩
theorem mw_X0_growOlder : MWv yX0_growOlder cX0_growOlder 1 none 0 := ⟨wI_X0_growOlder, wS_X0_growOlder, wN_X0, wC_X0_growOlder, by decide +kernel, by decide +kernel, by decide +kernel⟩
theorem mw_X6_send : MWv yX6_send cX6_send 3 (some .int) 2 := ⟨wI_X6_send, wS_X6_send, wN_X6, wC_X6_send, by decide +kernel, by decide +kernel, by decide +kernel⟩
theorem mw_X6_isFlow : MWs yX6_isFlow cX6_isFlow 1 (some .boolean) 1 := ⟨wT_X6_isFlow, wN_X6, wC_X6_isFlow, by decide +kernel, by decide +kernel, by decide +kernel⟩
theorem mw_X6_isSize : MWs yX6_isSize cX6_isSize 1 (some .boolean) 1 := ⟨wT_X6_isSize, wN_X6, wC_X6_isSize, by decide +kernel, by decide +kernel, by decide +kernel⟩
theorem mw_X4_sendPacket : MWv yX4_sendPacket cX4_sendPacket 5 (some .int) 2 := ⟨wI_X4_sendPacket, wS_X4_sendPacket, wN_X4, wC_X4_sendPacket, by decide +kernel, by decide +kernel, by decide +kernel⟩
theorem mw_X4_pathFor : MWv yX4_pathFor cX4_pathFor 3 (some .int) 1 := ⟨wI_X4_pathFor, wS_X4_pathFor, wN_X4, wC_X4_pathFor, by decide +kernel, by decide +kernel, by decide +kernel⟩
theorem mw_X4_isInUse : MWv yX4_isInUse cX4_isInUse 2 (some .boolean) 1 := ⟨wI_X4_isInUse, wS_X4_isInUse, wN_X4, wC_X4_isInUse, by decide +kernel, by decide +kernel, by decide +kernel⟩
theorem mw_X4_leastCongestedPath : MWv yX4_leastCongestedPath cX4_leastCongestedPath 4 (some .int) 1 := ⟨wI_X4_leastCongestedPath, wS_X4_leastCongestedPath, wN_X4, wC_X4_leastCongestedPath, by decide +kernel, by decide +kernel, by decide +kernel⟩
theorem mw_X2_congestion : MWv yX2_congestion cX2_congestion 2 (some .int) 0 := ⟨wI_X2_congestion, wS_X2_congestion, wN_X2, wC_X2_congestion, by decide +kernel, by decide +kernel, by decide +kernel⟩
theorem mw_J9_max_7cf53 : MWs yJ9_max_7cf53 cJ9_max_7cf53 2 (some .int) 2 := ⟨wT_J9_max_7cf53, wN_J9, wC_J9_max_7cf53, by decide +kernel, by decide +kernel, by decide +kernel⟩
theorem mw_X4_randomPath : MWv yX4_randomPath cX4_randomPath 1 (some .int) 0 := ⟨wI_X4_randomPath, wS_X4_randomPath, wN_X4, wC_X4_randomPath, by decide +kernel, by decide +kernel, by decide +kernel⟩
theorem mw_X4_nextGenerator : MWv yX4_nextGenerator cX4_nextGenerator 1 (some .int) 0 := ⟨wI_X4_nextGenerator, wS_X4_nextGenerator, wN_X4, wC_X4_nextGenerator, by decide +kernel, by decide +kernel, by decide +kernel⟩
theorem mw_X4_noteChoice : MWv yX4_noteChoice cX4_noteChoice 3 none 2 := ⟨wI_X4_noteChoice, wS_X4_noteChoice, wN_X4, wC_X4_noteChoice, by decide +kernel, by decide +kernel, by decide +kernel⟩
theorem mw_X4_usesTable : MWv yX4_usesTable cX4_usesTable 1 (some .boolean) 0 := ⟨wI_X4_usesTable, wS_X4_usesTable, wN_X4, wC_X4_usesTable, by decide +kernel, by decide +kernel, by decide +kernel⟩
theorem mw_X4_noteInTable : MWv yX4_noteInTable cX4_noteInTable 4 none 2 := ⟨wI_X4_noteInTable, wS_X4_noteInTable, wN_X4, wC_X4_noteInTable, by decide +kernel, by decide +kernel, by decide +kernel⟩
theorem mw_X0_take : MWv yX0_take cX0_take 3 none 2 := ⟨wI_X0_take, wS_X0_take, wN_X0, wC_X0_take, by decide +kernel, by decide +kernel, by decide +kernel⟩
theorem mw_X2_dropsAt : MWv yX2_dropsAt cX2_dropsAt 2 (some .boolean) 1 := ⟨wI_X2_dropsAt, wS_X2_dropsAt, wN_X2, wC_X2_dropsAt, by decide +kernel, by decide +kernel, by decide +kernel⟩
theorem mw_X2_waitAt : MWv yX2_waitAt cX2_waitAt 2 (some .int) 1 := ⟨wI_X2_waitAt, wS_X2_waitAt, wN_X2, wC_X2_waitAt, by decide +kernel, by decide +kernel, by decide +kernel⟩
theorem mw_X2_ticksToArrive : MWv yX2_ticksToArrive cX2_ticksToArrive 3 (some .int) 2 := ⟨wI_X2_ticksToArrive, wS_X2_ticksToArrive, wN_X2, wC_X2_ticksToArrive, by decide +kernel, by decide +kernel, by decide +kernel⟩
theorem mw_X2_ticksToTransmit : MWv yX2_ticksToTransmit cX2_ticksToTransmit 2 (some .int) 1 := ⟨wI_X2_ticksToTransmit, wS_X2_ticksToTransmit, wN_X2, wC_X2_ticksToTransmit, by decide +kernel, by decide +kernel, by decide +kernel⟩
theorem mw_X1_deliver : MWv yX1_deliver cX1_deliver 3 none 2 := ⟨wI_X1_deliver, wS_X1_deliver, wN_X1, wC_X1_deliver, by decide +kernel, by decide +kernel, by decide +kernel⟩
theorem mw_X1_isOvertakenBy : MWv yX1_isOvertakenBy cX1_isOvertakenBy 2 (some .boolean) 1 := ⟨wI_X1_isOvertakenBy, wS_X1_isOvertakenBy, wN_X1, wC_X1_isOvertakenBy, by decide +kernel, by decide +kernel, by decide +kernel⟩
theorem mw_X2_transmit : MWv yX2_transmit cX2_transmit 3 none 2 := ⟨wI_X2_transmit, wS_X2_transmit, wN_X2, wC_X2_transmit, by decide +kernel, by decide +kernel, by decide +kernel⟩
theorem mw_X6_now : MWv yX6_now cX6_now 1 (some .int) 0 := ⟨wI_X6_now, wS_X6_now, wN_X6, wC_X6_now, by decide +kernel, by decide +kernel, by decide +kernel⟩
theorem mw_X6_entryOf : MWv yX6_entryOf cX6_entryOf 2 (some .int) 1 := ⟨wI_X6_entryOf, wS_X6_entryOf, wN_X6, wC_X6_entryOf, by decide +kernel, by decide +kernel, by decide +kernel⟩
theorem mw_X6_isActive : MWv yX6_isActive cX6_isActive 2 (some .int) 1 := ⟨wI_X6_isActive, wS_X6_isActive, wN_X6, wC_X6_isActive, by decide +kernel, by decide +kernel, by decide +kernel⟩
theorem mw_X4_hasEntry : MWv yX4_hasEntry cX4_hasEntry 2 (some .boolean) 1 := ⟨wI_X4_hasEntry, wS_X4_hasEntry, wN_X4, wC_X4_hasEntry, by decide +kernel, by decide +kernel, by decide +kernel⟩
theorem mw_X6_entryPath : MWv yX6_entryPath cX6_entryPath 2 (some .int) 1 := ⟨wI_X6_entryPath, wS_X6_entryPath, wN_X6, wC_X6_entryPath, by decide +kernel, by decide +kernel, by decide +kernel⟩
theorem mw_X6_ageBit : MWv yX6_ageBit cX6_ageBit 2 (some .int) 1 := ⟨wI_X6_ageBit, wS_X6_ageBit, wN_X6, wC_X6_ageBit, by decide +kernel, by decide +kernel, by decide +kernel⟩
theorem mw_X6_idleTime : MWv yX6_idleTime cX6_idleTime 2 (some .int) 1 := ⟨wI_X6_idleTime, wS_X6_idleTime, wN_X6, wC_X6_idleTime, by decide +kernel, by decide +kernel, by decide +kernel⟩
theorem mw_X0_isUnused : MWv yX0_isUnused cX0_isUnused 1 (some .boolean) 0 := ⟨wI_X0_isUnused, wS_X0_isUnused, wN_X0, wC_X0_isUnused, by decide +kernel, by decide +kernel, by decide +kernel⟩
theorem mw_X6_activeEntries : MWv yX6_activeEntries cX6_activeEntries 1 (some .int) 0 := ⟨wI_X6_activeEntries, wS_X6_activeEntries, wN_X6, wC_X6_activeEntries, by decide +kernel, by decide +kernel, by decide +kernel⟩
theorem mw_X4_countEntriesInUse : MWv yX4_countEntriesInUse cX4_countEntriesInUse 3 (some .int) 0 := ⟨wI_X4_countEntriesInUse, wS_X4_countEntriesInUse, wN_X4, wC_X4_countEntriesInUse, by decide +kernel, by decide +kernel, by decide +kernel⟩
theorem mw_X6_load : MWv yX6_load cX6_load 2 (some .int) 1 := ⟨wI_X6_load, wS_X6_load, wN_X6, wC_X6_load, by decide +kernel, by decide +kernel, by decide +kernel⟩
theorem mw_X6_metric : MWv yX6_metric cX6_metric 2 (some .int) 1 := ⟨wI_X6_metric, wS_X6_metric, wN_X6, wC_X6_metric, by decide +kernel, by decide +kernel, by decide +kernel⟩
theorem mw_X6_busyTime : MWv yX6_busyTime cX6_busyTime 2 (some .int) 1 := ⟨wI_X6_busyTime, wS_X6_busyTime, wN_X6, wC_X6_busyTime, by decide +kernel, by decide +kernel, by decide +kernel⟩
theorem mw_X6_latency : MWv yX6_latency cX6_latency 3 (some .int) 2 := ⟨wI_X6_latency, wS_X6_latency, wN_X6, wC_X6_latency, by decide +kernel, by decide +kernel, by decide +kernel⟩
theorem mw_X6_safeGap : MWv yX6_safeGap cX6_safeGap 2 (some .int) 1 := ⟨wI_X6_safeGap, wS_X6_safeGap, wN_X6, wC_X6_safeGap, by decide +kernel, by decide +kernel, by decide +kernel⟩
theorem mw_X4_spreadOfLatencies : MWv yX4_spreadOfLatencies cX4_spreadOfLatencies 6 (some .int) 1 := ⟨wI_X4_spreadOfLatencies, wS_X4_spreadOfLatencies, wN_X4, wC_X4_spreadOfLatencies, by decide +kernel, by decide +kernel, by decide +kernel⟩
theorem mw_X6_packets : MWv yX6_packets cX6_packets 2 (some .int) 1 := ⟨wI_X6_packets, wS_X6_packets, wN_X6, wC_X6_packets, by decide +kernel, by decide +kernel, by decide +kernel⟩
theorem mw_X6_bytes : MWv yX6_bytes cX6_bytes 2 (some .int) 1 := ⟨wI_X6_bytes, wS_X6_bytes, wN_X6, wC_X6_bytes, by decide +kernel, by decide +kernel, by decide +kernel⟩
theorem mw_X6_drops : MWv yX6_drops cX6_drops 2 (some .int) 1 := ⟨wI_X6_drops, wS_X6_drops, wN_X6, wC_X6_drops, by decide +kernel, by decide +kernel, by decide +kernel⟩
theorem mw_X6_imbalance : MWv yX6_imbalance cX6_imbalance 1 (some .int) 0 := ⟨wI_X6_imbalance, wS_X6_imbalance, wN_X6, wC_X6_imbalance, by decide +kernel, by decide +kernel, by decide +kernel⟩
theorem mw_X4_spreadOfBytes : MWv yX4_spreadOfBytes cX4_spreadOfBytes 4 (some .int) 0 := ⟨wI_X4_spreadOfBytes, wS_X4_spreadOfBytes, wN_X4, wC_X4_spreadOfBytes, by decide +kernel, by decide +kernel, by decide +kernel⟩
theorem mw_X6_nextPath : MWv yX6_nextPath cX6_nextPath 2 (some .int) 1 := ⟨wI_X6_nextPath, wS_X6_nextPath, wN_X6, wC_X6_nextPath, by decide +kernel, by decide +kernel, by decide +kernel⟩
theorem mw_X6_wouldReorder : MWv yX6_wouldReorder cX6_wouldReorder 3 (some .int) 2 := ⟨wI_X6_wouldReorder, wS_X6_wouldReorder, wN_X6, wC_X6_wouldReorder, by decide +kernel, by decide +kernel, by decide +kernel⟩
theorem mw_X4_wouldOvertake : MWv yX4_wouldOvertake cX4_wouldOvertake 4 (some .boolean) 2 := ⟨wI_X4_wouldOvertake, wS_X4_wouldOvertake, wN_X4, wC_X4_wouldOvertake, by decide +kernel, by decide +kernel, by decide +kernel⟩
theorem mw_X6_flowlets : MWv yX6_flowlets cX6_flowlets 2 (some .int) 1 := ⟨wI_X6_flowlets, wS_X6_flowlets, wN_X6, wC_X6_flowlets, by decide +kernel, by decide +kernel, by decide +kernel⟩
theorem mw_X6_pathChanges : MWv yX6_pathChanges cX6_pathChanges 2 (some .int) 1 := ⟨wI_X6_pathChanges, wS_X6_pathChanges, wN_X6, wC_X6_pathChanges, by decide +kernel, by decide +kernel, by decide +kernel⟩
theorem mw_X6_reordered : MWv yX6_reordered cX6_reordered 2 (some .int) 1 := ⟨wI_X6_reordered, wS_X6_reordered, wN_X6, wC_X6_reordered, by decide +kernel, by decide +kernel, by decide +kernel⟩
theorem mw_X6_lastArrival : MWv yX6_lastArrival cX6_lastArrival 2 (some .int) 1 := ⟨wI_X6_lastArrival, wS_X6_lastArrival, wN_X6, wC_X6_lastArrival, by decide +kernel, by decide +kernel, by decide +kernel⟩
theorem mw_X6_appendCharacter : MWv yX6_appendCharacter cX6_appendCharacter 2 (some .int) 1 := ⟨wI_X6_appendCharacter, wS_X6_appendCharacter, wN_X6, wC_X6_appendCharacter, by decide +kernel, by decide +kernel, by decide +kernel⟩
theorem mw_X5_isFull : MWv yX5_isFull cX5_isFull 1 (some .boolean) 0 := ⟨wI_X5_isFull, wS_X5_isFull, wN_X5, wC_X5_isFull, by decide +kernel, by decide +kernel, by decide +kernel⟩
theorem mw_X5_append : MWv yX5_append cX5_append 2 none 1 := ⟨wI_X5_append, wS_X5_append, wN_X5, wC_X5_append, by decide +kernel, by decide +kernel, by decide +kernel⟩
theorem mw_X6_clearText : MWv yX6_clearText cX6_clearText 2 (some .int) 0 := ⟨wI_X6_clearText, wS_X6_clearText, wN_X6, wC_X6_clearText, by decide +kernel, by decide +kernel, by decide +kernel⟩
theorem mw_X5_clear : MWv yX5_clear cX5_clear 1 none 0 := ⟨wI_X5_clear, wS_X5_clear, wN_X5, wC_X5_clear, by decide +kernel, by decide +kernel, by decide +kernel⟩
theorem mw_X6_runTrace : MWv yX6_runTrace cX6_runTrace 4 (some .int) 0 := ⟨wI_X6_runTrace, wS_X6_runTrace, wN_X6, wC_X6_runTrace, by decide +kernel, by decide +kernel, by decide +kernel⟩
theorem mw_X5_errorPosition : MWv yX5_errorPosition cX5_errorPosition 3 (some .int) 0 := ⟨wI_X5_errorPosition, wS_X5_errorPosition, wN_X5, wC_X5_errorPosition, by decide +kernel, by decide +kernel, by decide +kernel⟩
theorem mw_X5_rewind : MWv yX5_rewind cX5_rewind 1 none 0 := ⟨wI_X5_rewind, wS_X5_rewind, wN_X5, wC_X5_rewind, by decide +kernel, by decide +kernel, by decide +kernel⟩
theorem mw_X5_skipSpaces : MWv yX5_skipSpaces cX5_skipSpaces 1 none 0 := ⟨wI_X5_skipSpaces, wS_X5_skipSpaces, wN_X5, wC_X5_skipSpaces, by decide +kernel, by decide +kernel, by decide +kernel⟩
theorem mw_X5_codeHere : MWv yX5_codeHere cX5_codeHere 1 (some .int) 0 := ⟨wI_X5_codeHere, wS_X5_codeHere, wN_X5, wC_X5_codeHere, by decide +kernel, by decide +kernel, by decide +kernel⟩
theorem mw_X5_isAtEnd : MWv yX5_isAtEnd cX5_isAtEnd 1 (some .boolean) 0 := ⟨wI_X5_isAtEnd, wS_X5_isAtEnd, wN_X5, wC_X5_isAtEnd, by decide +kernel, by decide +kernel, by decide +kernel⟩
theorem mw_X5_readItem : MWv yX5_readItem cX5_readItem 1 (some .boolean) 0 := ⟨wI_X5_readItem, wS_X5_readItem, wN_X5, wC_X5_readItem, by decide +kernel, by decide +kernel, by decide +kernel⟩
theorem mw_X5_accept : MWv yX5_accept cX5_accept 2 (some .boolean) 1 := ⟨wI_X5_accept, wS_X5_accept, wN_X5, wC_X5_accept, by decide +kernel, by decide +kernel, by decide +kernel⟩
theorem mw_X5_readNumber : MWv yX5_readNumber cX5_readNumber 3 (some .int) 0 := ⟨wI_X5_readNumber, wS_X5_readNumber, wN_X5, wC_X5_readNumber, by decide +kernel, by decide +kernel, by decide +kernel⟩
theorem mw_X5_isDigitHere : MWv yX5_isDigitHere cX5_isDigitHere 1 (some .boolean) 0 := ⟨wI_X5_isDigitHere, wS_X5_isDigitHere, wN_X5, wC_X5_isDigitHere, by decide +kernel, by decide +kernel, by decide +kernel⟩
theorem mw_X6_undo : MWv yX6_undo cX6_undo 1 (some .int) 0 := ⟨wI_X6_undo, wS_X6_undo, wN_X6, wC_X6_undo, by decide +kernel, by decide +kernel, by decide +kernel⟩
theorem mw_X3_popInto : MWv yX3_popInto cX3_popInto 2 none 1 := ⟨wI_X3_popInto, wS_X3_popInto, wN_X3, wC_X3_popInto, by decide +kernel, by decide +kernel, by decide +kernel⟩
theorem mw_X6_save : MWv yX6_save cX6_save 2 (some .int) 1 := ⟨wI_X6_save, wS_X6_save, wN_X6, wC_X6_save, by decide +kernel, by decide +kernel, by decide +kernel⟩
theorem mw_X6_restore : MWv yX6_restore cX6_restore 2 (some .int) 1 := ⟨wI_X6_restore, wS_X6_restore, wN_X6, wC_X6_restore, by decide +kernel, by decide +kernel, by decide +kernel⟩
theorem mw_X3_discardAll : MWv yX3_discardAll cX3_discardAll 1 none 0 := ⟨wI_X3_discardAll, wS_X3_discardAll, wN_X3, wC_X3_discardAll, by decide +kernel, by decide +kernel, by decide +kernel⟩
theorem mw_X7_init : MWi yX7_init cX7_init 1 0 := ⟨wI_X7_init, wN_X7, wC_X7_init, rfl, by decide +kernel, by decide +kernel, by decide +kernel⟩
theorem mw_X7_configure : MWv yX7_configure cX7_configure 5 (some .int) 2 := ⟨wI_X7_configure, wS_X7_configure, wN_X7, wC_X7_configure, by decide +kernel, by decide +kernel, by decide +kernel⟩
theorem mw_X7_in : MWs yX7_in cX7_in 3 (some .boolean) 3 := ⟨wT_X7_in, wN_X7, wC_X7_in, by decide +kernel, by decide +kernel, by decide +kernel⟩
theorem mw_X7_setDelay : MWv yX7_setDelay cX7_setDelay 3 (some .int) 2 := ⟨wI_X7_setDelay, wS_X7_setDelay, wN_X7, wC_X7_setDelay, by decide +kernel, by decide +kernel, by decide +kernel⟩
theorem mw_X7_setRate : MWv yX7_setRate cX7_setRate 3 (some .int) 2 := ⟨wI_X7_setRate, wS_X7_setRate, wN_X7, wC_X7_setRate, by decide +kernel, by decide +kernel, by decide +kernel⟩
theorem mw_X7_setRemoteLevel : MWv yX7_setRemoteLevel cX7_setRemoteLevel 3 (some .int) 2 := ⟨wI_X7_setRemoteLevel, wS_X7_setRemoteLevel, wN_X7, wC_X7_setRemoteLevel, by decide +kernel, by decide +kernel, by decide +kernel⟩
theorem mw_X7_setMode : MWv yX7_setMode cX7_setMode 2 (some .int) 1 := ⟨wI_X7_setMode, wS_X7_setMode, wN_X7, wC_X7_setMode, by decide +kernel, by decide +kernel, by decide +kernel⟩
theorem mw_X7_setDetection : MWv yX7_setDetection cX7_setDetection 2 (some .int) 1 := ⟨wI_X7_setDetection, wS_X7_setDetection, wN_X7, wC_X7_setDetection, by decide +kernel, by decide +kernel, by decide +kernel⟩
theorem mw_X7_setGap : MWv yX7_setGap cX7_setGap 2 (some .int) 1 := ⟨wI_X7_setGap, wS_X7_setGap, wN_X7, wC_X7_setGap, by decide +kernel, by decide +kernel, by decide +kernel⟩
theorem mw_X7_setShift : MWv yX7_setShift cX7_setShift 2 (some .int) 1 := ⟨wI_X7_setShift, wS_X7_setShift, wN_X7, wC_X7_setShift, by decide +kernel, by decide +kernel, by decide +kernel⟩
theorem mw_X7_setGenerator : MWv yX7_setGenerator cX7_setGenerator 2 (some .int) 1 := ⟨wI_X7_setGenerator, wS_X7_setGenerator, wN_X7, wC_X7_setGenerator, by decide +kernel, by decide +kernel, by decide +kernel⟩
theorem mw_X7_advance : MWv yX7_advance cX7_advance 3 (some .int) 1 := ⟨wI_X7_advance, wS_X7_advance, wN_X7, wC_X7_advance, by decide +kernel, by decide +kernel, by decide +kernel⟩
theorem mw_X7_send : MWv yX7_send cX7_send 3 (some .int) 2 := ⟨wI_X7_send, wS_X7_send, wN_X7, wC_X7_send, by decide +kernel, by decide +kernel, by decide +kernel⟩
theorem mw_X7_isFlow : MWs yX7_isFlow cX7_isFlow 1 (some .boolean) 1 := ⟨wT_X7_isFlow, wN_X7, wC_X7_isFlow, by decide +kernel, by decide +kernel, by decide +kernel⟩
theorem mw_X7_isSize : MWs yX7_isSize cX7_isSize 1 (some .boolean) 1 := ⟨wT_X7_isSize, wN_X7, wC_X7_isSize, by decide +kernel, by decide +kernel, by decide +kernel⟩
theorem mw_X7_now : MWv yX7_now cX7_now 1 (some .int) 0 := ⟨wI_X7_now, wS_X7_now, wN_X7, wC_X7_now, by decide +kernel, by decide +kernel, by decide +kernel⟩
theorem mw_X7_entryOf : MWv yX7_entryOf cX7_entryOf 2 (some .int) 1 := ⟨wI_X7_entryOf, wS_X7_entryOf, wN_X7, wC_X7_entryOf, by decide +kernel, by decide +kernel, by decide +kernel⟩
theorem mw_X7_isActive : MWv yX7_isActive cX7_isActive 2 (some .int) 1 := ⟨wI_X7_isActive, wS_X7_isActive, wN_X7, wC_X7_isActive, by decide +kernel, by decide +kernel, by decide +kernel⟩
theorem mw_X7_entryPath : MWv yX7_entryPath cX7_entryPath 2 (some .int) 1 := ⟨wI_X7_entryPath, wS_X7_entryPath, wN_X7, wC_X7_entryPath, by decide +kernel, by decide +kernel, by decide +kernel⟩
theorem mw_X7_ageBit : MWv yX7_ageBit cX7_ageBit 2 (some .int) 1 := ⟨wI_X7_ageBit, wS_X7_ageBit, wN_X7, wC_X7_ageBit, by decide +kernel, by decide +kernel, by decide +kernel⟩
theorem mw_X7_idleTime : MWv yX7_idleTime cX7_idleTime 2 (some .int) 1 := ⟨wI_X7_idleTime, wS_X7_idleTime, wN_X7, wC_X7_idleTime, by decide +kernel, by decide +kernel, by decide +kernel⟩
theorem mw_X7_activeEntries : MWv yX7_activeEntries cX7_activeEntries 3 (some .int) 0 := ⟨wI_X7_activeEntries, wS_X7_activeEntries, wN_X7, wC_X7_activeEntries, by decide +kernel, by decide +kernel, by decide +kernel⟩
theorem mw_X7_load : MWv yX7_load cX7_load 2 (some .int) 1 := ⟨wI_X7_load, wS_X7_load, wN_X7, wC_X7_load, by decide +kernel, by decide +kernel, by decide +kernel⟩
theorem mw_X7_metric : MWv yX7_metric cX7_metric 2 (some .int) 1 := ⟨wI_X7_metric, wS_X7_metric, wN_X7, wC_X7_metric, by decide +kernel, by decide +kernel, by decide +kernel⟩
theorem mw_X7_busyTime : MWv yX7_busyTime cX7_busyTime 3 (some .int) 1 := ⟨wI_X7_busyTime, wS_X7_busyTime, wN_X7, wC_X7_busyTime, by decide +kernel, by decide +kernel, by decide +kernel⟩
theorem mw_X7_latency : MWv yX7_latency cX7_latency 3 (some .int) 2 := ⟨wI_X7_latency, wS_X7_latency, wN_X7, wC_X7_latency, by decide +kernel, by decide +kernel, by decide +kernel⟩
theorem mw_X7_safeGap : MWv yX7_safeGap cX7_safeGap 6 (some .int) 1 := ⟨wI_X7_safeGap, wS_X7_safeGap, wN_X7, wC_X7_safeGap, by decide +kernel, by decide +kernel, by decide +kernel⟩
theorem mw_X7_packets : MWv yX7_packets cX7_packets 2 (some .int) 1 := ⟨wI_X7_packets, wS_X7_packets, wN_X7, wC_X7_packets, by decide +kernel, by decide +kernel, by decide +kernel⟩
theorem mw_X7_bytes : MWv yX7_bytes cX7_bytes 2 (some .int) 1 := ⟨wI_X7_bytes, wS_X7_bytes, wN_X7, wC_X7_bytes, by decide +kernel, by decide +kernel, by decide +kernel⟩
theorem mw_X7_drops : MWv yX7_drops cX7_drops 2 (some .int) 1 := ⟨wI_X7_drops, wS_X7_drops, wN_X7, wC_X7_drops, by decide +kernel, by decide +kernel, by decide +kernel⟩
theorem mw_X7_imbalance : MWv yX7_imbalance cX7_imbalance 5 (some .int) 0 := ⟨wI_X7_imbalance, wS_X7_imbalance, wN_X7, wC_X7_imbalance, by decide +kernel, by decide +kernel, by decide +kernel⟩
theorem mw_X7_nextPath : MWv yX7_nextPath cX7_nextPath 2 (some .int) 1 := ⟨wI_X7_nextPath, wS_X7_nextPath, wN_X7, wC_X7_nextPath, by decide +kernel, by decide +kernel, by decide +kernel⟩
theorem mw_X7_wouldReorder : MWv yX7_wouldReorder cX7_wouldReorder 5 (some .int) 2 := ⟨wI_X7_wouldReorder, wS_X7_wouldReorder, wN_X7, wC_X7_wouldReorder, by decide +kernel, by decide +kernel, by decide +kernel⟩
theorem mw_X7_flowlets : MWv yX7_flowlets cX7_flowlets 2 (some .int) 1 := ⟨wI_X7_flowlets, wS_X7_flowlets, wN_X7, wC_X7_flowlets, by decide +kernel, by decide +kernel, by decide +kernel⟩
theorem mw_X7_pathChanges : MWv yX7_pathChanges cX7_pathChanges 2 (some .int) 1 := ⟨wI_X7_pathChanges, wS_X7_pathChanges, wN_X7, wC_X7_pathChanges, by decide +kernel, by decide +kernel, by decide +kernel⟩
theorem mw_X7_reordered : MWv yX7_reordered cX7_reordered 2 (some .int) 1 := ⟨wI_X7_reordered, wS_X7_reordered, wN_X7, wC_X7_reordered, by decide +kernel, by decide +kernel, by decide +kernel⟩
theorem mw_X7_lastArrival : MWv yX7_lastArrival cX7_lastArrival 2 (some .int) 1 := ⟨wI_X7_lastArrival, wS_X7_lastArrival, wN_X7, wC_X7_lastArrival, by decide +kernel, by decide +kernel, by decide +kernel⟩
theorem mw_X7_appendCharacter : MWv yX7_appendCharacter cX7_appendCharacter 2 (some .int) 1 := ⟨wI_X7_appendCharacter, wS_X7_appendCharacter, wN_X7, wC_X7_appendCharacter, by decide +kernel, by decide +kernel, by decide +kernel⟩
theorem mw_X7_clearText : MWv yX7_clearText cX7_clearText 2 (some .int) 0 := ⟨wI_X7_clearText, wS_X7_clearText, wN_X7, wC_X7_clearText, by decide +kernel, by decide +kernel, by decide +kernel⟩
theorem mw_X7_runTrace : MWv yX7_runTrace cX7_runTrace 3 (some .int) 0 := ⟨wI_X7_runTrace, wS_X7_runTrace, wN_X7, wC_X7_runTrace, by decide +kernel, by decide +kernel, by decide +kernel⟩
theorem mw_X7_undo : MWv yX7_undo cX7_undo 2 (some .int) 0 := ⟨wI_X7_undo, wS_X7_undo, wN_X7, wC_X7_undo, by decide +kernel, by decide +kernel, by decide +kernel⟩
theorem mw_X7_save : MWv yX7_save cX7_save 3 (some .int) 1 := ⟨wI_X7_save, wS_X7_save, wN_X7, wC_X7_save, by decide +kernel, by decide +kernel, by decide +kernel⟩
theorem mw_X7_restore : MWv yX7_restore cX7_restore 3 (some .int) 1 := ⟨wI_X7_restore, wS_X7_restore, wN_X7, wC_X7_restore, by decide +kernel, by decide +kernel, by decide +kernel⟩
end
section
theorem dX0_init_0 : decode cX0_init 0 = .ok (.aload_n 0, 1) := by decide +kernel
theorem dX0_init_1 : decode cX0_init 1 = .ok (.invokespecial 3, 3) := by decide +kernel
theorem dX0_init_4 : decode cX0_init 4 = .ok (.return_, 1) := by decide +kernel
theorem dX0_reset_0 : decode cX0_reset 0 = .ok (.aload_n 0, 1) := by decide +kernel
theorem dX0_reset_1 : decode cX0_reset 1 = .ok (.iconst 0, 1) := by decide +kernel
theorem dX0_reset_2 : decode cX0_reset 2 = .ok (.putfield 9, 3) := by decide +kernel
theorem dX0_reset_5 : decode cX0_reset 5 = .ok (.aload_n 0, 1) := by decide +kernel
theorem dX0_reset_6 : decode cX0_reset 6 = .ok (.bipush (-9), 2) := by decide +kernel
theorem dX0_reset_8 : decode cX0_reset 8 = .ok (.putfield 15, 3) := by decide +kernel
theorem dX0_reset_11 : decode cX0_reset 11 = .ok (.aload_n 0, 1) := by decide +kernel
theorem dX0_reset_12 : decode cX0_reset 12 = .ok (.iconst 0, 1) := by decide +kernel
theorem dX0_reset_13 : decode cX0_reset 13 = .ok (.putfield 19, 3) := by decide +kernel
theorem dX0_reset_16 : decode cX0_reset 16 = .ok (.aload_n 0, 1) := by decide +kernel
theorem dX0_reset_17 : decode cX0_reset 17 = .ok (.iconst 0, 1) := by decide +kernel
theorem dX0_reset_18 : decode cX0_reset 18 = .ok (.putfield 22, 3) := by decide +kernel
theorem dX0_reset_21 : decode cX0_reset 21 = .ok (.return_, 1) := by decide +kernel
theorem dX0_copyFrom_0 : decode cX0_copyFrom 0 = .ok (.aload_n 0, 1) := by decide +kernel
theorem dX0_copyFrom_1 : decode cX0_copyFrom 1 = .ok (.aload_n 1, 1) := by decide +kernel
theorem dX0_copyFrom_2 : decode cX0_copyFrom 2 = .ok (.getfield 9, 3) := by decide +kernel
theorem dX0_copyFrom_5 : decode cX0_copyFrom 5 = .ok (.putfield 9, 3) := by decide +kernel
theorem dX0_copyFrom_8 : decode cX0_copyFrom 8 = .ok (.aload_n 0, 1) := by decide +kernel
theorem dX0_copyFrom_9 : decode cX0_copyFrom 9 = .ok (.aload_n 1, 1) := by decide +kernel
theorem dX0_copyFrom_10 : decode cX0_copyFrom 10 = .ok (.getfield 15, 3) := by decide +kernel
theorem dX0_copyFrom_13 : decode cX0_copyFrom 13 = .ok (.putfield 15, 3) := by decide +kernel
theorem dX0_copyFrom_16 : decode cX0_copyFrom 16 = .ok (.aload_n 0, 1) := by decide +kernel
theorem dX0_copyFrom_17 : decode cX0_copyFrom 17 = .ok (.aload_n 1, 1) := by decide +kernel
theorem dX0_copyFrom_18 : decode cX0_copyFrom 18 = .ok (.getfield 19, 3) := by decide +kernel
theorem dX0_copyFrom_21 : decode cX0_copyFrom 21 = .ok (.putfield 19, 3) := by decide +kernel
theorem dX0_copyFrom_24 : decode cX0_copyFrom 24 = .ok (.aload_n 0, 1) := by decide +kernel
theorem dX0_copyFrom_25 : decode cX0_copyFrom 25 = .ok (.aload_n 1, 1) := by decide +kernel
theorem dX0_copyFrom_26 : decode cX0_copyFrom 26 = .ok (.getfield 22, 3) := by decide +kernel
theorem dX0_copyFrom_29 : decode cX0_copyFrom 29 = .ok (.putfield 22, 3) := by decide +kernel
theorem dX0_copyFrom_32 : decode cX0_copyFrom 32 = .ok (.return_, 1) := by decide +kernel
theorem dX0_isUnused_0 : decode cX0_isUnused 0 = .ok (.aload_n 0, 1) := by decide +kernel
theorem dX0_isUnused_1 : decode cX0_isUnused 1 = .ok (.getfield 15, 3) := by decide +kernel
theorem dX0_isUnused_4 : decode cX0_isUnused 4 = .ok (.bipush (-9), 2) := by decide +kernel
theorem dX0_isUnused_6 : decode cX0_isUnused 6 = .ok (.if_icmp .ne 7, 3) := by decide +kernel
theorem dX0_isUnused_9 : decode cX0_isUnused 9 = .ok (.iconst 1, 1) := by decide +kernel
theorem dX0_isUnused_10 : decode cX0_isUnused 10 = .ok (.goto 4, 3) := by decide +kernel
theorem dX0_isUnused_13 : decode cX0_isUnused 13 = .ok (.iconst 0, 1) := by decide +kernel
theorem dX0_isUnused_14 : decode cX0_isUnused 14 = .ok (.ireturn, 1) := by decide +kernel
theorem dX0_take_0 : decode cX0_take 0 = .ok (.aload_n 0, 1) := by decide +kernel
theorem dX0_take_1 : decode cX0_take 1 = .ok (.iconst 1, 1) := by decide +kernel
theorem dX0_take_2 : decode cX0_take 2 = .ok (.putfield 9, 3) := by decide +kernel
theorem dX0_take_5 : decode cX0_take 5 = .ok (.aload_n 0, 1) := by decide +kernel
theorem dX0_take_6 : decode cX0_take 6 = .ok (.iload_n 1, 1) := by decide +kernel
theorem dX0_take_7 : decode cX0_take 7 = .ok (.putfield 15, 3) := by decide +kernel
theorem dX0_take_10 : decode cX0_take 10 = .ok (.aload_n 0, 1) := by decide +kernel
theorem dX0_take_11 : decode cX0_take 11 = .ok (.iload_n 2, 1) := by decide +kernel
theorem dX0_take_12 : decode cX0_take 12 = .ok (.putfield 19, 3) := by decide +kernel
theorem dX0_take_15 : decode cX0_take 15 = .ok (.aload_n 0, 1) := by decide +kernel
theorem dX0_take_16 : decode cX0_take 16 = .ok (.iconst 0, 1) := by decide +kernel
theorem dX0_take_17 : decode cX0_take 17 = .ok (.putfield 22, 3) := by decide +kernel
theorem dX0_take_20 : decode cX0_take 20 = .ok (.return_, 1) := by decide +kernel
theorem dX0_growOlder_0 : decode cX0_growOlder 0 = .ok (.aload_n 0, 1) := by decide +kernel
theorem dX0_growOlder_1 : decode cX0_growOlder 1 = .ok (.getfield 9, 3) := by decide +kernel
theorem dX0_growOlder_4 : decode cX0_growOlder 4 = .ok (.ifCond .eq 19, 3) := by decide +kernel
theorem dX0_growOlder_7 : decode cX0_growOlder 7 = .ok (.aload_n 0, 1) := by decide +kernel
theorem dX0_growOlder_8 : decode cX0_growOlder 8 = .ok (.getfield 22, 3) := by decide +kernel
theorem dX0_growOlder_11 : decode cX0_growOlder 11 = .ok (.iconst 1, 1) := by decide +kernel
theorem dX0_growOlder_12 : decode cX0_growOlder 12 = .ok (.if_icmp .ne 11, 3) := by decide +kernel
theorem dX0_growOlder_15 : decode cX0_growOlder 15 = .ok (.aload_n 0, 1) := by decide +kernel
theorem dX0_growOlder_16 : decode cX0_growOlder 16 = .ok (.iconst 0, 1) := by decide +kernel
theorem dX0_growOlder_17 : decode cX0_growOlder 17 = .ok (.putfield 9, 3) := by decide +kernel
theorem dX0_growOlder_20 : decode cX0_growOlder 20 = .ok (.goto 15, 3) := by decide +kernel
theorem dX0_growOlder_23 : decode cX0_growOlder 23 = .ok (.aload_n 0, 1) := by decide +kernel
theorem dX0_growOlder_24 : decode cX0_growOlder 24 = .ok (.getfield 9, 3) := by decide +kernel
theorem dX0_growOlder_27 : decode cX0_growOlder 27 = .ok (.ifCond .eq 8, 3) := by decide +kernel
theorem dX0_growOlder_30 : decode cX0_growOlder 30 = .ok (.aload_n 0, 1) := by decide +kernel
theorem dX0_growOlder_31 : decode cX0_growOlder 31 = .ok (.iconst 1, 1) := by decide +kernel
theorem dX0_growOlder_32 : decode cX0_growOlder 32 = .ok (.putfield 22, 3) := by decide +kernel
theorem dX0_growOlder_35 : decode cX0_growOlder 35 = .ok (.return_, 1) := by decide +kernel
theorem dX1_init_0 : decode cX1_init 0 = .ok (.aload_n 0, 1) := by decide +kernel
theorem dX1_init_1 : decode cX1_init 1 = .ok (.invokespecial 3, 3) := by decide +kernel
theorem dX1_init_4 : decode cX1_init 4 = .ok (.return_, 1) := by decide +kernel
theorem dX1_reset_0 : decode cX1_reset 0 = .ok (.aload_n 0, 1) := by decide +kernel
theorem dX1_reset_1 : decode cX1_reset 1 = .ok (.iconst 0, 1) := by decide +kernel
theorem dX1_reset_2 : decode cX1_reset 2 = .ok (.putfield 9, 3) := by decide +kernel
theorem dX1_reset_5 : decode cX1_reset 5 = .ok (.aload_n 0, 1) := by decide +kernel
theorem dX1_reset_6 : decode cX1_reset 6 = .ok (.iconst 0, 1) := by decide +kernel
theorem dX1_reset_7 : decode cX1_reset 7 = .ok (.putfield 15, 3) := by decide +kernel
theorem dX1_reset_10 : decode cX1_reset 10 = .ok (.aload_n 0, 1) := by decide +kernel
theorem dX1_reset_11 : decode cX1_reset 11 = .ok (.iconst 0, 1) := by decide +kernel
theorem dX1_reset_12 : decode cX1_reset 12 = .ok (.putfield 18, 3) := by decide +kernel
theorem dX1_reset_15 : decode cX1_reset 15 = .ok (.aload_n 0, 1) := by decide +kernel
theorem dX1_reset_16 : decode cX1_reset 16 = .ok (.bipush (-9), 2) := by decide +kernel
theorem dX1_reset_18 : decode cX1_reset 18 = .ok (.putfield 21, 3) := by decide +kernel
theorem dX1_reset_21 : decode cX1_reset 21 = .ok (.aload_n 0, 1) := by decide +kernel
theorem dX1_reset_22 : decode cX1_reset 22 = .ok (.bipush (-9), 2) := by decide +kernel
theorem dX1_reset_24 : decode cX1_reset 24 = .ok (.putfield 24, 3) := by decide +kernel
theorem dX1_reset_27 : decode cX1_reset 27 = .ok (.return_, 1) := by decide +kernel
theorem dX1_copyFrom_0 : decode cX1_copyFrom 0 = .ok (.aload_n 0, 1) := by decide +kernel
theorem dX1_copyFrom_1 : decode cX1_copyFrom 1 = .ok (.aload_n 1, 1) := by decide +kernel
theorem dX1_copyFrom_2 : decode cX1_copyFrom 2 = .ok (.getfield 9, 3) := by decide +kernel
theorem dX1_copyFrom_5 : decode cX1_copyFrom 5 = .ok (.putfield 9, 3) := by decide +kernel
theorem dX1_copyFrom_8 : decode cX1_copyFrom 8 = .ok (.aload_n 0, 1) := by decide +kernel
theorem dX1_copyFrom_9 : decode cX1_copyFrom 9 = .ok (.aload_n 1, 1) := by decide +kernel
theorem dX1_copyFrom_10 : decode cX1_copyFrom 10 = .ok (.getfield 15, 3) := by decide +kernel
theorem dX1_copyFrom_13 : decode cX1_copyFrom 13 = .ok (.putfield 15, 3) := by decide +kernel
theorem dX1_copyFrom_16 : decode cX1_copyFrom 16 = .ok (.aload_n 0, 1) := by decide +kernel
theorem dX1_copyFrom_17 : decode cX1_copyFrom 17 = .ok (.aload_n 1, 1) := by decide +kernel
theorem dX1_copyFrom_18 : decode cX1_copyFrom 18 = .ok (.getfield 18, 3) := by decide +kernel
theorem dX1_copyFrom_21 : decode cX1_copyFrom 21 = .ok (.putfield 18, 3) := by decide +kernel
theorem dX1_copyFrom_24 : decode cX1_copyFrom 24 = .ok (.aload_n 0, 1) := by decide +kernel
theorem dX1_copyFrom_25 : decode cX1_copyFrom 25 = .ok (.aload_n 1, 1) := by decide +kernel
theorem dX1_copyFrom_26 : decode cX1_copyFrom 26 = .ok (.getfield 21, 3) := by decide +kernel
theorem dX1_copyFrom_29 : decode cX1_copyFrom 29 = .ok (.putfield 21, 3) := by decide +kernel
theorem dX1_copyFrom_32 : decode cX1_copyFrom 32 = .ok (.aload_n 0, 1) := by decide +kernel
theorem dX1_copyFrom_33 : decode cX1_copyFrom 33 = .ok (.aload_n 1, 1) := by decide +kernel
theorem dX1_copyFrom_34 : decode cX1_copyFrom 34 = .ok (.getfield 24, 3) := by decide +kernel
theorem dX1_copyFrom_37 : decode cX1_copyFrom 37 = .ok (.putfield 24, 3) := by decide +kernel
theorem dX1_copyFrom_40 : decode cX1_copyFrom 40 = .ok (.return_, 1) := by decide +kernel
theorem dX1_isOvertakenBy_0 : decode cX1_isOvertakenBy 0 = .ok (.iload_n 1, 1) := by decide +kernel
theorem dX1_isOvertakenBy_1 : decode cX1_isOvertakenBy 1 = .ok (.aload_n 0, 1) := by decide +kernel
theorem dX1_isOvertakenBy_2 : decode cX1_isOvertakenBy 2 = .ok (.getfield 24, 3) := by decide +kernel
theorem dX1_isOvertakenBy_5 : decode cX1_isOvertakenBy 5 = .ok (.if_icmp .ge 7, 3) := by decide +kernel
theorem dX1_isOvertakenBy_8 : decode cX1_isOvertakenBy 8 = .ok (.iconst 1, 1) := by decide +kernel
theorem dX1_isOvertakenBy_9 : decode cX1_isOvertakenBy 9 = .ok (.goto 4, 3) := by decide +kernel
theorem dX1_isOvertakenBy_12 : decode cX1_isOvertakenBy 12 = .ok (.iconst 0, 1) := by decide +kernel
theorem dX1_isOvertakenBy_13 : decode cX1_isOvertakenBy 13 = .ok (.ireturn, 1) := by decide +kernel
theorem dX1_deliver_0 : decode cX1_deliver 0 = .ok (.aload_n 0, 1) := by decide +kernel
theorem dX1_deliver_1 : decode cX1_deliver 1 = .ok (.getfield 21, 3) := by decide +kernel
theorem dX1_deliver_4 : decode cX1_deliver 4 = .ok (.bipush (-9), 2) := by decide +kernel
theorem dX1_deliver_6 : decode cX1_deliver 6 = .ok (.if_icmp .eq 21, 3) := by decide +kernel
theorem dX1_deliver_9 : decode cX1_deliver 9 = .ok (.aload_n 0, 1) := by decide +kernel
theorem dX1_deliver_10 : decode cX1_deliver 10 = .ok (.getfield 21, 3) := by decide +kernel
theorem dX1_deliver_13 : decode cX1_deliver 13 = .ok (.iload_n 1, 1) := by decide +kernel
theorem dX1_deliver_14 : decode cX1_deliver 14 = .ok (.if_icmp .eq 13, 3) := by decide +kernel
theorem dX1_deliver_17 : decode cX1_deliver 17 = .ok (.aload_n 0, 1) := by decide +kernel
theorem dX1_deliver_18 : decode cX1_deliver 18 = .ok (.dup, 1) := by decide +kernel
theorem dX1_deliver_19 : decode cX1_deliver 19 = .ok (.getfield 15, 3) := by decide +kernel
theorem dX1_deliver_22 : decode cX1_deliver 22 = .ok (.iconst 1, 1) := by decide +kernel
theorem dX1_deliver_23 : decode cX1_deliver 23 = .ok (.iadd, 1) := by decide +kernel
theorem dX1_deliver_24 : decode cX1_deliver 24 = .ok (.putfield 15, 3) := by decide +kernel
theorem dX1_deliver_27 : decode cX1_deliver 27 = .ok (.aload_n 0, 1) := by decide +kernel
theorem dX1_deliver_28 : decode cX1_deliver 28 = .ok (.iload_n 2, 1) := by decide +kernel
theorem dX1_deliver_29 : decode cX1_deliver 29 = .ok (.invokevirtual 27, 3) := by decide +kernel
theorem dX1_deliver_32 : decode cX1_deliver 32 = .ok (.ifCond .eq 13, 3) := by decide +kernel
theorem dX1_deliver_35 : decode cX1_deliver 35 = .ok (.aload_n 0, 1) := by decide +kernel
theorem dX1_deliver_36 : decode cX1_deliver 36 = .ok (.dup, 1) := by decide +kernel
theorem dX1_deliver_37 : decode cX1_deliver 37 = .ok (.getfield 18, 3) := by decide +kernel
theorem dX1_deliver_40 : decode cX1_deliver 40 = .ok (.iconst 1, 1) := by decide +kernel
theorem dX1_deliver_41 : decode cX1_deliver 41 = .ok (.iadd, 1) := by decide +kernel
theorem dX1_deliver_42 : decode cX1_deliver 42 = .ok (.putfield 18, 3) := by decide +kernel
theorem dX1_deliver_45 : decode cX1_deliver 45 = .ok (.aload_n 0, 1) := by decide +kernel
theorem dX1_deliver_46 : decode cX1_deliver 46 = .ok (.iload_n 1, 1) := by decide +kernel
theorem dX1_deliver_47 : decode cX1_deliver 47 = .ok (.putfield 21, 3) := by decide +kernel
theorem dX1_deliver_50 : decode cX1_deliver 50 = .ok (.aload_n 0, 1) := by decide +kernel
theorem dX1_deliver_51 : decode cX1_deliver 51 = .ok (.aload_n 0, 1) := by decide +kernel
theorem dX1_deliver_52 : decode cX1_deliver 52 = .ok (.getfield 24, 3) := by decide +kernel
theorem dX1_deliver_55 : decode cX1_deliver 55 = .ok (.iload_n 2, 1) := by decide +kernel
theorem dX1_deliver_56 : decode cX1_deliver 56 = .ok (.invokestatic 31, 3) := by decide +kernel
theorem dX1_deliver_59 : decode cX1_deliver 59 = .ok (.putfield 24, 3) := by decide +kernel
theorem dX1_deliver_62 : decode cX1_deliver 62 = .ok (.return_, 1) := by decide +kernel
theorem dX2_init_0 : decode cX2_init 0 = .ok (.aload_n 0, 1) := by decide +kernel
theorem dX2_init_1 : decode cX2_init 1 = .ok (.invokespecial 3, 3) := by decide +kernel
theorem dX2_init_4 : decode cX2_init 4 = .ok (.return_, 1) := by decide +kernel
theorem dX2_reset_0 : decode cX2_reset 0 = .ok (.aload_n 0, 1) := by decide +kernel
theorem dX2_reset_1 : decode cX2_reset 1 = .ok (.bipush 10, 2) := by decide +kernel
theorem dX2_reset_3 : decode cX2_reset 3 = .ok (.putfield 9, 3) := by decide +kernel
theorem dX2_reset_6 : decode cX2_reset 6 = .ok (.aload_n 0, 1) := by decide +kernel
theorem dX2_reset_7 : decode cX2_reset 7 = .ok (.bipush 10, 2) := by decide +kernel
theorem dX2_reset_9 : decode cX2_reset 9 = .ok (.putfield 15, 3) := by decide +kernel
theorem dX2_reset_12 : decode cX2_reset 12 = .ok (.aload_n 0, 1) := by decide +kernel
theorem dX2_reset_13 : decode cX2_reset 13 = .ok (.iconst 0, 1) := by decide +kernel
theorem dX2_reset_14 : decode cX2_reset 14 = .ok (.putfield 18, 3) := by decide +kernel
theorem dX2_reset_17 : decode cX2_reset 17 = .ok (.aload_n 0, 1) := by decide +kernel
theorem dX2_reset_18 : decode cX2_reset 18 = .ok (.iconst 0, 1) := by decide +kernel
theorem dX2_reset_19 : decode cX2_reset 19 = .ok (.putfield 21, 3) := by decide +kernel
theorem dX2_reset_22 : decode cX2_reset 22 = .ok (.aload_n 0, 1) := by decide +kernel
theorem dX2_reset_23 : decode cX2_reset 23 = .ok (.iconst 0, 1) := by decide +kernel
theorem dX2_reset_24 : decode cX2_reset 24 = .ok (.putfield 24, 3) := by decide +kernel
theorem dX2_reset_27 : decode cX2_reset 27 = .ok (.aload_n 0, 1) := by decide +kernel
theorem dX2_reset_28 : decode cX2_reset 28 = .ok (.iconst 0, 1) := by decide +kernel
theorem dX2_reset_29 : decode cX2_reset 29 = .ok (.putfield 27, 3) := by decide +kernel
theorem dX2_reset_32 : decode cX2_reset 32 = .ok (.aload_n 0, 1) := by decide +kernel
theorem dX2_reset_33 : decode cX2_reset 33 = .ok (.iconst 0, 1) := by decide +kernel
theorem dX2_reset_34 : decode cX2_reset 34 = .ok (.putfield 30, 3) := by decide +kernel
theorem dX2_reset_37 : decode cX2_reset 37 = .ok (.aload_n 0, 1) := by decide +kernel
theorem dX2_reset_38 : decode cX2_reset 38 = .ok (.iconst 0, 1) := by decide +kernel
theorem dX2_reset_39 : decode cX2_reset 39 = .ok (.putfield 33, 3) := by decide +kernel
theorem dX2_reset_42 : decode cX2_reset 42 = .ok (.return_, 1) := by decide +kernel
theorem dX2_copyFrom_0 : decode cX2_copyFrom 0 = .ok (.aload_n 0, 1) := by decide +kernel
theorem dX2_copyFrom_1 : decode cX2_copyFrom 1 = .ok (.aload_n 1, 1) := by decide +kernel
theorem dX2_copyFrom_2 : decode cX2_copyFrom 2 = .ok (.getfield 9, 3) := by decide +kernel
theorem dX2_copyFrom_5 : decode cX2_copyFrom 5 = .ok (.putfield 9, 3) := by decide +kernel
theorem dX2_copyFrom_8 : decode cX2_copyFrom 8 = .ok (.aload_n 0, 1) := by decide +kernel
theorem dX2_copyFrom_9 : decode cX2_copyFrom 9 = .ok (.aload_n 1, 1) := by decide +kernel
theorem dX2_copyFrom_10 : decode cX2_copyFrom 10 = .ok (.getfield 15, 3) := by decide +kernel
theorem dX2_copyFrom_13 : decode cX2_copyFrom 13 = .ok (.putfield 15, 3) := by decide +kernel
theorem dX2_copyFrom_16 : decode cX2_copyFrom 16 = .ok (.aload_n 0, 1) := by decide +kernel
theorem dX2_copyFrom_17 : decode cX2_copyFrom 17 = .ok (.aload_n 1, 1) := by decide +kernel
theorem dX2_copyFrom_18 : decode cX2_copyFrom 18 = .ok (.getfield 18, 3) := by decide +kernel
theorem dX2_copyFrom_21 : decode cX2_copyFrom 21 = .ok (.putfield 18, 3) := by decide +kernel
theorem dX2_copyFrom_24 : decode cX2_copyFrom 24 = .ok (.aload_n 0, 1) := by decide +kernel
theorem dX2_copyFrom_25 : decode cX2_copyFrom 25 = .ok (.aload_n 1, 1) := by decide +kernel
theorem dX2_copyFrom_26 : decode cX2_copyFrom 26 = .ok (.getfield 21, 3) := by decide +kernel
theorem dX2_copyFrom_29 : decode cX2_copyFrom 29 = .ok (.putfield 21, 3) := by decide +kernel
theorem dX2_copyFrom_32 : decode cX2_copyFrom 32 = .ok (.aload_n 0, 1) := by decide +kernel
theorem dX2_copyFrom_33 : decode cX2_copyFrom 33 = .ok (.aload_n 1, 1) := by decide +kernel
theorem dX2_copyFrom_34 : decode cX2_copyFrom 34 = .ok (.getfield 24, 3) := by decide +kernel
theorem dX2_copyFrom_37 : decode cX2_copyFrom 37 = .ok (.putfield 24, 3) := by decide +kernel
theorem dX2_copyFrom_40 : decode cX2_copyFrom 40 = .ok (.aload_n 0, 1) := by decide +kernel
theorem dX2_copyFrom_41 : decode cX2_copyFrom 41 = .ok (.aload_n 1, 1) := by decide +kernel
theorem dX2_copyFrom_42 : decode cX2_copyFrom 42 = .ok (.getfield 27, 3) := by decide +kernel
theorem dX2_copyFrom_45 : decode cX2_copyFrom 45 = .ok (.putfield 27, 3) := by decide +kernel
theorem dX2_copyFrom_48 : decode cX2_copyFrom 48 = .ok (.aload_n 0, 1) := by decide +kernel
theorem dX2_copyFrom_49 : decode cX2_copyFrom 49 = .ok (.aload_n 1, 1) := by decide +kernel
theorem dX2_copyFrom_50 : decode cX2_copyFrom 50 = .ok (.getfield 30, 3) := by decide +kernel
theorem dX2_copyFrom_53 : decode cX2_copyFrom 53 = .ok (.putfield 30, 3) := by decide +kernel
theorem dX2_copyFrom_56 : decode cX2_copyFrom 56 = .ok (.aload_n 0, 1) := by decide +kernel
theorem dX2_copyFrom_57 : decode cX2_copyFrom 57 = .ok (.aload_n 1, 1) := by decide +kernel
theorem dX2_copyFrom_58 : decode cX2_copyFrom 58 = .ok (.getfield 33, 3) := by decide +kernel
theorem dX2_copyFrom_61 : decode cX2_copyFrom 61 = .ok (.putfield 33, 3) := by decide +kernel
theorem dX2_copyFrom_64 : decode cX2_copyFrom 64 = .ok (.return_, 1) := by decide +kernel
theorem dX2_congestion_0 : decode cX2_congestion 0 = .ok (.aload_n 0, 1) := by decide +kernel
theorem dX2_congestion_1 : decode cX2_congestion 1 = .ok (.getfield 21, 3) := by decide +kernel
theorem dX2_congestion_4 : decode cX2_congestion 4 = .ok (.bipush 64, 2) := by decide +kernel
theorem dX2_congestion_6 : decode cX2_congestion 6 = .ok (.idiv, 1) := by decide +kernel
theorem dX2_congestion_7 : decode cX2_congestion 7 = .ok (.bipush 7, 2) := by decide +kernel
theorem dX2_congestion_9 : decode cX2_congestion 9 = .ok (.invokestatic 36, 3) := by decide +kernel
theorem dX2_congestion_12 : decode cX2_congestion 12 = .ok (.istore_n 1, 1) := by decide +kernel
theorem dX2_congestion_13 : decode cX2_congestion 13 = .ok (.iload_n 1, 1) := by decide +kernel
theorem dX2_congestion_14 : decode cX2_congestion 14 = .ok (.aload_n 0, 1) := by decide +kernel
theorem dX2_congestion_15 : decode cX2_congestion 15 = .ok (.getfield 18, 3) := by decide +kernel
theorem dX2_congestion_18 : decode cX2_congestion 18 = .ok (.invokestatic 42, 3) := by decide +kernel
theorem dX2_congestion_21 : decode cX2_congestion 21 = .ok (.ireturn, 1) := by decide +kernel
theorem dX2_decay_0 : decode cX2_decay 0 = .ok (.aload_n 0, 1) := by decide +kernel
theorem dX2_decay_1 : decode cX2_decay 1 = .ok (.dup, 1) := by decide +kernel
theorem dX2_decay_2 : decode cX2_decay 2 = .ok (.getfield 21, 3) := by decide +kernel
theorem dX2_decay_5 : decode cX2_decay 5 = .ok (.aload_n 0, 1) := by decide +kernel
theorem dX2_decay_6 : decode cX2_decay 6 = .ok (.getfield 21, 3) := by decide +kernel
theorem dX2_decay_9 : decode cX2_decay 9 = .ok (.iload_n 1, 1) := by decide +kernel
theorem dX2_decay_10 : decode cX2_decay 10 = .ok (.ishr, 1) := by decide +kernel
theorem dX2_decay_11 : decode cX2_decay 11 = .ok (.isub, 1) := by decide +kernel
theorem dX2_decay_12 : decode cX2_decay 12 = .ok (.putfield 21, 3) := by decide +kernel
theorem dX2_decay_15 : decode cX2_decay 15 = .ok (.return_, 1) := by decide +kernel
theorem dX2_waitAt_0 : decode cX2_waitAt 0 = .ok (.aload_n 0, 1) := by decide +kernel
theorem dX2_waitAt_1 : decode cX2_waitAt 1 = .ok (.getfield 24, 3) := by decide +kernel
theorem dX2_waitAt_4 : decode cX2_waitAt 4 = .ok (.iload_n 1, 1) := by decide +kernel
theorem dX2_waitAt_5 : decode cX2_waitAt 5 = .ok (.isub, 1) := by decide +kernel
theorem dX2_waitAt_6 : decode cX2_waitAt 6 = .ok (.iconst 0, 1) := by decide +kernel
theorem dX2_waitAt_7 : decode cX2_waitAt 7 = .ok (.invokestatic 42, 3) := by decide +kernel
theorem dX2_waitAt_10 : decode cX2_waitAt 10 = .ok (.ireturn, 1) := by decide +kernel
theorem dX2_dropsAt_0 : decode cX2_dropsAt 0 = .ok (.aload_n 0, 1) := by decide +kernel
theorem dX2_dropsAt_1 : decode cX2_dropsAt 1 = .ok (.iload_n 1, 1) := by decide +kernel
theorem dX2_dropsAt_2 : decode cX2_dropsAt 2 = .ok (.invokevirtual 45, 3) := by decide +kernel
theorem dX2_dropsAt_5 : decode cX2_dropsAt 5 = .ok (.sipush 200, 3) := by decide +kernel
theorem dX2_dropsAt_8 : decode cX2_dropsAt 8 = .ok (.if_icmp .le 7, 3) := by decide +kernel
theorem dX2_dropsAt_11 : decode cX2_dropsAt 11 = .ok (.iconst 1, 1) := by decide +kernel
theorem dX2_dropsAt_12 : decode cX2_dropsAt 12 = .ok (.goto 4, 3) := by decide +kernel
theorem dX2_dropsAt_15 : decode cX2_dropsAt 15 = .ok (.iconst 0, 1) := by decide +kernel
theorem dX2_dropsAt_16 : decode cX2_dropsAt 16 = .ok (.ireturn, 1) := by decide +kernel
theorem dX2_ticksToTransmit_0 : decode cX2_ticksToTransmit 0 = .ok (.iload_n 1, 1) := by decide +kernel
theorem dX2_ticksToTransmit_1 : decode cX2_ticksToTransmit 1 = .ok (.aload_n 0, 1) := by decide +kernel
theorem dX2_ticksToTransmit_2 : decode cX2_ticksToTransmit 2 = .ok (.getfield 15, 3) := by decide +kernel
theorem dX2_ticksToTransmit_5 : decode cX2_ticksToTransmit 5 = .ok (.iadd, 1) := by decide +kernel
theorem dX2_ticksToTransmit_6 : decode cX2_ticksToTransmit 6 = .ok (.iconst 1, 1) := by decide +kernel
theorem dX2_ticksToTransmit_7 : decode cX2_ticksToTransmit 7 = .ok (.isub, 1) := by decide +kernel
theorem dX2_ticksToTransmit_8 : decode cX2_ticksToTransmit 8 = .ok (.aload_n 0, 1) := by decide +kernel
theorem dX2_ticksToTransmit_9 : decode cX2_ticksToTransmit 9 = .ok (.getfield 15, 3) := by decide +kernel
theorem dX2_ticksToTransmit_12 : decode cX2_ticksToTransmit 12 = .ok (.idiv, 1) := by decide +kernel
theorem dX2_ticksToTransmit_13 : decode cX2_ticksToTransmit 13 = .ok (.ireturn, 1) := by decide +kernel
theorem dX2_ticksToArrive_0 : decode cX2_ticksToArrive 0 = .ok (.aload_n 0, 1) := by decide +kernel
theorem dX2_ticksToArrive_1 : decode cX2_ticksToArrive 1 = .ok (.iload_n 1, 1) := by decide +kernel
theorem dX2_ticksToArrive_2 : decode cX2_ticksToArrive 2 = .ok (.invokevirtual 45, 3) := by decide +kernel
theorem dX2_ticksToArrive_5 : decode cX2_ticksToArrive 5 = .ok (.aload_n 0, 1) := by decide +kernel
theorem dX2_ticksToArrive_6 : decode cX2_ticksToArrive 6 = .ok (.iload_n 2, 1) := by decide +kernel
theorem dX2_ticksToArrive_7 : decode cX2_ticksToArrive 7 = .ok (.invokevirtual 49, 3) := by decide +kernel
theorem dX2_ticksToArrive_10 : decode cX2_ticksToArrive 10 = .ok (.iadd, 1) := by decide +kernel
theorem dX2_ticksToArrive_11 : decode cX2_ticksToArrive 11 = .ok (.aload_n 0, 1) := by decide +kernel
theorem dX2_ticksToArrive_12 : decode cX2_ticksToArrive 12 = .ok (.getfield 9, 3) := by decide +kernel
theorem dX2_ticksToArrive_15 : decode cX2_ticksToArrive 15 = .ok (.iadd, 1) := by decide +kernel
theorem dX2_ticksToArrive_16 : decode cX2_ticksToArrive 16 = .ok (.ireturn, 1) := by decide +kernel
theorem dX2_transmit_0 : decode cX2_transmit 0 = .ok (.aload_n 0, 1) := by decide +kernel
theorem dX2_transmit_1 : decode cX2_transmit 1 = .ok (.iload_n 1, 1) := by decide +kernel
theorem dX2_transmit_2 : decode cX2_transmit 2 = .ok (.aload_n 0, 1) := by decide +kernel
theorem dX2_transmit_3 : decode cX2_transmit 3 = .ok (.iload_n 1, 1) := by decide +kernel
theorem dX2_transmit_4 : decode cX2_transmit 4 = .ok (.invokevirtual 45, 3) := by decide +kernel
theorem dX2_transmit_7 : decode cX2_transmit 7 = .ok (.iadd, 1) := by decide +kernel
theorem dX2_transmit_8 : decode cX2_transmit 8 = .ok (.aload_n 0, 1) := by decide +kernel
theorem dX2_transmit_9 : decode cX2_transmit 9 = .ok (.iload_n 2, 1) := by decide +kernel
theorem dX2_transmit_10 : decode cX2_transmit 10 = .ok (.invokevirtual 49, 3) := by decide +kernel
theorem dX2_transmit_13 : decode cX2_transmit 13 = .ok (.iadd, 1) := by decide +kernel
theorem dX2_transmit_14 : decode cX2_transmit 14 = .ok (.putfield 24, 3) := by decide +kernel
theorem dX2_transmit_17 : decode cX2_transmit 17 = .ok (.aload_n 0, 1) := by decide +kernel
theorem dX2_transmit_18 : decode cX2_transmit 18 = .ok (.dup, 1) := by decide +kernel
theorem dX2_transmit_19 : decode cX2_transmit 19 = .ok (.getfield 21, 3) := by decide +kernel
theorem dX2_transmit_22 : decode cX2_transmit 22 = .ok (.iload_n 2, 1) := by decide +kernel
theorem dX2_transmit_23 : decode cX2_transmit 23 = .ok (.iadd, 1) := by decide +kernel
theorem dX2_transmit_24 : decode cX2_transmit 24 = .ok (.putfield 21, 3) := by decide +kernel
theorem dX2_transmit_27 : decode cX2_transmit 27 = .ok (.aload_n 0, 1) := by decide +kernel
theorem dX2_transmit_28 : decode cX2_transmit 28 = .ok (.dup, 1) := by decide +kernel
theorem dX2_transmit_29 : decode cX2_transmit 29 = .ok (.getfield 27, 3) := by decide +kernel
theorem dX2_transmit_32 : decode cX2_transmit 32 = .ok (.iconst 1, 1) := by decide +kernel
theorem dX2_transmit_33 : decode cX2_transmit 33 = .ok (.iadd, 1) := by decide +kernel
theorem dX2_transmit_34 : decode cX2_transmit 34 = .ok (.putfield 27, 3) := by decide +kernel
theorem dX2_transmit_37 : decode cX2_transmit 37 = .ok (.aload_n 0, 1) := by decide +kernel
theorem dX2_transmit_38 : decode cX2_transmit 38 = .ok (.dup, 1) := by decide +kernel
theorem dX2_transmit_39 : decode cX2_transmit 39 = .ok (.getfield 30, 3) := by decide +kernel
theorem dX2_transmit_42 : decode cX2_transmit 42 = .ok (.iload_n 2, 1) := by decide +kernel
theorem dX2_transmit_43 : decode cX2_transmit 43 = .ok (.iadd, 1) := by decide +kernel
theorem dX2_transmit_44 : decode cX2_transmit 44 = .ok (.putfield 30, 3) := by decide +kernel
theorem dX2_transmit_47 : decode cX2_transmit 47 = .ok (.return_, 1) := by decide +kernel
theorem dX3_init_0 : decode cX3_init 0 = .ok (.aload_n 0, 1) := by decide +kernel
theorem dX3_init_1 : decode cX3_init 1 = .ok (.invokespecial 3, 3) := by decide +kernel
theorem dX3_init_4 : decode cX3_init 4 = .ok (.aload_n 0, 1) := by decide +kernel
theorem dX3_init_5 : decode cX3_init 5 = .ok (.bipush 8, 2) := by decide +kernel
theorem dX3_init_7 : decode cX3_init 7 = .ok (.anewarray 9, 3) := by decide +kernel
theorem dX3_init_10 : decode cX3_init 10 = .ok (.putfield 11, 3) := by decide +kernel
theorem dX3_init_13 : decode cX3_init 13 = .ok (.iconst 0, 1) := by decide +kernel
theorem dX3_init_14 : decode cX3_init 14 = .ok (.istore_n 1, 1) := by decide +kernel
theorem dX3_init_15 : decode cX3_init 15 = .ok (.iload_n 1, 1) := by decide +kernel
theorem dX3_init_16 : decode cX3_init 16 = .ok (.bipush 8, 2) := by decide +kernel
theorem dX3_init_18 : decode cX3_init 18 = .ok (.if_icmp .ge 22, 3) := by decide +kernel
theorem dX3_init_21 : decode cX3_init 21 = .ok (.aload_n 0, 1) := by decide +kernel
theorem dX3_init_22 : decode cX3_init 22 = .ok (.getfield 11, 3) := by decide +kernel
theorem dX3_init_25 : decode cX3_init 25 = .ok (.iload_n 1, 1) := by decide +kernel
theorem dX3_init_26 : decode cX3_init 26 = .ok (.new 9, 3) := by decide +kernel
theorem dX3_init_29 : decode cX3_init 29 = .ok (.dup, 1) := by decide +kernel
theorem dX3_init_30 : decode cX3_init 30 = .ok (.invokespecial 17, 3) := by decide +kernel
theorem dX3_init_33 : decode cX3_init 33 = .ok (.aastore, 1) := by decide +kernel
theorem dX3_init_34 : decode cX3_init 34 = .ok (.iinc 1 1, 3) := by decide +kernel
theorem dX3_init_37 : decode cX3_init 37 = .ok (.goto (-22), 3) := by decide +kernel
theorem dX3_init_40 : decode cX3_init 40 = .ok (.return_, 1) := by decide +kernel
theorem dX3_push_0 : decode cX3_push 0 = .ok (.aload_n 0, 1) := by decide +kernel
theorem dX3_push_1 : decode cX3_push 1 = .ok (.getfield 11, 3) := by decide +kernel
theorem dX3_push_4 : decode cX3_push 4 = .ok (.aload_n 0, 1) := by decide +kernel
theorem dX3_push_5 : decode cX3_push 5 = .ok (.getfield 18, 3) := by decide +kernel
theorem dX3_push_8 : decode cX3_push 8 = .ok (.aaload, 1) := by decide +kernel
theorem dX3_push_9 : decode cX3_push 9 = .ok (.aload_n 1, 1) := by decide +kernel
theorem dX3_push_10 : decode cX3_push 10 = .ok (.invokevirtual 22, 3) := by decide +kernel
theorem dX3_push_13 : decode cX3_push 13 = .ok (.aload_n 0, 1) := by decide +kernel
theorem dX3_push_14 : decode cX3_push 14 = .ok (.aload_n 0, 1) := by decide +kernel
theorem dX3_push_15 : decode cX3_push 15 = .ok (.getfield 18, 3) := by decide +kernel
theorem dX3_push_18 : decode cX3_push 18 = .ok (.iconst 1, 1) := by decide +kernel
theorem dX3_push_19 : decode cX3_push 19 = .ok (.iadd, 1) := by decide +kernel
theorem dX3_push_20 : decode cX3_push 20 = .ok (.bipush 8, 2) := by decide +kernel
theorem dX3_push_22 : decode cX3_push 22 = .ok (.irem, 1) := by decide +kernel
theorem dX3_push_23 : decode cX3_push 23 = .ok (.putfield 18, 3) := by decide +kernel
theorem dX3_push_26 : decode cX3_push 26 = .ok (.aload_n 0, 1) := by decide +kernel
theorem dX3_push_27 : decode cX3_push 27 = .ok (.aload_n 0, 1) := by decide +kernel
theorem dX3_push_28 : decode cX3_push 28 = .ok (.getfield 26, 3) := by decide +kernel
theorem dX3_push_31 : decode cX3_push 31 = .ok (.iconst 1, 1) := by decide +kernel
theorem dX3_push_32 : decode cX3_push 32 = .ok (.iadd, 1) := by decide +kernel
theorem dX3_push_33 : decode cX3_push 33 = .ok (.bipush 8, 2) := by decide +kernel
theorem dX3_push_35 : decode cX3_push 35 = .ok (.invokestatic 29, 3) := by decide +kernel
theorem dX3_push_38 : decode cX3_push 38 = .ok (.putfield 26, 3) := by decide +kernel
theorem dX3_push_41 : decode cX3_push 41 = .ok (.return_, 1) := by decide +kernel
theorem dX3_popInto_0 : decode cX3_popInto 0 = .ok (.aload_n 0, 1) := by decide +kernel
theorem dX3_popInto_1 : decode cX3_popInto 1 = .ok (.aload_n 0, 1) := by decide +kernel
theorem dX3_popInto_2 : decode cX3_popInto 2 = .ok (.getfield 18, 3) := by decide +kernel
theorem dX3_popInto_5 : decode cX3_popInto 5 = .ok (.bipush 8, 2) := by decide +kernel
theorem dX3_popInto_7 : decode cX3_popInto 7 = .ok (.iadd, 1) := by decide +kernel
theorem dX3_popInto_8 : decode cX3_popInto 8 = .ok (.iconst 1, 1) := by decide +kernel
theorem dX3_popInto_9 : decode cX3_popInto 9 = .ok (.isub, 1) := by decide +kernel
theorem dX3_popInto_10 : decode cX3_popInto 10 = .ok (.bipush 8, 2) := by decide +kernel
theorem dX3_popInto_12 : decode cX3_popInto 12 = .ok (.irem, 1) := by decide +kernel
theorem dX3_popInto_13 : decode cX3_popInto 13 = .ok (.putfield 18, 3) := by decide +kernel
theorem dX3_popInto_16 : decode cX3_popInto 16 = .ok (.aload_n 0, 1) := by decide +kernel
theorem dX3_popInto_17 : decode cX3_popInto 17 = .ok (.dup, 1) := by decide +kernel
theorem dX3_popInto_18 : decode cX3_popInto 18 = .ok (.getfield 26, 3) := by decide +kernel
theorem dX3_popInto_21 : decode cX3_popInto 21 = .ok (.iconst 1, 1) := by decide +kernel
theorem dX3_popInto_22 : decode cX3_popInto 22 = .ok (.isub, 1) := by decide +kernel
theorem dX3_popInto_23 : decode cX3_popInto 23 = .ok (.putfield 26, 3) := by decide +kernel
theorem dX3_popInto_26 : decode cX3_popInto 26 = .ok (.aload_n 1, 1) := by decide +kernel
theorem dX3_popInto_27 : decode cX3_popInto 27 = .ok (.aload_n 0, 1) := by decide +kernel
theorem dX3_popInto_28 : decode cX3_popInto 28 = .ok (.getfield 11, 3) := by decide +kernel
theorem dX3_popInto_31 : decode cX3_popInto 31 = .ok (.aload_n 0, 1) := by decide +kernel
theorem dX3_popInto_32 : decode cX3_popInto 32 = .ok (.getfield 18, 3) := by decide +kernel
theorem dX3_popInto_35 : decode cX3_popInto 35 = .ok (.aaload, 1) := by decide +kernel
theorem dX3_popInto_36 : decode cX3_popInto 36 = .ok (.invokevirtual 22, 3) := by decide +kernel
theorem dX3_popInto_39 : decode cX3_popInto 39 = .ok (.return_, 1) := by decide +kernel
theorem dX3_discardAll_0 : decode cX3_discardAll 0 = .ok (.aload_n 0, 1) := by decide +kernel
theorem dX3_discardAll_1 : decode cX3_discardAll 1 = .ok (.iconst 0, 1) := by decide +kernel
theorem dX3_discardAll_2 : decode cX3_discardAll 2 = .ok (.putfield 26, 3) := by decide +kernel
theorem dX3_discardAll_5 : decode cX3_discardAll 5 = .ok (.return_, 1) := by decide +kernel
theorem dX4_init_0 : decode cX4_init 0 = .ok (.aload_n 0, 1) := by decide +kernel
theorem dX4_init_1 : decode cX4_init 1 = .ok (.invokespecial 3, 3) := by decide +kernel
theorem dX4_init_4 : decode cX4_init 4 = .ok (.aload_n 0, 1) := by decide +kernel
theorem dX4_init_5 : decode cX4_init 5 = .ok (.iconst 4, 1) := by decide +kernel
theorem dX4_init_6 : decode cX4_init 6 = .ok (.anewarray 9, 3) := by decide +kernel
theorem dX4_init_9 : decode cX4_init 9 = .ok (.putfield 11, 3) := by decide +kernel
theorem dX4_init_12 : decode cX4_init 12 = .ok (.aload_n 0, 1) := by decide +kernel
theorem dX4_init_13 : decode cX4_init 13 = .ok (.bipush 8, 2) := by decide +kernel
theorem dX4_init_15 : decode cX4_init 15 = .ok (.anewarray 17, 3) := by decide +kernel
theorem dX4_init_18 : decode cX4_init 18 = .ok (.putfield 19, 3) := by decide +kernel
theorem dX4_init_21 : decode cX4_init 21 = .ok (.aload_n 0, 1) := by decide +kernel
theorem dX4_init_22 : decode cX4_init 22 = .ok (.bipush 16, 2) := by decide +kernel
theorem dX4_init_24 : decode cX4_init 24 = .ok (.anewarray 23, 3) := by decide +kernel
theorem dX4_init_27 : decode cX4_init 27 = .ok (.putfield 25, 3) := by decide +kernel
theorem dX4_init_30 : decode cX4_init 30 = .ok (.iconst 0, 1) := by decide +kernel
theorem dX4_init_31 : decode cX4_init 31 = .ok (.istore_n 1, 1) := by decide +kernel
theorem dX4_init_32 : decode cX4_init 32 = .ok (.iload_n 1, 1) := by decide +kernel
theorem dX4_init_33 : decode cX4_init 33 = .ok (.iconst 4, 1) := by decide +kernel
theorem dX4_init_34 : decode cX4_init 34 = .ok (.if_icmp .ge 22, 3) := by decide +kernel
theorem dX4_init_37 : decode cX4_init 37 = .ok (.aload_n 0, 1) := by decide +kernel
theorem dX4_init_38 : decode cX4_init 38 = .ok (.getfield 11, 3) := by decide +kernel
theorem dX4_init_41 : decode cX4_init 41 = .ok (.iload_n 1, 1) := by decide +kernel
theorem dX4_init_42 : decode cX4_init 42 = .ok (.new 9, 3) := by decide +kernel
theorem dX4_init_45 : decode cX4_init 45 = .ok (.dup, 1) := by decide +kernel
theorem dX4_init_46 : decode cX4_init 46 = .ok (.invokespecial 29, 3) := by decide +kernel
theorem dX4_init_49 : decode cX4_init 49 = .ok (.aastore, 1) := by decide +kernel
theorem dX4_init_50 : decode cX4_init 50 = .ok (.iinc 1 1, 3) := by decide +kernel
theorem dX4_init_53 : decode cX4_init 53 = .ok (.goto (-21), 3) := by decide +kernel
theorem dX4_init_56 : decode cX4_init 56 = .ok (.iconst 0, 1) := by decide +kernel
theorem dX4_init_57 : decode cX4_init 57 = .ok (.istore_n 1, 1) := by decide +kernel
theorem dX4_init_58 : decode cX4_init 58 = .ok (.iload_n 1, 1) := by decide +kernel
theorem dX4_init_59 : decode cX4_init 59 = .ok (.bipush 8, 2) := by decide +kernel
theorem dX4_init_61 : decode cX4_init 61 = .ok (.if_icmp .ge 22, 3) := by decide +kernel
theorem dX4_init_64 : decode cX4_init 64 = .ok (.aload_n 0, 1) := by decide +kernel
theorem dX4_init_65 : decode cX4_init 65 = .ok (.getfield 19, 3) := by decide +kernel
theorem dX4_init_68 : decode cX4_init 68 = .ok (.iload_n 1, 1) := by decide +kernel
theorem dX4_init_69 : decode cX4_init 69 = .ok (.new 17, 3) := by decide +kernel
theorem dX4_init_72 : decode cX4_init 72 = .ok (.dup, 1) := by decide +kernel
theorem dX4_init_73 : decode cX4_init 73 = .ok (.invokespecial 30, 3) := by decide +kernel
theorem dX4_init_76 : decode cX4_init 76 = .ok (.aastore, 1) := by decide +kernel
theorem dX4_init_77 : decode cX4_init 77 = .ok (.iinc 1 1, 3) := by decide +kernel
theorem dX4_init_80 : decode cX4_init 80 = .ok (.goto (-22), 3) := by decide +kernel
theorem dX4_init_83 : decode cX4_init 83 = .ok (.iconst 0, 1) := by decide +kernel
theorem dX4_init_84 : decode cX4_init 84 = .ok (.istore_n 1, 1) := by decide +kernel
theorem dX4_init_85 : decode cX4_init 85 = .ok (.iload_n 1, 1) := by decide +kernel
theorem dX4_init_86 : decode cX4_init 86 = .ok (.bipush 16, 2) := by decide +kernel
theorem dX4_init_88 : decode cX4_init 88 = .ok (.if_icmp .ge 22, 3) := by decide +kernel
theorem dX4_init_91 : decode cX4_init 91 = .ok (.aload_n 0, 1) := by decide +kernel
theorem dX4_init_92 : decode cX4_init 92 = .ok (.getfield 25, 3) := by decide +kernel
theorem dX4_init_95 : decode cX4_init 95 = .ok (.iload_n 1, 1) := by decide +kernel
theorem dX4_init_96 : decode cX4_init 96 = .ok (.new 23, 3) := by decide +kernel
theorem dX4_init_99 : decode cX4_init 99 = .ok (.dup, 1) := by decide +kernel
theorem dX4_init_100 : decode cX4_init 100 = .ok (.invokespecial 31, 3) := by decide +kernel
theorem dX4_init_103 : decode cX4_init 103 = .ok (.aastore, 1) := by decide +kernel
theorem dX4_init_104 : decode cX4_init 104 = .ok (.iinc 1 1, 3) := by decide +kernel
theorem dX4_init_107 : decode cX4_init 107 = .ok (.goto (-22), 3) := by decide +kernel
theorem dX4_init_110 : decode cX4_init 110 = .ok (.aload_n 0, 1) := by decide +kernel
theorem dX4_init_111 : decode cX4_init 111 = .ok (.iconst 4, 1) := by decide +kernel
theorem dX4_init_112 : decode cX4_init 112 = .ok (.bipush 8, 2) := by decide +kernel
theorem dX4_init_114 : decode cX4_init 114 = .ok (.invokevirtual 32, 3) := by decide +kernel
theorem dX4_init_117 : decode cX4_init 117 = .ok (.return_, 1) := by decide +kernel
theorem dX4_reset_0 : decode cX4_reset 0 = .ok (.aload_n 0, 1) := by decide +kernel
theorem dX4_reset_1 : decode cX4_reset 1 = .ok (.iload_n 1, 1) := by decide +kernel
theorem dX4_reset_2 : decode cX4_reset 2 = .ok (.putfield 36, 3) := by decide +kernel
theorem dX4_reset_5 : decode cX4_reset 5 = .ok (.aload_n 0, 1) := by decide +kernel
theorem dX4_reset_6 : decode cX4_reset 6 = .ok (.iload_n 2, 1) := by decide +kernel
theorem dX4_reset_7 : decode cX4_reset 7 = .ok (.putfield 40, 3) := by decide +kernel
theorem dX4_reset_10 : decode cX4_reset 10 = .ok (.aload_n 0, 1) := by decide +kernel
theorem dX4_reset_11 : decode cX4_reset 11 = .ok (.iconst 0, 1) := by decide +kernel
theorem dX4_reset_12 : decode cX4_reset 12 = .ok (.putfield 43, 3) := by decide +kernel
theorem dX4_reset_15 : decode cX4_reset 15 = .ok (.aload_n 0, 1) := by decide +kernel
theorem dX4_reset_16 : decode cX4_reset 16 = .ok (.iconst 1, 1) := by decide +kernel
theorem dX4_reset_17 : decode cX4_reset 17 = .ok (.putfield 46, 3) := by decide +kernel
theorem dX4_reset_20 : decode cX4_reset 20 = .ok (.aload_n 0, 1) := by decide +kernel
theorem dX4_reset_21 : decode cX4_reset 21 = .ok (.iconst 0, 1) := by decide +kernel
theorem dX4_reset_22 : decode cX4_reset 22 = .ok (.putfield 49, 3) := by decide +kernel
theorem dX4_reset_25 : decode cX4_reset 25 = .ok (.aload_n 0, 1) := by decide +kernel
theorem dX4_reset_26 : decode cX4_reset 26 = .ok (.bipush 20, 2) := by decide +kernel
theorem dX4_reset_28 : decode cX4_reset 28 = .ok (.putfield 52, 3) := by decide +kernel
theorem dX4_reset_31 : decode cX4_reset 31 = .ok (.aload_n 0, 1) := by decide +kernel
theorem dX4_reset_32 : decode cX4_reset 32 = .ok (.iconst 2, 1) := by decide +kernel
theorem dX4_reset_33 : decode cX4_reset 33 = .ok (.putfield 55, 3) := by decide +kernel
theorem dX4_reset_36 : decode cX4_reset 36 = .ok (.aload_n 0, 1) := by decide +kernel
theorem dX4_reset_37 : decode cX4_reset 37 = .ok (.iconst 1, 1) := by decide +kernel
theorem dX4_reset_38 : decode cX4_reset 38 = .ok (.putfield 58, 3) := by decide +kernel
theorem dX4_reset_41 : decode cX4_reset 41 = .ok (.aload_n 0, 1) := by decide +kernel
theorem dX4_reset_42 : decode cX4_reset 42 = .ok (.iconst 0, 1) := by decide +kernel
theorem dX4_reset_43 : decode cX4_reset 43 = .ok (.putfield 61, 3) := by decide +kernel
theorem dX4_reset_46 : decode cX4_reset 46 = .ok (.iconst 0, 1) := by decide +kernel
theorem dX4_reset_47 : decode cX4_reset 47 = .ok (.istore_n 3, 1) := by decide +kernel
theorem dX4_reset_48 : decode cX4_reset 48 = .ok (.iload_n 3, 1) := by decide +kernel
theorem dX4_reset_49 : decode cX4_reset 49 = .ok (.iconst 4, 1) := by decide +kernel
theorem dX4_reset_50 : decode cX4_reset 50 = .ok (.if_icmp .ge 18, 3) := by decide +kernel
theorem dX4_reset_53 : decode cX4_reset 53 = .ok (.aload_n 0, 1) := by decide +kernel
theorem dX4_reset_54 : decode cX4_reset 54 = .ok (.getfield 11, 3) := by decide +kernel
theorem dX4_reset_57 : decode cX4_reset 57 = .ok (.iload_n 3, 1) := by decide +kernel
theorem dX4_reset_58 : decode cX4_reset 58 = .ok (.aaload, 1) := by decide +kernel
theorem dX4_reset_59 : decode cX4_reset 59 = .ok (.invokevirtual 64, 3) := by decide +kernel
theorem dX4_reset_62 : decode cX4_reset 62 = .ok (.iinc 3 1, 3) := by decide +kernel
theorem dX4_reset_65 : decode cX4_reset 65 = .ok (.goto (-17), 3) := by decide +kernel
theorem dX4_reset_68 : decode cX4_reset 68 = .ok (.iconst 0, 1) := by decide +kernel
theorem dX4_reset_69 : decode cX4_reset 69 = .ok (.istore_n 3, 1) := by decide +kernel
theorem dX4_reset_70 : decode cX4_reset 70 = .ok (.iload_n 3, 1) := by decide +kernel
theorem dX4_reset_71 : decode cX4_reset 71 = .ok (.bipush 8, 2) := by decide +kernel
theorem dX4_reset_73 : decode cX4_reset 73 = .ok (.if_icmp .ge 18, 3) := by decide +kernel
theorem dX4_reset_76 : decode cX4_reset 76 = .ok (.aload_n 0, 1) := by decide +kernel
theorem dX4_reset_77 : decode cX4_reset 77 = .ok (.getfield 19, 3) := by decide +kernel
theorem dX4_reset_80 : decode cX4_reset 80 = .ok (.iload_n 3, 1) := by decide +kernel
theorem dX4_reset_81 : decode cX4_reset 81 = .ok (.aaload, 1) := by decide +kernel
theorem dX4_reset_82 : decode cX4_reset 82 = .ok (.invokevirtual 66, 3) := by decide +kernel
theorem dX4_reset_85 : decode cX4_reset 85 = .ok (.iinc 3 1, 3) := by decide +kernel
theorem dX4_reset_88 : decode cX4_reset 88 = .ok (.goto (-18), 3) := by decide +kernel
theorem dX4_reset_91 : decode cX4_reset 91 = .ok (.iconst 0, 1) := by decide +kernel
theorem dX4_reset_92 : decode cX4_reset 92 = .ok (.istore_n 3, 1) := by decide +kernel
theorem dX4_reset_93 : decode cX4_reset 93 = .ok (.iload_n 3, 1) := by decide +kernel
theorem dX4_reset_94 : decode cX4_reset 94 = .ok (.bipush 16, 2) := by decide +kernel
theorem dX4_reset_96 : decode cX4_reset 96 = .ok (.if_icmp .ge 18, 3) := by decide +kernel
theorem dX4_reset_99 : decode cX4_reset 99 = .ok (.aload_n 0, 1) := by decide +kernel
theorem dX4_reset_100 : decode cX4_reset 100 = .ok (.getfield 25, 3) := by decide +kernel
theorem dX4_reset_103 : decode cX4_reset 103 = .ok (.iload_n 3, 1) := by decide +kernel
theorem dX4_reset_104 : decode cX4_reset 104 = .ok (.aaload, 1) := by decide +kernel
theorem dX4_reset_105 : decode cX4_reset 105 = .ok (.invokevirtual 67, 3) := by decide +kernel
theorem dX4_reset_108 : decode cX4_reset 108 = .ok (.iinc 3 1, 3) := by decide +kernel
theorem dX4_reset_111 : decode cX4_reset 111 = .ok (.goto (-18), 3) := by decide +kernel
theorem dX4_reset_114 : decode cX4_reset 114 = .ok (.return_, 1) := by decide +kernel
theorem dX4_copyFrom_0 : decode cX4_copyFrom 0 = .ok (.aload_n 0, 1) := by decide +kernel
theorem dX4_copyFrom_1 : decode cX4_copyFrom 1 = .ok (.aload_n 1, 1) := by decide +kernel
theorem dX4_copyFrom_2 : decode cX4_copyFrom 2 = .ok (.getfield 36, 3) := by decide +kernel
theorem dX4_copyFrom_5 : decode cX4_copyFrom 5 = .ok (.putfield 36, 3) := by decide +kernel
theorem dX4_copyFrom_8 : decode cX4_copyFrom 8 = .ok (.aload_n 0, 1) := by decide +kernel
theorem dX4_copyFrom_9 : decode cX4_copyFrom 9 = .ok (.aload_n 1, 1) := by decide +kernel
theorem dX4_copyFrom_10 : decode cX4_copyFrom 10 = .ok (.getfield 40, 3) := by decide +kernel
theorem dX4_copyFrom_13 : decode cX4_copyFrom 13 = .ok (.putfield 40, 3) := by decide +kernel
theorem dX4_copyFrom_16 : decode cX4_copyFrom 16 = .ok (.aload_n 0, 1) := by decide +kernel
theorem dX4_copyFrom_17 : decode cX4_copyFrom 17 = .ok (.aload_n 1, 1) := by decide +kernel
theorem dX4_copyFrom_18 : decode cX4_copyFrom 18 = .ok (.getfield 43, 3) := by decide +kernel
theorem dX4_copyFrom_21 : decode cX4_copyFrom 21 = .ok (.putfield 43, 3) := by decide +kernel
theorem dX4_copyFrom_24 : decode cX4_copyFrom 24 = .ok (.aload_n 0, 1) := by decide +kernel
theorem dX4_copyFrom_25 : decode cX4_copyFrom 25 = .ok (.aload_n 1, 1) := by decide +kernel
theorem dX4_copyFrom_26 : decode cX4_copyFrom 26 = .ok (.getfield 46, 3) := by decide +kernel
theorem dX4_copyFrom_29 : decode cX4_copyFrom 29 = .ok (.putfield 46, 3) := by decide +kernel
theorem dX4_copyFrom_32 : decode cX4_copyFrom 32 = .ok (.aload_n 0, 1) := by decide +kernel
theorem dX4_copyFrom_33 : decode cX4_copyFrom 33 = .ok (.aload_n 1, 1) := by decide +kernel
theorem dX4_copyFrom_34 : decode cX4_copyFrom 34 = .ok (.getfield 49, 3) := by decide +kernel
theorem dX4_copyFrom_37 : decode cX4_copyFrom 37 = .ok (.putfield 49, 3) := by decide +kernel
theorem dX4_copyFrom_40 : decode cX4_copyFrom 40 = .ok (.aload_n 0, 1) := by decide +kernel
theorem dX4_copyFrom_41 : decode cX4_copyFrom 41 = .ok (.aload_n 1, 1) := by decide +kernel
theorem dX4_copyFrom_42 : decode cX4_copyFrom 42 = .ok (.getfield 52, 3) := by decide +kernel
theorem dX4_copyFrom_45 : decode cX4_copyFrom 45 = .ok (.putfield 52, 3) := by decide +kernel
theorem dX4_copyFrom_48 : decode cX4_copyFrom 48 = .ok (.aload_n 0, 1) := by decide +kernel
theorem dX4_copyFrom_49 : decode cX4_copyFrom 49 = .ok (.aload_n 1, 1) := by decide +kernel
theorem dX4_copyFrom_50 : decode cX4_copyFrom 50 = .ok (.getfield 55, 3) := by decide +kernel
theorem dX4_copyFrom_53 : decode cX4_copyFrom 53 = .ok (.putfield 55, 3) := by decide +kernel
theorem dX4_copyFrom_56 : decode cX4_copyFrom 56 = .ok (.aload_n 0, 1) := by decide +kernel
theorem dX4_copyFrom_57 : decode cX4_copyFrom 57 = .ok (.aload_n 1, 1) := by decide +kernel
theorem dX4_copyFrom_58 : decode cX4_copyFrom 58 = .ok (.getfield 58, 3) := by decide +kernel
theorem dX4_copyFrom_61 : decode cX4_copyFrom 61 = .ok (.putfield 58, 3) := by decide +kernel
theorem dX4_copyFrom_64 : decode cX4_copyFrom 64 = .ok (.aload_n 0, 1) := by decide +kernel
theorem dX4_copyFrom_65 : decode cX4_copyFrom 65 = .ok (.aload_n 1, 1) := by decide +kernel
theorem dX4_copyFrom_66 : decode cX4_copyFrom 66 = .ok (.getfield 61, 3) := by decide +kernel
theorem dX4_copyFrom_69 : decode cX4_copyFrom 69 = .ok (.putfield 61, 3) := by decide +kernel
theorem dX4_copyFrom_72 : decode cX4_copyFrom 72 = .ok (.iconst 0, 1) := by decide +kernel
theorem dX4_copyFrom_73 : decode cX4_copyFrom 73 = .ok (.istore_n 2, 1) := by decide +kernel
theorem dX4_copyFrom_74 : decode cX4_copyFrom 74 = .ok (.iload_n 2, 1) := by decide +kernel
theorem dX4_copyFrom_75 : decode cX4_copyFrom 75 = .ok (.iconst 4, 1) := by decide +kernel
theorem dX4_copyFrom_76 : decode cX4_copyFrom 76 = .ok (.if_icmp .ge 24, 3) := by decide +kernel
theorem dX4_copyFrom_79 : decode cX4_copyFrom 79 = .ok (.aload_n 0, 1) := by decide +kernel
theorem dX4_copyFrom_80 : decode cX4_copyFrom 80 = .ok (.getfield 11, 3) := by decide +kernel
theorem dX4_copyFrom_83 : decode cX4_copyFrom 83 = .ok (.iload_n 2, 1) := by decide +kernel
theorem dX4_copyFrom_84 : decode cX4_copyFrom 84 = .ok (.aaload, 1) := by decide +kernel
theorem dX4_copyFrom_85 : decode cX4_copyFrom 85 = .ok (.aload_n 1, 1) := by decide +kernel
theorem dX4_copyFrom_86 : decode cX4_copyFrom 86 = .ok (.getfield 11, 3) := by decide +kernel
theorem dX4_copyFrom_89 : decode cX4_copyFrom 89 = .ok (.iload_n 2, 1) := by decide +kernel
theorem dX4_copyFrom_90 : decode cX4_copyFrom 90 = .ok (.aaload, 1) := by decide +kernel
theorem dX4_copyFrom_91 : decode cX4_copyFrom 91 = .ok (.invokevirtual 68, 3) := by decide +kernel
theorem dX4_copyFrom_94 : decode cX4_copyFrom 94 = .ok (.iinc 2 1, 3) := by decide +kernel
theorem dX4_copyFrom_97 : decode cX4_copyFrom 97 = .ok (.goto (-23), 3) := by decide +kernel
theorem dX4_copyFrom_100 : decode cX4_copyFrom 100 = .ok (.iconst 0, 1) := by decide +kernel
theorem dX4_copyFrom_101 : decode cX4_copyFrom 101 = .ok (.istore_n 2, 1) := by decide +kernel
theorem dX4_copyFrom_102 : decode cX4_copyFrom 102 = .ok (.iload_n 2, 1) := by decide +kernel
theorem dX4_copyFrom_103 : decode cX4_copyFrom 103 = .ok (.bipush 8, 2) := by decide +kernel
theorem dX4_copyFrom_105 : decode cX4_copyFrom 105 = .ok (.if_icmp .ge 24, 3) := by decide +kernel
theorem dX4_copyFrom_108 : decode cX4_copyFrom 108 = .ok (.aload_n 0, 1) := by decide +kernel
theorem dX4_copyFrom_109 : decode cX4_copyFrom 109 = .ok (.getfield 19, 3) := by decide +kernel
theorem dX4_copyFrom_112 : decode cX4_copyFrom 112 = .ok (.iload_n 2, 1) := by decide +kernel
theorem dX4_copyFrom_113 : decode cX4_copyFrom 113 = .ok (.aaload, 1) := by decide +kernel
theorem dX4_copyFrom_114 : decode cX4_copyFrom 114 = .ok (.aload_n 1, 1) := by decide +kernel
theorem dX4_copyFrom_115 : decode cX4_copyFrom 115 = .ok (.getfield 19, 3) := by decide +kernel
theorem dX4_copyFrom_118 : decode cX4_copyFrom 118 = .ok (.iload_n 2, 1) := by decide +kernel
theorem dX4_copyFrom_119 : decode cX4_copyFrom 119 = .ok (.aaload, 1) := by decide +kernel
theorem dX4_copyFrom_120 : decode cX4_copyFrom 120 = .ok (.invokevirtual 72, 3) := by decide +kernel
theorem dX4_copyFrom_123 : decode cX4_copyFrom 123 = .ok (.iinc 2 1, 3) := by decide +kernel
theorem dX4_copyFrom_126 : decode cX4_copyFrom 126 = .ok (.goto (-24), 3) := by decide +kernel
theorem dX4_copyFrom_129 : decode cX4_copyFrom 129 = .ok (.iconst 0, 1) := by decide +kernel
theorem dX4_copyFrom_130 : decode cX4_copyFrom 130 = .ok (.istore_n 2, 1) := by decide +kernel
theorem dX4_copyFrom_131 : decode cX4_copyFrom 131 = .ok (.iload_n 2, 1) := by decide +kernel
theorem dX4_copyFrom_132 : decode cX4_copyFrom 132 = .ok (.bipush 16, 2) := by decide +kernel
theorem dX4_copyFrom_134 : decode cX4_copyFrom 134 = .ok (.if_icmp .ge 24, 3) := by decide +kernel
theorem dX4_copyFrom_137 : decode cX4_copyFrom 137 = .ok (.aload_n 0, 1) := by decide +kernel
theorem dX4_copyFrom_138 : decode cX4_copyFrom 138 = .ok (.getfield 25, 3) := by decide +kernel
theorem dX4_copyFrom_141 : decode cX4_copyFrom 141 = .ok (.iload_n 2, 1) := by decide +kernel
theorem dX4_copyFrom_142 : decode cX4_copyFrom 142 = .ok (.aaload, 1) := by decide +kernel
theorem dX4_copyFrom_143 : decode cX4_copyFrom 143 = .ok (.aload_n 1, 1) := by decide +kernel
theorem dX4_copyFrom_144 : decode cX4_copyFrom 144 = .ok (.getfield 25, 3) := by decide +kernel
theorem dX4_copyFrom_147 : decode cX4_copyFrom 147 = .ok (.iload_n 2, 1) := by decide +kernel
theorem dX4_copyFrom_148 : decode cX4_copyFrom 148 = .ok (.aaload, 1) := by decide +kernel
theorem dX4_copyFrom_149 : decode cX4_copyFrom 149 = .ok (.invokevirtual 75, 3) := by decide +kernel
theorem dX4_copyFrom_152 : decode cX4_copyFrom 152 = .ok (.iinc 2 1, 3) := by decide +kernel
theorem dX4_copyFrom_155 : decode cX4_copyFrom 155 = .ok (.goto (-24), 3) := by decide +kernel
theorem dX4_copyFrom_158 : decode cX4_copyFrom 158 = .ok (.return_, 1) := by decide +kernel
theorem dX4_hasPath_0 : decode cX4_hasPath 0 = .ok (.iload_n 1, 1) := by decide +kernel
theorem dX4_hasPath_1 : decode cX4_hasPath 1 = .ok (.iconst 0, 1) := by decide +kernel
theorem dX4_hasPath_2 : decode cX4_hasPath 2 = .ok (.aload_n 0, 1) := by decide +kernel
theorem dX4_hasPath_3 : decode cX4_hasPath 3 = .ok (.getfield 36, 3) := by decide +kernel
theorem dX4_hasPath_6 : decode cX4_hasPath 6 = .ok (.iconst 1, 1) := by decide +kernel
theorem dX4_hasPath_7 : decode cX4_hasPath 7 = .ok (.isub, 1) := by decide +kernel
theorem dX4_hasPath_8 : decode cX4_hasPath 8 = .ok (.invokestatic 78, 3) := by decide +kernel
theorem dX4_hasPath_11 : decode cX4_hasPath 11 = .ok (.ireturn, 1) := by decide +kernel
theorem dX4_hasEntry_0 : decode cX4_hasEntry 0 = .ok (.iload_n 1, 1) := by decide +kernel
theorem dX4_hasEntry_1 : decode cX4_hasEntry 1 = .ok (.iconst 0, 1) := by decide +kernel
theorem dX4_hasEntry_2 : decode cX4_hasEntry 2 = .ok (.aload_n 0, 1) := by decide +kernel
theorem dX4_hasEntry_3 : decode cX4_hasEntry 3 = .ok (.getfield 40, 3) := by decide +kernel
theorem dX4_hasEntry_6 : decode cX4_hasEntry 6 = .ok (.iconst 1, 1) := by decide +kernel
theorem dX4_hasEntry_7 : decode cX4_hasEntry 7 = .ok (.isub, 1) := by decide +kernel
theorem dX4_hasEntry_8 : decode cX4_hasEntry 8 = .ok (.invokestatic 78, 3) := by decide +kernel
theorem dX4_hasEntry_11 : decode cX4_hasEntry 11 = .ok (.ireturn, 1) := by decide +kernel
theorem dX4_hasTimeFor_0 : decode cX4_hasTimeFor 0 = .ok (.iload_n 1, 1) := by decide +kernel
theorem dX4_hasTimeFor_1 : decode cX4_hasTimeFor 1 = .ok (.ldc 82, 2) := by decide +kernel
theorem dX4_hasTimeFor_3 : decode cX4_hasTimeFor 3 = .ok (.aload_n 0, 1) := by decide +kernel
theorem dX4_hasTimeFor_4 : decode cX4_hasTimeFor 4 = .ok (.getfield 43, 3) := by decide +kernel
theorem dX4_hasTimeFor_7 : decode cX4_hasTimeFor 7 = .ok (.isub, 1) := by decide +kernel
theorem dX4_hasTimeFor_8 : decode cX4_hasTimeFor 8 = .ok (.if_icmp .gt 7, 3) := by decide +kernel
theorem dX4_hasTimeFor_11 : decode cX4_hasTimeFor 11 = .ok (.iconst 1, 1) := by decide +kernel
theorem dX4_hasTimeFor_12 : decode cX4_hasTimeFor 12 = .ok (.goto 4, 3) := by decide +kernel
theorem dX4_hasTimeFor_15 : decode cX4_hasTimeFor 15 = .ok (.iconst 0, 1) := by decide +kernel
theorem dX4_hasTimeFor_16 : decode cX4_hasTimeFor 16 = .ok (.ireturn, 1) := by decide +kernel
theorem dX4_entryNumber_0 : decode cX4_entryNumber 0 = .ok (.bipush 7, 2) := by decide +kernel
theorem dX4_entryNumber_2 : decode cX4_entryNumber 2 = .ok (.iload_n 1, 1) := by decide +kernel
theorem dX4_entryNumber_3 : decode cX4_entryNumber 3 = .ok (.imul, 1) := by decide +kernel
theorem dX4_entryNumber_4 : decode cX4_entryNumber 4 = .ok (.iconst 3, 1) := by decide +kernel
theorem dX4_entryNumber_5 : decode cX4_entryNumber 5 = .ok (.iadd, 1) := by decide +kernel
theorem dX4_entryNumber_6 : decode cX4_entryNumber 6 = .ok (.aload_n 0, 1) := by decide +kernel
theorem dX4_entryNumber_7 : decode cX4_entryNumber 7 = .ok (.getfield 40, 3) := by decide +kernel
theorem dX4_entryNumber_10 : decode cX4_entryNumber 10 = .ok (.irem, 1) := by decide +kernel
theorem dX4_entryNumber_11 : decode cX4_entryNumber 11 = .ok (.ireturn, 1) := by decide +kernel
theorem dX4_countFlowsOfEntry_0 : decode cX4_countFlowsOfEntry 0 = .ok (.iconst 0, 1) := by decide +kernel
theorem dX4_countFlowsOfEntry_1 : decode cX4_countFlowsOfEntry 1 = .ok (.istore_n 2, 1) := by decide +kernel
theorem dX4_countFlowsOfEntry_2 : decode cX4_countFlowsOfEntry 2 = .ok (.iconst 0, 1) := by decide +kernel
theorem dX4_countFlowsOfEntry_3 : decode cX4_countFlowsOfEntry 3 = .ok (.istore_n 3, 1) := by decide +kernel
theorem dX4_countFlowsOfEntry_4 : decode cX4_countFlowsOfEntry 4 = .ok (.iload_n 3, 1) := by decide +kernel
theorem dX4_countFlowsOfEntry_5 : decode cX4_countFlowsOfEntry 5 = .ok (.bipush 16, 2) := by decide +kernel
theorem dX4_countFlowsOfEntry_7 : decode cX4_countFlowsOfEntry 7 = .ok (.if_icmp .ge 21, 3) := by decide +kernel
theorem dX4_countFlowsOfEntry_10 : decode cX4_countFlowsOfEntry 10 = .ok (.aload_n 0, 1) := by decide +kernel
theorem dX4_countFlowsOfEntry_11 : decode cX4_countFlowsOfEntry 11 = .ok (.iload_n 3, 1) := by decide +kernel
theorem dX4_countFlowsOfEntry_12 : decode cX4_countFlowsOfEntry 12 = .ok (.invokevirtual 83, 3) := by decide +kernel
theorem dX4_countFlowsOfEntry_15 : decode cX4_countFlowsOfEntry 15 = .ok (.iload_n 1, 1) := by decide +kernel
theorem dX4_countFlowsOfEntry_16 : decode cX4_countFlowsOfEntry 16 = .ok (.if_icmp .ne 6, 3) := by decide +kernel
theorem dX4_countFlowsOfEntry_19 : decode cX4_countFlowsOfEntry 19 = .ok (.iinc 2 1, 3) := by decide +kernel
theorem dX4_countFlowsOfEntry_22 : decode cX4_countFlowsOfEntry 22 = .ok (.iinc 3 1, 3) := by decide +kernel
theorem dX4_countFlowsOfEntry_25 : decode cX4_countFlowsOfEntry 25 = .ok (.goto (-21), 3) := by decide +kernel
theorem dX4_countFlowsOfEntry_28 : decode cX4_countFlowsOfEntry 28 = .ok (.iload_n 2, 1) := by decide +kernel
theorem dX4_countFlowsOfEntry_29 : decode cX4_countFlowsOfEntry 29 = .ok (.ireturn, 1) := by decide +kernel
theorem dX4_isInUse_0 : decode cX4_isInUse 0 = .ok (.aload_n 1, 1) := by decide +kernel
theorem dX4_isInUse_1 : decode cX4_isInUse 1 = .ok (.getfield 87, 3) := by decide +kernel
theorem dX4_isInUse_4 : decode cX4_isInUse 4 = .ok (.ifCond .eq 31, 3) := by decide +kernel
theorem dX4_isInUse_7 : decode cX4_isInUse 7 = .ok (.aload_n 0, 1) := by decide +kernel
theorem dX4_isInUse_8 : decode cX4_isInUse 8 = .ok (.getfield 49, 3) := by decide +kernel
theorem dX4_isInUse_11 : decode cX4_isInUse 11 = .ok (.iconst 1, 1) := by decide +kernel
theorem dX4_isInUse_12 : decode cX4_isInUse 12 = .ok (.if_icmp .eq 19, 3) := by decide +kernel
theorem dX4_isInUse_15 : decode cX4_isInUse 15 = .ok (.aload_n 0, 1) := by decide +kernel
theorem dX4_isInUse_16 : decode cX4_isInUse 16 = .ok (.getfield 43, 3) := by decide +kernel
theorem dX4_isInUse_19 : decode cX4_isInUse 19 = .ok (.aload_n 1, 1) := by decide +kernel
theorem dX4_isInUse_20 : decode cX4_isInUse 20 = .ok (.getfield 91, 3) := by decide +kernel
theorem dX4_isInUse_23 : decode cX4_isInUse 23 = .ok (.isub, 1) := by decide +kernel
theorem dX4_isInUse_24 : decode cX4_isInUse 24 = .ok (.aload_n 0, 1) := by decide +kernel
theorem dX4_isInUse_25 : decode cX4_isInUse 25 = .ok (.getfield 52, 3) := by decide +kernel
theorem dX4_isInUse_28 : decode cX4_isInUse 28 = .ok (.if_icmp .gt 7, 3) := by decide +kernel
theorem dX4_isInUse_31 : decode cX4_isInUse 31 = .ok (.iconst 1, 1) := by decide +kernel
theorem dX4_isInUse_32 : decode cX4_isInUse 32 = .ok (.goto 4, 3) := by decide +kernel
theorem dX4_isInUse_35 : decode cX4_isInUse 35 = .ok (.iconst 0, 1) := by decide +kernel
theorem dX4_isInUse_36 : decode cX4_isInUse 36 = .ok (.ireturn, 1) := by decide +kernel
theorem dX4_countEntriesInUse_0 : decode cX4_countEntriesInUse 0 = .ok (.iconst 0, 1) := by decide +kernel
theorem dX4_countEntriesInUse_1 : decode cX4_countEntriesInUse 1 = .ok (.istore_n 1, 1) := by decide +kernel
theorem dX4_countEntriesInUse_2 : decode cX4_countEntriesInUse 2 = .ok (.iconst 0, 1) := by decide +kernel
theorem dX4_countEntriesInUse_3 : decode cX4_countEntriesInUse 3 = .ok (.istore_n 2, 1) := by decide +kernel
theorem dX4_countEntriesInUse_4 : decode cX4_countEntriesInUse 4 = .ok (.iload_n 2, 1) := by decide +kernel
theorem dX4_countEntriesInUse_5 : decode cX4_countEntriesInUse 5 = .ok (.aload_n 0, 1) := by decide +kernel
theorem dX4_countEntriesInUse_6 : decode cX4_countEntriesInUse 6 = .ok (.getfield 40, 3) := by decide +kernel
theorem dX4_countEntriesInUse_9 : decode cX4_countEntriesInUse 9 = .ok (.if_icmp .ge 25, 3) := by decide +kernel
theorem dX4_countEntriesInUse_12 : decode cX4_countEntriesInUse 12 = .ok (.aload_n 0, 1) := by decide +kernel
theorem dX4_countEntriesInUse_13 : decode cX4_countEntriesInUse 13 = .ok (.aload_n 0, 1) := by decide +kernel
theorem dX4_countEntriesInUse_14 : decode cX4_countEntriesInUse 14 = .ok (.getfield 19, 3) := by decide +kernel
theorem dX4_countEntriesInUse_17 : decode cX4_countEntriesInUse 17 = .ok (.iload_n 2, 1) := by decide +kernel
theorem dX4_countEntriesInUse_18 : decode cX4_countEntriesInUse 18 = .ok (.aaload, 1) := by decide +kernel
theorem dX4_countEntriesInUse_19 : decode cX4_countEntriesInUse 19 = .ok (.invokevirtual 94, 3) := by decide +kernel
theorem dX4_countEntriesInUse_22 : decode cX4_countEntriesInUse 22 = .ok (.ifCond .eq 6, 3) := by decide +kernel
theorem dX4_countEntriesInUse_25 : decode cX4_countEntriesInUse 25 = .ok (.iinc 1 1, 3) := by decide +kernel
theorem dX4_countEntriesInUse_28 : decode cX4_countEntriesInUse 28 = .ok (.iinc 2 1, 3) := by decide +kernel
theorem dX4_countEntriesInUse_31 : decode cX4_countEntriesInUse 31 = .ok (.goto (-27), 3) := by decide +kernel
theorem dX4_countEntriesInUse_34 : decode cX4_countEntriesInUse 34 = .ok (.iload_n 1, 1) := by decide +kernel
theorem dX4_countEntriesInUse_35 : decode cX4_countEntriesInUse 35 = .ok (.ireturn, 1) := by decide +kernel
theorem dX4_spreadOfLatencies_0 : decode cX4_spreadOfLatencies 0 = .ok (.aload_n 0, 1) := by decide +kernel
theorem dX4_spreadOfLatencies_1 : decode cX4_spreadOfLatencies 1 = .ok (.getfield 11, 3) := by decide +kernel
theorem dX4_spreadOfLatencies_4 : decode cX4_spreadOfLatencies 4 = .ok (.iconst 0, 1) := by decide +kernel
theorem dX4_spreadOfLatencies_5 : decode cX4_spreadOfLatencies 5 = .ok (.aaload, 1) := by decide +kernel
theorem dX4_spreadOfLatencies_6 : decode cX4_spreadOfLatencies 6 = .ok (.aload_n 0, 1) := by decide +kernel
theorem dX4_spreadOfLatencies_7 : decode cX4_spreadOfLatencies 7 = .ok (.getfield 43, 3) := by decide +kernel
theorem dX4_spreadOfLatencies_10 : decode cX4_spreadOfLatencies 10 = .ok (.iload_n 1, 1) := by decide +kernel
theorem dX4_spreadOfLatencies_11 : decode cX4_spreadOfLatencies 11 = .ok (.invokevirtual 98, 3) := by decide +kernel
theorem dX4_spreadOfLatencies_14 : decode cX4_spreadOfLatencies 14 = .ok (.istore_n 2, 1) := by decide +kernel
theorem dX4_spreadOfLatencies_15 : decode cX4_spreadOfLatencies 15 = .ok (.iload_n 2, 1) := by decide +kernel
theorem dX4_spreadOfLatencies_16 : decode cX4_spreadOfLatencies 16 = .ok (.istore_n 3, 1) := by decide +kernel
theorem dX4_spreadOfLatencies_17 : decode cX4_spreadOfLatencies 17 = .ok (.iconst 1, 1) := by decide +kernel
theorem dX4_spreadOfLatencies_18 : decode cX4_spreadOfLatencies 18 = .ok (.istore 4, 2) := by decide +kernel
theorem dX4_spreadOfLatencies_20 : decode cX4_spreadOfLatencies 20 = .ok (.iload 4, 2) := by decide +kernel
theorem dX4_spreadOfLatencies_22 : decode cX4_spreadOfLatencies 22 = .ok (.aload_n 0, 1) := by decide +kernel
theorem dX4_spreadOfLatencies_23 : decode cX4_spreadOfLatencies 23 = .ok (.getfield 36, 3) := by decide +kernel
theorem dX4_spreadOfLatencies_26 : decode cX4_spreadOfLatencies 26 = .ok (.if_icmp .ge 40, 3) := by decide +kernel
theorem dX4_spreadOfLatencies_29 : decode cX4_spreadOfLatencies 29 = .ok (.aload_n 0, 1) := by decide +kernel
theorem dX4_spreadOfLatencies_30 : decode cX4_spreadOfLatencies 30 = .ok (.getfield 11, 3) := by decide +kernel
theorem dX4_spreadOfLatencies_33 : decode cX4_spreadOfLatencies 33 = .ok (.iload 4, 2) := by decide +kernel
theorem dX4_spreadOfLatencies_35 : decode cX4_spreadOfLatencies 35 = .ok (.aaload, 1) := by decide +kernel
theorem dX4_spreadOfLatencies_36 : decode cX4_spreadOfLatencies 36 = .ok (.aload_n 0, 1) := by decide +kernel
theorem dX4_spreadOfLatencies_37 : decode cX4_spreadOfLatencies 37 = .ok (.getfield 43, 3) := by decide +kernel
theorem dX4_spreadOfLatencies_40 : decode cX4_spreadOfLatencies 40 = .ok (.iload_n 1, 1) := by decide +kernel
theorem dX4_spreadOfLatencies_41 : decode cX4_spreadOfLatencies 41 = .ok (.invokevirtual 98, 3) := by decide +kernel
theorem dX4_spreadOfLatencies_44 : decode cX4_spreadOfLatencies 44 = .ok (.istore 5, 2) := by decide +kernel
theorem dX4_spreadOfLatencies_46 : decode cX4_spreadOfLatencies 46 = .ok (.iload_n 2, 1) := by decide +kernel
theorem dX4_spreadOfLatencies_47 : decode cX4_spreadOfLatencies 47 = .ok (.iload 5, 2) := by decide +kernel
theorem dX4_spreadOfLatencies_49 : decode cX4_spreadOfLatencies 49 = .ok (.invokestatic 102, 3) := by decide +kernel
theorem dX4_spreadOfLatencies_52 : decode cX4_spreadOfLatencies 52 = .ok (.istore_n 2, 1) := by decide +kernel
theorem dX4_spreadOfLatencies_53 : decode cX4_spreadOfLatencies 53 = .ok (.iload_n 3, 1) := by decide +kernel
theorem dX4_spreadOfLatencies_54 : decode cX4_spreadOfLatencies 54 = .ok (.iload 5, 2) := by decide +kernel
theorem dX4_spreadOfLatencies_56 : decode cX4_spreadOfLatencies 56 = .ok (.invokestatic 107, 3) := by decide +kernel
theorem dX4_spreadOfLatencies_59 : decode cX4_spreadOfLatencies 59 = .ok (.istore_n 3, 1) := by decide +kernel
theorem dX4_spreadOfLatencies_60 : decode cX4_spreadOfLatencies 60 = .ok (.iinc 4 1, 3) := by decide +kernel
theorem dX4_spreadOfLatencies_63 : decode cX4_spreadOfLatencies 63 = .ok (.goto (-43), 3) := by decide +kernel
theorem dX4_spreadOfLatencies_66 : decode cX4_spreadOfLatencies 66 = .ok (.iload_n 3, 1) := by decide +kernel
theorem dX4_spreadOfLatencies_67 : decode cX4_spreadOfLatencies 67 = .ok (.iload_n 2, 1) := by decide +kernel
theorem dX4_spreadOfLatencies_68 : decode cX4_spreadOfLatencies 68 = .ok (.isub, 1) := by decide +kernel
theorem dX4_spreadOfLatencies_69 : decode cX4_spreadOfLatencies 69 = .ok (.ireturn, 1) := by decide +kernel
theorem dX4_spreadOfBytes_0 : decode cX4_spreadOfBytes 0 = .ok (.aload_n 0, 1) := by decide +kernel
theorem dX4_spreadOfBytes_1 : decode cX4_spreadOfBytes 1 = .ok (.getfield 11, 3) := by decide +kernel
theorem dX4_spreadOfBytes_4 : decode cX4_spreadOfBytes 4 = .ok (.iconst 0, 1) := by decide +kernel
theorem dX4_spreadOfBytes_5 : decode cX4_spreadOfBytes 5 = .ok (.aaload, 1) := by decide +kernel
theorem dX4_spreadOfBytes_6 : decode cX4_spreadOfBytes 6 = .ok (.getfield 110, 3) := by decide +kernel
theorem dX4_spreadOfBytes_9 : decode cX4_spreadOfBytes 9 = .ok (.istore_n 1, 1) := by decide +kernel
theorem dX4_spreadOfBytes_10 : decode cX4_spreadOfBytes 10 = .ok (.iload_n 1, 1) := by decide +kernel
theorem dX4_spreadOfBytes_11 : decode cX4_spreadOfBytes 11 = .ok (.istore_n 2, 1) := by decide +kernel
theorem dX4_spreadOfBytes_12 : decode cX4_spreadOfBytes 12 = .ok (.iconst 1, 1) := by decide +kernel
theorem dX4_spreadOfBytes_13 : decode cX4_spreadOfBytes 13 = .ok (.istore_n 3, 1) := by decide +kernel
theorem dX4_spreadOfBytes_14 : decode cX4_spreadOfBytes 14 = .ok (.iload_n 3, 1) := by decide +kernel
theorem dX4_spreadOfBytes_15 : decode cX4_spreadOfBytes 15 = .ok (.aload_n 0, 1) := by decide +kernel
theorem dX4_spreadOfBytes_16 : decode cX4_spreadOfBytes 16 = .ok (.getfield 36, 3) := by decide +kernel
theorem dX4_spreadOfBytes_19 : decode cX4_spreadOfBytes 19 = .ok (.if_icmp .ge 37, 3) := by decide +kernel
theorem dX4_spreadOfBytes_22 : decode cX4_spreadOfBytes 22 = .ok (.iload_n 1, 1) := by decide +kernel
theorem dX4_spreadOfBytes_23 : decode cX4_spreadOfBytes 23 = .ok (.aload_n 0, 1) := by decide +kernel
theorem dX4_spreadOfBytes_24 : decode cX4_spreadOfBytes 24 = .ok (.getfield 11, 3) := by decide +kernel
theorem dX4_spreadOfBytes_27 : decode cX4_spreadOfBytes 27 = .ok (.iload_n 3, 1) := by decide +kernel
theorem dX4_spreadOfBytes_28 : decode cX4_spreadOfBytes 28 = .ok (.aaload, 1) := by decide +kernel
theorem dX4_spreadOfBytes_29 : decode cX4_spreadOfBytes 29 = .ok (.getfield 110, 3) := by decide +kernel
theorem dX4_spreadOfBytes_32 : decode cX4_spreadOfBytes 32 = .ok (.invokestatic 102, 3) := by decide +kernel
theorem dX4_spreadOfBytes_35 : decode cX4_spreadOfBytes 35 = .ok (.istore_n 1, 1) := by decide +kernel
theorem dX4_spreadOfBytes_36 : decode cX4_spreadOfBytes 36 = .ok (.iload_n 2, 1) := by decide +kernel
theorem dX4_spreadOfBytes_37 : decode cX4_spreadOfBytes 37 = .ok (.aload_n 0, 1) := by decide +kernel
theorem dX4_spreadOfBytes_38 : decode cX4_spreadOfBytes 38 = .ok (.getfield 11, 3) := by decide +kernel
theorem dX4_spreadOfBytes_41 : decode cX4_spreadOfBytes 41 = .ok (.iload_n 3, 1) := by decide +kernel
theorem dX4_spreadOfBytes_42 : decode cX4_spreadOfBytes 42 = .ok (.aaload, 1) := by decide +kernel
theorem dX4_spreadOfBytes_43 : decode cX4_spreadOfBytes 43 = .ok (.getfield 110, 3) := by decide +kernel
theorem dX4_spreadOfBytes_46 : decode cX4_spreadOfBytes 46 = .ok (.invokestatic 107, 3) := by decide +kernel
theorem dX4_spreadOfBytes_49 : decode cX4_spreadOfBytes 49 = .ok (.istore_n 2, 1) := by decide +kernel
theorem dX4_spreadOfBytes_50 : decode cX4_spreadOfBytes 50 = .ok (.iinc 3 1, 3) := by decide +kernel
theorem dX4_spreadOfBytes_53 : decode cX4_spreadOfBytes 53 = .ok (.goto (-39), 3) := by decide +kernel
theorem dX4_spreadOfBytes_56 : decode cX4_spreadOfBytes 56 = .ok (.iload_n 2, 1) := by decide +kernel
theorem dX4_spreadOfBytes_57 : decode cX4_spreadOfBytes 57 = .ok (.iload_n 1, 1) := by decide +kernel
theorem dX4_spreadOfBytes_58 : decode cX4_spreadOfBytes 58 = .ok (.isub, 1) := by decide +kernel
theorem dX4_spreadOfBytes_59 : decode cX4_spreadOfBytes 59 = .ok (.ireturn, 1) := by decide +kernel
theorem dX4_letTimePass_0 : decode cX4_letTimePass 0 = .ok (.iconst 0, 1) := by decide +kernel
theorem dX4_letTimePass_1 : decode cX4_letTimePass 1 = .ok (.istore_n 2, 1) := by decide +kernel
theorem dX4_letTimePass_2 : decode cX4_letTimePass 2 = .ok (.iload_n 2, 1) := by decide +kernel
theorem dX4_letTimePass_3 : decode cX4_letTimePass 3 = .ok (.iload_n 1, 1) := by decide +kernel
theorem dX4_letTimePass_4 : decode cX4_letTimePass 4 = .ok (.if_icmp .ge 57, 3) := by decide +kernel
theorem dX4_letTimePass_7 : decode cX4_letTimePass 7 = .ok (.aload_n 0, 1) := by decide +kernel
theorem dX4_letTimePass_8 : decode cX4_letTimePass 8 = .ok (.dup, 1) := by decide +kernel
theorem dX4_letTimePass_9 : decode cX4_letTimePass 9 = .ok (.getfield 43, 3) := by decide +kernel
theorem dX4_letTimePass_12 : decode cX4_letTimePass 12 = .ok (.iconst 1, 1) := by decide +kernel
theorem dX4_letTimePass_13 : decode cX4_letTimePass 13 = .ok (.iadd, 1) := by decide +kernel
theorem dX4_letTimePass_14 : decode cX4_letTimePass 14 = .ok (.putfield 43, 3) := by decide +kernel
theorem dX4_letTimePass_17 : decode cX4_letTimePass 17 = .ok (.aload_n 0, 1) := by decide +kernel
theorem dX4_letTimePass_18 : decode cX4_letTimePass 18 = .ok (.getfield 43, 3) := by decide +kernel
theorem dX4_letTimePass_21 : decode cX4_letTimePass 21 = .ok (.bipush 10, 2) := by decide +kernel
theorem dX4_letTimePass_23 : decode cX4_letTimePass 23 = .ok (.irem, 1) := by decide +kernel
theorem dX4_letTimePass_24 : decode cX4_letTimePass 24 = .ok (.ifCond .ne 7, 3) := by decide +kernel
theorem dX4_letTimePass_27 : decode cX4_letTimePass 27 = .ok (.aload_n 0, 1) := by decide +kernel
theorem dX4_letTimePass_28 : decode cX4_letTimePass 28 = .ok (.invokevirtual 113, 3) := by decide +kernel
theorem dX4_letTimePass_31 : decode cX4_letTimePass 31 = .ok (.aload_n 0, 1) := by decide +kernel
theorem dX4_letTimePass_32 : decode cX4_letTimePass 32 = .ok (.getfield 49, 3) := by decide +kernel
theorem dX4_letTimePass_35 : decode cX4_letTimePass 35 = .ok (.iconst 1, 1) := by decide +kernel
theorem dX4_letTimePass_36 : decode cX4_letTimePass 36 = .ok (.if_icmp .ne 19, 3) := by decide +kernel
theorem dX4_letTimePass_39 : decode cX4_letTimePass 39 = .ok (.aload_n 0, 1) := by decide +kernel
theorem dX4_letTimePass_40 : decode cX4_letTimePass 40 = .ok (.getfield 43, 3) := by decide +kernel
theorem dX4_letTimePass_43 : decode cX4_letTimePass 43 = .ok (.aload_n 0, 1) := by decide +kernel
theorem dX4_letTimePass_44 : decode cX4_letTimePass 44 = .ok (.getfield 52, 3) := by decide +kernel
theorem dX4_letTimePass_47 : decode cX4_letTimePass 47 = .ok (.irem, 1) := by decide +kernel
theorem dX4_letTimePass_48 : decode cX4_letTimePass 48 = .ok (.ifCond .ne 7, 3) := by decide +kernel
theorem dX4_letTimePass_51 : decode cX4_letTimePass 51 = .ok (.aload_n 0, 1) := by decide +kernel
theorem dX4_letTimePass_52 : decode cX4_letTimePass 52 = .ok (.invokevirtual 116, 3) := by decide +kernel
theorem dX4_letTimePass_55 : decode cX4_letTimePass 55 = .ok (.iinc 2 1, 3) := by decide +kernel
theorem dX4_letTimePass_58 : decode cX4_letTimePass 58 = .ok (.goto (-56), 3) := by decide +kernel
theorem dX4_letTimePass_61 : decode cX4_letTimePass 61 = .ok (.return_, 1) := by decide +kernel
theorem dX4_decayLoads_0 : decode cX4_decayLoads 0 = .ok (.iconst 0, 1) := by decide +kernel
theorem dX4_decayLoads_1 : decode cX4_decayLoads 1 = .ok (.istore_n 1, 1) := by decide +kernel
theorem dX4_decayLoads_2 : decode cX4_decayLoads 2 = .ok (.iload_n 1, 1) := by decide +kernel
theorem dX4_decayLoads_3 : decode cX4_decayLoads 3 = .ok (.aload_n 0, 1) := by decide +kernel
theorem dX4_decayLoads_4 : decode cX4_decayLoads 4 = .ok (.getfield 36, 3) := by decide +kernel
theorem dX4_decayLoads_7 : decode cX4_decayLoads 7 = .ok (.if_icmp .ge 22, 3) := by decide +kernel
theorem dX4_decayLoads_10 : decode cX4_decayLoads 10 = .ok (.aload_n 0, 1) := by decide +kernel
theorem dX4_decayLoads_11 : decode cX4_decayLoads 11 = .ok (.getfield 11, 3) := by decide +kernel
theorem dX4_decayLoads_14 : decode cX4_decayLoads 14 = .ok (.iload_n 1, 1) := by decide +kernel
theorem dX4_decayLoads_15 : decode cX4_decayLoads 15 = .ok (.aaload, 1) := by decide +kernel
theorem dX4_decayLoads_16 : decode cX4_decayLoads 16 = .ok (.aload_n 0, 1) := by decide +kernel
theorem dX4_decayLoads_17 : decode cX4_decayLoads 17 = .ok (.getfield 55, 3) := by decide +kernel
theorem dX4_decayLoads_20 : decode cX4_decayLoads 20 = .ok (.invokevirtual 119, 3) := by decide +kernel
theorem dX4_decayLoads_23 : decode cX4_decayLoads 23 = .ok (.iinc 1 1, 3) := by decide +kernel
theorem dX4_decayLoads_26 : decode cX4_decayLoads 26 = .ok (.goto (-24), 3) := by decide +kernel
theorem dX4_decayLoads_29 : decode cX4_decayLoads 29 = .ok (.return_, 1) := by decide +kernel
theorem dX4_ageEntries_0 : decode cX4_ageEntries 0 = .ok (.iconst 0, 1) := by decide +kernel
theorem dX4_ageEntries_1 : decode cX4_ageEntries 1 = .ok (.istore_n 1, 1) := by decide +kernel
theorem dX4_ageEntries_2 : decode cX4_ageEntries 2 = .ok (.iload_n 1, 1) := by decide +kernel
theorem dX4_ageEntries_3 : decode cX4_ageEntries 3 = .ok (.aload_n 0, 1) := by decide +kernel
theorem dX4_ageEntries_4 : decode cX4_ageEntries 4 = .ok (.getfield 40, 3) := by decide +kernel
theorem dX4_ageEntries_7 : decode cX4_ageEntries 7 = .ok (.if_icmp .ge 18, 3) := by decide +kernel
theorem dX4_ageEntries_10 : decode cX4_ageEntries 10 = .ok (.aload_n 0, 1) := by decide +kernel
theorem dX4_ageEntries_11 : decode cX4_ageEntries 11 = .ok (.getfield 19, 3) := by decide +kernel
theorem dX4_ageEntries_14 : decode cX4_ageEntries 14 = .ok (.iload_n 1, 1) := by decide +kernel
theorem dX4_ageEntries_15 : decode cX4_ageEntries 15 = .ok (.aaload, 1) := by decide +kernel
theorem dX4_ageEntries_16 : decode cX4_ageEntries 16 = .ok (.invokevirtual 123, 3) := by decide +kernel
theorem dX4_ageEntries_19 : decode cX4_ageEntries 19 = .ok (.iinc 1 1, 3) := by decide +kernel
theorem dX4_ageEntries_22 : decode cX4_ageEntries 22 = .ok (.goto (-20), 3) := by decide +kernel
theorem dX4_ageEntries_25 : decode cX4_ageEntries 25 = .ok (.return_, 1) := by decide +kernel
theorem dX4_usesTable_0 : decode cX4_usesTable 0 = .ok (.aload_n 0, 1) := by decide +kernel
theorem dX4_usesTable_1 : decode cX4_usesTable 1 = .ok (.getfield 46, 3) := by decide +kernel
theorem dX4_usesTable_4 : decode cX4_usesTable 4 = .ok (.iconst 1, 1) := by decide +kernel
theorem dX4_usesTable_5 : decode cX4_usesTable 5 = .ok (.if_icmp .eq 11, 3) := by decide +kernel
theorem dX4_usesTable_8 : decode cX4_usesTable 8 = .ok (.aload_n 0, 1) := by decide +kernel
theorem dX4_usesTable_9 : decode cX4_usesTable 9 = .ok (.getfield 46, 3) := by decide +kernel
theorem dX4_usesTable_12 : decode cX4_usesTable 12 = .ok (.iconst 3, 1) := by decide +kernel
theorem dX4_usesTable_13 : decode cX4_usesTable 13 = .ok (.if_icmp .ne 7, 3) := by decide +kernel
theorem dX4_usesTable_16 : decode cX4_usesTable 16 = .ok (.iconst 1, 1) := by decide +kernel
theorem dX4_usesTable_17 : decode cX4_usesTable 17 = .ok (.goto 4, 3) := by decide +kernel
theorem dX4_usesTable_20 : decode cX4_usesTable 20 = .ok (.iconst 0, 1) := by decide +kernel
theorem dX4_usesTable_21 : decode cX4_usesTable 21 = .ok (.ireturn, 1) := by decide +kernel
theorem dX4_pathFor_0 : decode cX4_pathFor 0 = .ok (.aload_n 0, 1) := by decide +kernel
theorem dX4_pathFor_1 : decode cX4_pathFor 1 = .ok (.getfield 46, 3) := by decide +kernel
theorem dX4_pathFor_4 : decode cX4_pathFor 4 = .ok (.ifCond .ne 10, 3) := by decide +kernel
theorem dX4_pathFor_7 : decode cX4_pathFor 7 = .ok (.iload_n 1, 1) := by decide +kernel
theorem dX4_pathFor_8 : decode cX4_pathFor 8 = .ok (.aload_n 0, 1) := by decide +kernel
theorem dX4_pathFor_9 : decode cX4_pathFor 9 = .ok (.getfield 36, 3) := by decide +kernel
theorem dX4_pathFor_12 : decode cX4_pathFor 12 = .ok (.irem, 1) := by decide +kernel
theorem dX4_pathFor_13 : decode cX4_pathFor 13 = .ok (.ireturn, 1) := by decide +kernel
theorem dX4_pathFor_14 : decode cX4_pathFor 14 = .ok (.aload_n 0, 1) := by decide +kernel
theorem dX4_pathFor_15 : decode cX4_pathFor 15 = .ok (.getfield 46, 3) := by decide +kernel
theorem dX4_pathFor_18 : decode cX4_pathFor 18 = .ok (.iconst 2, 1) := by decide +kernel
theorem dX4_pathFor_19 : decode cX4_pathFor 19 = .ok (.if_icmp .ne 8, 3) := by decide +kernel
theorem dX4_pathFor_22 : decode cX4_pathFor 22 = .ok (.aload_n 0, 1) := by decide +kernel
theorem dX4_pathFor_23 : decode cX4_pathFor 23 = .ok (.getfield 61, 3) := by decide +kernel
theorem dX4_pathFor_26 : decode cX4_pathFor 26 = .ok (.ireturn, 1) := by decide +kernel
theorem dX4_pathFor_27 : decode cX4_pathFor 27 = .ok (.aload_n 0, 1) := by decide +kernel
theorem dX4_pathFor_28 : decode cX4_pathFor 28 = .ok (.getfield 19, 3) := by decide +kernel
theorem dX4_pathFor_31 : decode cX4_pathFor 31 = .ok (.aload_n 0, 1) := by decide +kernel
theorem dX4_pathFor_32 : decode cX4_pathFor 32 = .ok (.iload_n 1, 1) := by decide +kernel
theorem dX4_pathFor_33 : decode cX4_pathFor 33 = .ok (.invokevirtual 83, 3) := by decide +kernel
theorem dX4_pathFor_36 : decode cX4_pathFor 36 = .ok (.aaload, 1) := by decide +kernel
theorem dX4_pathFor_37 : decode cX4_pathFor 37 = .ok (.astore_n 2, 1) := by decide +kernel
theorem dX4_pathFor_38 : decode cX4_pathFor 38 = .ok (.aload_n 0, 1) := by decide +kernel
theorem dX4_pathFor_39 : decode cX4_pathFor 39 = .ok (.aload_n 2, 1) := by decide +kernel
theorem dX4_pathFor_40 : decode cX4_pathFor 40 = .ok (.invokevirtual 94, 3) := by decide +kernel
theorem dX4_pathFor_43 : decode cX4_pathFor 43 = .ok (.ifCond .eq 8, 3) := by decide +kernel
theorem dX4_pathFor_46 : decode cX4_pathFor 46 = .ok (.aload_n 2, 1) := by decide +kernel
theorem dX4_pathFor_47 : decode cX4_pathFor 47 = .ok (.getfield 126, 3) := by decide +kernel
theorem dX4_pathFor_50 : decode cX4_pathFor 50 = .ok (.ireturn, 1) := by decide +kernel
theorem dX4_pathFor_51 : decode cX4_pathFor 51 = .ok (.aload_n 0, 1) := by decide +kernel
theorem dX4_pathFor_52 : decode cX4_pathFor 52 = .ok (.getfield 46, 3) := by decide +kernel
theorem dX4_pathFor_55 : decode cX4_pathFor 55 = .ok (.iconst 1, 1) := by decide +kernel
theorem dX4_pathFor_56 : decode cX4_pathFor 56 = .ok (.if_icmp .ne 14, 3) := by decide +kernel
theorem dX4_pathFor_59 : decode cX4_pathFor 59 = .ok (.aload_n 0, 1) := by decide +kernel
theorem dX4_pathFor_60 : decode cX4_pathFor 60 = .ok (.aload_n 2, 1) := by decide +kernel
theorem dX4_pathFor_61 : decode cX4_pathFor 61 = .ok (.getfield 126, 3) := by decide +kernel
theorem dX4_pathFor_64 : decode cX4_pathFor 64 = .ok (.invokevirtual 129, 3) := by decide +kernel
theorem dX4_pathFor_67 : decode cX4_pathFor 67 = .ok (.goto 7, 3) := by decide +kernel
theorem dX4_pathFor_70 : decode cX4_pathFor 70 = .ok (.aload_n 0, 1) := by decide +kernel
theorem dX4_pathFor_71 : decode cX4_pathFor 71 = .ok (.invokevirtual 132, 3) := by decide +kernel
theorem dX4_pathFor_74 : decode cX4_pathFor 74 = .ok (.ireturn, 1) := by decide +kernel
theorem dX4_leastCongestedPath_0 : decode cX4_leastCongestedPath 0 = .ok (.iconst 0, 1) := by decide +kernel
theorem dX4_leastCongestedPath_1 : decode cX4_leastCongestedPath 1 = .ok (.istore_n 2, 1) := by decide +kernel
theorem dX4_leastCongestedPath_2 : decode cX4_leastCongestedPath 2 = .ok (.iconst 1, 1) := by decide +kernel
theorem dX4_leastCongestedPath_3 : decode cX4_leastCongestedPath 3 = .ok (.istore_n 3, 1) := by decide +kernel
theorem dX4_leastCongestedPath_4 : decode cX4_leastCongestedPath 4 = .ok (.iload_n 3, 1) := by decide +kernel
theorem dX4_leastCongestedPath_5 : decode cX4_leastCongestedPath 5 = .ok (.aload_n 0, 1) := by decide +kernel
theorem dX4_leastCongestedPath_6 : decode cX4_leastCongestedPath 6 = .ok (.getfield 36, 3) := by decide +kernel
theorem dX4_leastCongestedPath_9 : decode cX4_leastCongestedPath 9 = .ok (.if_icmp .ge 32, 3) := by decide +kernel
theorem dX4_leastCongestedPath_12 : decode cX4_leastCongestedPath 12 = .ok (.aload_n 0, 1) := by decide +kernel
theorem dX4_leastCongestedPath_13 : decode cX4_leastCongestedPath 13 = .ok (.getfield 11, 3) := by decide +kernel
theorem dX4_leastCongestedPath_16 : decode cX4_leastCongestedPath 16 = .ok (.iload_n 3, 1) := by decide +kernel
theorem dX4_leastCongestedPath_17 : decode cX4_leastCongestedPath 17 = .ok (.aaload, 1) := by decide +kernel
theorem dX4_leastCongestedPath_18 : decode cX4_leastCongestedPath 18 = .ok (.invokevirtual 136, 3) := by decide +kernel
theorem dX4_leastCongestedPath_21 : decode cX4_leastCongestedPath 21 = .ok (.aload_n 0, 1) := by decide +kernel
theorem dX4_leastCongestedPath_22 : decode cX4_leastCongestedPath 22 = .ok (.getfield 11, 3) := by decide +kernel
theorem dX4_leastCongestedPath_25 : decode cX4_leastCongestedPath 25 = .ok (.iload_n 2, 1) := by decide +kernel
theorem dX4_leastCongestedPath_26 : decode cX4_leastCongestedPath 26 = .ok (.aaload, 1) := by decide +kernel
theorem dX4_leastCongestedPath_27 : decode cX4_leastCongestedPath 27 = .ok (.invokevirtual 136, 3) := by decide +kernel
theorem dX4_leastCongestedPath_30 : decode cX4_leastCongestedPath 30 = .ok (.if_icmp .ge 5, 3) := by decide +kernel
theorem dX4_leastCongestedPath_33 : decode cX4_leastCongestedPath 33 = .ok (.iload_n 3, 1) := by decide +kernel
theorem dX4_leastCongestedPath_34 : decode cX4_leastCongestedPath 34 = .ok (.istore_n 2, 1) := by decide +kernel
theorem dX4_leastCongestedPath_35 : decode cX4_leastCongestedPath 35 = .ok (.iinc 3 1, 3) := by decide +kernel
theorem dX4_leastCongestedPath_38 : decode cX4_leastCongestedPath 38 = .ok (.goto (-34), 3) := by decide +kernel
theorem dX4_leastCongestedPath_41 : decode cX4_leastCongestedPath 41 = .ok (.aload_n 0, 1) := by decide +kernel
theorem dX4_leastCongestedPath_42 : decode cX4_leastCongestedPath 42 = .ok (.iload_n 1, 1) := by decide +kernel
theorem dX4_leastCongestedPath_43 : decode cX4_leastCongestedPath 43 = .ok (.invokevirtual 139, 3) := by decide +kernel
theorem dX4_leastCongestedPath_46 : decode cX4_leastCongestedPath 46 = .ok (.ifCond .eq 28, 3) := by decide +kernel
theorem dX4_leastCongestedPath_49 : decode cX4_leastCongestedPath 49 = .ok (.aload_n 0, 1) := by decide +kernel
theorem dX4_leastCongestedPath_50 : decode cX4_leastCongestedPath 50 = .ok (.getfield 11, 3) := by decide +kernel
theorem dX4_leastCongestedPath_53 : decode cX4_leastCongestedPath 53 = .ok (.iload_n 1, 1) := by decide +kernel
theorem dX4_leastCongestedPath_54 : decode cX4_leastCongestedPath 54 = .ok (.aaload, 1) := by decide +kernel
theorem dX4_leastCongestedPath_55 : decode cX4_leastCongestedPath 55 = .ok (.invokevirtual 136, 3) := by decide +kernel
theorem dX4_leastCongestedPath_58 : decode cX4_leastCongestedPath 58 = .ok (.aload_n 0, 1) := by decide +kernel
theorem dX4_leastCongestedPath_59 : decode cX4_leastCongestedPath 59 = .ok (.getfield 11, 3) := by decide +kernel
theorem dX4_leastCongestedPath_62 : decode cX4_leastCongestedPath 62 = .ok (.iload_n 2, 1) := by decide +kernel
theorem dX4_leastCongestedPath_63 : decode cX4_leastCongestedPath 63 = .ok (.aaload, 1) := by decide +kernel
theorem dX4_leastCongestedPath_64 : decode cX4_leastCongestedPath 64 = .ok (.invokevirtual 136, 3) := by decide +kernel
theorem dX4_leastCongestedPath_67 : decode cX4_leastCongestedPath 67 = .ok (.if_icmp .ne 7, 3) := by decide +kernel
theorem dX4_leastCongestedPath_70 : decode cX4_leastCongestedPath 70 = .ok (.iconst 1, 1) := by decide +kernel
theorem dX4_leastCongestedPath_71 : decode cX4_leastCongestedPath 71 = .ok (.goto 4, 3) := by decide +kernel
theorem dX4_leastCongestedPath_74 : decode cX4_leastCongestedPath 74 = .ok (.iconst 0, 1) := by decide +kernel
theorem dX4_leastCongestedPath_75 : decode cX4_leastCongestedPath 75 = .ok (.istore_n 3, 1) := by decide +kernel
theorem dX4_leastCongestedPath_76 : decode cX4_leastCongestedPath 76 = .ok (.iload_n 3, 1) := by decide +kernel
theorem dX4_leastCongestedPath_77 : decode cX4_leastCongestedPath 77 = .ok (.ifCond .eq 7, 3) := by decide +kernel
theorem dX4_leastCongestedPath_80 : decode cX4_leastCongestedPath 80 = .ok (.iload_n 1, 1) := by decide +kernel
theorem dX4_leastCongestedPath_81 : decode cX4_leastCongestedPath 81 = .ok (.goto 4, 3) := by decide +kernel
theorem dX4_leastCongestedPath_84 : decode cX4_leastCongestedPath 84 = .ok (.iload_n 2, 1) := by decide +kernel
theorem dX4_leastCongestedPath_85 : decode cX4_leastCongestedPath 85 = .ok (.ireturn, 1) := by decide +kernel
theorem dX4_randomPath_0 : decode cX4_randomPath 0 = .ok (.aload_n 0, 1) := by decide +kernel
theorem dX4_randomPath_1 : decode cX4_randomPath 1 = .ok (.invokevirtual 143, 3) := by decide +kernel
theorem dX4_randomPath_4 : decode cX4_randomPath 4 = .ok (.ldc 146, 2) := by decide +kernel
theorem dX4_randomPath_6 : decode cX4_randomPath 6 = .ok (.idiv, 1) := by decide +kernel
theorem dX4_randomPath_7 : decode cX4_randomPath 7 = .ok (.aload_n 0, 1) := by decide +kernel
theorem dX4_randomPath_8 : decode cX4_randomPath 8 = .ok (.getfield 36, 3) := by decide +kernel
theorem dX4_randomPath_11 : decode cX4_randomPath 11 = .ok (.irem, 1) := by decide +kernel
theorem dX4_randomPath_12 : decode cX4_randomPath 12 = .ok (.ireturn, 1) := by decide +kernel
theorem dX4_nextGenerator_0 : decode cX4_nextGenerator 0 = .ok (.ldc 147, 2) := by decide +kernel
theorem dX4_nextGenerator_2 : decode cX4_nextGenerator 2 = .ok (.aload_n 0, 1) := by decide +kernel
theorem dX4_nextGenerator_3 : decode cX4_nextGenerator 3 = .ok (.getfield 58, 3) := by decide +kernel
theorem dX4_nextGenerator_6 : decode cX4_nextGenerator 6 = .ok (.imul, 1) := by decide +kernel
theorem dX4_nextGenerator_7 : decode cX4_nextGenerator 7 = .ok (.sipush 12345, 3) := by decide +kernel
theorem dX4_nextGenerator_10 : decode cX4_nextGenerator 10 = .ok (.iadd, 1) := by decide +kernel
theorem dX4_nextGenerator_11 : decode cX4_nextGenerator 11 = .ok (.ldc 148, 2) := by decide +kernel
theorem dX4_nextGenerator_13 : decode cX4_nextGenerator 13 = .ok (.iand, 1) := by decide +kernel
theorem dX4_nextGenerator_14 : decode cX4_nextGenerator 14 = .ok (.ireturn, 1) := by decide +kernel
theorem dX4_sendPacket_0 : decode cX4_sendPacket 0 = .ok (.aload_n 0, 1) := by decide +kernel
theorem dX4_sendPacket_1 : decode cX4_sendPacket 1 = .ok (.iload_n 1, 1) := by decide +kernel
theorem dX4_sendPacket_2 : decode cX4_sendPacket 2 = .ok (.invokevirtual 149, 3) := by decide +kernel
theorem dX4_sendPacket_5 : decode cX4_sendPacket 5 = .ok (.istore_n 3, 1) := by decide +kernel
theorem dX4_sendPacket_6 : decode cX4_sendPacket 6 = .ok (.aload_n 0, 1) := by decide +kernel
theorem dX4_sendPacket_7 : decode cX4_sendPacket 7 = .ok (.iload_n 1, 1) := by decide +kernel
theorem dX4_sendPacket_8 : decode cX4_sendPacket 8 = .ok (.iload_n 3, 1) := by decide +kernel
theorem dX4_sendPacket_9 : decode cX4_sendPacket 9 = .ok (.invokevirtual 152, 3) := by decide +kernel
theorem dX4_sendPacket_12 : decode cX4_sendPacket 12 = .ok (.aload_n 0, 1) := by decide +kernel
theorem dX4_sendPacket_13 : decode cX4_sendPacket 13 = .ok (.getfield 11, 3) := by decide +kernel
theorem dX4_sendPacket_16 : decode cX4_sendPacket 16 = .ok (.iload_n 3, 1) := by decide +kernel
theorem dX4_sendPacket_17 : decode cX4_sendPacket 17 = .ok (.aaload, 1) := by decide +kernel
theorem dX4_sendPacket_18 : decode cX4_sendPacket 18 = .ok (.astore 4, 2) := by decide +kernel
theorem dX4_sendPacket_20 : decode cX4_sendPacket 20 = .ok (.aload 4, 2) := by decide +kernel
theorem dX4_sendPacket_22 : decode cX4_sendPacket 22 = .ok (.aload_n 0, 1) := by decide +kernel
theorem dX4_sendPacket_23 : decode cX4_sendPacket 23 = .ok (.getfield 43, 3) := by decide +kernel
theorem dX4_sendPacket_26 : decode cX4_sendPacket 26 = .ok (.invokevirtual 155, 3) := by decide +kernel
theorem dX4_sendPacket_29 : decode cX4_sendPacket 29 = .ok (.ifCond .eq 19, 3) := by decide +kernel
theorem dX4_sendPacket_32 : decode cX4_sendPacket 32 = .ok (.aload 4, 2) := by decide +kernel
theorem dX4_sendPacket_34 : decode cX4_sendPacket 34 = .ok (.dup, 1) := by decide +kernel
theorem dX4_sendPacket_35 : decode cX4_sendPacket 35 = .ok (.getfield 158, 3) := by decide +kernel
theorem dX4_sendPacket_38 : decode cX4_sendPacket 38 = .ok (.iconst 1, 1) := by decide +kernel
theorem dX4_sendPacket_39 : decode cX4_sendPacket 39 = .ok (.iadd, 1) := by decide +kernel
theorem dX4_sendPacket_40 : decode cX4_sendPacket 40 = .ok (.putfield 158, 3) := by decide +kernel
theorem dX4_sendPacket_43 : decode cX4_sendPacket 43 = .ok (.bipush 10, 2) := by decide +kernel
theorem dX4_sendPacket_45 : decode cX4_sendPacket 45 = .ok (.iload_n 3, 1) := by decide +kernel
theorem dX4_sendPacket_46 : decode cX4_sendPacket 46 = .ok (.iadd, 1) := by decide +kernel
theorem dX4_sendPacket_47 : decode cX4_sendPacket 47 = .ok (.ireturn, 1) := by decide +kernel
theorem dX4_sendPacket_48 : decode cX4_sendPacket 48 = .ok (.aload_n 0, 1) := by decide +kernel
theorem dX4_sendPacket_49 : decode cX4_sendPacket 49 = .ok (.getfield 25, 3) := by decide +kernel
theorem dX4_sendPacket_52 : decode cX4_sendPacket 52 = .ok (.iload_n 1, 1) := by decide +kernel
theorem dX4_sendPacket_53 : decode cX4_sendPacket 53 = .ok (.aaload, 1) := by decide +kernel
theorem dX4_sendPacket_54 : decode cX4_sendPacket 54 = .ok (.iload_n 3, 1) := by decide +kernel
theorem dX4_sendPacket_55 : decode cX4_sendPacket 55 = .ok (.aload_n 0, 1) := by decide +kernel
theorem dX4_sendPacket_56 : decode cX4_sendPacket 56 = .ok (.getfield 43, 3) := by decide +kernel
theorem dX4_sendPacket_59 : decode cX4_sendPacket 59 = .ok (.aload 4, 2) := by decide +kernel
theorem dX4_sendPacket_61 : decode cX4_sendPacket 61 = .ok (.aload_n 0, 1) := by decide +kernel
theorem dX4_sendPacket_62 : decode cX4_sendPacket 62 = .ok (.getfield 43, 3) := by decide +kernel
theorem dX4_sendPacket_65 : decode cX4_sendPacket 65 = .ok (.iload_n 2, 1) := by decide +kernel
theorem dX4_sendPacket_66 : decode cX4_sendPacket 66 = .ok (.invokevirtual 98, 3) := by decide +kernel
theorem dX4_sendPacket_69 : decode cX4_sendPacket 69 = .ok (.iadd, 1) := by decide +kernel
theorem dX4_sendPacket_70 : decode cX4_sendPacket 70 = .ok (.invokevirtual 161, 3) := by decide +kernel
theorem dX4_sendPacket_73 : decode cX4_sendPacket 73 = .ok (.aload 4, 2) := by decide +kernel
theorem dX4_sendPacket_75 : decode cX4_sendPacket 75 = .ok (.aload_n 0, 1) := by decide +kernel
theorem dX4_sendPacket_76 : decode cX4_sendPacket 76 = .ok (.getfield 43, 3) := by decide +kernel
theorem dX4_sendPacket_79 : decode cX4_sendPacket 79 = .ok (.iload_n 2, 1) := by decide +kernel
theorem dX4_sendPacket_80 : decode cX4_sendPacket 80 = .ok (.invokevirtual 164, 3) := by decide +kernel
theorem dX4_sendPacket_83 : decode cX4_sendPacket 83 = .ok (.iload_n 3, 1) := by decide +kernel
theorem dX4_sendPacket_84 : decode cX4_sendPacket 84 = .ok (.ireturn, 1) := by decide +kernel
theorem dX4_noteChoice_0 : decode cX4_noteChoice 0 = .ok (.aload_n 0, 1) := by decide +kernel
theorem dX4_noteChoice_1 : decode cX4_noteChoice 1 = .ok (.invokevirtual 167, 3) := by decide +kernel
theorem dX4_noteChoice_4 : decode cX4_noteChoice 4 = .ok (.ifCond .eq 12, 3) := by decide +kernel
theorem dX4_noteChoice_7 : decode cX4_noteChoice 7 = .ok (.aload_n 0, 1) := by decide +kernel
theorem dX4_noteChoice_8 : decode cX4_noteChoice 8 = .ok (.iload_n 1, 1) := by decide +kernel
theorem dX4_noteChoice_9 : decode cX4_noteChoice 9 = .ok (.iload_n 2, 1) := by decide +kernel
theorem dX4_noteChoice_10 : decode cX4_noteChoice 10 = .ok (.invokevirtual 171, 3) := by decide +kernel
theorem dX4_noteChoice_13 : decode cX4_noteChoice 13 = .ok (.goto 26, 3) := by decide +kernel
theorem dX4_noteChoice_16 : decode cX4_noteChoice 16 = .ok (.aload_n 0, 1) := by decide +kernel
theorem dX4_noteChoice_17 : decode cX4_noteChoice 17 = .ok (.getfield 46, 3) := by decide +kernel
theorem dX4_noteChoice_20 : decode cX4_noteChoice 20 = .ok (.iconst 2, 1) := by decide +kernel
theorem dX4_noteChoice_21 : decode cX4_noteChoice 21 = .ok (.if_icmp .ne 18, 3) := by decide +kernel
theorem dX4_noteChoice_24 : decode cX4_noteChoice 24 = .ok (.aload_n 0, 1) := by decide +kernel
theorem dX4_noteChoice_25 : decode cX4_noteChoice 25 = .ok (.aload_n 0, 1) := by decide +kernel
theorem dX4_noteChoice_26 : decode cX4_noteChoice 26 = .ok (.getfield 61, 3) := by decide +kernel
theorem dX4_noteChoice_29 : decode cX4_noteChoice 29 = .ok (.iconst 1, 1) := by decide +kernel
end
section
theorem dX4_noteChoice_30 : decode cX4_noteChoice 30 = .ok (.iadd, 1) := by decide +kernel
theorem dX4_noteChoice_31 : decode cX4_noteChoice 31 = .ok (.aload_n 0, 1) := by decide +kernel
theorem dX4_noteChoice_32 : decode cX4_noteChoice 32 = .ok (.getfield 36, 3) := by decide +kernel
theorem dX4_noteChoice_35 : decode cX4_noteChoice 35 = .ok (.irem, 1) := by decide +kernel
theorem dX4_noteChoice_36 : decode cX4_noteChoice 36 = .ok (.putfield 61, 3) := by decide +kernel
theorem dX4_noteChoice_39 : decode cX4_noteChoice 39 = .ok (.return_, 1) := by decide +kernel
theorem dX4_noteInTable_0 : decode cX4_noteInTable 0 = .ok (.aload_n 0, 1) := by decide +kernel
theorem dX4_noteInTable_1 : decode cX4_noteInTable 1 = .ok (.getfield 19, 3) := by decide +kernel
theorem dX4_noteInTable_4 : decode cX4_noteInTable 4 = .ok (.aload_n 0, 1) := by decide +kernel
theorem dX4_noteInTable_5 : decode cX4_noteInTable 5 = .ok (.iload_n 1, 1) := by decide +kernel
theorem dX4_noteInTable_6 : decode cX4_noteInTable 6 = .ok (.invokevirtual 83, 3) := by decide +kernel
theorem dX4_noteInTable_9 : decode cX4_noteInTable 9 = .ok (.aaload, 1) := by decide +kernel
theorem dX4_noteInTable_10 : decode cX4_noteInTable 10 = .ok (.astore_n 3, 1) := by decide +kernel
theorem dX4_noteInTable_11 : decode cX4_noteInTable 11 = .ok (.aload_n 0, 1) := by decide +kernel
theorem dX4_noteInTable_12 : decode cX4_noteInTable 12 = .ok (.aload_n 3, 1) := by decide +kernel
theorem dX4_noteInTable_13 : decode cX4_noteInTable 13 = .ok (.invokevirtual 94, 3) := by decide +kernel
theorem dX4_noteInTable_16 : decode cX4_noteInTable 16 = .ok (.ifCond .ne 34, 3) := by decide +kernel
theorem dX4_noteInTable_19 : decode cX4_noteInTable 19 = .ok (.aload_n 0, 1) := by decide +kernel
theorem dX4_noteInTable_20 : decode cX4_noteInTable 20 = .ok (.getfield 25, 3) := by decide +kernel
theorem dX4_noteInTable_23 : decode cX4_noteInTable 23 = .ok (.iload_n 1, 1) := by decide +kernel
theorem dX4_noteInTable_24 : decode cX4_noteInTable 24 = .ok (.aaload, 1) := by decide +kernel
theorem dX4_noteInTable_25 : decode cX4_noteInTable 25 = .ok (.dup, 1) := by decide +kernel
theorem dX4_noteInTable_26 : decode cX4_noteInTable 26 = .ok (.getfield 174, 3) := by decide +kernel
theorem dX4_noteInTable_29 : decode cX4_noteInTable 29 = .ok (.iconst 1, 1) := by decide +kernel
theorem dX4_noteInTable_30 : decode cX4_noteInTable 30 = .ok (.iadd, 1) := by decide +kernel
theorem dX4_noteInTable_31 : decode cX4_noteInTable 31 = .ok (.putfield 174, 3) := by decide +kernel
theorem dX4_noteInTable_34 : decode cX4_noteInTable 34 = .ok (.aload_n 0, 1) := by decide +kernel
theorem dX4_noteInTable_35 : decode cX4_noteInTable 35 = .ok (.getfield 46, 3) := by decide +kernel
theorem dX4_noteInTable_38 : decode cX4_noteInTable 38 = .ok (.iconst 3, 1) := by decide +kernel
theorem dX4_noteInTable_39 : decode cX4_noteInTable 39 = .ok (.if_icmp .ne 11, 3) := by decide +kernel
theorem dX4_noteInTable_42 : decode cX4_noteInTable 42 = .ok (.aload_n 0, 1) := by decide +kernel
theorem dX4_noteInTable_43 : decode cX4_noteInTable 43 = .ok (.aload_n 0, 1) := by decide +kernel
theorem dX4_noteInTable_44 : decode cX4_noteInTable 44 = .ok (.invokevirtual 143, 3) := by decide +kernel
theorem dX4_noteInTable_47 : decode cX4_noteInTable 47 = .ok (.putfield 58, 3) := by decide +kernel
theorem dX4_noteInTable_50 : decode cX4_noteInTable 50 = .ok (.aload_n 3, 1) := by decide +kernel
theorem dX4_noteInTable_51 : decode cX4_noteInTable 51 = .ok (.iload_n 2, 1) := by decide +kernel
theorem dX4_noteInTable_52 : decode cX4_noteInTable 52 = .ok (.aload_n 0, 1) := by decide +kernel
theorem dX4_noteInTable_53 : decode cX4_noteInTable 53 = .ok (.getfield 43, 3) := by decide +kernel
theorem dX4_noteInTable_56 : decode cX4_noteInTable 56 = .ok (.invokevirtual 177, 3) := by decide +kernel
theorem dX4_noteInTable_59 : decode cX4_noteInTable 59 = .ok (.return_, 1) := by decide +kernel
theorem dX4_wouldOvertake_0 : decode cX4_wouldOvertake 0 = .ok (.aload_n 0, 1) := by decide +kernel
theorem dX4_wouldOvertake_1 : decode cX4_wouldOvertake 1 = .ok (.getfield 11, 3) := by decide +kernel
theorem dX4_wouldOvertake_4 : decode cX4_wouldOvertake 4 = .ok (.aload_n 0, 1) := by decide +kernel
theorem dX4_wouldOvertake_5 : decode cX4_wouldOvertake 5 = .ok (.iload_n 1, 1) := by decide +kernel
theorem dX4_wouldOvertake_6 : decode cX4_wouldOvertake 6 = .ok (.invokevirtual 149, 3) := by decide +kernel
theorem dX4_wouldOvertake_9 : decode cX4_wouldOvertake 9 = .ok (.aaload, 1) := by decide +kernel
theorem dX4_wouldOvertake_10 : decode cX4_wouldOvertake 10 = .ok (.astore_n 3, 1) := by decide +kernel
theorem dX4_wouldOvertake_11 : decode cX4_wouldOvertake 11 = .ok (.aload_n 3, 1) := by decide +kernel
theorem dX4_wouldOvertake_12 : decode cX4_wouldOvertake 12 = .ok (.aload_n 0, 1) := by decide +kernel
theorem dX4_wouldOvertake_13 : decode cX4_wouldOvertake 13 = .ok (.getfield 43, 3) := by decide +kernel
theorem dX4_wouldOvertake_16 : decode cX4_wouldOvertake 16 = .ok (.invokevirtual 155, 3) := by decide +kernel
theorem dX4_wouldOvertake_19 : decode cX4_wouldOvertake 19 = .ok (.ifCond .ne 33, 3) := by decide +kernel
theorem dX4_wouldOvertake_22 : decode cX4_wouldOvertake 22 = .ok (.aload_n 0, 1) := by decide +kernel
theorem dX4_wouldOvertake_23 : decode cX4_wouldOvertake 23 = .ok (.getfield 25, 3) := by decide +kernel
theorem dX4_wouldOvertake_26 : decode cX4_wouldOvertake 26 = .ok (.iload_n 1, 1) := by decide +kernel
theorem dX4_wouldOvertake_27 : decode cX4_wouldOvertake 27 = .ok (.aaload, 1) := by decide +kernel
theorem dX4_wouldOvertake_28 : decode cX4_wouldOvertake 28 = .ok (.aload_n 0, 1) := by decide +kernel
theorem dX4_wouldOvertake_29 : decode cX4_wouldOvertake 29 = .ok (.getfield 43, 3) := by decide +kernel
theorem dX4_wouldOvertake_32 : decode cX4_wouldOvertake 32 = .ok (.aload_n 3, 1) := by decide +kernel
theorem dX4_wouldOvertake_33 : decode cX4_wouldOvertake 33 = .ok (.aload_n 0, 1) := by decide +kernel
theorem dX4_wouldOvertake_34 : decode cX4_wouldOvertake 34 = .ok (.getfield 43, 3) := by decide +kernel
theorem dX4_wouldOvertake_37 : decode cX4_wouldOvertake 37 = .ok (.iload_n 2, 1) := by decide +kernel
theorem dX4_wouldOvertake_38 : decode cX4_wouldOvertake 38 = .ok (.invokevirtual 98, 3) := by decide +kernel
theorem dX4_wouldOvertake_41 : decode cX4_wouldOvertake 41 = .ok (.iadd, 1) := by decide +kernel
theorem dX4_wouldOvertake_42 : decode cX4_wouldOvertake 42 = .ok (.invokevirtual 180, 3) := by decide +kernel
theorem dX4_wouldOvertake_45 : decode cX4_wouldOvertake 45 = .ok (.ifCond .eq 7, 3) := by decide +kernel
theorem dX4_wouldOvertake_48 : decode cX4_wouldOvertake 48 = .ok (.iconst 1, 1) := by decide +kernel
theorem dX4_wouldOvertake_49 : decode cX4_wouldOvertake 49 = .ok (.goto 4, 3) := by decide +kernel
theorem dX4_wouldOvertake_52 : decode cX4_wouldOvertake 52 = .ok (.iconst 0, 1) := by decide +kernel
theorem dX4_wouldOvertake_53 : decode cX4_wouldOvertake 53 = .ok (.ireturn, 1) := by decide +kernel
theorem dX5_init_0 : decode cX5_init 0 = .ok (.aload_n 0, 1) := by decide +kernel
theorem dX5_init_1 : decode cX5_init 1 = .ok (.invokespecial 3, 3) := by decide +kernel
theorem dX5_init_4 : decode cX5_init 4 = .ok (.aload_n 0, 1) := by decide +kernel
theorem dX5_init_5 : decode cX5_init 5 = .ok (.bipush 120, 2) := by decide +kernel
theorem dX5_init_7 : decode cX5_init 7 = .ok (.newarray .int, 2) := by decide +kernel
theorem dX5_init_9 : decode cX5_init 9 = .ok (.putfield 9, 3) := by decide +kernel
theorem dX5_init_12 : decode cX5_init 12 = .ok (.return_, 1) := by decide +kernel
theorem dX5_isFull_0 : decode cX5_isFull 0 = .ok (.aload_n 0, 1) := by decide +kernel
theorem dX5_isFull_1 : decode cX5_isFull 1 = .ok (.getfield 15, 3) := by decide +kernel
theorem dX5_isFull_4 : decode cX5_isFull 4 = .ok (.bipush 120, 2) := by decide +kernel
theorem dX5_isFull_6 : decode cX5_isFull 6 = .ok (.if_icmp .lt 7, 3) := by decide +kernel
theorem dX5_isFull_9 : decode cX5_isFull 9 = .ok (.iconst 1, 1) := by decide +kernel
theorem dX5_isFull_10 : decode cX5_isFull 10 = .ok (.goto 4, 3) := by decide +kernel
theorem dX5_isFull_13 : decode cX5_isFull 13 = .ok (.iconst 0, 1) := by decide +kernel
theorem dX5_isFull_14 : decode cX5_isFull 14 = .ok (.ireturn, 1) := by decide +kernel
theorem dX5_append_0 : decode cX5_append 0 = .ok (.aload_n 0, 1) := by decide +kernel
theorem dX5_append_1 : decode cX5_append 1 = .ok (.getfield 9, 3) := by decide +kernel
theorem dX5_append_4 : decode cX5_append 4 = .ok (.aload_n 0, 1) := by decide +kernel
theorem dX5_append_5 : decode cX5_append 5 = .ok (.getfield 15, 3) := by decide +kernel
theorem dX5_append_8 : decode cX5_append 8 = .ok (.iload_n 1, 1) := by decide +kernel
theorem dX5_append_9 : decode cX5_append 9 = .ok (.iastore, 1) := by decide +kernel
theorem dX5_append_10 : decode cX5_append 10 = .ok (.aload_n 0, 1) := by decide +kernel
theorem dX5_append_11 : decode cX5_append 11 = .ok (.dup, 1) := by decide +kernel
theorem dX5_append_12 : decode cX5_append 12 = .ok (.getfield 15, 3) := by decide +kernel
theorem dX5_append_15 : decode cX5_append 15 = .ok (.iconst 1, 1) := by decide +kernel
theorem dX5_append_16 : decode cX5_append 16 = .ok (.iadd, 1) := by decide +kernel
theorem dX5_append_17 : decode cX5_append 17 = .ok (.putfield 15, 3) := by decide +kernel
theorem dX5_append_20 : decode cX5_append 20 = .ok (.return_, 1) := by decide +kernel
theorem dX5_clear_0 : decode cX5_clear 0 = .ok (.aload_n 0, 1) := by decide +kernel
theorem dX5_clear_1 : decode cX5_clear 1 = .ok (.iconst 0, 1) := by decide +kernel
theorem dX5_clear_2 : decode cX5_clear 2 = .ok (.putfield 15, 3) := by decide +kernel
theorem dX5_clear_5 : decode cX5_clear 5 = .ok (.return_, 1) := by decide +kernel
theorem dX5_rewind_0 : decode cX5_rewind 0 = .ok (.aload_n 0, 1) := by decide +kernel
theorem dX5_rewind_1 : decode cX5_rewind 1 = .ok (.iconst 0, 1) := by decide +kernel
theorem dX5_rewind_2 : decode cX5_rewind 2 = .ok (.putfield 19, 3) := by decide +kernel
theorem dX5_rewind_5 : decode cX5_rewind 5 = .ok (.aload_n 0, 1) := by decide +kernel
theorem dX5_rewind_6 : decode cX5_rewind 6 = .ok (.invokevirtual 22, 3) := by decide +kernel
theorem dX5_rewind_9 : decode cX5_rewind 9 = .ok (.return_, 1) := by decide +kernel
theorem dX5_errorPosition_0 : decode cX5_errorPosition 0 = .ok (.aload_n 0, 1) := by decide +kernel
theorem dX5_errorPosition_1 : decode cX5_errorPosition 1 = .ok (.invokevirtual 25, 3) := by decide +kernel
theorem dX5_errorPosition_4 : decode cX5_errorPosition 4 = .ok (.aload_n 0, 1) := by decide +kernel
theorem dX5_errorPosition_5 : decode cX5_errorPosition 5 = .ok (.invokevirtual 28, 3) := by decide +kernel
theorem dX5_errorPosition_8 : decode cX5_errorPosition 8 = .ok (.ifCond .ne 7, 3) := by decide +kernel
theorem dX5_errorPosition_11 : decode cX5_errorPosition 11 = .ok (.iconst 1, 1) := by decide +kernel
theorem dX5_errorPosition_12 : decode cX5_errorPosition 12 = .ok (.goto 4, 3) := by decide +kernel
theorem dX5_errorPosition_15 : decode cX5_errorPosition 15 = .ok (.iconst 0, 1) := by decide +kernel
theorem dX5_errorPosition_16 : decode cX5_errorPosition 16 = .ok (.istore_n 1, 1) := by decide +kernel
theorem dX5_errorPosition_17 : decode cX5_errorPosition 17 = .ok (.iconst 0, 1) := by decide +kernel
theorem dX5_errorPosition_18 : decode cX5_errorPosition 18 = .ok (.istore_n 2, 1) := by decide +kernel
theorem dX5_errorPosition_19 : decode cX5_errorPosition 19 = .ok (.iload_n 2, 1) := by decide +kernel
theorem dX5_errorPosition_20 : decode cX5_errorPosition 20 = .ok (.bipush 120, 2) := by decide +kernel
theorem dX5_errorPosition_22 : decode cX5_errorPosition 22 = .ok (.if_icmp .ge 25, 3) := by decide +kernel
theorem dX5_errorPosition_25 : decode cX5_errorPosition 25 = .ok (.iload_n 1, 1) := by decide +kernel
theorem dX5_errorPosition_26 : decode cX5_errorPosition 26 = .ok (.ifCond .eq 21, 3) := by decide +kernel
theorem dX5_errorPosition_29 : decode cX5_errorPosition 29 = .ok (.aload_n 0, 1) := by decide +kernel
theorem dX5_errorPosition_30 : decode cX5_errorPosition 30 = .ok (.invokevirtual 28, 3) := by decide +kernel
theorem dX5_errorPosition_33 : decode cX5_errorPosition 33 = .ok (.ifCond .ne 14, 3) := by decide +kernel
theorem dX5_errorPosition_36 : decode cX5_errorPosition 36 = .ok (.aload_n 0, 1) := by decide +kernel
theorem dX5_errorPosition_37 : decode cX5_errorPosition 37 = .ok (.invokevirtual 32, 3) := by decide +kernel
theorem dX5_errorPosition_40 : decode cX5_errorPosition 40 = .ok (.istore_n 1, 1) := by decide +kernel
theorem dX5_errorPosition_41 : decode cX5_errorPosition 41 = .ok (.iinc 2 1, 3) := by decide +kernel
theorem dX5_errorPosition_44 : decode cX5_errorPosition 44 = .ok (.goto (-25), 3) := by decide +kernel
theorem dX5_errorPosition_47 : decode cX5_errorPosition 47 = .ok (.iload_n 1, 1) := by decide +kernel
theorem dX5_errorPosition_48 : decode cX5_errorPosition 48 = .ok (.ifCond .eq 7, 3) := by decide +kernel
theorem dX5_errorPosition_51 : decode cX5_errorPosition 51 = .ok (.iconst (-1), 1) := by decide +kernel
theorem dX5_errorPosition_52 : decode cX5_errorPosition 52 = .ok (.goto 7, 3) := by decide +kernel
theorem dX5_errorPosition_55 : decode cX5_errorPosition 55 = .ok (.aload_n 0, 1) := by decide +kernel
theorem dX5_errorPosition_56 : decode cX5_errorPosition 56 = .ok (.getfield 19, 3) := by decide +kernel
theorem dX5_errorPosition_59 : decode cX5_errorPosition 59 = .ok (.ireturn, 1) := by decide +kernel
theorem dX5_readItem_0 : decode cX5_readItem 0 = .ok (.aload_n 0, 1) := by decide +kernel
theorem dX5_readItem_1 : decode cX5_readItem 1 = .ok (.aload_n 0, 1) := by decide +kernel
theorem dX5_readItem_2 : decode cX5_readItem 2 = .ok (.bipush 102, 2) := by decide +kernel
theorem dX5_readItem_4 : decode cX5_readItem 4 = .ok (.invokevirtual 35, 3) := by decide +kernel
theorem dX5_readItem_7 : decode cX5_readItem 7 = .ok (.putfield 39, 3) := by decide +kernel
theorem dX5_readItem_10 : decode cX5_readItem 10 = .ok (.aload_n 0, 1) := by decide +kernel
theorem dX5_readItem_11 : decode cX5_readItem 11 = .ok (.getfield 39, 3) := by decide +kernel
theorem dX5_readItem_14 : decode cX5_readItem 14 = .ok (.ifCond .eq 30, 3) := by decide +kernel
theorem dX5_readItem_17 : decode cX5_readItem 17 = .ok (.aload_n 0, 1) := by decide +kernel
theorem dX5_readItem_18 : decode cX5_readItem 18 = .ok (.aload_n 0, 1) := by decide +kernel
theorem dX5_readItem_19 : decode cX5_readItem 19 = .ok (.invokevirtual 43, 3) := by decide +kernel
theorem dX5_readItem_22 : decode cX5_readItem 22 = .ok (.putfield 47, 3) := by decide +kernel
theorem dX5_readItem_25 : decode cX5_readItem 25 = .ok (.aload_n 0, 1) := by decide +kernel
theorem dX5_readItem_26 : decode cX5_readItem 26 = .ok (.getfield 47, 3) := by decide +kernel
theorem dX5_readItem_29 : decode cX5_readItem 29 = .ok (.iconst (-1), 1) := by decide +kernel
theorem dX5_readItem_30 : decode cX5_readItem 30 = .ok (.if_icmp .eq 12, 3) := by decide +kernel
theorem dX5_readItem_33 : decode cX5_readItem 33 = .ok (.aload_n 0, 1) := by decide +kernel
theorem dX5_readItem_34 : decode cX5_readItem 34 = .ok (.bipush 44, 2) := by decide +kernel
theorem dX5_readItem_36 : decode cX5_readItem 36 = .ok (.invokevirtual 35, 3) := by decide +kernel
theorem dX5_readItem_39 : decode cX5_readItem 39 = .ok (.ifCond .ne 16, 3) := by decide +kernel
theorem dX5_readItem_42 : decode cX5_readItem 42 = .ok (.iconst 0, 1) := by decide +kernel
theorem dX5_readItem_43 : decode cX5_readItem 43 = .ok (.ireturn, 1) := by decide +kernel
theorem dX5_readItem_44 : decode cX5_readItem 44 = .ok (.aload_n 0, 1) := by decide +kernel
theorem dX5_readItem_45 : decode cX5_readItem 45 = .ok (.bipush 116, 2) := by decide +kernel
theorem dX5_readItem_47 : decode cX5_readItem 47 = .ok (.invokevirtual 35, 3) := by decide +kernel
theorem dX5_readItem_50 : decode cX5_readItem 50 = .ok (.ifCond .ne 5, 3) := by decide +kernel
theorem dX5_readItem_53 : decode cX5_readItem 53 = .ok (.iconst 0, 1) := by decide +kernel
theorem dX5_readItem_54 : decode cX5_readItem 54 = .ok (.ireturn, 1) := by decide +kernel
theorem dX5_readItem_55 : decode cX5_readItem 55 = .ok (.aload_n 0, 1) := by decide +kernel
theorem dX5_readItem_56 : decode cX5_readItem 56 = .ok (.aload_n 0, 1) := by decide +kernel
theorem dX5_readItem_57 : decode cX5_readItem 57 = .ok (.invokevirtual 43, 3) := by decide +kernel
theorem dX5_readItem_60 : decode cX5_readItem 60 = .ok (.putfield 50, 3) := by decide +kernel
theorem dX5_readItem_63 : decode cX5_readItem 63 = .ok (.aload_n 0, 1) := by decide +kernel
theorem dX5_readItem_64 : decode cX5_readItem 64 = .ok (.getfield 50, 3) := by decide +kernel
theorem dX5_readItem_67 : decode cX5_readItem 67 = .ok (.iconst (-1), 1) := by decide +kernel
theorem dX5_readItem_68 : decode cX5_readItem 68 = .ok (.if_icmp .eq 16, 3) := by decide +kernel
theorem dX5_readItem_71 : decode cX5_readItem 71 = .ok (.aload_n 0, 1) := by decide +kernel
theorem dX5_readItem_72 : decode cX5_readItem 72 = .ok (.bipush 59, 2) := by decide +kernel
theorem dX5_readItem_74 : decode cX5_readItem 74 = .ok (.invokevirtual 35, 3) := by decide +kernel
theorem dX5_readItem_77 : decode cX5_readItem 77 = .ok (.ifCond .eq 7, 3) := by decide +kernel
theorem dX5_readItem_80 : decode cX5_readItem 80 = .ok (.iconst 1, 1) := by decide +kernel
theorem dX5_readItem_81 : decode cX5_readItem 81 = .ok (.goto 4, 3) := by decide +kernel
theorem dX5_readItem_84 : decode cX5_readItem 84 = .ok (.iconst 0, 1) := by decide +kernel
theorem dX5_readItem_85 : decode cX5_readItem 85 = .ok (.ireturn, 1) := by decide +kernel
theorem dX5_readNumber_0 : decode cX5_readNumber 0 = .ok (.aload_n 0, 1) := by decide +kernel
theorem dX5_readNumber_1 : decode cX5_readNumber 1 = .ok (.invokevirtual 53, 3) := by decide +kernel
theorem dX5_readNumber_4 : decode cX5_readNumber 4 = .ok (.ifCond .ne 5, 3) := by decide +kernel
theorem dX5_readNumber_7 : decode cX5_readNumber 7 = .ok (.iconst (-1), 1) := by decide +kernel
theorem dX5_readNumber_8 : decode cX5_readNumber 8 = .ok (.ireturn, 1) := by decide +kernel
theorem dX5_readNumber_9 : decode cX5_readNumber 9 = .ok (.aload_n 0, 1) := by decide +kernel
theorem dX5_readNumber_10 : decode cX5_readNumber 10 = .ok (.invokevirtual 56, 3) := by decide +kernel
theorem dX5_readNumber_13 : decode cX5_readNumber 13 = .ok (.bipush 48, 2) := by decide +kernel
theorem dX5_readNumber_15 : decode cX5_readNumber 15 = .ok (.isub, 1) := by decide +kernel
theorem dX5_readNumber_16 : decode cX5_readNumber 16 = .ok (.istore_n 1, 1) := by decide +kernel
theorem dX5_readNumber_17 : decode cX5_readNumber 17 = .ok (.aload_n 0, 1) := by decide +kernel
theorem dX5_readNumber_18 : decode cX5_readNumber 18 = .ok (.dup, 1) := by decide +kernel
theorem dX5_readNumber_19 : decode cX5_readNumber 19 = .ok (.getfield 19, 3) := by decide +kernel
theorem dX5_readNumber_22 : decode cX5_readNumber 22 = .ok (.iconst 1, 1) := by decide +kernel
theorem dX5_readNumber_23 : decode cX5_readNumber 23 = .ok (.iadd, 1) := by decide +kernel
theorem dX5_readNumber_24 : decode cX5_readNumber 24 = .ok (.putfield 19, 3) := by decide +kernel
theorem dX5_readNumber_27 : decode cX5_readNumber 27 = .ok (.iconst 1, 1) := by decide +kernel
theorem dX5_readNumber_28 : decode cX5_readNumber 28 = .ok (.istore_n 2, 1) := by decide +kernel
theorem dX5_readNumber_29 : decode cX5_readNumber 29 = .ok (.iload_n 2, 1) := by decide +kernel
theorem dX5_readNumber_30 : decode cX5_readNumber 30 = .ok (.iconst 4, 1) := by decide +kernel
theorem dX5_readNumber_31 : decode cX5_readNumber 31 = .ok (.if_icmp .ge 43, 3) := by decide +kernel
theorem dX5_readNumber_34 : decode cX5_readNumber 34 = .ok (.iload_n 1, 1) := by decide +kernel
theorem dX5_readNumber_35 : decode cX5_readNumber 35 = .ok (.ifCond .eq 39, 3) := by decide +kernel
theorem dX5_readNumber_38 : decode cX5_readNumber 38 = .ok (.aload_n 0, 1) := by decide +kernel
theorem dX5_readNumber_39 : decode cX5_readNumber 39 = .ok (.invokevirtual 53, 3) := by decide +kernel
theorem dX5_readNumber_42 : decode cX5_readNumber 42 = .ok (.ifCond .eq 32, 3) := by decide +kernel
theorem dX5_readNumber_45 : decode cX5_readNumber 45 = .ok (.bipush 10, 2) := by decide +kernel
theorem dX5_readNumber_47 : decode cX5_readNumber 47 = .ok (.iload_n 1, 1) := by decide +kernel
theorem dX5_readNumber_48 : decode cX5_readNumber 48 = .ok (.imul, 1) := by decide +kernel
theorem dX5_readNumber_49 : decode cX5_readNumber 49 = .ok (.aload_n 0, 1) := by decide +kernel
theorem dX5_readNumber_50 : decode cX5_readNumber 50 = .ok (.invokevirtual 56, 3) := by decide +kernel
theorem dX5_readNumber_53 : decode cX5_readNumber 53 = .ok (.iadd, 1) := by decide +kernel
theorem dX5_readNumber_54 : decode cX5_readNumber 54 = .ok (.bipush 48, 2) := by decide +kernel
theorem dX5_readNumber_56 : decode cX5_readNumber 56 = .ok (.isub, 1) := by decide +kernel
theorem dX5_readNumber_57 : decode cX5_readNumber 57 = .ok (.istore_n 1, 1) := by decide +kernel
theorem dX5_readNumber_58 : decode cX5_readNumber 58 = .ok (.aload_n 0, 1) := by decide +kernel
theorem dX5_readNumber_59 : decode cX5_readNumber 59 = .ok (.dup, 1) := by decide +kernel
theorem dX5_readNumber_60 : decode cX5_readNumber 60 = .ok (.getfield 19, 3) := by decide +kernel
theorem dX5_readNumber_63 : decode cX5_readNumber 63 = .ok (.iconst 1, 1) := by decide +kernel
theorem dX5_readNumber_64 : decode cX5_readNumber 64 = .ok (.iadd, 1) := by decide +kernel
theorem dX5_readNumber_65 : decode cX5_readNumber 65 = .ok (.putfield 19, 3) := by decide +kernel
theorem dX5_readNumber_68 : decode cX5_readNumber 68 = .ok (.iinc 2 1, 3) := by decide +kernel
theorem dX5_readNumber_71 : decode cX5_readNumber 71 = .ok (.goto (-42), 3) := by decide +kernel
theorem dX5_readNumber_74 : decode cX5_readNumber 74 = .ok (.aload_n 0, 1) := by decide +kernel
theorem dX5_readNumber_75 : decode cX5_readNumber 75 = .ok (.invokevirtual 22, 3) := by decide +kernel
theorem dX5_readNumber_78 : decode cX5_readNumber 78 = .ok (.iload_n 1, 1) := by decide +kernel
theorem dX5_readNumber_79 : decode cX5_readNumber 79 = .ok (.ireturn, 1) := by decide +kernel
theorem dX5_accept_0 : decode cX5_accept 0 = .ok (.aload_n 0, 1) := by decide +kernel
theorem dX5_accept_1 : decode cX5_accept 1 = .ok (.invokevirtual 56, 3) := by decide +kernel
theorem dX5_accept_4 : decode cX5_accept 4 = .ok (.iload_n 1, 1) := by decide +kernel
theorem dX5_accept_5 : decode cX5_accept 5 = .ok (.if_icmp .eq 5, 3) := by decide +kernel
theorem dX5_accept_8 : decode cX5_accept 8 = .ok (.iconst 0, 1) := by decide +kernel
theorem dX5_accept_9 : decode cX5_accept 9 = .ok (.ireturn, 1) := by decide +kernel
theorem dX5_accept_10 : decode cX5_accept 10 = .ok (.aload_n 0, 1) := by decide +kernel
theorem dX5_accept_11 : decode cX5_accept 11 = .ok (.dup, 1) := by decide +kernel
theorem dX5_accept_12 : decode cX5_accept 12 = .ok (.getfield 19, 3) := by decide +kernel
theorem dX5_accept_15 : decode cX5_accept 15 = .ok (.iconst 1, 1) := by decide +kernel
theorem dX5_accept_16 : decode cX5_accept 16 = .ok (.iadd, 1) := by decide +kernel
theorem dX5_accept_17 : decode cX5_accept 17 = .ok (.putfield 19, 3) := by decide +kernel
theorem dX5_accept_20 : decode cX5_accept 20 = .ok (.aload_n 0, 1) := by decide +kernel
theorem dX5_accept_21 : decode cX5_accept 21 = .ok (.invokevirtual 22, 3) := by decide +kernel
theorem dX5_accept_24 : decode cX5_accept 24 = .ok (.iconst 1, 1) := by decide +kernel
theorem dX5_accept_25 : decode cX5_accept 25 = .ok (.ireturn, 1) := by decide +kernel
theorem dX5_skipSpaces_0 : decode cX5_skipSpaces 0 = .ok (.aload_n 0, 1) := by decide +kernel
theorem dX5_skipSpaces_1 : decode cX5_skipSpaces 1 = .ok (.getfield 19, 3) := by decide +kernel
theorem dX5_skipSpaces_4 : decode cX5_skipSpaces 4 = .ok (.aload_n 0, 1) := by decide +kernel
theorem dX5_skipSpaces_5 : decode cX5_skipSpaces 5 = .ok (.getfield 15, 3) := by decide +kernel
theorem dX5_skipSpaces_8 : decode cX5_skipSpaces 8 = .ok (.if_icmp .ge 25, 3) := by decide +kernel
theorem dX5_skipSpaces_11 : decode cX5_skipSpaces 11 = .ok (.aload_n 0, 1) := by decide +kernel
theorem dX5_skipSpaces_12 : decode cX5_skipSpaces 12 = .ok (.invokevirtual 56, 3) := by decide +kernel
theorem dX5_skipSpaces_15 : decode cX5_skipSpaces 15 = .ok (.bipush 32, 2) := by decide +kernel
theorem dX5_skipSpaces_17 : decode cX5_skipSpaces 17 = .ok (.if_icmp .ne 16, 3) := by decide +kernel
theorem dX5_skipSpaces_20 : decode cX5_skipSpaces 20 = .ok (.aload_n 0, 1) := by decide +kernel
theorem dX5_skipSpaces_21 : decode cX5_skipSpaces 21 = .ok (.dup, 1) := by decide +kernel
theorem dX5_skipSpaces_22 : decode cX5_skipSpaces 22 = .ok (.getfield 19, 3) := by decide +kernel
theorem dX5_skipSpaces_25 : decode cX5_skipSpaces 25 = .ok (.iconst 1, 1) := by decide +kernel
theorem dX5_skipSpaces_26 : decode cX5_skipSpaces 26 = .ok (.iadd, 1) := by decide +kernel
theorem dX5_skipSpaces_27 : decode cX5_skipSpaces 27 = .ok (.putfield 19, 3) := by decide +kernel
theorem dX5_skipSpaces_30 : decode cX5_skipSpaces 30 = .ok (.goto (-30), 3) := by decide +kernel
theorem dX5_skipSpaces_33 : decode cX5_skipSpaces 33 = .ok (.return_, 1) := by decide +kernel
theorem dX5_isAtEnd_0 : decode cX5_isAtEnd 0 = .ok (.aload_n 0, 1) := by decide +kernel
theorem dX5_isAtEnd_1 : decode cX5_isAtEnd 1 = .ok (.getfield 19, 3) := by decide +kernel
theorem dX5_isAtEnd_4 : decode cX5_isAtEnd 4 = .ok (.aload_n 0, 1) := by decide +kernel
theorem dX5_isAtEnd_5 : decode cX5_isAtEnd 5 = .ok (.getfield 15, 3) := by decide +kernel
theorem dX5_isAtEnd_8 : decode cX5_isAtEnd 8 = .ok (.if_icmp .lt 7, 3) := by decide +kernel
theorem dX5_isAtEnd_11 : decode cX5_isAtEnd 11 = .ok (.iconst 1, 1) := by decide +kernel
theorem dX5_isAtEnd_12 : decode cX5_isAtEnd 12 = .ok (.goto 4, 3) := by decide +kernel
theorem dX5_isAtEnd_15 : decode cX5_isAtEnd 15 = .ok (.iconst 0, 1) := by decide +kernel
theorem dX5_isAtEnd_16 : decode cX5_isAtEnd 16 = .ok (.ireturn, 1) := by decide +kernel
theorem dX5_isDigitHere_0 : decode cX5_isDigitHere 0 = .ok (.aload_n 0, 1) := by decide +kernel
theorem dX5_isDigitHere_1 : decode cX5_isDigitHere 1 = .ok (.invokevirtual 56, 3) := by decide +kernel
theorem dX5_isDigitHere_4 : decode cX5_isDigitHere 4 = .ok (.bipush 48, 2) := by decide +kernel
theorem dX5_isDigitHere_6 : decode cX5_isDigitHere 6 = .ok (.bipush 57, 2) := by decide +kernel
theorem dX5_isDigitHere_8 : decode cX5_isDigitHere 8 = .ok (.invokestatic 59, 3) := by decide +kernel
theorem dX5_isDigitHere_11 : decode cX5_isDigitHere 11 = .ok (.ireturn, 1) := by decide +kernel
theorem dX5_codeHere_0 : decode cX5_codeHere 0 = .ok (.aload_n 0, 1) := by decide +kernel
theorem dX5_codeHere_1 : decode cX5_codeHere 1 = .ok (.invokevirtual 28, 3) := by decide +kernel
theorem dX5_codeHere_4 : decode cX5_codeHere 4 = .ok (.ifCond .eq 7, 3) := by decide +kernel
theorem dX5_codeHere_7 : decode cX5_codeHere 7 = .ok (.iconst (-1), 1) := by decide +kernel
theorem dX5_codeHere_8 : decode cX5_codeHere 8 = .ok (.goto 12, 3) := by decide +kernel
theorem dX5_codeHere_11 : decode cX5_codeHere 11 = .ok (.aload_n 0, 1) := by decide +kernel
theorem dX5_codeHere_12 : decode cX5_codeHere 12 = .ok (.getfield 9, 3) := by decide +kernel
theorem dX5_codeHere_15 : decode cX5_codeHere 15 = .ok (.aload_n 0, 1) := by decide +kernel
theorem dX5_codeHere_16 : decode cX5_codeHere 16 = .ok (.getfield 19, 3) := by decide +kernel
theorem dX5_codeHere_19 : decode cX5_codeHere 19 = .ok (.iaload, 1) := by decide +kernel
theorem dX5_codeHere_20 : decode cX5_codeHere 20 = .ok (.ireturn, 1) := by decide +kernel
theorem dX6_init_0 : decode cX6_init 0 = .ok (.aload_n 0, 1) := by decide +kernel
theorem dX6_init_1 : decode cX6_init 1 = .ok (.invokespecial 1, 3) := by decide +kernel
theorem dX6_init_4 : decode cX6_init 4 = .ok (.aload_n 0, 1) := by decide +kernel
theorem dX6_init_5 : decode cX6_init 5 = .ok (.new 7, 3) := by decide +kernel
theorem dX6_init_8 : decode cX6_init 8 = .ok (.dup, 1) := by decide +kernel
theorem dX6_init_9 : decode cX6_init 9 = .ok (.invokespecial 9, 3) := by decide +kernel
theorem dX6_init_12 : decode cX6_init 12 = .ok (.putfield 10, 3) := by decide +kernel
theorem dX6_init_15 : decode cX6_init 15 = .ok (.aload_n 0, 1) := by decide +kernel
theorem dX6_init_16 : decode cX6_init 16 = .ok (.new 16, 3) := by decide +kernel
theorem dX6_init_19 : decode cX6_init 19 = .ok (.dup, 1) := by decide +kernel
theorem dX6_init_20 : decode cX6_init 20 = .ok (.invokespecial 18, 3) := by decide +kernel
theorem dX6_init_23 : decode cX6_init 23 = .ok (.putfield 19, 3) := by decide +kernel
theorem dX6_init_26 : decode cX6_init 26 = .ok (.aload_n 0, 1) := by decide +kernel
theorem dX6_init_27 : decode cX6_init 27 = .ok (.iconst 2, 1) := by decide +kernel
theorem dX6_init_28 : decode cX6_init 28 = .ok (.anewarray 7, 3) := by decide +kernel
theorem dX6_init_31 : decode cX6_init 31 = .ok (.putfield 23, 3) := by decide +kernel
theorem dX6_init_34 : decode cX6_init 34 = .ok (.iconst 0, 1) := by decide +kernel
theorem dX6_init_35 : decode cX6_init 35 = .ok (.istore_n 1, 1) := by decide +kernel
theorem dX6_init_36 : decode cX6_init 36 = .ok (.iload_n 1, 1) := by decide +kernel
theorem dX6_init_37 : decode cX6_init 37 = .ok (.iconst 2, 1) := by decide +kernel
theorem dX6_init_38 : decode cX6_init 38 = .ok (.if_icmp .ge 22, 3) := by decide +kernel
theorem dX6_init_41 : decode cX6_init 41 = .ok (.aload_n 0, 1) := by decide +kernel
theorem dX6_init_42 : decode cX6_init 42 = .ok (.getfield 23, 3) := by decide +kernel
theorem dX6_init_45 : decode cX6_init 45 = .ok (.iload_n 1, 1) := by decide +kernel
theorem dX6_init_46 : decode cX6_init 46 = .ok (.new 7, 3) := by decide +kernel
theorem dX6_init_49 : decode cX6_init 49 = .ok (.dup, 1) := by decide +kernel
theorem dX6_init_50 : decode cX6_init 50 = .ok (.invokespecial 9, 3) := by decide +kernel
theorem dX6_init_53 : decode cX6_init 53 = .ok (.aastore, 1) := by decide +kernel
theorem dX6_init_54 : decode cX6_init 54 = .ok (.iinc 1 1, 3) := by decide +kernel
theorem dX6_init_57 : decode cX6_init 57 = .ok (.goto (-21), 3) := by decide +kernel
theorem dX6_init_60 : decode cX6_init 60 = .ok (.aload_n 0, 1) := by decide +kernel
theorem dX6_init_61 : decode cX6_init 61 = .ok (.iconst 2, 1) := by decide +kernel
theorem dX6_init_62 : decode cX6_init 62 = .ok (.newarray .boolean, 2) := by decide +kernel
theorem dX6_init_64 : decode cX6_init 64 = .ok (.putfield 27, 3) := by decide +kernel
theorem dX6_init_67 : decode cX6_init 67 = .ok (.aload_n 0, 1) := by decide +kernel
theorem dX6_init_68 : decode cX6_init 68 = .ok (.new 31, 3) := by decide +kernel
theorem dX6_init_71 : decode cX6_init 71 = .ok (.dup, 1) := by decide +kernel
theorem dX6_init_72 : decode cX6_init 72 = .ok (.invokespecial 33, 3) := by decide +kernel
theorem dX6_init_75 : decode cX6_init 75 = .ok (.putfield 34, 3) := by decide +kernel
theorem dX6_init_78 : decode cX6_init 78 = .ok (.return_, 1) := by decide +kernel
theorem dX6_configure_0 : decode cX6_configure 0 = .ok (.iload_n 1, 1) := by decide +kernel
theorem dX6_configure_1 : decode cX6_configure 1 = .ok (.iconst 2, 1) := by decide +kernel
theorem dX6_configure_2 : decode cX6_configure 2 = .ok (.iconst 4, 1) := by decide +kernel
theorem dX6_configure_3 : decode cX6_configure 3 = .ok (.invokestatic 38, 3) := by decide +kernel
theorem dX6_configure_6 : decode cX6_configure 6 = .ok (.ifCond .eq 13, 3) := by decide +kernel
theorem dX6_configure_9 : decode cX6_configure 9 = .ok (.iload_n 2, 1) := by decide +kernel
theorem dX6_configure_10 : decode cX6_configure 10 = .ok (.iconst 1, 1) := by decide +kernel
theorem dX6_configure_11 : decode cX6_configure 11 = .ok (.bipush 8, 2) := by decide +kernel
theorem dX6_configure_13 : decode cX6_configure 13 = .ok (.invokestatic 38, 3) := by decide +kernel
theorem dX6_configure_16 : decode cX6_configure 16 = .ok (.ifCond .ne 5, 3) := by decide +kernel
theorem dX6_configure_19 : decode cX6_configure 19 = .ok (.iconst (-1), 1) := by decide +kernel
theorem dX6_configure_20 : decode cX6_configure 20 = .ok (.ireturn, 1) := by decide +kernel
theorem dX6_configure_21 : decode cX6_configure 21 = .ok (.aload_n 0, 1) := by decide +kernel
theorem dX6_configure_22 : decode cX6_configure 22 = .ok (.getfield 19, 3) := by decide +kernel
theorem dX6_configure_25 : decode cX6_configure 25 = .ok (.aload_n 0, 1) := by decide +kernel
theorem dX6_configure_26 : decode cX6_configure 26 = .ok (.getfield 10, 3) := by decide +kernel
theorem dX6_configure_29 : decode cX6_configure 29 = .ok (.invokevirtual 42, 3) := by decide +kernel
theorem dX6_configure_32 : decode cX6_configure 32 = .ok (.aload_n 0, 1) := by decide +kernel
theorem dX6_configure_33 : decode cX6_configure 33 = .ok (.getfield 10, 3) := by decide +kernel
theorem dX6_configure_36 : decode cX6_configure 36 = .ok (.iload_n 1, 1) := by decide +kernel
theorem dX6_configure_37 : decode cX6_configure 37 = .ok (.iload_n 2, 1) := by decide +kernel
theorem dX6_configure_38 : decode cX6_configure 38 = .ok (.invokevirtual 46, 3) := by decide +kernel
theorem dX6_configure_41 : decode cX6_configure 41 = .ok (.aload_n 0, 1) := by decide +kernel
theorem dX6_configure_42 : decode cX6_configure 42 = .ok (.getfield 10, 3) := by decide +kernel
theorem dX6_configure_45 : decode cX6_configure 45 = .ok (.iconst 0, 1) := by decide +kernel
theorem dX6_configure_46 : decode cX6_configure 46 = .ok (.invokevirtual 50, 3) := by decide +kernel
theorem dX6_configure_49 : decode cX6_configure 49 = .ok (.ireturn, 1) := by decide +kernel
theorem dX6_setDelay_0 : decode cX6_setDelay 0 = .ok (.aload_n 0, 1) := by decide +kernel
theorem dX6_setDelay_1 : decode cX6_setDelay 1 = .ok (.getfield 10, 3) := by decide +kernel
theorem dX6_setDelay_4 : decode cX6_setDelay 4 = .ok (.iload_n 1, 1) := by decide +kernel
theorem dX6_setDelay_5 : decode cX6_setDelay 5 = .ok (.invokevirtual 54, 3) := by decide +kernel
theorem dX6_setDelay_8 : decode cX6_setDelay 8 = .ok (.ifCond .eq 13, 3) := by decide +kernel
theorem dX6_setDelay_11 : decode cX6_setDelay 11 = .ok (.iload_n 2, 1) := by decide +kernel
theorem dX6_setDelay_12 : decode cX6_setDelay 12 = .ok (.iconst 0, 1) := by decide +kernel
theorem dX6_setDelay_13 : decode cX6_setDelay 13 = .ok (.bipush 50, 2) := by decide +kernel
theorem dX6_setDelay_15 : decode cX6_setDelay 15 = .ok (.invokestatic 38, 3) := by decide +kernel
theorem dX6_setDelay_18 : decode cX6_setDelay 18 = .ok (.ifCond .ne 5, 3) := by decide +kernel
theorem dX6_setDelay_21 : decode cX6_setDelay 21 = .ok (.iconst (-1), 1) := by decide +kernel
theorem dX6_setDelay_22 : decode cX6_setDelay 22 = .ok (.ireturn, 1) := by decide +kernel
theorem dX6_setDelay_23 : decode cX6_setDelay 23 = .ok (.aload_n 0, 1) := by decide +kernel
theorem dX6_setDelay_24 : decode cX6_setDelay 24 = .ok (.getfield 19, 3) := by decide +kernel
theorem dX6_setDelay_27 : decode cX6_setDelay 27 = .ok (.aload_n 0, 1) := by decide +kernel
theorem dX6_setDelay_28 : decode cX6_setDelay 28 = .ok (.getfield 10, 3) := by decide +kernel
theorem dX6_setDelay_31 : decode cX6_setDelay 31 = .ok (.invokevirtual 42, 3) := by decide +kernel
theorem dX6_setDelay_34 : decode cX6_setDelay 34 = .ok (.aload_n 0, 1) := by decide +kernel
theorem dX6_setDelay_35 : decode cX6_setDelay 35 = .ok (.getfield 10, 3) := by decide +kernel
theorem dX6_setDelay_38 : decode cX6_setDelay 38 = .ok (.getfield 58, 3) := by decide +kernel
theorem dX6_setDelay_41 : decode cX6_setDelay 41 = .ok (.iload_n 1, 1) := by decide +kernel
theorem dX6_setDelay_42 : decode cX6_setDelay 42 = .ok (.aaload, 1) := by decide +kernel
theorem dX6_setDelay_43 : decode cX6_setDelay 43 = .ok (.getfield 62, 3) := by decide +kernel
theorem dX6_setDelay_46 : decode cX6_setDelay 46 = .ok (.istore_n 3, 1) := by decide +kernel
theorem dX6_setDelay_47 : decode cX6_setDelay 47 = .ok (.aload_n 0, 1) := by decide +kernel
theorem dX6_setDelay_48 : decode cX6_setDelay 48 = .ok (.getfield 10, 3) := by decide +kernel
theorem dX6_setDelay_51 : decode cX6_setDelay 51 = .ok (.getfield 58, 3) := by decide +kernel
theorem dX6_setDelay_54 : decode cX6_setDelay 54 = .ok (.iload_n 1, 1) := by decide +kernel
theorem dX6_setDelay_55 : decode cX6_setDelay 55 = .ok (.aaload, 1) := by decide +kernel
theorem dX6_setDelay_56 : decode cX6_setDelay 56 = .ok (.iload_n 2, 1) := by decide +kernel
theorem dX6_setDelay_57 : decode cX6_setDelay 57 = .ok (.putfield 62, 3) := by decide +kernel
theorem dX6_setDelay_60 : decode cX6_setDelay 60 = .ok (.iload_n 3, 1) := by decide +kernel
theorem dX6_setDelay_61 : decode cX6_setDelay 61 = .ok (.ireturn, 1) := by decide +kernel
theorem dX6_setRate_0 : decode cX6_setRate 0 = .ok (.aload_n 0, 1) := by decide +kernel
theorem dX6_setRate_1 : decode cX6_setRate 1 = .ok (.getfield 10, 3) := by decide +kernel
theorem dX6_setRate_4 : decode cX6_setRate 4 = .ok (.iload_n 1, 1) := by decide +kernel
theorem dX6_setRate_5 : decode cX6_setRate 5 = .ok (.invokevirtual 54, 3) := by decide +kernel
theorem dX6_setRate_8 : decode cX6_setRate 8 = .ok (.ifCond .eq 13, 3) := by decide +kernel
theorem dX6_setRate_11 : decode cX6_setRate 11 = .ok (.iload_n 2, 1) := by decide +kernel
theorem dX6_setRate_12 : decode cX6_setRate 12 = .ok (.iconst 1, 1) := by decide +kernel
theorem dX6_setRate_13 : decode cX6_setRate 13 = .ok (.bipush 100, 2) := by decide +kernel
theorem dX6_setRate_15 : decode cX6_setRate 15 = .ok (.invokestatic 38, 3) := by decide +kernel
theorem dX6_setRate_18 : decode cX6_setRate 18 = .ok (.ifCond .ne 5, 3) := by decide +kernel
theorem dX6_setRate_21 : decode cX6_setRate 21 = .ok (.iconst (-1), 1) := by decide +kernel
theorem dX6_setRate_22 : decode cX6_setRate 22 = .ok (.ireturn, 1) := by decide +kernel
theorem dX6_setRate_23 : decode cX6_setRate 23 = .ok (.aload_n 0, 1) := by decide +kernel
theorem dX6_setRate_24 : decode cX6_setRate 24 = .ok (.getfield 19, 3) := by decide +kernel
theorem dX6_setRate_27 : decode cX6_setRate 27 = .ok (.aload_n 0, 1) := by decide +kernel
theorem dX6_setRate_28 : decode cX6_setRate 28 = .ok (.getfield 10, 3) := by decide +kernel
theorem dX6_setRate_31 : decode cX6_setRate 31 = .ok (.invokevirtual 42, 3) := by decide +kernel
theorem dX6_setRate_34 : decode cX6_setRate 34 = .ok (.aload_n 0, 1) := by decide +kernel
theorem dX6_setRate_35 : decode cX6_setRate 35 = .ok (.getfield 10, 3) := by decide +kernel
theorem dX6_setRate_38 : decode cX6_setRate 38 = .ok (.getfield 58, 3) := by decide +kernel
theorem dX6_setRate_41 : decode cX6_setRate 41 = .ok (.iload_n 1, 1) := by decide +kernel
theorem dX6_setRate_42 : decode cX6_setRate 42 = .ok (.aaload, 1) := by decide +kernel
theorem dX6_setRate_43 : decode cX6_setRate 43 = .ok (.getfield 68, 3) := by decide +kernel
theorem dX6_setRate_46 : decode cX6_setRate 46 = .ok (.istore_n 3, 1) := by decide +kernel
theorem dX6_setRate_47 : decode cX6_setRate 47 = .ok (.aload_n 0, 1) := by decide +kernel
theorem dX6_setRate_48 : decode cX6_setRate 48 = .ok (.getfield 10, 3) := by decide +kernel
theorem dX6_setRate_51 : decode cX6_setRate 51 = .ok (.getfield 58, 3) := by decide +kernel
theorem dX6_setRate_54 : decode cX6_setRate 54 = .ok (.iload_n 1, 1) := by decide +kernel
theorem dX6_setRate_55 : decode cX6_setRate 55 = .ok (.aaload, 1) := by decide +kernel
theorem dX6_setRate_56 : decode cX6_setRate 56 = .ok (.iload_n 2, 1) := by decide +kernel
theorem dX6_setRate_57 : decode cX6_setRate 57 = .ok (.putfield 68, 3) := by decide +kernel
theorem dX6_setRate_60 : decode cX6_setRate 60 = .ok (.iload_n 3, 1) := by decide +kernel
theorem dX6_setRate_61 : decode cX6_setRate 61 = .ok (.ireturn, 1) := by decide +kernel
theorem dX6_setRemoteLevel_0 : decode cX6_setRemoteLevel 0 = .ok (.aload_n 0, 1) := by decide +kernel
theorem dX6_setRemoteLevel_1 : decode cX6_setRemoteLevel 1 = .ok (.getfield 10, 3) := by decide +kernel
theorem dX6_setRemoteLevel_4 : decode cX6_setRemoteLevel 4 = .ok (.iload_n 1, 1) := by decide +kernel
theorem dX6_setRemoteLevel_5 : decode cX6_setRemoteLevel 5 = .ok (.invokevirtual 54, 3) := by decide +kernel
theorem dX6_setRemoteLevel_8 : decode cX6_setRemoteLevel 8 = .ok (.ifCond .eq 13, 3) := by decide +kernel
theorem dX6_setRemoteLevel_11 : decode cX6_setRemoteLevel 11 = .ok (.iload_n 2, 1) := by decide +kernel
theorem dX6_setRemoteLevel_12 : decode cX6_setRemoteLevel 12 = .ok (.iconst 0, 1) := by decide +kernel
theorem dX6_setRemoteLevel_13 : decode cX6_setRemoteLevel 13 = .ok (.bipush 7, 2) := by decide +kernel
theorem dX6_setRemoteLevel_15 : decode cX6_setRemoteLevel 15 = .ok (.invokestatic 38, 3) := by decide +kernel
theorem dX6_setRemoteLevel_18 : decode cX6_setRemoteLevel 18 = .ok (.ifCond .ne 5, 3) := by decide +kernel
theorem dX6_setRemoteLevel_21 : decode cX6_setRemoteLevel 21 = .ok (.iconst (-1), 1) := by decide +kernel
theorem dX6_setRemoteLevel_22 : decode cX6_setRemoteLevel 22 = .ok (.ireturn, 1) := by decide +kernel
theorem dX6_setRemoteLevel_23 : decode cX6_setRemoteLevel 23 = .ok (.aload_n 0, 1) := by decide +kernel
theorem dX6_setRemoteLevel_24 : decode cX6_setRemoteLevel 24 = .ok (.getfield 19, 3) := by decide +kernel
theorem dX6_setRemoteLevel_27 : decode cX6_setRemoteLevel 27 = .ok (.aload_n 0, 1) := by decide +kernel
theorem dX6_setRemoteLevel_28 : decode cX6_setRemoteLevel 28 = .ok (.getfield 10, 3) := by decide +kernel
theorem dX6_setRemoteLevel_31 : decode cX6_setRemoteLevel 31 = .ok (.invokevirtual 42, 3) := by decide +kernel
theorem dX6_setRemoteLevel_34 : decode cX6_setRemoteLevel 34 = .ok (.aload_n 0, 1) := by decide +kernel
theorem dX6_setRemoteLevel_35 : decode cX6_setRemoteLevel 35 = .ok (.getfield 10, 3) := by decide +kernel
theorem dX6_setRemoteLevel_38 : decode cX6_setRemoteLevel 38 = .ok (.getfield 58, 3) := by decide +kernel
theorem dX6_setRemoteLevel_41 : decode cX6_setRemoteLevel 41 = .ok (.iload_n 1, 1) := by decide +kernel
theorem dX6_setRemoteLevel_42 : decode cX6_setRemoteLevel 42 = .ok (.aaload, 1) := by decide +kernel
theorem dX6_setRemoteLevel_43 : decode cX6_setRemoteLevel 43 = .ok (.getfield 71, 3) := by decide +kernel
theorem dX6_setRemoteLevel_46 : decode cX6_setRemoteLevel 46 = .ok (.istore_n 3, 1) := by decide +kernel
theorem dX6_setRemoteLevel_47 : decode cX6_setRemoteLevel 47 = .ok (.aload_n 0, 1) := by decide +kernel
theorem dX6_setRemoteLevel_48 : decode cX6_setRemoteLevel 48 = .ok (.getfield 10, 3) := by decide +kernel
theorem dX6_setRemoteLevel_51 : decode cX6_setRemoteLevel 51 = .ok (.getfield 58, 3) := by decide +kernel
theorem dX6_setRemoteLevel_54 : decode cX6_setRemoteLevel 54 = .ok (.iload_n 1, 1) := by decide +kernel
theorem dX6_setRemoteLevel_55 : decode cX6_setRemoteLevel 55 = .ok (.aaload, 1) := by decide +kernel
theorem dX6_setRemoteLevel_56 : decode cX6_setRemoteLevel 56 = .ok (.iload_n 2, 1) := by decide +kernel
theorem dX6_setRemoteLevel_57 : decode cX6_setRemoteLevel 57 = .ok (.putfield 71, 3) := by decide +kernel
theorem dX6_setRemoteLevel_60 : decode cX6_setRemoteLevel 60 = .ok (.iload_n 3, 1) := by decide +kernel
theorem dX6_setRemoteLevel_61 : decode cX6_setRemoteLevel 61 = .ok (.ireturn, 1) := by decide +kernel
theorem dX6_setMode_0 : decode cX6_setMode 0 = .ok (.iload_n 1, 1) := by decide +kernel
theorem dX6_setMode_1 : decode cX6_setMode 1 = .ok (.iconst 0, 1) := by decide +kernel
theorem dX6_setMode_2 : decode cX6_setMode 2 = .ok (.iconst 3, 1) := by decide +kernel
theorem dX6_setMode_3 : decode cX6_setMode 3 = .ok (.invokestatic 38, 3) := by decide +kernel
theorem dX6_setMode_6 : decode cX6_setMode 6 = .ok (.ifCond .ne 5, 3) := by decide +kernel
theorem dX6_setMode_9 : decode cX6_setMode 9 = .ok (.iconst (-1), 1) := by decide +kernel
theorem dX6_setMode_10 : decode cX6_setMode 10 = .ok (.ireturn, 1) := by decide +kernel
theorem dX6_setMode_11 : decode cX6_setMode 11 = .ok (.aload_n 0, 1) := by decide +kernel
theorem dX6_setMode_12 : decode cX6_setMode 12 = .ok (.getfield 19, 3) := by decide +kernel
theorem dX6_setMode_15 : decode cX6_setMode 15 = .ok (.aload_n 0, 1) := by decide +kernel
theorem dX6_setMode_16 : decode cX6_setMode 16 = .ok (.getfield 10, 3) := by decide +kernel
theorem dX6_setMode_19 : decode cX6_setMode 19 = .ok (.invokevirtual 42, 3) := by decide +kernel
theorem dX6_setMode_22 : decode cX6_setMode 22 = .ok (.aload_n 0, 1) := by decide +kernel
theorem dX6_setMode_23 : decode cX6_setMode 23 = .ok (.getfield 10, 3) := by decide +kernel
theorem dX6_setMode_26 : decode cX6_setMode 26 = .ok (.getfield 74, 3) := by decide +kernel
theorem dX6_setMode_29 : decode cX6_setMode 29 = .ok (.istore_n 2, 1) := by decide +kernel
theorem dX6_setMode_30 : decode cX6_setMode 30 = .ok (.aload_n 0, 1) := by decide +kernel
theorem dX6_setMode_31 : decode cX6_setMode 31 = .ok (.getfield 10, 3) := by decide +kernel
theorem dX6_setMode_34 : decode cX6_setMode 34 = .ok (.iload_n 1, 1) := by decide +kernel
theorem dX6_setMode_35 : decode cX6_setMode 35 = .ok (.putfield 74, 3) := by decide +kernel
theorem dX6_setMode_38 : decode cX6_setMode 38 = .ok (.iload_n 2, 1) := by decide +kernel
theorem dX6_setMode_39 : decode cX6_setMode 39 = .ok (.ireturn, 1) := by decide +kernel
theorem dX6_setDetection_0 : decode cX6_setDetection 0 = .ok (.iload_n 1, 1) := by decide +kernel
theorem dX6_setDetection_1 : decode cX6_setDetection 1 = .ok (.iconst 0, 1) := by decide +kernel
theorem dX6_setDetection_2 : decode cX6_setDetection 2 = .ok (.iconst 1, 1) := by decide +kernel
theorem dX6_setDetection_3 : decode cX6_setDetection 3 = .ok (.invokestatic 38, 3) := by decide +kernel
theorem dX6_setDetection_6 : decode cX6_setDetection 6 = .ok (.ifCond .ne 5, 3) := by decide +kernel
theorem dX6_setDetection_9 : decode cX6_setDetection 9 = .ok (.iconst (-1), 1) := by decide +kernel
theorem dX6_setDetection_10 : decode cX6_setDetection 10 = .ok (.ireturn, 1) := by decide +kernel
theorem dX6_setDetection_11 : decode cX6_setDetection 11 = .ok (.aload_n 0, 1) := by decide +kernel
theorem dX6_setDetection_12 : decode cX6_setDetection 12 = .ok (.getfield 19, 3) := by decide +kernel
theorem dX6_setDetection_15 : decode cX6_setDetection 15 = .ok (.aload_n 0, 1) := by decide +kernel
theorem dX6_setDetection_16 : decode cX6_setDetection 16 = .ok (.getfield 10, 3) := by decide +kernel
theorem dX6_setDetection_19 : decode cX6_setDetection 19 = .ok (.invokevirtual 42, 3) := by decide +kernel
theorem dX6_setDetection_22 : decode cX6_setDetection 22 = .ok (.aload_n 0, 1) := by decide +kernel
theorem dX6_setDetection_23 : decode cX6_setDetection 23 = .ok (.getfield 10, 3) := by decide +kernel
theorem dX6_setDetection_26 : decode cX6_setDetection 26 = .ok (.getfield 77, 3) := by decide +kernel
theorem dX6_setDetection_29 : decode cX6_setDetection 29 = .ok (.istore_n 2, 1) := by decide +kernel
theorem dX6_setDetection_30 : decode cX6_setDetection 30 = .ok (.aload_n 0, 1) := by decide +kernel
theorem dX6_setDetection_31 : decode cX6_setDetection 31 = .ok (.getfield 10, 3) := by decide +kernel
theorem dX6_setDetection_34 : decode cX6_setDetection 34 = .ok (.iload_n 1, 1) := by decide +kernel
theorem dX6_setDetection_35 : decode cX6_setDetection 35 = .ok (.putfield 77, 3) := by decide +kernel
theorem dX6_setDetection_38 : decode cX6_setDetection 38 = .ok (.iload_n 2, 1) := by decide +kernel
theorem dX6_setDetection_39 : decode cX6_setDetection 39 = .ok (.ireturn, 1) := by decide +kernel
theorem dX6_setGap_0 : decode cX6_setGap 0 = .ok (.iload_n 1, 1) := by decide +kernel
theorem dX6_setGap_1 : decode cX6_setGap 1 = .ok (.iconst 1, 1) := by decide +kernel
theorem dX6_setGap_2 : decode cX6_setGap 2 = .ok (.sipush 200, 3) := by decide +kernel
theorem dX6_setGap_5 : decode cX6_setGap 5 = .ok (.invokestatic 38, 3) := by decide +kernel
theorem dX6_setGap_8 : decode cX6_setGap 8 = .ok (.ifCond .ne 5, 3) := by decide +kernel
theorem dX6_setGap_11 : decode cX6_setGap 11 = .ok (.iconst (-1), 1) := by decide +kernel
theorem dX6_setGap_12 : decode cX6_setGap 12 = .ok (.ireturn, 1) := by decide +kernel
theorem dX6_setGap_13 : decode cX6_setGap 13 = .ok (.aload_n 0, 1) := by decide +kernel
theorem dX6_setGap_14 : decode cX6_setGap 14 = .ok (.getfield 19, 3) := by decide +kernel
theorem dX6_setGap_17 : decode cX6_setGap 17 = .ok (.aload_n 0, 1) := by decide +kernel
theorem dX6_setGap_18 : decode cX6_setGap 18 = .ok (.getfield 10, 3) := by decide +kernel
theorem dX6_setGap_21 : decode cX6_setGap 21 = .ok (.invokevirtual 42, 3) := by decide +kernel
theorem dX6_setGap_24 : decode cX6_setGap 24 = .ok (.aload_n 0, 1) := by decide +kernel
theorem dX6_setGap_25 : decode cX6_setGap 25 = .ok (.getfield 10, 3) := by decide +kernel
theorem dX6_setGap_28 : decode cX6_setGap 28 = .ok (.getfield 80, 3) := by decide +kernel
theorem dX6_setGap_31 : decode cX6_setGap 31 = .ok (.istore_n 2, 1) := by decide +kernel
theorem dX6_setGap_32 : decode cX6_setGap 32 = .ok (.aload_n 0, 1) := by decide +kernel
theorem dX6_setGap_33 : decode cX6_setGap 33 = .ok (.getfield 10, 3) := by decide +kernel
theorem dX6_setGap_36 : decode cX6_setGap 36 = .ok (.iload_n 1, 1) := by decide +kernel
theorem dX6_setGap_37 : decode cX6_setGap 37 = .ok (.putfield 80, 3) := by decide +kernel
theorem dX6_setGap_40 : decode cX6_setGap 40 = .ok (.iload_n 2, 1) := by decide +kernel
theorem dX6_setGap_41 : decode cX6_setGap 41 = .ok (.ireturn, 1) := by decide +kernel
theorem dX6_setShift_0 : decode cX6_setShift 0 = .ok (.iload_n 1, 1) := by decide +kernel
theorem dX6_setShift_1 : decode cX6_setShift 1 = .ok (.iconst 1, 1) := by decide +kernel
theorem dX6_setShift_2 : decode cX6_setShift 2 = .ok (.iconst 4, 1) := by decide +kernel
theorem dX6_setShift_3 : decode cX6_setShift 3 = .ok (.invokestatic 38, 3) := by decide +kernel
theorem dX6_setShift_6 : decode cX6_setShift 6 = .ok (.ifCond .ne 5, 3) := by decide +kernel
theorem dX6_setShift_9 : decode cX6_setShift 9 = .ok (.iconst (-1), 1) := by decide +kernel
theorem dX6_setShift_10 : decode cX6_setShift 10 = .ok (.ireturn, 1) := by decide +kernel
theorem dX6_setShift_11 : decode cX6_setShift 11 = .ok (.aload_n 0, 1) := by decide +kernel
theorem dX6_setShift_12 : decode cX6_setShift 12 = .ok (.getfield 19, 3) := by decide +kernel
theorem dX6_setShift_15 : decode cX6_setShift 15 = .ok (.aload_n 0, 1) := by decide +kernel
theorem dX6_setShift_16 : decode cX6_setShift 16 = .ok (.getfield 10, 3) := by decide +kernel
theorem dX6_setShift_19 : decode cX6_setShift 19 = .ok (.invokevirtual 42, 3) := by decide +kernel
theorem dX6_setShift_22 : decode cX6_setShift 22 = .ok (.aload_n 0, 1) := by decide +kernel
theorem dX6_setShift_23 : decode cX6_setShift 23 = .ok (.getfield 10, 3) := by decide +kernel
theorem dX6_setShift_26 : decode cX6_setShift 26 = .ok (.getfield 83, 3) := by decide +kernel
theorem dX6_setShift_29 : decode cX6_setShift 29 = .ok (.istore_n 2, 1) := by decide +kernel
theorem dX6_setShift_30 : decode cX6_setShift 30 = .ok (.aload_n 0, 1) := by decide +kernel
theorem dX6_setShift_31 : decode cX6_setShift 31 = .ok (.getfield 10, 3) := by decide +kernel
theorem dX6_setShift_34 : decode cX6_setShift 34 = .ok (.iload_n 1, 1) := by decide +kernel
theorem dX6_setShift_35 : decode cX6_setShift 35 = .ok (.putfield 83, 3) := by decide +kernel
theorem dX6_setShift_38 : decode cX6_setShift 38 = .ok (.iload_n 2, 1) := by decide +kernel
theorem dX6_setShift_39 : decode cX6_setShift 39 = .ok (.ireturn, 1) := by decide +kernel
theorem dX6_setGenerator_0 : decode cX6_setGenerator 0 = .ok (.iload_n 1, 1) := by decide +kernel
theorem dX6_setGenerator_1 : decode cX6_setGenerator 1 = .ok (.ifCond .ge 5, 3) := by decide +kernel
theorem dX6_setGenerator_4 : decode cX6_setGenerator 4 = .ok (.iconst (-1), 1) := by decide +kernel
theorem dX6_setGenerator_5 : decode cX6_setGenerator 5 = .ok (.ireturn, 1) := by decide +kernel
theorem dX6_setGenerator_6 : decode cX6_setGenerator 6 = .ok (.aload_n 0, 1) := by decide +kernel
theorem dX6_setGenerator_7 : decode cX6_setGenerator 7 = .ok (.getfield 19, 3) := by decide +kernel
theorem dX6_setGenerator_10 : decode cX6_setGenerator 10 = .ok (.aload_n 0, 1) := by decide +kernel
theorem dX6_setGenerator_11 : decode cX6_setGenerator 11 = .ok (.getfield 10, 3) := by decide +kernel
theorem dX6_setGenerator_14 : decode cX6_setGenerator 14 = .ok (.invokevirtual 42, 3) := by decide +kernel
theorem dX6_setGenerator_17 : decode cX6_setGenerator 17 = .ok (.aload_n 0, 1) := by decide +kernel
theorem dX6_setGenerator_18 : decode cX6_setGenerator 18 = .ok (.getfield 10, 3) := by decide +kernel
theorem dX6_setGenerator_21 : decode cX6_setGenerator 21 = .ok (.getfield 86, 3) := by decide +kernel
theorem dX6_setGenerator_24 : decode cX6_setGenerator 24 = .ok (.istore_n 2, 1) := by decide +kernel
theorem dX6_setGenerator_25 : decode cX6_setGenerator 25 = .ok (.aload_n 0, 1) := by decide +kernel
theorem dX6_setGenerator_26 : decode cX6_setGenerator 26 = .ok (.getfield 10, 3) := by decide +kernel
theorem dX6_setGenerator_29 : decode cX6_setGenerator 29 = .ok (.iload_n 1, 1) := by decide +kernel
theorem dX6_setGenerator_30 : decode cX6_setGenerator 30 = .ok (.putfield 86, 3) := by decide +kernel
theorem dX6_setGenerator_33 : decode cX6_setGenerator 33 = .ok (.iload_n 2, 1) := by decide +kernel
theorem dX6_setGenerator_34 : decode cX6_setGenerator 34 = .ok (.ireturn, 1) := by decide +kernel
theorem dX6_advance_0 : decode cX6_advance 0 = .ok (.iload_n 1, 1) := by decide +kernel
theorem dX6_advance_1 : decode cX6_advance 1 = .ok (.iconst 1, 1) := by decide +kernel
theorem dX6_advance_2 : decode cX6_advance 2 = .ok (.sipush 1000, 3) := by decide +kernel
theorem dX6_advance_5 : decode cX6_advance 5 = .ok (.invokestatic 38, 3) := by decide +kernel
theorem dX6_advance_8 : decode cX6_advance 8 = .ok (.ifCond .ne 5, 3) := by decide +kernel
theorem dX6_advance_11 : decode cX6_advance 11 = .ok (.iconst (-1), 1) := by decide +kernel
theorem dX6_advance_12 : decode cX6_advance 12 = .ok (.ireturn, 1) := by decide +kernel
theorem dX6_advance_13 : decode cX6_advance 13 = .ok (.aload_n 0, 1) := by decide +kernel
theorem dX6_advance_14 : decode cX6_advance 14 = .ok (.getfield 10, 3) := by decide +kernel
theorem dX6_advance_17 : decode cX6_advance 17 = .ok (.iload_n 1, 1) := by decide +kernel
theorem dX6_advance_18 : decode cX6_advance 18 = .ok (.invokevirtual 89, 3) := by decide +kernel
theorem dX6_advance_21 : decode cX6_advance 21 = .ok (.ifCond .ne 6, 3) := by decide +kernel
theorem dX6_advance_24 : decode cX6_advance 24 = .ok (.bipush (-2), 2) := by decide +kernel
theorem dX6_advance_26 : decode cX6_advance 26 = .ok (.ireturn, 1) := by decide +kernel
theorem dX6_advance_27 : decode cX6_advance 27 = .ok (.aload_n 0, 1) := by decide +kernel
theorem dX6_advance_28 : decode cX6_advance 28 = .ok (.getfield 19, 3) := by decide +kernel
theorem dX6_advance_31 : decode cX6_advance 31 = .ok (.aload_n 0, 1) := by decide +kernel
theorem dX6_advance_32 : decode cX6_advance 32 = .ok (.getfield 10, 3) := by decide +kernel
theorem dX6_advance_35 : decode cX6_advance 35 = .ok (.invokevirtual 42, 3) := by decide +kernel
theorem dX6_advance_38 : decode cX6_advance 38 = .ok (.aload_n 0, 1) := by decide +kernel
theorem dX6_advance_39 : decode cX6_advance 39 = .ok (.getfield 10, 3) := by decide +kernel
theorem dX6_advance_42 : decode cX6_advance 42 = .ok (.iload_n 1, 1) := by decide +kernel
theorem dX6_advance_43 : decode cX6_advance 43 = .ok (.invokevirtual 92, 3) := by decide +kernel
theorem dX6_advance_46 : decode cX6_advance 46 = .ok (.aload_n 0, 1) := by decide +kernel
theorem dX6_advance_47 : decode cX6_advance 47 = .ok (.getfield 10, 3) := by decide +kernel
theorem dX6_advance_50 : decode cX6_advance 50 = .ok (.getfield 96, 3) := by decide +kernel
theorem dX6_advance_53 : decode cX6_advance 53 = .ok (.ireturn, 1) := by decide +kernel
theorem dX6_send_0 : decode cX6_send 0 = .ok (.iload_n 1, 1) := by decide +kernel
theorem dX6_send_1 : decode cX6_send 1 = .ok (.invokestatic 99, 3) := by decide +kernel
theorem dX6_send_4 : decode cX6_send 4 = .ok (.ifCond .eq 10, 3) := by decide +kernel
theorem dX6_send_7 : decode cX6_send 7 = .ok (.iload_n 2, 1) := by decide +kernel
theorem dX6_send_8 : decode cX6_send 8 = .ok (.invokestatic 102, 3) := by decide +kernel
theorem dX6_send_11 : decode cX6_send 11 = .ok (.ifCond .ne 5, 3) := by decide +kernel
theorem dX6_send_14 : decode cX6_send 14 = .ok (.iconst (-1), 1) := by decide +kernel
theorem dX6_send_15 : decode cX6_send 15 = .ok (.ireturn, 1) := by decide +kernel
theorem dX6_send_16 : decode cX6_send 16 = .ok (.aload_n 0, 1) := by decide +kernel
theorem dX6_send_17 : decode cX6_send 17 = .ok (.getfield 19, 3) := by decide +kernel
theorem dX6_send_20 : decode cX6_send 20 = .ok (.aload_n 0, 1) := by decide +kernel
theorem dX6_send_21 : decode cX6_send 21 = .ok (.getfield 10, 3) := by decide +kernel
theorem dX6_send_24 : decode cX6_send 24 = .ok (.invokevirtual 42, 3) := by decide +kernel
theorem dX6_send_27 : decode cX6_send 27 = .ok (.aload_n 0, 1) := by decide +kernel
theorem dX6_send_28 : decode cX6_send 28 = .ok (.getfield 10, 3) := by decide +kernel
theorem dX6_send_31 : decode cX6_send 31 = .ok (.iload_n 1, 1) := by decide +kernel
theorem dX6_send_32 : decode cX6_send 32 = .ok (.iload_n 2, 1) := by decide +kernel
theorem dX6_send_33 : decode cX6_send 33 = .ok (.invokevirtual 105, 3) := by decide +kernel
theorem dX6_send_36 : decode cX6_send 36 = .ok (.ireturn, 1) := by decide +kernel
theorem dX6_now_0 : decode cX6_now 0 = .ok (.aload_n 0, 1) := by decide +kernel
theorem dX6_now_1 : decode cX6_now 1 = .ok (.getfield 10, 3) := by decide +kernel
theorem dX6_now_4 : decode cX6_now 4 = .ok (.getfield 96, 3) := by decide +kernel
theorem dX6_now_7 : decode cX6_now 7 = .ok (.ireturn, 1) := by decide +kernel
theorem dX6_entryOf_0 : decode cX6_entryOf 0 = .ok (.iload_n 1, 1) := by decide +kernel
theorem dX6_entryOf_1 : decode cX6_entryOf 1 = .ok (.invokestatic 99, 3) := by decide +kernel
theorem dX6_entryOf_4 : decode cX6_entryOf 4 = .ok (.ifCond .eq 14, 3) := by decide +kernel
theorem dX6_entryOf_7 : decode cX6_entryOf 7 = .ok (.aload_n 0, 1) := by decide +kernel
theorem dX6_entryOf_8 : decode cX6_entryOf 8 = .ok (.getfield 10, 3) := by decide +kernel
theorem dX6_entryOf_11 : decode cX6_entryOf 11 = .ok (.iload_n 1, 1) := by decide +kernel
theorem dX6_entryOf_12 : decode cX6_entryOf 12 = .ok (.invokevirtual 109, 3) := by decide +kernel
theorem dX6_entryOf_15 : decode cX6_entryOf 15 = .ok (.goto 4, 3) := by decide +kernel
theorem dX6_entryOf_18 : decode cX6_entryOf 18 = .ok (.iconst (-1), 1) := by decide +kernel
theorem dX6_entryOf_19 : decode cX6_entryOf 19 = .ok (.ireturn, 1) := by decide +kernel
theorem dX6_isActive_0 : decode cX6_isActive 0 = .ok (.aload_n 0, 1) := by decide +kernel
theorem dX6_isActive_1 : decode cX6_isActive 1 = .ok (.getfield 10, 3) := by decide +kernel
theorem dX6_isActive_4 : decode cX6_isActive 4 = .ok (.iload_n 1, 1) := by decide +kernel
theorem dX6_isActive_5 : decode cX6_isActive 5 = .ok (.invokevirtual 112, 3) := by decide +kernel
theorem dX6_isActive_8 : decode cX6_isActive 8 = .ok (.ifCond .ne 5, 3) := by decide +kernel
theorem dX6_isActive_11 : decode cX6_isActive 11 = .ok (.iconst (-1), 1) := by decide +kernel
theorem dX6_isActive_12 : decode cX6_isActive 12 = .ok (.ireturn, 1) := by decide +kernel
theorem dX6_isActive_13 : decode cX6_isActive 13 = .ok (.aload_n 0, 1) := by decide +kernel
theorem dX6_isActive_14 : decode cX6_isActive 14 = .ok (.getfield 10, 3) := by decide +kernel
theorem dX6_isActive_17 : decode cX6_isActive 17 = .ok (.aload_n 0, 1) := by decide +kernel
theorem dX6_isActive_18 : decode cX6_isActive 18 = .ok (.getfield 10, 3) := by decide +kernel
theorem dX6_isActive_21 : decode cX6_isActive 21 = .ok (.getfield 115, 3) := by decide +kernel
theorem dX6_isActive_24 : decode cX6_isActive 24 = .ok (.iload_n 1, 1) := by decide +kernel
theorem dX6_isActive_25 : decode cX6_isActive 25 = .ok (.aaload, 1) := by decide +kernel
theorem dX6_isActive_26 : decode cX6_isActive 26 = .ok (.invokevirtual 119, 3) := by decide +kernel
theorem dX6_isActive_29 : decode cX6_isActive 29 = .ok (.ifCond .eq 7, 3) := by decide +kernel
theorem dX6_isActive_32 : decode cX6_isActive 32 = .ok (.iconst 1, 1) := by decide +kernel
theorem dX6_isActive_33 : decode cX6_isActive 33 = .ok (.goto 4, 3) := by decide +kernel
theorem dX6_isActive_36 : decode cX6_isActive 36 = .ok (.iconst 0, 1) := by decide +kernel
theorem dX6_isActive_37 : decode cX6_isActive 37 = .ok (.ireturn, 1) := by decide +kernel
theorem dX6_entryPath_0 : decode cX6_entryPath 0 = .ok (.aload_n 0, 1) := by decide +kernel
theorem dX6_entryPath_1 : decode cX6_entryPath 1 = .ok (.getfield 10, 3) := by decide +kernel
theorem dX6_entryPath_4 : decode cX6_entryPath 4 = .ok (.iload_n 1, 1) := by decide +kernel
theorem dX6_entryPath_5 : decode cX6_entryPath 5 = .ok (.invokevirtual 112, 3) := by decide +kernel
theorem dX6_entryPath_8 : decode cX6_entryPath 8 = .ok (.ifCond .eq 18, 3) := by decide +kernel
theorem dX6_entryPath_11 : decode cX6_entryPath 11 = .ok (.aload_n 0, 1) := by decide +kernel
theorem dX6_entryPath_12 : decode cX6_entryPath 12 = .ok (.getfield 10, 3) := by decide +kernel
theorem dX6_entryPath_15 : decode cX6_entryPath 15 = .ok (.getfield 115, 3) := by decide +kernel
theorem dX6_entryPath_18 : decode cX6_entryPath 18 = .ok (.iload_n 1, 1) := by decide +kernel
theorem dX6_entryPath_19 : decode cX6_entryPath 19 = .ok (.aaload, 1) := by decide +kernel
theorem dX6_entryPath_20 : decode cX6_entryPath 20 = .ok (.getfield 123, 3) := by decide +kernel
theorem dX6_entryPath_23 : decode cX6_entryPath 23 = .ok (.goto 4, 3) := by decide +kernel
theorem dX6_entryPath_26 : decode cX6_entryPath 26 = .ok (.iconst (-1), 1) := by decide +kernel
theorem dX6_entryPath_27 : decode cX6_entryPath 27 = .ok (.ireturn, 1) := by decide +kernel
theorem dX6_ageBit_0 : decode cX6_ageBit 0 = .ok (.aload_n 0, 1) := by decide +kernel
theorem dX6_ageBit_1 : decode cX6_ageBit 1 = .ok (.getfield 10, 3) := by decide +kernel
theorem dX6_ageBit_4 : decode cX6_ageBit 4 = .ok (.iload_n 1, 1) := by decide +kernel
theorem dX6_ageBit_5 : decode cX6_ageBit 5 = .ok (.invokevirtual 112, 3) := by decide +kernel
theorem dX6_ageBit_8 : decode cX6_ageBit 8 = .ok (.ifCond .ne 5, 3) := by decide +kernel
theorem dX6_ageBit_11 : decode cX6_ageBit 11 = .ok (.iconst (-1), 1) := by decide +kernel
theorem dX6_ageBit_12 : decode cX6_ageBit 12 = .ok (.ireturn, 1) := by decide +kernel
theorem dX6_ageBit_13 : decode cX6_ageBit 13 = .ok (.aload_n 0, 1) := by decide +kernel
theorem dX6_ageBit_14 : decode cX6_ageBit 14 = .ok (.getfield 10, 3) := by decide +kernel
theorem dX6_ageBit_17 : decode cX6_ageBit 17 = .ok (.getfield 115, 3) := by decide +kernel
theorem dX6_ageBit_20 : decode cX6_ageBit 20 = .ok (.iload_n 1, 1) := by decide +kernel
theorem dX6_ageBit_21 : decode cX6_ageBit 21 = .ok (.aaload, 1) := by decide +kernel
theorem dX6_ageBit_22 : decode cX6_ageBit 22 = .ok (.getfield 128, 3) := by decide +kernel
theorem dX6_ageBit_25 : decode cX6_ageBit 25 = .ok (.ifCond .eq 18, 3) := by decide +kernel
theorem dX6_ageBit_28 : decode cX6_ageBit 28 = .ok (.aload_n 0, 1) := by decide +kernel
theorem dX6_ageBit_29 : decode cX6_ageBit 29 = .ok (.getfield 10, 3) := by decide +kernel
theorem dX6_ageBit_32 : decode cX6_ageBit 32 = .ok (.getfield 115, 3) := by decide +kernel
theorem dX6_ageBit_35 : decode cX6_ageBit 35 = .ok (.iload_n 1, 1) := by decide +kernel
theorem dX6_ageBit_36 : decode cX6_ageBit 36 = .ok (.aaload, 1) := by decide +kernel
theorem dX6_ageBit_37 : decode cX6_ageBit 37 = .ok (.getfield 132, 3) := by decide +kernel
theorem dX6_ageBit_40 : decode cX6_ageBit 40 = .ok (.goto 5, 3) := by decide +kernel
theorem dX6_ageBit_43 : decode cX6_ageBit 43 = .ok (.bipush (-9), 2) := by decide +kernel
theorem dX6_ageBit_45 : decode cX6_ageBit 45 = .ok (.ireturn, 1) := by decide +kernel
theorem dX6_idleTime_0 : decode cX6_idleTime 0 = .ok (.aload_n 0, 1) := by decide +kernel
theorem dX6_idleTime_1 : decode cX6_idleTime 1 = .ok (.getfield 10, 3) := by decide +kernel
theorem dX6_idleTime_4 : decode cX6_idleTime 4 = .ok (.iload_n 1, 1) := by decide +kernel
theorem dX6_idleTime_5 : decode cX6_idleTime 5 = .ok (.invokevirtual 112, 3) := by decide +kernel
theorem dX6_idleTime_8 : decode cX6_idleTime 8 = .ok (.ifCond .ne 5, 3) := by decide +kernel
theorem dX6_idleTime_11 : decode cX6_idleTime 11 = .ok (.iconst (-1), 1) := by decide +kernel
theorem dX6_idleTime_12 : decode cX6_idleTime 12 = .ok (.ireturn, 1) := by decide +kernel
theorem dX6_idleTime_13 : decode cX6_idleTime 13 = .ok (.aload_n 0, 1) := by decide +kernel
theorem dX6_idleTime_14 : decode cX6_idleTime 14 = .ok (.getfield 10, 3) := by decide +kernel
theorem dX6_idleTime_17 : decode cX6_idleTime 17 = .ok (.getfield 115, 3) := by decide +kernel
theorem dX6_idleTime_20 : decode cX6_idleTime 20 = .ok (.iload_n 1, 1) := by decide +kernel
theorem dX6_idleTime_21 : decode cX6_idleTime 21 = .ok (.aaload, 1) := by decide +kernel
theorem dX6_idleTime_22 : decode cX6_idleTime 22 = .ok (.invokevirtual 135, 3) := by decide +kernel
theorem dX6_idleTime_25 : decode cX6_idleTime 25 = .ok (.ifCond .eq 8, 3) := by decide +kernel
theorem dX6_idleTime_28 : decode cX6_idleTime 28 = .ok (.bipush (-9), 2) := by decide +kernel
theorem dX6_idleTime_30 : decode cX6_idleTime 30 = .ok (.goto 23, 3) := by decide +kernel
theorem dX6_idleTime_33 : decode cX6_idleTime 33 = .ok (.aload_n 0, 1) := by decide +kernel
theorem dX6_idleTime_34 : decode cX6_idleTime 34 = .ok (.getfield 10, 3) := by decide +kernel
theorem dX6_idleTime_37 : decode cX6_idleTime 37 = .ok (.getfield 96, 3) := by decide +kernel
theorem dX6_idleTime_40 : decode cX6_idleTime 40 = .ok (.aload_n 0, 1) := by decide +kernel
theorem dX6_idleTime_41 : decode cX6_idleTime 41 = .ok (.getfield 10, 3) := by decide +kernel
theorem dX6_idleTime_44 : decode cX6_idleTime 44 = .ok (.getfield 115, 3) := by decide +kernel
theorem dX6_idleTime_47 : decode cX6_idleTime 47 = .ok (.iload_n 1, 1) := by decide +kernel
theorem dX6_idleTime_48 : decode cX6_idleTime 48 = .ok (.aaload, 1) := by decide +kernel
theorem dX6_idleTime_49 : decode cX6_idleTime 49 = .ok (.getfield 139, 3) := by decide +kernel
theorem dX6_idleTime_52 : decode cX6_idleTime 52 = .ok (.isub, 1) := by decide +kernel
theorem dX6_idleTime_53 : decode cX6_idleTime 53 = .ok (.ireturn, 1) := by decide +kernel
theorem dX6_activeEntries_0 : decode cX6_activeEntries 0 = .ok (.aload_n 0, 1) := by decide +kernel
theorem dX6_activeEntries_1 : decode cX6_activeEntries 1 = .ok (.getfield 10, 3) := by decide +kernel
theorem dX6_activeEntries_4 : decode cX6_activeEntries 4 = .ok (.invokevirtual 142, 3) := by decide +kernel
theorem dX6_activeEntries_7 : decode cX6_activeEntries 7 = .ok (.ireturn, 1) := by decide +kernel
theorem dX6_load_0 : decode cX6_load 0 = .ok (.aload_n 0, 1) := by decide +kernel
theorem dX6_load_1 : decode cX6_load 1 = .ok (.getfield 10, 3) := by decide +kernel
theorem dX6_load_4 : decode cX6_load 4 = .ok (.iload_n 1, 1) := by decide +kernel
theorem dX6_load_5 : decode cX6_load 5 = .ok (.invokevirtual 54, 3) := by decide +kernel
theorem dX6_load_8 : decode cX6_load 8 = .ok (.ifCond .eq 18, 3) := by decide +kernel
theorem dX6_load_11 : decode cX6_load 11 = .ok (.aload_n 0, 1) := by decide +kernel
theorem dX6_load_12 : decode cX6_load 12 = .ok (.getfield 10, 3) := by decide +kernel
theorem dX6_load_15 : decode cX6_load 15 = .ok (.getfield 58, 3) := by decide +kernel
theorem dX6_load_18 : decode cX6_load 18 = .ok (.iload_n 1, 1) := by decide +kernel
theorem dX6_load_19 : decode cX6_load 19 = .ok (.aaload, 1) := by decide +kernel
theorem dX6_load_20 : decode cX6_load 20 = .ok (.getfield 146, 3) := by decide +kernel
theorem dX6_load_23 : decode cX6_load 23 = .ok (.goto 4, 3) := by decide +kernel
theorem dX6_load_26 : decode cX6_load 26 = .ok (.iconst (-1), 1) := by decide +kernel
theorem dX6_load_27 : decode cX6_load 27 = .ok (.ireturn, 1) := by decide +kernel
theorem dX6_metric_0 : decode cX6_metric 0 = .ok (.aload_n 0, 1) := by decide +kernel
theorem dX6_metric_1 : decode cX6_metric 1 = .ok (.getfield 10, 3) := by decide +kernel
theorem dX6_metric_4 : decode cX6_metric 4 = .ok (.iload_n 1, 1) := by decide +kernel
theorem dX6_metric_5 : decode cX6_metric 5 = .ok (.invokevirtual 54, 3) := by decide +kernel
theorem dX6_metric_8 : decode cX6_metric 8 = .ok (.ifCond .eq 18, 3) := by decide +kernel
theorem dX6_metric_11 : decode cX6_metric 11 = .ok (.aload_n 0, 1) := by decide +kernel
theorem dX6_metric_12 : decode cX6_metric 12 = .ok (.getfield 10, 3) := by decide +kernel
theorem dX6_metric_15 : decode cX6_metric 15 = .ok (.getfield 58, 3) := by decide +kernel
theorem dX6_metric_18 : decode cX6_metric 18 = .ok (.iload_n 1, 1) := by decide +kernel
theorem dX6_metric_19 : decode cX6_metric 19 = .ok (.aaload, 1) := by decide +kernel
theorem dX6_metric_20 : decode cX6_metric 20 = .ok (.invokevirtual 149, 3) := by decide +kernel
theorem dX6_metric_23 : decode cX6_metric 23 = .ok (.goto 4, 3) := by decide +kernel
theorem dX6_metric_26 : decode cX6_metric 26 = .ok (.iconst (-1), 1) := by decide +kernel
theorem dX6_metric_27 : decode cX6_metric 27 = .ok (.ireturn, 1) := by decide +kernel
theorem dX6_busyTime_0 : decode cX6_busyTime 0 = .ok (.aload_n 0, 1) := by decide +kernel
theorem dX6_busyTime_1 : decode cX6_busyTime 1 = .ok (.getfield 10, 3) := by decide +kernel
theorem dX6_busyTime_4 : decode cX6_busyTime 4 = .ok (.iload_n 1, 1) := by decide +kernel
theorem dX6_busyTime_5 : decode cX6_busyTime 5 = .ok (.invokevirtual 54, 3) := by decide +kernel
theorem dX6_busyTime_8 : decode cX6_busyTime 8 = .ok (.ifCond .eq 25, 3) := by decide +kernel
theorem dX6_busyTime_11 : decode cX6_busyTime 11 = .ok (.aload_n 0, 1) := by decide +kernel
theorem dX6_busyTime_12 : decode cX6_busyTime 12 = .ok (.getfield 10, 3) := by decide +kernel
theorem dX6_busyTime_15 : decode cX6_busyTime 15 = .ok (.getfield 58, 3) := by decide +kernel
theorem dX6_busyTime_18 : decode cX6_busyTime 18 = .ok (.iload_n 1, 1) := by decide +kernel
theorem dX6_busyTime_19 : decode cX6_busyTime 19 = .ok (.aaload, 1) := by decide +kernel
theorem dX6_busyTime_20 : decode cX6_busyTime 20 = .ok (.aload_n 0, 1) := by decide +kernel
theorem dX6_busyTime_21 : decode cX6_busyTime 21 = .ok (.getfield 10, 3) := by decide +kernel
theorem dX6_busyTime_24 : decode cX6_busyTime 24 = .ok (.getfield 96, 3) := by decide +kernel
theorem dX6_busyTime_27 : decode cX6_busyTime 27 = .ok (.invokevirtual 152, 3) := by decide +kernel
theorem dX6_busyTime_30 : decode cX6_busyTime 30 = .ok (.goto 4, 3) := by decide +kernel
theorem dX6_busyTime_33 : decode cX6_busyTime 33 = .ok (.iconst (-1), 1) := by decide +kernel
theorem dX6_busyTime_34 : decode cX6_busyTime 34 = .ok (.ireturn, 1) := by decide +kernel
theorem dX6_latency_0 : decode cX6_latency 0 = .ok (.aload_n 0, 1) := by decide +kernel
theorem dX6_latency_1 : decode cX6_latency 1 = .ok (.getfield 10, 3) := by decide +kernel
theorem dX6_latency_4 : decode cX6_latency 4 = .ok (.iload_n 1, 1) := by decide +kernel
theorem dX6_latency_5 : decode cX6_latency 5 = .ok (.invokevirtual 54, 3) := by decide +kernel
theorem dX6_latency_8 : decode cX6_latency 8 = .ok (.ifCond .eq 10, 3) := by decide +kernel
theorem dX6_latency_11 : decode cX6_latency 11 = .ok (.iload_n 2, 1) := by decide +kernel
theorem dX6_latency_12 : decode cX6_latency 12 = .ok (.invokestatic 102, 3) := by decide +kernel
theorem dX6_latency_15 : decode cX6_latency 15 = .ok (.ifCond .ne 5, 3) := by decide +kernel
theorem dX6_latency_18 : decode cX6_latency 18 = .ok (.iconst (-1), 1) := by decide +kernel
theorem dX6_latency_19 : decode cX6_latency 19 = .ok (.ireturn, 1) := by decide +kernel
theorem dX6_latency_20 : decode cX6_latency 20 = .ok (.aload_n 0, 1) := by decide +kernel
theorem dX6_latency_21 : decode cX6_latency 21 = .ok (.getfield 10, 3) := by decide +kernel
theorem dX6_latency_24 : decode cX6_latency 24 = .ok (.getfield 58, 3) := by decide +kernel
theorem dX6_latency_27 : decode cX6_latency 27 = .ok (.iload_n 1, 1) := by decide +kernel
theorem dX6_latency_28 : decode cX6_latency 28 = .ok (.aaload, 1) := by decide +kernel
theorem dX6_latency_29 : decode cX6_latency 29 = .ok (.aload_n 0, 1) := by decide +kernel
theorem dX6_latency_30 : decode cX6_latency 30 = .ok (.getfield 10, 3) := by decide +kernel
theorem dX6_latency_33 : decode cX6_latency 33 = .ok (.getfield 96, 3) := by decide +kernel
theorem dX6_latency_36 : decode cX6_latency 36 = .ok (.iload_n 2, 1) := by decide +kernel
theorem dX6_latency_37 : decode cX6_latency 37 = .ok (.invokevirtual 155, 3) := by decide +kernel
theorem dX6_latency_40 : decode cX6_latency 40 = .ok (.ireturn, 1) := by decide +kernel
theorem dX6_safeGap_0 : decode cX6_safeGap 0 = .ok (.iload_n 1, 1) := by decide +kernel
theorem dX6_safeGap_1 : decode cX6_safeGap 1 = .ok (.invokestatic 102, 3) := by decide +kernel
theorem dX6_safeGap_4 : decode cX6_safeGap 4 = .ok (.ifCond .eq 14, 3) := by decide +kernel
theorem dX6_safeGap_7 : decode cX6_safeGap 7 = .ok (.aload_n 0, 1) := by decide +kernel
theorem dX6_safeGap_8 : decode cX6_safeGap 8 = .ok (.getfield 10, 3) := by decide +kernel
theorem dX6_safeGap_11 : decode cX6_safeGap 11 = .ok (.iload_n 1, 1) := by decide +kernel
theorem dX6_safeGap_12 : decode cX6_safeGap 12 = .ok (.invokevirtual 158, 3) := by decide +kernel
theorem dX6_safeGap_15 : decode cX6_safeGap 15 = .ok (.goto 4, 3) := by decide +kernel
theorem dX6_safeGap_18 : decode cX6_safeGap 18 = .ok (.iconst (-1), 1) := by decide +kernel
theorem dX6_safeGap_19 : decode cX6_safeGap 19 = .ok (.ireturn, 1) := by decide +kernel
theorem dX6_packets_0 : decode cX6_packets 0 = .ok (.aload_n 0, 1) := by decide +kernel
theorem dX6_packets_1 : decode cX6_packets 1 = .ok (.getfield 10, 3) := by decide +kernel
theorem dX6_packets_4 : decode cX6_packets 4 = .ok (.iload_n 1, 1) := by decide +kernel
theorem dX6_packets_5 : decode cX6_packets 5 = .ok (.invokevirtual 54, 3) := by decide +kernel
theorem dX6_packets_8 : decode cX6_packets 8 = .ok (.ifCond .eq 18, 3) := by decide +kernel
theorem dX6_packets_11 : decode cX6_packets 11 = .ok (.aload_n 0, 1) := by decide +kernel
theorem dX6_packets_12 : decode cX6_packets 12 = .ok (.getfield 10, 3) := by decide +kernel
theorem dX6_packets_15 : decode cX6_packets 15 = .ok (.getfield 58, 3) := by decide +kernel
theorem dX6_packets_18 : decode cX6_packets 18 = .ok (.iload_n 1, 1) := by decide +kernel
theorem dX6_packets_19 : decode cX6_packets 19 = .ok (.aaload, 1) := by decide +kernel
theorem dX6_packets_20 : decode cX6_packets 20 = .ok (.getfield 161, 3) := by decide +kernel
theorem dX6_packets_23 : decode cX6_packets 23 = .ok (.goto 4, 3) := by decide +kernel
theorem dX6_packets_26 : decode cX6_packets 26 = .ok (.iconst (-1), 1) := by decide +kernel
theorem dX6_packets_27 : decode cX6_packets 27 = .ok (.ireturn, 1) := by decide +kernel
theorem dX6_bytes_0 : decode cX6_bytes 0 = .ok (.aload_n 0, 1) := by decide +kernel
theorem dX6_bytes_1 : decode cX6_bytes 1 = .ok (.getfield 10, 3) := by decide +kernel
theorem dX6_bytes_4 : decode cX6_bytes 4 = .ok (.iload_n 1, 1) := by decide +kernel
theorem dX6_bytes_5 : decode cX6_bytes 5 = .ok (.invokevirtual 54, 3) := by decide +kernel
theorem dX6_bytes_8 : decode cX6_bytes 8 = .ok (.ifCond .eq 18, 3) := by decide +kernel
theorem dX6_bytes_11 : decode cX6_bytes 11 = .ok (.aload_n 0, 1) := by decide +kernel
theorem dX6_bytes_12 : decode cX6_bytes 12 = .ok (.getfield 10, 3) := by decide +kernel
theorem dX6_bytes_15 : decode cX6_bytes 15 = .ok (.getfield 58, 3) := by decide +kernel
theorem dX6_bytes_18 : decode cX6_bytes 18 = .ok (.iload_n 1, 1) := by decide +kernel
theorem dX6_bytes_19 : decode cX6_bytes 19 = .ok (.aaload, 1) := by decide +kernel
theorem dX6_bytes_20 : decode cX6_bytes 20 = .ok (.getfield 164, 3) := by decide +kernel
theorem dX6_bytes_23 : decode cX6_bytes 23 = .ok (.goto 4, 3) := by decide +kernel
theorem dX6_bytes_26 : decode cX6_bytes 26 = .ok (.iconst (-1), 1) := by decide +kernel
theorem dX6_bytes_27 : decode cX6_bytes 27 = .ok (.ireturn, 1) := by decide +kernel
theorem dX6_drops_0 : decode cX6_drops 0 = .ok (.aload_n 0, 1) := by decide +kernel
theorem dX6_drops_1 : decode cX6_drops 1 = .ok (.getfield 10, 3) := by decide +kernel
theorem dX6_drops_4 : decode cX6_drops 4 = .ok (.iload_n 1, 1) := by decide +kernel
theorem dX6_drops_5 : decode cX6_drops 5 = .ok (.invokevirtual 54, 3) := by decide +kernel
theorem dX6_drops_8 : decode cX6_drops 8 = .ok (.ifCond .eq 18, 3) := by decide +kernel
theorem dX6_drops_11 : decode cX6_drops 11 = .ok (.aload_n 0, 1) := by decide +kernel
theorem dX6_drops_12 : decode cX6_drops 12 = .ok (.getfield 10, 3) := by decide +kernel
theorem dX6_drops_15 : decode cX6_drops 15 = .ok (.getfield 58, 3) := by decide +kernel
theorem dX6_drops_18 : decode cX6_drops 18 = .ok (.iload_n 1, 1) := by decide +kernel
theorem dX6_drops_19 : decode cX6_drops 19 = .ok (.aaload, 1) := by decide +kernel
theorem dX6_drops_20 : decode cX6_drops 20 = .ok (.getfield 167, 3) := by decide +kernel
theorem dX6_drops_23 : decode cX6_drops 23 = .ok (.goto 4, 3) := by decide +kernel
theorem dX6_drops_26 : decode cX6_drops 26 = .ok (.iconst (-1), 1) := by decide +kernel
theorem dX6_drops_27 : decode cX6_drops 27 = .ok (.ireturn, 1) := by decide +kernel
theorem dX6_imbalance_0 : decode cX6_imbalance 0 = .ok (.aload_n 0, 1) := by decide +kernel
theorem dX6_imbalance_1 : decode cX6_imbalance 1 = .ok (.getfield 10, 3) := by decide +kernel
theorem dX6_imbalance_4 : decode cX6_imbalance 4 = .ok (.invokevirtual 170, 3) := by decide +kernel
theorem dX6_imbalance_7 : decode cX6_imbalance 7 = .ok (.ireturn, 1) := by decide +kernel
theorem dX6_nextPath_0 : decode cX6_nextPath 0 = .ok (.iload_n 1, 1) := by decide +kernel
theorem dX6_nextPath_1 : decode cX6_nextPath 1 = .ok (.invokestatic 99, 3) := by decide +kernel
theorem dX6_nextPath_4 : decode cX6_nextPath 4 = .ok (.ifCond .eq 14, 3) := by decide +kernel
theorem dX6_nextPath_7 : decode cX6_nextPath 7 = .ok (.aload_n 0, 1) := by decide +kernel
theorem dX6_nextPath_8 : decode cX6_nextPath 8 = .ok (.getfield 10, 3) := by decide +kernel
theorem dX6_nextPath_11 : decode cX6_nextPath 11 = .ok (.iload_n 1, 1) := by decide +kernel
theorem dX6_nextPath_12 : decode cX6_nextPath 12 = .ok (.invokevirtual 173, 3) := by decide +kernel
theorem dX6_nextPath_15 : decode cX6_nextPath 15 = .ok (.goto 4, 3) := by decide +kernel
theorem dX6_nextPath_18 : decode cX6_nextPath 18 = .ok (.iconst (-1), 1) := by decide +kernel
theorem dX6_nextPath_19 : decode cX6_nextPath 19 = .ok (.ireturn, 1) := by decide +kernel
theorem dX6_wouldReorder_0 : decode cX6_wouldReorder 0 = .ok (.iload_n 1, 1) := by decide +kernel
theorem dX6_wouldReorder_1 : decode cX6_wouldReorder 1 = .ok (.invokestatic 99, 3) := by decide +kernel
theorem dX6_wouldReorder_4 : decode cX6_wouldReorder 4 = .ok (.ifCond .eq 10, 3) := by decide +kernel
theorem dX6_wouldReorder_7 : decode cX6_wouldReorder 7 = .ok (.iload_n 2, 1) := by decide +kernel
theorem dX6_wouldReorder_8 : decode cX6_wouldReorder 8 = .ok (.invokestatic 102, 3) := by decide +kernel
theorem dX6_wouldReorder_11 : decode cX6_wouldReorder 11 = .ok (.ifCond .ne 5, 3) := by decide +kernel
theorem dX6_wouldReorder_14 : decode cX6_wouldReorder 14 = .ok (.iconst (-1), 1) := by decide +kernel
theorem dX6_wouldReorder_15 : decode cX6_wouldReorder 15 = .ok (.ireturn, 1) := by decide +kernel
theorem dX6_wouldReorder_16 : decode cX6_wouldReorder 16 = .ok (.aload_n 0, 1) := by decide +kernel
theorem dX6_wouldReorder_17 : decode cX6_wouldReorder 17 = .ok (.getfield 10, 3) := by decide +kernel
theorem dX6_wouldReorder_20 : decode cX6_wouldReorder 20 = .ok (.iload_n 1, 1) := by decide +kernel
theorem dX6_wouldReorder_21 : decode cX6_wouldReorder 21 = .ok (.iload_n 2, 1) := by decide +kernel
theorem dX6_wouldReorder_22 : decode cX6_wouldReorder 22 = .ok (.invokevirtual 176, 3) := by decide +kernel
theorem dX6_wouldReorder_25 : decode cX6_wouldReorder 25 = .ok (.ifCond .eq 7, 3) := by decide +kernel
theorem dX6_wouldReorder_28 : decode cX6_wouldReorder 28 = .ok (.iconst 1, 1) := by decide +kernel
theorem dX6_wouldReorder_29 : decode cX6_wouldReorder 29 = .ok (.goto 4, 3) := by decide +kernel
theorem dX6_wouldReorder_32 : decode cX6_wouldReorder 32 = .ok (.iconst 0, 1) := by decide +kernel
theorem dX6_wouldReorder_33 : decode cX6_wouldReorder 33 = .ok (.ireturn, 1) := by decide +kernel
theorem dX6_flowlets_0 : decode cX6_flowlets 0 = .ok (.iload_n 1, 1) := by decide +kernel
theorem dX6_flowlets_1 : decode cX6_flowlets 1 = .ok (.invokestatic 99, 3) := by decide +kernel
theorem dX6_flowlets_4 : decode cX6_flowlets 4 = .ok (.ifCond .eq 18, 3) := by decide +kernel
theorem dX6_flowlets_7 : decode cX6_flowlets 7 = .ok (.aload_n 0, 1) := by decide +kernel
theorem dX6_flowlets_8 : decode cX6_flowlets 8 = .ok (.getfield 10, 3) := by decide +kernel
theorem dX6_flowlets_11 : decode cX6_flowlets 11 = .ok (.getfield 180, 3) := by decide +kernel
theorem dX6_flowlets_14 : decode cX6_flowlets 14 = .ok (.iload_n 1, 1) := by decide +kernel
theorem dX6_flowlets_15 : decode cX6_flowlets 15 = .ok (.aaload, 1) := by decide +kernel
theorem dX6_flowlets_16 : decode cX6_flowlets 16 = .ok (.getfield 184, 3) := by decide +kernel
theorem dX6_flowlets_19 : decode cX6_flowlets 19 = .ok (.goto 4, 3) := by decide +kernel
theorem dX6_flowlets_22 : decode cX6_flowlets 22 = .ok (.iconst (-1), 1) := by decide +kernel
theorem dX6_flowlets_23 : decode cX6_flowlets 23 = .ok (.ireturn, 1) := by decide +kernel
theorem dX6_pathChanges_0 : decode cX6_pathChanges 0 = .ok (.iload_n 1, 1) := by decide +kernel
theorem dX6_pathChanges_1 : decode cX6_pathChanges 1 = .ok (.invokestatic 99, 3) := by decide +kernel
theorem dX6_pathChanges_4 : decode cX6_pathChanges 4 = .ok (.ifCond .eq 18, 3) := by decide +kernel
theorem dX6_pathChanges_7 : decode cX6_pathChanges 7 = .ok (.aload_n 0, 1) := by decide +kernel
theorem dX6_pathChanges_8 : decode cX6_pathChanges 8 = .ok (.getfield 10, 3) := by decide +kernel
theorem dX6_pathChanges_11 : decode cX6_pathChanges 11 = .ok (.getfield 180, 3) := by decide +kernel
theorem dX6_pathChanges_14 : decode cX6_pathChanges 14 = .ok (.iload_n 1, 1) := by decide +kernel
theorem dX6_pathChanges_15 : decode cX6_pathChanges 15 = .ok (.aaload, 1) := by decide +kernel
theorem dX6_pathChanges_16 : decode cX6_pathChanges 16 = .ok (.getfield 189, 3) := by decide +kernel
theorem dX6_pathChanges_19 : decode cX6_pathChanges 19 = .ok (.goto 4, 3) := by decide +kernel
theorem dX6_pathChanges_22 : decode cX6_pathChanges 22 = .ok (.iconst (-1), 1) := by decide +kernel
theorem dX6_pathChanges_23 : decode cX6_pathChanges 23 = .ok (.ireturn, 1) := by decide +kernel
theorem dX6_reordered_0 : decode cX6_reordered 0 = .ok (.iload_n 1, 1) := by decide +kernel
theorem dX6_reordered_1 : decode cX6_reordered 1 = .ok (.invokestatic 99, 3) := by decide +kernel
theorem dX6_reordered_4 : decode cX6_reordered 4 = .ok (.ifCond .eq 18, 3) := by decide +kernel
theorem dX6_reordered_7 : decode cX6_reordered 7 = .ok (.aload_n 0, 1) := by decide +kernel
theorem dX6_reordered_8 : decode cX6_reordered 8 = .ok (.getfield 10, 3) := by decide +kernel
theorem dX6_reordered_11 : decode cX6_reordered 11 = .ok (.getfield 180, 3) := by decide +kernel
theorem dX6_reordered_14 : decode cX6_reordered 14 = .ok (.iload_n 1, 1) := by decide +kernel
theorem dX6_reordered_15 : decode cX6_reordered 15 = .ok (.aaload, 1) := by decide +kernel
theorem dX6_reordered_16 : decode cX6_reordered 16 = .ok (.getfield 192, 3) := by decide +kernel
theorem dX6_reordered_19 : decode cX6_reordered 19 = .ok (.goto 4, 3) := by decide +kernel
theorem dX6_reordered_22 : decode cX6_reordered 22 = .ok (.iconst (-1), 1) := by decide +kernel
theorem dX6_reordered_23 : decode cX6_reordered 23 = .ok (.ireturn, 1) := by decide +kernel
theorem dX6_lastArrival_0 : decode cX6_lastArrival 0 = .ok (.iload_n 1, 1) := by decide +kernel
theorem dX6_lastArrival_1 : decode cX6_lastArrival 1 = .ok (.invokestatic 99, 3) := by decide +kernel
theorem dX6_lastArrival_4 : decode cX6_lastArrival 4 = .ok (.ifCond .eq 18, 3) := by decide +kernel
theorem dX6_lastArrival_7 : decode cX6_lastArrival 7 = .ok (.aload_n 0, 1) := by decide +kernel
theorem dX6_lastArrival_8 : decode cX6_lastArrival 8 = .ok (.getfield 10, 3) := by decide +kernel
theorem dX6_lastArrival_11 : decode cX6_lastArrival 11 = .ok (.getfield 180, 3) := by decide +kernel
theorem dX6_lastArrival_14 : decode cX6_lastArrival 14 = .ok (.iload_n 1, 1) := by decide +kernel
theorem dX6_lastArrival_15 : decode cX6_lastArrival 15 = .ok (.aaload, 1) := by decide +kernel
theorem dX6_lastArrival_16 : decode cX6_lastArrival 16 = .ok (.getfield 195, 3) := by decide +kernel
theorem dX6_lastArrival_19 : decode cX6_lastArrival 19 = .ok (.goto 4, 3) := by decide +kernel
theorem dX6_lastArrival_22 : decode cX6_lastArrival 22 = .ok (.iconst (-1), 1) := by decide +kernel
theorem dX6_lastArrival_23 : decode cX6_lastArrival 23 = .ok (.ireturn, 1) := by decide +kernel
theorem dX6_appendCharacter_0 : decode cX6_appendCharacter 0 = .ok (.iload_n 1, 1) := by decide +kernel
theorem dX6_appendCharacter_1 : decode cX6_appendCharacter 1 = .ok (.iconst 0, 1) := by decide +kernel
theorem dX6_appendCharacter_2 : decode cX6_appendCharacter 2 = .ok (.sipush 255, 3) := by decide +kernel
theorem dX6_appendCharacter_5 : decode cX6_appendCharacter 5 = .ok (.invokestatic 38, 3) := by decide +kernel
theorem dX6_appendCharacter_8 : decode cX6_appendCharacter 8 = .ok (.ifCond .ne 5, 3) := by decide +kernel
theorem dX6_appendCharacter_11 : decode cX6_appendCharacter 11 = .ok (.iconst (-1), 1) := by decide +kernel
theorem dX6_appendCharacter_12 : decode cX6_appendCharacter 12 = .ok (.ireturn, 1) := by decide +kernel
theorem dX6_appendCharacter_13 : decode cX6_appendCharacter 13 = .ok (.aload_n 0, 1) := by decide +kernel
theorem dX6_appendCharacter_14 : decode cX6_appendCharacter 14 = .ok (.getfield 34, 3) := by decide +kernel
theorem dX6_appendCharacter_17 : decode cX6_appendCharacter 17 = .ok (.invokevirtual 198, 3) := by decide +kernel
theorem dX6_appendCharacter_20 : decode cX6_appendCharacter 20 = .ok (.ifCond .eq 6, 3) := by decide +kernel
theorem dX6_appendCharacter_23 : decode cX6_appendCharacter 23 = .ok (.bipush (-3), 2) := by decide +kernel
theorem dX6_appendCharacter_25 : decode cX6_appendCharacter 25 = .ok (.ireturn, 1) := by decide +kernel
theorem dX6_appendCharacter_26 : decode cX6_appendCharacter 26 = .ok (.aload_n 0, 1) := by decide +kernel
theorem dX6_appendCharacter_27 : decode cX6_appendCharacter 27 = .ok (.getfield 34, 3) := by decide +kernel
theorem dX6_appendCharacter_30 : decode cX6_appendCharacter 30 = .ok (.iload_n 1, 1) := by decide +kernel
theorem dX6_appendCharacter_31 : decode cX6_appendCharacter 31 = .ok (.invokevirtual 201, 3) := by decide +kernel
theorem dX6_appendCharacter_34 : decode cX6_appendCharacter 34 = .ok (.aload_n 0, 1) := by decide +kernel
theorem dX6_appendCharacter_35 : decode cX6_appendCharacter 35 = .ok (.getfield 34, 3) := by decide +kernel
theorem dX6_appendCharacter_38 : decode cX6_appendCharacter 38 = .ok (.getfield 204, 3) := by decide +kernel
theorem dX6_appendCharacter_41 : decode cX6_appendCharacter 41 = .ok (.ireturn, 1) := by decide +kernel
theorem dX6_clearText_0 : decode cX6_clearText 0 = .ok (.aload_n 0, 1) := by decide +kernel
theorem dX6_clearText_1 : decode cX6_clearText 1 = .ok (.getfield 34, 3) := by decide +kernel
theorem dX6_clearText_4 : decode cX6_clearText 4 = .ok (.getfield 204, 3) := by decide +kernel
theorem dX6_clearText_7 : decode cX6_clearText 7 = .ok (.istore_n 1, 1) := by decide +kernel
theorem dX6_clearText_8 : decode cX6_clearText 8 = .ok (.aload_n 0, 1) := by decide +kernel
theorem dX6_clearText_9 : decode cX6_clearText 9 = .ok (.getfield 34, 3) := by decide +kernel
theorem dX6_clearText_12 : decode cX6_clearText 12 = .ok (.invokevirtual 207, 3) := by decide +kernel
theorem dX6_clearText_15 : decode cX6_clearText 15 = .ok (.iload_n 1, 1) := by decide +kernel
theorem dX6_clearText_16 : decode cX6_clearText 16 = .ok (.ireturn, 1) := by decide +kernel
theorem dX6_runTrace_0 : decode cX6_runTrace 0 = .ok (.aload_n 0, 1) := by decide +kernel
theorem dX6_runTrace_1 : decode cX6_runTrace 1 = .ok (.getfield 34, 3) := by decide +kernel
theorem dX6_runTrace_4 : decode cX6_runTrace 4 = .ok (.invokevirtual 210, 3) := by decide +kernel
theorem dX6_runTrace_7 : decode cX6_runTrace 7 = .ok (.istore_n 1, 1) := by decide +kernel
theorem dX6_runTrace_8 : decode cX6_runTrace 8 = .ok (.iload_n 1, 1) := by decide +kernel
theorem dX6_runTrace_9 : decode cX6_runTrace 9 = .ok (.iconst (-1), 1) := by decide +kernel
theorem dX6_runTrace_10 : decode cX6_runTrace 10 = .ok (.if_icmp .eq 8, 3) := by decide +kernel
theorem dX6_runTrace_13 : decode cX6_runTrace 13 = .ok (.bipush (-10), 2) := by decide +kernel
theorem dX6_runTrace_15 : decode cX6_runTrace 15 = .ok (.iload_n 1, 1) := by decide +kernel
theorem dX6_runTrace_16 : decode cX6_runTrace 16 = .ok (.isub, 1) := by decide +kernel
theorem dX6_runTrace_17 : decode cX6_runTrace 17 = .ok (.ireturn, 1) := by decide +kernel
theorem dX6_runTrace_18 : decode cX6_runTrace 18 = .ok (.aload_n 0, 1) := by decide +kernel
theorem dX6_runTrace_19 : decode cX6_runTrace 19 = .ok (.getfield 19, 3) := by decide +kernel
theorem dX6_runTrace_22 : decode cX6_runTrace 22 = .ok (.aload_n 0, 1) := by decide +kernel
theorem dX6_runTrace_23 : decode cX6_runTrace 23 = .ok (.getfield 10, 3) := by decide +kernel
theorem dX6_runTrace_26 : decode cX6_runTrace 26 = .ok (.invokevirtual 42, 3) := by decide +kernel
theorem dX6_runTrace_29 : decode cX6_runTrace 29 = .ok (.iconst 0, 1) := by decide +kernel
theorem dX6_runTrace_30 : decode cX6_runTrace 30 = .ok (.istore_n 2, 1) := by decide +kernel
theorem dX6_runTrace_31 : decode cX6_runTrace 31 = .ok (.aload_n 0, 1) := by decide +kernel
theorem dX6_runTrace_32 : decode cX6_runTrace 32 = .ok (.getfield 34, 3) := by decide +kernel
theorem dX6_runTrace_35 : decode cX6_runTrace 35 = .ok (.invokevirtual 213, 3) := by decide +kernel
theorem dX6_runTrace_38 : decode cX6_runTrace 38 = .ok (.iconst 0, 1) := by decide +kernel
theorem dX6_runTrace_39 : decode cX6_runTrace 39 = .ok (.istore_n 3, 1) := by decide +kernel
theorem dX6_runTrace_40 : decode cX6_runTrace 40 = .ok (.iload_n 3, 1) := by decide +kernel
theorem dX6_runTrace_41 : decode cX6_runTrace 41 = .ok (.bipush 120, 2) := by decide +kernel
theorem dX6_runTrace_43 : decode cX6_runTrace 43 = .ok (.if_icmp .ge 29, 3) := by decide +kernel
theorem dX6_runTrace_46 : decode cX6_runTrace 46 = .ok (.aload_n 0, 1) := by decide +kernel
theorem dX6_runTrace_47 : decode cX6_runTrace 47 = .ok (.getfield 34, 3) := by decide +kernel
theorem dX6_runTrace_50 : decode cX6_runTrace 50 = .ok (.invokevirtual 216, 3) := by decide +kernel
theorem dX6_runTrace_53 : decode cX6_runTrace 53 = .ok (.ifCond .eq 19, 3) := by decide +kernel
theorem dX6_runTrace_56 : decode cX6_runTrace 56 = .ok (.aload_n 0, 1) := by decide +kernel
theorem dX6_runTrace_57 : decode cX6_runTrace 57 = .ok (.invokevirtual 219, 3) := by decide +kernel
theorem dX6_runTrace_60 : decode cX6_runTrace 60 = .ok (.ifCond .eq 6, 3) := by decide +kernel
theorem dX6_runTrace_63 : decode cX6_runTrace 63 = .ok (.iinc 2 1, 3) := by decide +kernel
theorem dX6_runTrace_66 : decode cX6_runTrace 66 = .ok (.iinc 3 1, 3) := by decide +kernel
theorem dX6_runTrace_69 : decode cX6_runTrace 69 = .ok (.goto (-29), 3) := by decide +kernel
theorem dX6_runTrace_72 : decode cX6_runTrace 72 = .ok (.aload_n 0, 1) := by decide +kernel
theorem dX6_runTrace_73 : decode cX6_runTrace 73 = .ok (.getfield 34, 3) := by decide +kernel
theorem dX6_runTrace_76 : decode cX6_runTrace 76 = .ok (.invokevirtual 207, 3) := by decide +kernel
theorem dX6_runTrace_79 : decode cX6_runTrace 79 = .ok (.iload_n 2, 1) := by decide +kernel
theorem dX6_runTrace_80 : decode cX6_runTrace 80 = .ok (.ireturn, 1) := by decide +kernel
theorem dX6_undo_0 : decode cX6_undo 0 = .ok (.aload_n 0, 1) := by decide +kernel
theorem dX6_undo_1 : decode cX6_undo 1 = .ok (.getfield 19, 3) := by decide +kernel
theorem dX6_undo_4 : decode cX6_undo 4 = .ok (.getfield 222, 3) := by decide +kernel
theorem dX6_undo_7 : decode cX6_undo 7 = .ok (.ifCond .ne 6, 3) := by decide +kernel
theorem dX6_undo_10 : decode cX6_undo 10 = .ok (.bipush (-2), 2) := by decide +kernel
theorem dX6_undo_12 : decode cX6_undo 12 = .ok (.ireturn, 1) := by decide +kernel
theorem dX6_undo_13 : decode cX6_undo 13 = .ok (.aload_n 0, 1) := by decide +kernel
theorem dX6_undo_14 : decode cX6_undo 14 = .ok (.getfield 19, 3) := by decide +kernel
theorem dX6_undo_17 : decode cX6_undo 17 = .ok (.aload_n 0, 1) := by decide +kernel
theorem dX6_undo_18 : decode cX6_undo 18 = .ok (.getfield 10, 3) := by decide +kernel
theorem dX6_undo_21 : decode cX6_undo 21 = .ok (.invokevirtual 225, 3) := by decide +kernel
theorem dX6_undo_24 : decode cX6_undo 24 = .ok (.aload_n 0, 1) := by decide +kernel
theorem dX6_undo_25 : decode cX6_undo 25 = .ok (.getfield 19, 3) := by decide +kernel
theorem dX6_undo_28 : decode cX6_undo 28 = .ok (.getfield 222, 3) := by decide +kernel
theorem dX6_undo_31 : decode cX6_undo 31 = .ok (.ireturn, 1) := by decide +kernel
theorem dX6_save_0 : decode cX6_save 0 = .ok (.iload_n 1, 1) := by decide +kernel
theorem dX6_save_1 : decode cX6_save 1 = .ok (.iconst 0, 1) := by decide +kernel
theorem dX6_save_2 : decode cX6_save 2 = .ok (.iconst 1, 1) := by decide +kernel
theorem dX6_save_3 : decode cX6_save 3 = .ok (.invokestatic 38, 3) := by decide +kernel
theorem dX6_save_6 : decode cX6_save 6 = .ok (.ifCond .ne 5, 3) := by decide +kernel
theorem dX6_save_9 : decode cX6_save 9 = .ok (.iconst (-1), 1) := by decide +kernel
end
section
theorem dX6_save_10 : decode cX6_save 10 = .ok (.ireturn, 1) := by decide +kernel
theorem dX6_save_11 : decode cX6_save 11 = .ok (.aload_n 0, 1) := by decide +kernel
theorem dX6_save_12 : decode cX6_save 12 = .ok (.getfield 23, 3) := by decide +kernel
theorem dX6_save_15 : decode cX6_save 15 = .ok (.iload_n 1, 1) := by decide +kernel
theorem dX6_save_16 : decode cX6_save 16 = .ok (.aaload, 1) := by decide +kernel
theorem dX6_save_17 : decode cX6_save 17 = .ok (.aload_n 0, 1) := by decide +kernel
theorem dX6_save_18 : decode cX6_save 18 = .ok (.getfield 10, 3) := by decide +kernel
theorem dX6_save_21 : decode cX6_save 21 = .ok (.invokevirtual 228, 3) := by decide +kernel
theorem dX6_save_24 : decode cX6_save 24 = .ok (.aload_n 0, 1) := by decide +kernel
theorem dX6_save_25 : decode cX6_save 25 = .ok (.getfield 27, 3) := by decide +kernel
theorem dX6_save_28 : decode cX6_save 28 = .ok (.iload_n 1, 1) := by decide +kernel
theorem dX6_save_29 : decode cX6_save 29 = .ok (.iconst 1, 1) := by decide +kernel
theorem dX6_save_30 : decode cX6_save 30 = .ok (.bastore, 1) := by decide +kernel
theorem dX6_save_31 : decode cX6_save 31 = .ok (.aload_n 0, 1) := by decide +kernel
theorem dX6_save_32 : decode cX6_save 32 = .ok (.getfield 10, 3) := by decide +kernel
theorem dX6_save_35 : decode cX6_save 35 = .ok (.getfield 96, 3) := by decide +kernel
theorem dX6_save_38 : decode cX6_save 38 = .ok (.ireturn, 1) := by decide +kernel
theorem dX6_restore_0 : decode cX6_restore 0 = .ok (.iload_n 1, 1) := by decide +kernel
theorem dX6_restore_1 : decode cX6_restore 1 = .ok (.iconst 0, 1) := by decide +kernel
theorem dX6_restore_2 : decode cX6_restore 2 = .ok (.iconst 1, 1) := by decide +kernel
theorem dX6_restore_3 : decode cX6_restore 3 = .ok (.invokestatic 38, 3) := by decide +kernel
theorem dX6_restore_6 : decode cX6_restore 6 = .ok (.ifCond .ne 5, 3) := by decide +kernel
theorem dX6_restore_9 : decode cX6_restore 9 = .ok (.iconst (-1), 1) := by decide +kernel
theorem dX6_restore_10 : decode cX6_restore 10 = .ok (.ireturn, 1) := by decide +kernel
theorem dX6_restore_11 : decode cX6_restore 11 = .ok (.aload_n 0, 1) := by decide +kernel
theorem dX6_restore_12 : decode cX6_restore 12 = .ok (.getfield 27, 3) := by decide +kernel
theorem dX6_restore_15 : decode cX6_restore 15 = .ok (.iload_n 1, 1) := by decide +kernel
theorem dX6_restore_16 : decode cX6_restore 16 = .ok (.baload, 1) := by decide +kernel
theorem dX6_restore_17 : decode cX6_restore 17 = .ok (.ifCond .ne 6, 3) := by decide +kernel
theorem dX6_restore_20 : decode cX6_restore 20 = .ok (.bipush (-2), 2) := by decide +kernel
theorem dX6_restore_22 : decode cX6_restore 22 = .ok (.ireturn, 1) := by decide +kernel
theorem dX6_restore_23 : decode cX6_restore 23 = .ok (.aload_n 0, 1) := by decide +kernel
theorem dX6_restore_24 : decode cX6_restore 24 = .ok (.getfield 10, 3) := by decide +kernel
theorem dX6_restore_27 : decode cX6_restore 27 = .ok (.aload_n 0, 1) := by decide +kernel
theorem dX6_restore_28 : decode cX6_restore 28 = .ok (.getfield 23, 3) := by decide +kernel
theorem dX6_restore_31 : decode cX6_restore 31 = .ok (.iload_n 1, 1) := by decide +kernel
theorem dX6_restore_32 : decode cX6_restore 32 = .ok (.aaload, 1) := by decide +kernel
theorem dX6_restore_33 : decode cX6_restore 33 = .ok (.invokevirtual 228, 3) := by decide +kernel
theorem dX6_restore_36 : decode cX6_restore 36 = .ok (.aload_n 0, 1) := by decide +kernel
theorem dX6_restore_37 : decode cX6_restore 37 = .ok (.getfield 19, 3) := by decide +kernel
theorem dX6_restore_40 : decode cX6_restore 40 = .ok (.invokevirtual 231, 3) := by decide +kernel
theorem dX6_restore_43 : decode cX6_restore 43 = .ok (.aload_n 0, 1) := by decide +kernel
theorem dX6_restore_44 : decode cX6_restore 44 = .ok (.getfield 10, 3) := by decide +kernel
theorem dX6_restore_47 : decode cX6_restore 47 = .ok (.getfield 96, 3) := by decide +kernel
theorem dX6_restore_50 : decode cX6_restore 50 = .ok (.ireturn, 1) := by decide +kernel
theorem dX6_isBetween_0 : decode cX6_isBetween 0 = .ok (.iload_n 1, 1) := by decide +kernel
theorem dX6_isBetween_1 : decode cX6_isBetween 1 = .ok (.iload_n 0, 1) := by decide +kernel
theorem dX6_isBetween_2 : decode cX6_isBetween 2 = .ok (.if_icmp .gt 12, 3) := by decide +kernel
theorem dX6_isBetween_5 : decode cX6_isBetween 5 = .ok (.iload_n 0, 1) := by decide +kernel
theorem dX6_isBetween_6 : decode cX6_isBetween 6 = .ok (.iload_n 2, 1) := by decide +kernel
theorem dX6_isBetween_7 : decode cX6_isBetween 7 = .ok (.if_icmp .gt 7, 3) := by decide +kernel
theorem dX6_isBetween_10 : decode cX6_isBetween 10 = .ok (.iconst 1, 1) := by decide +kernel
theorem dX6_isBetween_11 : decode cX6_isBetween 11 = .ok (.goto 4, 3) := by decide +kernel
theorem dX6_isBetween_14 : decode cX6_isBetween 14 = .ok (.iconst 0, 1) := by decide +kernel
theorem dX6_isBetween_15 : decode cX6_isBetween 15 = .ok (.ireturn, 1) := by decide +kernel
theorem dX6_isFlow_0 : decode cX6_isFlow 0 = .ok (.iload_n 0, 1) := by decide +kernel
theorem dX6_isFlow_1 : decode cX6_isFlow 1 = .ok (.iconst 0, 1) := by decide +kernel
theorem dX6_isFlow_2 : decode cX6_isFlow 2 = .ok (.bipush 15, 2) := by decide +kernel
theorem dX6_isFlow_4 : decode cX6_isFlow 4 = .ok (.invokestatic 38, 3) := by decide +kernel
theorem dX6_isFlow_7 : decode cX6_isFlow 7 = .ok (.ireturn, 1) := by decide +kernel
theorem dX6_isSize_0 : decode cX6_isSize 0 = .ok (.iload_n 0, 1) := by decide +kernel
theorem dX6_isSize_1 : decode cX6_isSize 1 = .ok (.iconst 1, 1) := by decide +kernel
theorem dX6_isSize_2 : decode cX6_isSize 2 = .ok (.sipush 1000, 3) := by decide +kernel
theorem dX6_isSize_5 : decode cX6_isSize 5 = .ok (.invokestatic 38, 3) := by decide +kernel
theorem dX6_isSize_8 : decode cX6_isSize 8 = .ok (.ireturn, 1) := by decide +kernel
theorem dX6_runItem_0 : decode cX6_runItem 0 = .ok (.aload_n 0, 1) := by decide +kernel
theorem dX6_runItem_1 : decode cX6_runItem 1 = .ok (.getfield 34, 3) := by decide +kernel
theorem dX6_runItem_4 : decode cX6_runItem 4 = .ok (.getfield 234, 3) := by decide +kernel
theorem dX6_runItem_7 : decode cX6_runItem 7 = .ok (.ifCond .eq 64, 3) := by decide +kernel
theorem dX6_runItem_10 : decode cX6_runItem 10 = .ok (.aload_n 0, 1) := by decide +kernel
theorem dX6_runItem_11 : decode cX6_runItem 11 = .ok (.getfield 34, 3) := by decide +kernel
theorem dX6_runItem_14 : decode cX6_runItem 14 = .ok (.getfield 237, 3) := by decide +kernel
theorem dX6_runItem_17 : decode cX6_runItem 17 = .ok (.invokestatic 99, 3) := by decide +kernel
theorem dX6_runItem_20 : decode cX6_runItem 20 = .ok (.ifCond .eq 20, 3) := by decide +kernel
theorem dX6_runItem_23 : decode cX6_runItem 23 = .ok (.aload_n 0, 1) := by decide +kernel
theorem dX6_runItem_24 : decode cX6_runItem 24 = .ok (.getfield 34, 3) := by decide +kernel
theorem dX6_runItem_27 : decode cX6_runItem 27 = .ok (.getfield 240, 3) := by decide +kernel
theorem dX6_runItem_30 : decode cX6_runItem 30 = .ok (.invokestatic 102, 3) := by decide +kernel
theorem dX6_runItem_33 : decode cX6_runItem 33 = .ok (.ifCond .eq 7, 3) := by decide +kernel
theorem dX6_runItem_36 : decode cX6_runItem 36 = .ok (.iconst 1, 1) := by decide +kernel
theorem dX6_runItem_37 : decode cX6_runItem 37 = .ok (.goto 4, 3) := by decide +kernel
theorem dX6_runItem_40 : decode cX6_runItem 40 = .ok (.iconst 0, 1) := by decide +kernel
theorem dX6_runItem_41 : decode cX6_runItem 41 = .ok (.istore_n 1, 1) := by decide +kernel
theorem dX6_runItem_42 : decode cX6_runItem 42 = .ok (.iload_n 1, 1) := by decide +kernel
theorem dX6_runItem_43 : decode cX6_runItem 43 = .ok (.ifCond .eq 86, 3) := by decide +kernel
theorem dX6_runItem_46 : decode cX6_runItem 46 = .ok (.aload_n 0, 1) := by decide +kernel
theorem dX6_runItem_47 : decode cX6_runItem 47 = .ok (.getfield 10, 3) := by decide +kernel
theorem dX6_runItem_50 : decode cX6_runItem 50 = .ok (.aload_n 0, 1) := by decide +kernel
theorem dX6_runItem_51 : decode cX6_runItem 51 = .ok (.getfield 34, 3) := by decide +kernel
theorem dX6_runItem_54 : decode cX6_runItem 54 = .ok (.getfield 237, 3) := by decide +kernel
theorem dX6_runItem_57 : decode cX6_runItem 57 = .ok (.aload_n 0, 1) := by decide +kernel
theorem dX6_runItem_58 : decode cX6_runItem 58 = .ok (.getfield 34, 3) := by decide +kernel
theorem dX6_runItem_61 : decode cX6_runItem 61 = .ok (.getfield 240, 3) := by decide +kernel
theorem dX6_runItem_64 : decode cX6_runItem 64 = .ok (.invokevirtual 105, 3) := by decide +kernel
theorem dX6_runItem_67 : decode cX6_runItem 67 = .ok (.pop, 1) := by decide +kernel
theorem dX6_runItem_68 : decode cX6_runItem 68 = .ok (.goto 61, 3) := by decide +kernel
theorem dX6_runItem_71 : decode cX6_runItem 71 = .ok (.aload_n 0, 1) := by decide +kernel
theorem dX6_runItem_72 : decode cX6_runItem 72 = .ok (.getfield 34, 3) := by decide +kernel
theorem dX6_runItem_75 : decode cX6_runItem 75 = .ok (.getfield 240, 3) := by decide +kernel
theorem dX6_runItem_78 : decode cX6_runItem 78 = .ok (.iconst 1, 1) := by decide +kernel
theorem dX6_runItem_79 : decode cX6_runItem 79 = .ok (.sipush 1000, 3) := by decide +kernel
theorem dX6_runItem_82 : decode cX6_runItem 82 = .ok (.invokestatic 38, 3) := by decide +kernel
theorem dX6_runItem_85 : decode cX6_runItem 85 = .ok (.ifCond .eq 24, 3) := by decide +kernel
theorem dX6_runItem_88 : decode cX6_runItem 88 = .ok (.aload_n 0, 1) := by decide +kernel
theorem dX6_runItem_89 : decode cX6_runItem 89 = .ok (.getfield 10, 3) := by decide +kernel
theorem dX6_runItem_92 : decode cX6_runItem 92 = .ok (.aload_n 0, 1) := by decide +kernel
theorem dX6_runItem_93 : decode cX6_runItem 93 = .ok (.getfield 34, 3) := by decide +kernel
theorem dX6_runItem_96 : decode cX6_runItem 96 = .ok (.getfield 240, 3) := by decide +kernel
theorem dX6_runItem_99 : decode cX6_runItem 99 = .ok (.invokevirtual 89, 3) := by decide +kernel
theorem dX6_runItem_102 : decode cX6_runItem 102 = .ok (.ifCond .eq 7, 3) := by decide +kernel
theorem dX6_runItem_105 : decode cX6_runItem 105 = .ok (.iconst 1, 1) := by decide +kernel
theorem dX6_runItem_106 : decode cX6_runItem 106 = .ok (.goto 4, 3) := by decide +kernel
theorem dX6_runItem_109 : decode cX6_runItem 109 = .ok (.iconst 0, 1) := by decide +kernel
theorem dX6_runItem_110 : decode cX6_runItem 110 = .ok (.istore_n 1, 1) := by decide +kernel
theorem dX6_runItem_111 : decode cX6_runItem 111 = .ok (.iload_n 1, 1) := by decide +kernel
theorem dX6_runItem_112 : decode cX6_runItem 112 = .ok (.ifCond .eq 17, 3) := by decide +kernel
theorem dX6_runItem_115 : decode cX6_runItem 115 = .ok (.aload_n 0, 1) := by decide +kernel
theorem dX6_runItem_116 : decode cX6_runItem 116 = .ok (.getfield 10, 3) := by decide +kernel
theorem dX6_runItem_119 : decode cX6_runItem 119 = .ok (.aload_n 0, 1) := by decide +kernel
theorem dX6_runItem_120 : decode cX6_runItem 120 = .ok (.getfield 34, 3) := by decide +kernel
theorem dX6_runItem_123 : decode cX6_runItem 123 = .ok (.getfield 240, 3) := by decide +kernel
theorem dX6_runItem_126 : decode cX6_runItem 126 = .ok (.invokevirtual 92, 3) := by decide +kernel
theorem dX6_runItem_129 : decode cX6_runItem 129 = .ok (.iload_n 1, 1) := by decide +kernel
theorem dX6_runItem_130 : decode cX6_runItem 130 = .ok (.ireturn, 1) := by decide +kernel
theorem dX7_init_0 : decode cX7_init 0 = .ok (.aload_n 0, 1) := by decide +kernel
theorem dX7_init_1 : decode cX7_init 1 = .ok (.invokespecial 1, 3) := by decide +kernel
theorem dX7_init_4 : decode cX7_init 4 = .ok (.aload_n 0, 1) := by decide +kernel
theorem dX7_init_5 : decode cX7_init 5 = .ok (.sipush 153, 3) := by decide +kernel
theorem dX7_init_8 : decode cX7_init 8 = .ok (.newarray .int, 2) := by decide +kernel
theorem dX7_init_10 : decode cX7_init 10 = .ok (.putfield 7, 3) := by decide +kernel
theorem dX7_init_13 : decode cX7_init 13 = .ok (.aload_n 0, 1) := by decide +kernel
theorem dX7_init_14 : decode cX7_init 14 = .ok (.sipush 1224, 3) := by decide +kernel
theorem dX7_init_17 : decode cX7_init 17 = .ok (.newarray .int, 2) := by decide +kernel
theorem dX7_init_19 : decode cX7_init 19 = .ok (.putfield 13, 3) := by decide +kernel
theorem dX7_init_22 : decode cX7_init 22 = .ok (.aload_n 0, 1) := by decide +kernel
theorem dX7_init_23 : decode cX7_init 23 = .ok (.sipush 306, 3) := by decide +kernel
theorem dX7_init_26 : decode cX7_init 26 = .ok (.newarray .int, 2) := by decide +kernel
theorem dX7_init_28 : decode cX7_init 28 = .ok (.putfield 16, 3) := by decide +kernel
theorem dX7_init_31 : decode cX7_init 31 = .ok (.aload_n 0, 1) := by decide +kernel
theorem dX7_init_32 : decode cX7_init 32 = .ok (.iconst 2, 1) := by decide +kernel
theorem dX7_init_33 : decode cX7_init 33 = .ok (.newarray .boolean, 2) := by decide +kernel
theorem dX7_init_35 : decode cX7_init 35 = .ok (.putfield 19, 3) := by decide +kernel
theorem dX7_init_38 : decode cX7_init 38 = .ok (.aload_n 0, 1) := by decide +kernel
theorem dX7_init_39 : decode cX7_init 39 = .ok (.bipush 120, 2) := by decide +kernel
theorem dX7_init_41 : decode cX7_init 41 = .ok (.newarray .int, 2) := by decide +kernel
theorem dX7_init_43 : decode cX7_init 43 = .ok (.putfield 23, 3) := by decide +kernel
theorem dX7_init_46 : decode cX7_init 46 = .ok (.aload_n 0, 1) := by decide +kernel
theorem dX7_init_47 : decode cX7_init 47 = .ok (.bipush 60, 2) := by decide +kernel
theorem dX7_init_49 : decode cX7_init 49 = .ok (.newarray .int, 2) := by decide +kernel
theorem dX7_init_51 : decode cX7_init 51 = .ok (.putfield 26, 3) := by decide +kernel
theorem dX7_init_54 : decode cX7_init 54 = .ok (.aload_n 0, 1) := by decide +kernel
theorem dX7_init_55 : decode cX7_init 55 = .ok (.bipush 60, 2) := by decide +kernel
theorem dX7_init_57 : decode cX7_init 57 = .ok (.newarray .int, 2) := by decide +kernel
theorem dX7_init_59 : decode cX7_init 59 = .ok (.putfield 29, 3) := by decide +kernel
theorem dX7_init_62 : decode cX7_init 62 = .ok (.aload_n 0, 1) := by decide +kernel
theorem dX7_init_63 : decode cX7_init 63 = .ok (.iconst 4, 1) := by decide +kernel
theorem dX7_init_64 : decode cX7_init 64 = .ok (.bipush 8, 2) := by decide +kernel
theorem dX7_init_66 : decode cX7_init 66 = .ok (.invokevirtual 32, 3) := by decide +kernel
theorem dX7_init_69 : decode cX7_init 69 = .ok (.return_, 1) := by decide +kernel
theorem dX7_in_0 : decode cX7_in 0 = .ok (.iload_n 0, 1) := by decide +kernel
theorem dX7_in_1 : decode cX7_in 1 = .ok (.iload_n 1, 1) := by decide +kernel
theorem dX7_in_2 : decode cX7_in 2 = .ok (.if_icmp .lt 12, 3) := by decide +kernel
theorem dX7_in_5 : decode cX7_in 5 = .ok (.iload_n 0, 1) := by decide +kernel
theorem dX7_in_6 : decode cX7_in 6 = .ok (.iload_n 2, 1) := by decide +kernel
theorem dX7_in_7 : decode cX7_in 7 = .ok (.if_icmp .gt 7, 3) := by decide +kernel
theorem dX7_in_10 : decode cX7_in 10 = .ok (.iconst 1, 1) := by decide +kernel
theorem dX7_in_11 : decode cX7_in 11 = .ok (.goto 4, 3) := by decide +kernel
theorem dX7_in_14 : decode cX7_in 14 = .ok (.iconst 0, 1) := by decide +kernel
theorem dX7_in_15 : decode cX7_in 15 = .ok (.ireturn, 1) := by decide +kernel
theorem dX7_isPath_0 : decode cX7_isPath 0 = .ok (.iload_n 1, 1) := by decide +kernel
theorem dX7_isPath_1 : decode cX7_isPath 1 = .ok (.iconst 0, 1) := by decide +kernel
theorem dX7_isPath_2 : decode cX7_isPath 2 = .ok (.aload_n 0, 1) := by decide +kernel
theorem dX7_isPath_3 : decode cX7_isPath 3 = .ok (.getfield 7, 3) := by decide +kernel
theorem dX7_isPath_6 : decode cX7_isPath 6 = .ok (.iconst 1, 1) := by decide +kernel
theorem dX7_isPath_7 : decode cX7_isPath 7 = .ok (.iaload, 1) := by decide +kernel
theorem dX7_isPath_8 : decode cX7_isPath 8 = .ok (.iconst 1, 1) := by decide +kernel
theorem dX7_isPath_9 : decode cX7_isPath 9 = .ok (.isub, 1) := by decide +kernel
theorem dX7_isPath_10 : decode cX7_isPath 10 = .ok (.invokestatic 36, 3) := by decide +kernel
theorem dX7_isPath_13 : decode cX7_isPath 13 = .ok (.ireturn, 1) := by decide +kernel
theorem dX7_isEntry_0 : decode cX7_isEntry 0 = .ok (.iload_n 1, 1) := by decide +kernel
theorem dX7_isEntry_1 : decode cX7_isEntry 1 = .ok (.iconst 0, 1) := by decide +kernel
theorem dX7_isEntry_2 : decode cX7_isEntry 2 = .ok (.aload_n 0, 1) := by decide +kernel
theorem dX7_isEntry_3 : decode cX7_isEntry 3 = .ok (.getfield 7, 3) := by decide +kernel
theorem dX7_isEntry_6 : decode cX7_isEntry 6 = .ok (.iconst 2, 1) := by decide +kernel
theorem dX7_isEntry_7 : decode cX7_isEntry 7 = .ok (.iaload, 1) := by decide +kernel
theorem dX7_isEntry_8 : decode cX7_isEntry 8 = .ok (.iconst 1, 1) := by decide +kernel
theorem dX7_isEntry_9 : decode cX7_isEntry 9 = .ok (.isub, 1) := by decide +kernel
theorem dX7_isEntry_10 : decode cX7_isEntry 10 = .ok (.invokestatic 36, 3) := by decide +kernel
theorem dX7_isEntry_13 : decode cX7_isEntry 13 = .ok (.ireturn, 1) := by decide +kernel
theorem dX7_isFlow_0 : decode cX7_isFlow 0 = .ok (.iload_n 0, 1) := by decide +kernel
theorem dX7_isFlow_1 : decode cX7_isFlow 1 = .ok (.iconst 0, 1) := by decide +kernel
theorem dX7_isFlow_2 : decode cX7_isFlow 2 = .ok (.bipush 15, 2) := by decide +kernel
theorem dX7_isFlow_4 : decode cX7_isFlow 4 = .ok (.invokestatic 36, 3) := by decide +kernel
theorem dX7_isFlow_7 : decode cX7_isFlow 7 = .ok (.ireturn, 1) := by decide +kernel
theorem dX7_isSize_0 : decode cX7_isSize 0 = .ok (.iload_n 0, 1) := by decide +kernel
theorem dX7_isSize_1 : decode cX7_isSize 1 = .ok (.iconst 1, 1) := by decide +kernel
theorem dX7_isSize_2 : decode cX7_isSize 2 = .ok (.sipush 1000, 3) := by decide +kernel
theorem dX7_isSize_5 : decode cX7_isSize 5 = .ok (.invokestatic 36, 3) := by decide +kernel
theorem dX7_isSize_8 : decode cX7_isSize 8 = .ok (.ireturn, 1) := by decide +kernel
theorem dX7_makeNew_0 : decode cX7_makeNew 0 = .ok (.iconst 0, 1) := by decide +kernel
theorem dX7_makeNew_1 : decode cX7_makeNew 1 = .ok (.istore_n 3, 1) := by decide +kernel
theorem dX7_makeNew_2 : decode cX7_makeNew 2 = .ok (.iload_n 3, 1) := by decide +kernel
theorem dX7_makeNew_3 : decode cX7_makeNew 3 = .ok (.sipush 153, 3) := by decide +kernel
theorem dX7_makeNew_6 : decode cX7_makeNew 6 = .ok (.if_icmp .ge 16, 3) := by decide +kernel
theorem dX7_makeNew_9 : decode cX7_makeNew 9 = .ok (.aload_n 0, 1) := by decide +kernel
theorem dX7_makeNew_10 : decode cX7_makeNew 10 = .ok (.getfield 7, 3) := by decide +kernel
theorem dX7_makeNew_13 : decode cX7_makeNew 13 = .ok (.iload_n 3, 1) := by decide +kernel
theorem dX7_makeNew_14 : decode cX7_makeNew 14 = .ok (.iconst 0, 1) := by decide +kernel
theorem dX7_makeNew_15 : decode cX7_makeNew 15 = .ok (.iastore, 1) := by decide +kernel
theorem dX7_makeNew_16 : decode cX7_makeNew 16 = .ok (.iinc 3 1, 3) := by decide +kernel
theorem dX7_makeNew_19 : decode cX7_makeNew 19 = .ok (.goto (-17), 3) := by decide +kernel
theorem dX7_makeNew_22 : decode cX7_makeNew 22 = .ok (.aload_n 0, 1) := by decide +kernel
theorem dX7_makeNew_23 : decode cX7_makeNew 23 = .ok (.getfield 7, 3) := by decide +kernel
theorem dX7_makeNew_26 : decode cX7_makeNew 26 = .ok (.iconst 1, 1) := by decide +kernel
theorem dX7_makeNew_27 : decode cX7_makeNew 27 = .ok (.iload_n 1, 1) := by decide +kernel
theorem dX7_makeNew_28 : decode cX7_makeNew 28 = .ok (.iastore, 1) := by decide +kernel
theorem dX7_makeNew_29 : decode cX7_makeNew 29 = .ok (.aload_n 0, 1) := by decide +kernel
theorem dX7_makeNew_30 : decode cX7_makeNew 30 = .ok (.getfield 7, 3) := by decide +kernel
theorem dX7_makeNew_33 : decode cX7_makeNew 33 = .ok (.iconst 2, 1) := by decide +kernel
theorem dX7_makeNew_34 : decode cX7_makeNew 34 = .ok (.iload_n 2, 1) := by decide +kernel
theorem dX7_makeNew_35 : decode cX7_makeNew 35 = .ok (.iastore, 1) := by decide +kernel
theorem dX7_makeNew_36 : decode cX7_makeNew 36 = .ok (.aload_n 0, 1) := by decide +kernel
theorem dX7_makeNew_37 : decode cX7_makeNew 37 = .ok (.getfield 7, 3) := by decide +kernel
theorem dX7_makeNew_40 : decode cX7_makeNew 40 = .ok (.iconst 3, 1) := by decide +kernel
theorem dX7_makeNew_41 : decode cX7_makeNew 41 = .ok (.bipush 20, 2) := by decide +kernel
theorem dX7_makeNew_43 : decode cX7_makeNew 43 = .ok (.iastore, 1) := by decide +kernel
theorem dX7_makeNew_44 : decode cX7_makeNew 44 = .ok (.aload_n 0, 1) := by decide +kernel
theorem dX7_makeNew_45 : decode cX7_makeNew 45 = .ok (.getfield 7, 3) := by decide +kernel
theorem dX7_makeNew_48 : decode cX7_makeNew 48 = .ok (.iconst 5, 1) := by decide +kernel
theorem dX7_makeNew_49 : decode cX7_makeNew 49 = .ok (.iconst 1, 1) := by decide +kernel
theorem dX7_makeNew_50 : decode cX7_makeNew 50 = .ok (.iastore, 1) := by decide +kernel
theorem dX7_makeNew_51 : decode cX7_makeNew 51 = .ok (.aload_n 0, 1) := by decide +kernel
theorem dX7_makeNew_52 : decode cX7_makeNew 52 = .ok (.getfield 7, 3) := by decide +kernel
theorem dX7_makeNew_55 : decode cX7_makeNew 55 = .ok (.bipush 6, 2) := by decide +kernel
theorem dX7_makeNew_57 : decode cX7_makeNew 57 = .ok (.iconst 2, 1) := by decide +kernel
theorem dX7_makeNew_58 : decode cX7_makeNew 58 = .ok (.iastore, 1) := by decide +kernel
theorem dX7_makeNew_59 : decode cX7_makeNew 59 = .ok (.aload_n 0, 1) := by decide +kernel
theorem dX7_makeNew_60 : decode cX7_makeNew 60 = .ok (.getfield 7, 3) := by decide +kernel
theorem dX7_makeNew_63 : decode cX7_makeNew 63 = .ok (.bipush 7, 2) := by decide +kernel
theorem dX7_makeNew_65 : decode cX7_makeNew 65 = .ok (.iconst 1, 1) := by decide +kernel
theorem dX7_makeNew_66 : decode cX7_makeNew 66 = .ok (.iastore, 1) := by decide +kernel
theorem dX7_makeNew_67 : decode cX7_makeNew 67 = .ok (.iconst 0, 1) := by decide +kernel
theorem dX7_makeNew_68 : decode cX7_makeNew 68 = .ok (.istore_n 3, 1) := by decide +kernel
theorem dX7_makeNew_69 : decode cX7_makeNew 69 = .ok (.iload_n 3, 1) := by decide +kernel
theorem dX7_makeNew_70 : decode cX7_makeNew 70 = .ok (.iconst 4, 1) := by decide +kernel
theorem dX7_makeNew_71 : decode cX7_makeNew 71 = .ok (.if_icmp .ge 31, 3) := by decide +kernel
theorem dX7_makeNew_74 : decode cX7_makeNew 74 = .ok (.aload_n 0, 1) := by decide +kernel
theorem dX7_makeNew_75 : decode cX7_makeNew 75 = .ok (.getfield 7, 3) := by decide +kernel
theorem dX7_makeNew_78 : decode cX7_makeNew 78 = .ok (.bipush 9, 2) := by decide +kernel
theorem dX7_makeNew_80 : decode cX7_makeNew 80 = .ok (.iload_n 3, 1) := by decide +kernel
theorem dX7_makeNew_81 : decode cX7_makeNew 81 = .ok (.iadd, 1) := by decide +kernel
theorem dX7_makeNew_82 : decode cX7_makeNew 82 = .ok (.bipush 10, 2) := by decide +kernel
theorem dX7_makeNew_84 : decode cX7_makeNew 84 = .ok (.iastore, 1) := by decide +kernel
theorem dX7_makeNew_85 : decode cX7_makeNew 85 = .ok (.aload_n 0, 1) := by decide +kernel
theorem dX7_makeNew_86 : decode cX7_makeNew 86 = .ok (.getfield 7, 3) := by decide +kernel
theorem dX7_makeNew_89 : decode cX7_makeNew 89 = .ok (.bipush 13, 2) := by decide +kernel
theorem dX7_makeNew_91 : decode cX7_makeNew 91 = .ok (.iload_n 3, 1) := by decide +kernel
theorem dX7_makeNew_92 : decode cX7_makeNew 92 = .ok (.iadd, 1) := by decide +kernel
theorem dX7_makeNew_93 : decode cX7_makeNew 93 = .ok (.bipush 10, 2) := by decide +kernel
theorem dX7_makeNew_95 : decode cX7_makeNew 95 = .ok (.iastore, 1) := by decide +kernel
theorem dX7_makeNew_96 : decode cX7_makeNew 96 = .ok (.iinc 3 1, 3) := by decide +kernel
theorem dX7_makeNew_99 : decode cX7_makeNew 99 = .ok (.goto (-30), 3) := by decide +kernel
theorem dX7_makeNew_102 : decode cX7_makeNew 102 = .ok (.iconst 0, 1) := by decide +kernel
theorem dX7_makeNew_103 : decode cX7_makeNew 103 = .ok (.istore_n 3, 1) := by decide +kernel
theorem dX7_makeNew_104 : decode cX7_makeNew 104 = .ok (.iload_n 3, 1) := by decide +kernel
theorem dX7_makeNew_105 : decode cX7_makeNew 105 = .ok (.bipush 8, 2) := by decide +kernel
theorem dX7_makeNew_107 : decode cX7_makeNew 107 = .ok (.if_icmp .ge 20, 3) := by decide +kernel
theorem dX7_makeNew_110 : decode cX7_makeNew 110 = .ok (.aload_n 0, 1) := by decide +kernel
theorem dX7_makeNew_111 : decode cX7_makeNew 111 = .ok (.getfield 7, 3) := by decide +kernel
theorem dX7_makeNew_114 : decode cX7_makeNew 114 = .ok (.bipush 49, 2) := by decide +kernel
theorem dX7_makeNew_116 : decode cX7_makeNew 116 = .ok (.iload_n 3, 1) := by decide +kernel
theorem dX7_makeNew_117 : decode cX7_makeNew 117 = .ok (.iadd, 1) := by decide +kernel
theorem dX7_makeNew_118 : decode cX7_makeNew 118 = .ok (.bipush (-9), 2) := by decide +kernel
theorem dX7_makeNew_120 : decode cX7_makeNew 120 = .ok (.iastore, 1) := by decide +kernel
theorem dX7_makeNew_121 : decode cX7_makeNew 121 = .ok (.iinc 3 1, 3) := by decide +kernel
theorem dX7_makeNew_124 : decode cX7_makeNew 124 = .ok (.goto (-20), 3) := by decide +kernel
theorem dX7_makeNew_127 : decode cX7_makeNew 127 = .ok (.iconst 0, 1) := by decide +kernel
theorem dX7_makeNew_128 : decode cX7_makeNew 128 = .ok (.istore_n 3, 1) := by decide +kernel
theorem dX7_makeNew_129 : decode cX7_makeNew 129 = .ok (.iload_n 3, 1) := by decide +kernel
theorem dX7_makeNew_130 : decode cX7_makeNew 130 = .ok (.bipush 16, 2) := by decide +kernel
theorem dX7_makeNew_132 : decode cX7_makeNew 132 = .ok (.if_icmp .ge 32, 3) := by decide +kernel
theorem dX7_makeNew_135 : decode cX7_makeNew 135 = .ok (.aload_n 0, 1) := by decide +kernel
theorem dX7_makeNew_136 : decode cX7_makeNew 136 = .ok (.getfield 7, 3) := by decide +kernel
theorem dX7_makeNew_139 : decode cX7_makeNew 139 = .ok (.bipush 105, 2) := by decide +kernel
theorem dX7_makeNew_141 : decode cX7_makeNew 141 = .ok (.iload_n 3, 1) := by decide +kernel
theorem dX7_makeNew_142 : decode cX7_makeNew 142 = .ok (.iadd, 1) := by decide +kernel
theorem dX7_makeNew_143 : decode cX7_makeNew 143 = .ok (.bipush (-9), 2) := by decide +kernel
theorem dX7_makeNew_145 : decode cX7_makeNew 145 = .ok (.iastore, 1) := by decide +kernel
theorem dX7_makeNew_146 : decode cX7_makeNew 146 = .ok (.aload_n 0, 1) := by decide +kernel
theorem dX7_makeNew_147 : decode cX7_makeNew 147 = .ok (.getfield 7, 3) := by decide +kernel
theorem dX7_makeNew_150 : decode cX7_makeNew 150 = .ok (.sipush 137, 3) := by decide +kernel
theorem dX7_makeNew_153 : decode cX7_makeNew 153 = .ok (.iload_n 3, 1) := by decide +kernel
theorem dX7_makeNew_154 : decode cX7_makeNew 154 = .ok (.iadd, 1) := by decide +kernel
theorem dX7_makeNew_155 : decode cX7_makeNew 155 = .ok (.bipush (-9), 2) := by decide +kernel
theorem dX7_makeNew_157 : decode cX7_makeNew 157 = .ok (.iastore, 1) := by decide +kernel
theorem dX7_makeNew_158 : decode cX7_makeNew 158 = .ok (.iinc 3 1, 3) := by decide +kernel
theorem dX7_makeNew_161 : decode cX7_makeNew 161 = .ok (.goto (-32), 3) := by decide +kernel
theorem dX7_makeNew_164 : decode cX7_makeNew 164 = .ok (.return_, 1) := by decide +kernel
theorem dX7_keep_0 : decode cX7_keep 0 = .ok (.aload_n 0, 1) := by decide +kernel
theorem dX7_keep_1 : decode cX7_keep 1 = .ok (.getfield 40, 3) := by decide +kernel
theorem dX7_keep_4 : decode cX7_keep 4 = .ok (.bipush 8, 2) := by decide +kernel
theorem dX7_keep_6 : decode cX7_keep 6 = .ok (.if_icmp .ne 44, 3) := by decide +kernel
theorem dX7_keep_9 : decode cX7_keep 9 = .ok (.iconst 0, 1) := by decide +kernel
theorem dX7_keep_10 : decode cX7_keep 10 = .ok (.istore_n 1, 1) := by decide +kernel
theorem dX7_keep_11 : decode cX7_keep 11 = .ok (.iload_n 1, 1) := by decide +kernel
theorem dX7_keep_12 : decode cX7_keep 12 = .ok (.sipush 1071, 3) := by decide +kernel
theorem dX7_keep_15 : decode cX7_keep 15 = .ok (.if_icmp .ge 25, 3) := by decide +kernel
theorem dX7_keep_18 : decode cX7_keep 18 = .ok (.aload_n 0, 1) := by decide +kernel
theorem dX7_keep_19 : decode cX7_keep 19 = .ok (.getfield 13, 3) := by decide +kernel
theorem dX7_keep_22 : decode cX7_keep 22 = .ok (.iload_n 1, 1) := by decide +kernel
theorem dX7_keep_23 : decode cX7_keep 23 = .ok (.aload_n 0, 1) := by decide +kernel
theorem dX7_keep_24 : decode cX7_keep 24 = .ok (.getfield 13, 3) := by decide +kernel
theorem dX7_keep_27 : decode cX7_keep 27 = .ok (.iload_n 1, 1) := by decide +kernel
theorem dX7_keep_28 : decode cX7_keep 28 = .ok (.sipush 153, 3) := by decide +kernel
theorem dX7_keep_31 : decode cX7_keep 31 = .ok (.iadd, 1) := by decide +kernel
theorem dX7_keep_32 : decode cX7_keep 32 = .ok (.iaload, 1) := by decide +kernel
theorem dX7_keep_33 : decode cX7_keep 33 = .ok (.iastore, 1) := by decide +kernel
theorem dX7_keep_34 : decode cX7_keep 34 = .ok (.iinc 1 1, 3) := by decide +kernel
theorem dX7_keep_37 : decode cX7_keep 37 = .ok (.goto (-26), 3) := by decide +kernel
theorem dX7_keep_40 : decode cX7_keep 40 = .ok (.aload_n 0, 1) := by decide +kernel
theorem dX7_keep_41 : decode cX7_keep 41 = .ok (.dup, 1) := by decide +kernel
theorem dX7_keep_42 : decode cX7_keep 42 = .ok (.getfield 40, 3) := by decide +kernel
theorem dX7_keep_45 : decode cX7_keep 45 = .ok (.iconst 1, 1) := by decide +kernel
theorem dX7_keep_46 : decode cX7_keep 46 = .ok (.isub, 1) := by decide +kernel
theorem dX7_keep_47 : decode cX7_keep 47 = .ok (.putfield 40, 3) := by decide +kernel
theorem dX7_keep_50 : decode cX7_keep 50 = .ok (.iconst 0, 1) := by decide +kernel
theorem dX7_keep_51 : decode cX7_keep 51 = .ok (.istore_n 1, 1) := by decide +kernel
theorem dX7_keep_52 : decode cX7_keep 52 = .ok (.iload_n 1, 1) := by decide +kernel
theorem dX7_keep_53 : decode cX7_keep 53 = .ok (.sipush 153, 3) := by decide +kernel
theorem dX7_keep_56 : decode cX7_keep 56 = .ok (.if_icmp .ge 30, 3) := by decide +kernel
theorem dX7_keep_59 : decode cX7_keep 59 = .ok (.aload_n 0, 1) := by decide +kernel
theorem dX7_keep_60 : decode cX7_keep 60 = .ok (.getfield 13, 3) := by decide +kernel
theorem dX7_keep_63 : decode cX7_keep 63 = .ok (.sipush 153, 3) := by decide +kernel
theorem dX7_keep_66 : decode cX7_keep 66 = .ok (.aload_n 0, 1) := by decide +kernel
theorem dX7_keep_67 : decode cX7_keep 67 = .ok (.getfield 40, 3) := by decide +kernel
theorem dX7_keep_70 : decode cX7_keep 70 = .ok (.imul, 1) := by decide +kernel
theorem dX7_keep_71 : decode cX7_keep 71 = .ok (.iload_n 1, 1) := by decide +kernel
theorem dX7_keep_72 : decode cX7_keep 72 = .ok (.iadd, 1) := by decide +kernel
theorem dX7_keep_73 : decode cX7_keep 73 = .ok (.aload_n 0, 1) := by decide +kernel
theorem dX7_keep_74 : decode cX7_keep 74 = .ok (.getfield 7, 3) := by decide +kernel
theorem dX7_keep_77 : decode cX7_keep 77 = .ok (.iload_n 1, 1) := by decide +kernel
theorem dX7_keep_78 : decode cX7_keep 78 = .ok (.iaload, 1) := by decide +kernel
theorem dX7_keep_79 : decode cX7_keep 79 = .ok (.iastore, 1) := by decide +kernel
theorem dX7_keep_80 : decode cX7_keep 80 = .ok (.iinc 1 1, 3) := by decide +kernel
theorem dX7_keep_83 : decode cX7_keep 83 = .ok (.goto (-31), 3) := by decide +kernel
theorem dX7_keep_86 : decode cX7_keep 86 = .ok (.aload_n 0, 1) := by decide +kernel
theorem dX7_keep_87 : decode cX7_keep 87 = .ok (.dup, 1) := by decide +kernel
theorem dX7_keep_88 : decode cX7_keep 88 = .ok (.getfield 40, 3) := by decide +kernel
theorem dX7_keep_91 : decode cX7_keep 91 = .ok (.iconst 1, 1) := by decide +kernel
theorem dX7_keep_92 : decode cX7_keep 92 = .ok (.iadd, 1) := by decide +kernel
theorem dX7_keep_93 : decode cX7_keep 93 = .ok (.putfield 40, 3) := by decide +kernel
theorem dX7_keep_96 : decode cX7_keep 96 = .ok (.return_, 1) := by decide +kernel
theorem dX7_slotOf_0 : decode cX7_slotOf 0 = .ok (.bipush 7, 2) := by decide +kernel
theorem dX7_slotOf_2 : decode cX7_slotOf 2 = .ok (.iload_n 1, 1) := by decide +kernel
theorem dX7_slotOf_3 : decode cX7_slotOf 3 = .ok (.imul, 1) := by decide +kernel
theorem dX7_slotOf_4 : decode cX7_slotOf 4 = .ok (.iconst 3, 1) := by decide +kernel
theorem dX7_slotOf_5 : decode cX7_slotOf 5 = .ok (.iadd, 1) := by decide +kernel
theorem dX7_slotOf_6 : decode cX7_slotOf 6 = .ok (.aload_n 0, 1) := by decide +kernel
theorem dX7_slotOf_7 : decode cX7_slotOf 7 = .ok (.getfield 7, 3) := by decide +kernel
theorem dX7_slotOf_10 : decode cX7_slotOf 10 = .ok (.iconst 2, 1) := by decide +kernel
theorem dX7_slotOf_11 : decode cX7_slotOf 11 = .ok (.iaload, 1) := by decide +kernel
theorem dX7_slotOf_12 : decode cX7_slotOf 12 = .ok (.irem, 1) := by decide +kernel
theorem dX7_slotOf_13 : decode cX7_slotOf 13 = .ok (.ireturn, 1) := by decide +kernel
theorem dX7_configure_0 : decode cX7_configure 0 = .ok (.iload_n 1, 1) := by decide +kernel
theorem dX7_configure_1 : decode cX7_configure 1 = .ok (.iconst 2, 1) := by decide +kernel
theorem dX7_configure_2 : decode cX7_configure 2 = .ok (.iconst 4, 1) := by decide +kernel
theorem dX7_configure_3 : decode cX7_configure 3 = .ok (.invokestatic 36, 3) := by decide +kernel
theorem dX7_configure_6 : decode cX7_configure 6 = .ok (.ifCond .eq 13, 3) := by decide +kernel
theorem dX7_configure_9 : decode cX7_configure 9 = .ok (.iload_n 2, 1) := by decide +kernel
theorem dX7_configure_10 : decode cX7_configure 10 = .ok (.iconst 1, 1) := by decide +kernel
theorem dX7_configure_11 : decode cX7_configure 11 = .ok (.bipush 8, 2) := by decide +kernel
theorem dX7_configure_13 : decode cX7_configure 13 = .ok (.invokestatic 36, 3) := by decide +kernel
theorem dX7_configure_16 : decode cX7_configure 16 = .ok (.ifCond .ne 5, 3) := by decide +kernel
theorem dX7_configure_19 : decode cX7_configure 19 = .ok (.iconst (-1), 1) := by decide +kernel
theorem dX7_configure_20 : decode cX7_configure 20 = .ok (.ireturn, 1) := by decide +kernel
theorem dX7_configure_21 : decode cX7_configure 21 = .ok (.aload_n 0, 1) := by decide +kernel
theorem dX7_configure_22 : decode cX7_configure 22 = .ok (.invokevirtual 44, 3) := by decide +kernel
theorem dX7_configure_25 : decode cX7_configure 25 = .ok (.aload_n 0, 1) := by decide +kernel
theorem dX7_configure_26 : decode cX7_configure 26 = .ok (.iload_n 1, 1) := by decide +kernel
theorem dX7_configure_27 : decode cX7_configure 27 = .ok (.iload_n 2, 1) := by decide +kernel
theorem dX7_configure_28 : decode cX7_configure 28 = .ok (.invokevirtual 32, 3) := by decide +kernel
theorem dX7_configure_31 : decode cX7_configure 31 = .ok (.iconst 0, 1) := by decide +kernel
theorem dX7_configure_32 : decode cX7_configure 32 = .ok (.istore_n 3, 1) := by decide +kernel
theorem dX7_configure_33 : decode cX7_configure 33 = .ok (.iconst 0, 1) := by decide +kernel
theorem dX7_configure_34 : decode cX7_configure 34 = .ok (.istore 4, 2) := by decide +kernel
theorem dX7_configure_36 : decode cX7_configure 36 = .ok (.iload 4, 2) := by decide +kernel
theorem dX7_configure_38 : decode cX7_configure 38 = .ok (.bipush 16, 2) := by decide +kernel
theorem dX7_configure_40 : decode cX7_configure 40 = .ok (.if_icmp .ge 26, 3) := by decide +kernel
theorem dX7_configure_43 : decode cX7_configure 43 = .ok (.iload_n 3, 1) := by decide +kernel
theorem dX7_configure_44 : decode cX7_configure 44 = .ok (.aload_n 0, 1) := by decide +kernel
theorem dX7_configure_45 : decode cX7_configure 45 = .ok (.iload 4, 2) := by decide +kernel
theorem dX7_configure_47 : decode cX7_configure 47 = .ok (.invokevirtual 47, 3) := by decide +kernel
theorem dX7_configure_50 : decode cX7_configure 50 = .ok (.ifCond .ne 7, 3) := by decide +kernel
theorem dX7_configure_53 : decode cX7_configure 53 = .ok (.iconst 1, 1) := by decide +kernel
theorem dX7_configure_54 : decode cX7_configure 54 = .ok (.goto 4, 3) := by decide +kernel
theorem dX7_configure_57 : decode cX7_configure 57 = .ok (.iconst 0, 1) := by decide +kernel
theorem dX7_configure_58 : decode cX7_configure 58 = .ok (.iadd, 1) := by decide +kernel
theorem dX7_configure_59 : decode cX7_configure 59 = .ok (.istore_n 3, 1) := by decide +kernel
theorem dX7_configure_60 : decode cX7_configure 60 = .ok (.iinc 4 1, 3) := by decide +kernel
theorem dX7_configure_63 : decode cX7_configure 63 = .ok (.goto (-27), 3) := by decide +kernel
theorem dX7_configure_66 : decode cX7_configure 66 = .ok (.iload_n 3, 1) := by decide +kernel
theorem dX7_configure_67 : decode cX7_configure 67 = .ok (.ireturn, 1) := by decide +kernel
theorem dX7_change_0 : decode cX7_change 0 = .ok (.aload_n 0, 1) := by decide +kernel
theorem dX7_change_1 : decode cX7_change 1 = .ok (.invokevirtual 44, 3) := by decide +kernel
theorem dX7_change_4 : decode cX7_change 4 = .ok (.aload_n 0, 1) := by decide +kernel
theorem dX7_change_5 : decode cX7_change 5 = .ok (.getfield 7, 3) := by decide +kernel
theorem dX7_change_8 : decode cX7_change 8 = .ok (.iload_n 1, 1) := by decide +kernel
theorem dX7_change_9 : decode cX7_change 9 = .ok (.iaload, 1) := by decide +kernel
theorem dX7_change_10 : decode cX7_change 10 = .ok (.istore_n 3, 1) := by decide +kernel
theorem dX7_change_11 : decode cX7_change 11 = .ok (.aload_n 0, 1) := by decide +kernel
theorem dX7_change_12 : decode cX7_change 12 = .ok (.getfield 7, 3) := by decide +kernel
theorem dX7_change_15 : decode cX7_change 15 = .ok (.iload_n 1, 1) := by decide +kernel
theorem dX7_change_16 : decode cX7_change 16 = .ok (.iload_n 2, 1) := by decide +kernel
theorem dX7_change_17 : decode cX7_change 17 = .ok (.iastore, 1) := by decide +kernel
theorem dX7_change_18 : decode cX7_change 18 = .ok (.iload_n 3, 1) := by decide +kernel
theorem dX7_change_19 : decode cX7_change 19 = .ok (.ireturn, 1) := by decide +kernel
theorem dX7_setDelay_0 : decode cX7_setDelay 0 = .ok (.aload_n 0, 1) := by decide +kernel
theorem dX7_setDelay_1 : decode cX7_setDelay 1 = .ok (.iload_n 1, 1) := by decide +kernel
theorem dX7_setDelay_2 : decode cX7_setDelay 2 = .ok (.invokevirtual 51, 3) := by decide +kernel
theorem dX7_setDelay_5 : decode cX7_setDelay 5 = .ok (.ifCond .eq 25, 3) := by decide +kernel
theorem dX7_setDelay_8 : decode cX7_setDelay 8 = .ok (.iload_n 2, 1) := by decide +kernel
theorem dX7_setDelay_9 : decode cX7_setDelay 9 = .ok (.iconst 0, 1) := by decide +kernel
theorem dX7_setDelay_10 : decode cX7_setDelay 10 = .ok (.bipush 50, 2) := by decide +kernel
theorem dX7_setDelay_12 : decode cX7_setDelay 12 = .ok (.invokestatic 36, 3) := by decide +kernel
theorem dX7_setDelay_15 : decode cX7_setDelay 15 = .ok (.ifCond .eq 15, 3) := by decide +kernel
theorem dX7_setDelay_18 : decode cX7_setDelay 18 = .ok (.aload_n 0, 1) := by decide +kernel
theorem dX7_setDelay_19 : decode cX7_setDelay 19 = .ok (.bipush 9, 2) := by decide +kernel
theorem dX7_setDelay_21 : decode cX7_setDelay 21 = .ok (.iload_n 1, 1) := by decide +kernel
theorem dX7_setDelay_22 : decode cX7_setDelay 22 = .ok (.iadd, 1) := by decide +kernel
theorem dX7_setDelay_23 : decode cX7_setDelay 23 = .ok (.iload_n 2, 1) := by decide +kernel
theorem dX7_setDelay_24 : decode cX7_setDelay 24 = .ok (.invokevirtual 55, 3) := by decide +kernel
theorem dX7_setDelay_27 : decode cX7_setDelay 27 = .ok (.goto 4, 3) := by decide +kernel
theorem dX7_setDelay_30 : decode cX7_setDelay 30 = .ok (.iconst (-1), 1) := by decide +kernel
theorem dX7_setDelay_31 : decode cX7_setDelay 31 = .ok (.ireturn, 1) := by decide +kernel
theorem dX7_setRate_0 : decode cX7_setRate 0 = .ok (.aload_n 0, 1) := by decide +kernel
theorem dX7_setRate_1 : decode cX7_setRate 1 = .ok (.iload_n 1, 1) := by decide +kernel
theorem dX7_setRate_2 : decode cX7_setRate 2 = .ok (.invokevirtual 51, 3) := by decide +kernel
theorem dX7_setRate_5 : decode cX7_setRate 5 = .ok (.ifCond .eq 25, 3) := by decide +kernel
theorem dX7_setRate_8 : decode cX7_setRate 8 = .ok (.iload_n 2, 1) := by decide +kernel
theorem dX7_setRate_9 : decode cX7_setRate 9 = .ok (.iconst 1, 1) := by decide +kernel
theorem dX7_setRate_10 : decode cX7_setRate 10 = .ok (.bipush 100, 2) := by decide +kernel
theorem dX7_setRate_12 : decode cX7_setRate 12 = .ok (.invokestatic 36, 3) := by decide +kernel
theorem dX7_setRate_15 : decode cX7_setRate 15 = .ok (.ifCond .eq 15, 3) := by decide +kernel
theorem dX7_setRate_18 : decode cX7_setRate 18 = .ok (.aload_n 0, 1) := by decide +kernel
theorem dX7_setRate_19 : decode cX7_setRate 19 = .ok (.bipush 13, 2) := by decide +kernel
theorem dX7_setRate_21 : decode cX7_setRate 21 = .ok (.iload_n 1, 1) := by decide +kernel
theorem dX7_setRate_22 : decode cX7_setRate 22 = .ok (.iadd, 1) := by decide +kernel
theorem dX7_setRate_23 : decode cX7_setRate 23 = .ok (.iload_n 2, 1) := by decide +kernel
theorem dX7_setRate_24 : decode cX7_setRate 24 = .ok (.invokevirtual 55, 3) := by decide +kernel
theorem dX7_setRate_27 : decode cX7_setRate 27 = .ok (.goto 4, 3) := by decide +kernel
theorem dX7_setRate_30 : decode cX7_setRate 30 = .ok (.iconst (-1), 1) := by decide +kernel
theorem dX7_setRate_31 : decode cX7_setRate 31 = .ok (.ireturn, 1) := by decide +kernel
theorem dX7_setRemoteLevel_0 : decode cX7_setRemoteLevel 0 = .ok (.aload_n 0, 1) := by decide +kernel
theorem dX7_setRemoteLevel_1 : decode cX7_setRemoteLevel 1 = .ok (.iload_n 1, 1) := by decide +kernel
theorem dX7_setRemoteLevel_2 : decode cX7_setRemoteLevel 2 = .ok (.invokevirtual 51, 3) := by decide +kernel
theorem dX7_setRemoteLevel_5 : decode cX7_setRemoteLevel 5 = .ok (.ifCond .eq 25, 3) := by decide +kernel
theorem dX7_setRemoteLevel_8 : decode cX7_setRemoteLevel 8 = .ok (.iload_n 2, 1) := by decide +kernel
theorem dX7_setRemoteLevel_9 : decode cX7_setRemoteLevel 9 = .ok (.iconst 0, 1) := by decide +kernel
theorem dX7_setRemoteLevel_10 : decode cX7_setRemoteLevel 10 = .ok (.bipush 7, 2) := by decide +kernel
theorem dX7_setRemoteLevel_12 : decode cX7_setRemoteLevel 12 = .ok (.invokestatic 36, 3) := by decide +kernel
theorem dX7_setRemoteLevel_15 : decode cX7_setRemoteLevel 15 = .ok (.ifCond .eq 15, 3) := by decide +kernel
theorem dX7_setRemoteLevel_18 : decode cX7_setRemoteLevel 18 = .ok (.aload_n 0, 1) := by decide +kernel
theorem dX7_setRemoteLevel_19 : decode cX7_setRemoteLevel 19 = .ok (.bipush 17, 2) := by decide +kernel
theorem dX7_setRemoteLevel_21 : decode cX7_setRemoteLevel 21 = .ok (.iload_n 1, 1) := by decide +kernel
theorem dX7_setRemoteLevel_22 : decode cX7_setRemoteLevel 22 = .ok (.iadd, 1) := by decide +kernel
theorem dX7_setRemoteLevel_23 : decode cX7_setRemoteLevel 23 = .ok (.iload_n 2, 1) := by decide +kernel
theorem dX7_setRemoteLevel_24 : decode cX7_setRemoteLevel 24 = .ok (.invokevirtual 55, 3) := by decide +kernel
theorem dX7_setRemoteLevel_27 : decode cX7_setRemoteLevel 27 = .ok (.goto 4, 3) := by decide +kernel
theorem dX7_setRemoteLevel_30 : decode cX7_setRemoteLevel 30 = .ok (.iconst (-1), 1) := by decide +kernel
theorem dX7_setRemoteLevel_31 : decode cX7_setRemoteLevel 31 = .ok (.ireturn, 1) := by decide +kernel
theorem dX7_setMode_0 : decode cX7_setMode 0 = .ok (.iload_n 1, 1) := by decide +kernel
theorem dX7_setMode_1 : decode cX7_setMode 1 = .ok (.iconst 0, 1) := by decide +kernel
theorem dX7_setMode_2 : decode cX7_setMode 2 = .ok (.iconst 3, 1) := by decide +kernel
theorem dX7_setMode_3 : decode cX7_setMode 3 = .ok (.invokestatic 36, 3) := by decide +kernel
theorem dX7_setMode_6 : decode cX7_setMode 6 = .ok (.ifCond .eq 12, 3) := by decide +kernel
theorem dX7_setMode_9 : decode cX7_setMode 9 = .ok (.aload_n 0, 1) := by decide +kernel
theorem dX7_setMode_10 : decode cX7_setMode 10 = .ok (.iconst 5, 1) := by decide +kernel
theorem dX7_setMode_11 : decode cX7_setMode 11 = .ok (.iload_n 1, 1) := by decide +kernel
theorem dX7_setMode_12 : decode cX7_setMode 12 = .ok (.invokevirtual 55, 3) := by decide +kernel
theorem dX7_setMode_15 : decode cX7_setMode 15 = .ok (.goto 4, 3) := by decide +kernel
theorem dX7_setMode_18 : decode cX7_setMode 18 = .ok (.iconst (-1), 1) := by decide +kernel
theorem dX7_setMode_19 : decode cX7_setMode 19 = .ok (.ireturn, 1) := by decide +kernel
theorem dX7_setDetection_0 : decode cX7_setDetection 0 = .ok (.iload_n 1, 1) := by decide +kernel
theorem dX7_setDetection_1 : decode cX7_setDetection 1 = .ok (.iconst 0, 1) := by decide +kernel
theorem dX7_setDetection_2 : decode cX7_setDetection 2 = .ok (.iconst 1, 1) := by decide +kernel
theorem dX7_setDetection_3 : decode cX7_setDetection 3 = .ok (.invokestatic 36, 3) := by decide +kernel
theorem dX7_setDetection_6 : decode cX7_setDetection 6 = .ok (.ifCond .eq 12, 3) := by decide +kernel
theorem dX7_setDetection_9 : decode cX7_setDetection 9 = .ok (.aload_n 0, 1) := by decide +kernel
theorem dX7_setDetection_10 : decode cX7_setDetection 10 = .ok (.iconst 4, 1) := by decide +kernel
theorem dX7_setDetection_11 : decode cX7_setDetection 11 = .ok (.iload_n 1, 1) := by decide +kernel
theorem dX7_setDetection_12 : decode cX7_setDetection 12 = .ok (.invokevirtual 55, 3) := by decide +kernel
theorem dX7_setDetection_15 : decode cX7_setDetection 15 = .ok (.goto 4, 3) := by decide +kernel
theorem dX7_setDetection_18 : decode cX7_setDetection 18 = .ok (.iconst (-1), 1) := by decide +kernel
theorem dX7_setDetection_19 : decode cX7_setDetection 19 = .ok (.ireturn, 1) := by decide +kernel
theorem dX7_setGap_0 : decode cX7_setGap 0 = .ok (.iload_n 1, 1) := by decide +kernel
theorem dX7_setGap_1 : decode cX7_setGap 1 = .ok (.iconst 1, 1) := by decide +kernel
theorem dX7_setGap_2 : decode cX7_setGap 2 = .ok (.sipush 200, 3) := by decide +kernel
theorem dX7_setGap_5 : decode cX7_setGap 5 = .ok (.invokestatic 36, 3) := by decide +kernel
theorem dX7_setGap_8 : decode cX7_setGap 8 = .ok (.ifCond .eq 12, 3) := by decide +kernel
theorem dX7_setGap_11 : decode cX7_setGap 11 = .ok (.aload_n 0, 1) := by decide +kernel
theorem dX7_setGap_12 : decode cX7_setGap 12 = .ok (.iconst 3, 1) := by decide +kernel
theorem dX7_setGap_13 : decode cX7_setGap 13 = .ok (.iload_n 1, 1) := by decide +kernel
theorem dX7_setGap_14 : decode cX7_setGap 14 = .ok (.invokevirtual 55, 3) := by decide +kernel
theorem dX7_setGap_17 : decode cX7_setGap 17 = .ok (.goto 4, 3) := by decide +kernel
theorem dX7_setGap_20 : decode cX7_setGap 20 = .ok (.iconst (-1), 1) := by decide +kernel
theorem dX7_setGap_21 : decode cX7_setGap 21 = .ok (.ireturn, 1) := by decide +kernel
theorem dX7_setShift_0 : decode cX7_setShift 0 = .ok (.iload_n 1, 1) := by decide +kernel
theorem dX7_setShift_1 : decode cX7_setShift 1 = .ok (.iconst 1, 1) := by decide +kernel
theorem dX7_setShift_2 : decode cX7_setShift 2 = .ok (.iconst 4, 1) := by decide +kernel
theorem dX7_setShift_3 : decode cX7_setShift 3 = .ok (.invokestatic 36, 3) := by decide +kernel
theorem dX7_setShift_6 : decode cX7_setShift 6 = .ok (.ifCond .eq 13, 3) := by decide +kernel
theorem dX7_setShift_9 : decode cX7_setShift 9 = .ok (.aload_n 0, 1) := by decide +kernel
theorem dX7_setShift_10 : decode cX7_setShift 10 = .ok (.bipush 6, 2) := by decide +kernel
theorem dX7_setShift_12 : decode cX7_setShift 12 = .ok (.iload_n 1, 1) := by decide +kernel
theorem dX7_setShift_13 : decode cX7_setShift 13 = .ok (.invokevirtual 55, 3) := by decide +kernel
theorem dX7_setShift_16 : decode cX7_setShift 16 = .ok (.goto 4, 3) := by decide +kernel
theorem dX7_setShift_19 : decode cX7_setShift 19 = .ok (.iconst (-1), 1) := by decide +kernel
theorem dX7_setShift_20 : decode cX7_setShift 20 = .ok (.ireturn, 1) := by decide +kernel
theorem dX7_setGenerator_0 : decode cX7_setGenerator 0 = .ok (.iload_n 1, 1) := by decide +kernel
theorem dX7_setGenerator_1 : decode cX7_setGenerator 1 = .ok (.ifCond .lt 13, 3) := by decide +kernel
theorem dX7_setGenerator_4 : decode cX7_setGenerator 4 = .ok (.aload_n 0, 1) := by decide +kernel
theorem dX7_setGenerator_5 : decode cX7_setGenerator 5 = .ok (.bipush 7, 2) := by decide +kernel
theorem dX7_setGenerator_7 : decode cX7_setGenerator 7 = .ok (.iload_n 1, 1) := by decide +kernel
theorem dX7_setGenerator_8 : decode cX7_setGenerator 8 = .ok (.invokevirtual 55, 3) := by decide +kernel
theorem dX7_setGenerator_11 : decode cX7_setGenerator 11 = .ok (.goto 4, 3) := by decide +kernel
theorem dX7_setGenerator_14 : decode cX7_setGenerator 14 = .ok (.iconst (-1), 1) := by decide +kernel
theorem dX7_setGenerator_15 : decode cX7_setGenerator 15 = .ok (.ireturn, 1) := by decide +kernel
theorem dX7_age_0 : decode cX7_age 0 = .ok (.iconst 0, 1) := by decide +kernel
theorem dX7_age_1 : decode cX7_age 1 = .ok (.istore_n 1, 1) := by decide +kernel
theorem dX7_age_2 : decode cX7_age 2 = .ok (.iload_n 1, 1) := by decide +kernel
theorem dX7_age_3 : decode cX7_age 3 = .ok (.aload_n 0, 1) := by decide +kernel
theorem dX7_age_4 : decode cX7_age 4 = .ok (.getfield 7, 3) := by decide +kernel
theorem dX7_age_7 : decode cX7_age 7 = .ok (.iconst 2, 1) := by decide +kernel
theorem dX7_age_8 : decode cX7_age 8 = .ok (.iaload, 1) := by decide +kernel
theorem dX7_age_9 : decode cX7_age 9 = .ok (.if_icmp .ge 52, 3) := by decide +kernel
theorem dX7_age_12 : decode cX7_age 12 = .ok (.aload_n 0, 1) := by decide +kernel
theorem dX7_age_13 : decode cX7_age 13 = .ok (.getfield 7, 3) := by decide +kernel
theorem dX7_age_16 : decode cX7_age 16 = .ok (.bipush 41, 2) := by decide +kernel
theorem dX7_age_18 : decode cX7_age 18 = .ok (.iload_n 1, 1) := by decide +kernel
theorem dX7_age_19 : decode cX7_age 19 = .ok (.iadd, 1) := by decide +kernel
theorem dX7_age_20 : decode cX7_age 20 = .ok (.iaload, 1) := by decide +kernel
theorem dX7_age_21 : decode cX7_age 21 = .ok (.iconst 1, 1) := by decide +kernel
theorem dX7_age_22 : decode cX7_age 22 = .ok (.if_icmp .ne 33, 3) := by decide +kernel
theorem dX7_age_25 : decode cX7_age 25 = .ok (.aload_n 0, 1) := by decide +kernel
theorem dX7_age_26 : decode cX7_age 26 = .ok (.getfield 7, 3) := by decide +kernel
theorem dX7_age_29 : decode cX7_age 29 = .ok (.bipush 41, 2) := by decide +kernel
theorem dX7_age_31 : decode cX7_age 31 = .ok (.iload_n 1, 1) := by decide +kernel
theorem dX7_age_32 : decode cX7_age 32 = .ok (.iadd, 1) := by decide +kernel
theorem dX7_age_33 : decode cX7_age 33 = .ok (.iconst 1, 1) := by decide +kernel
theorem dX7_age_34 : decode cX7_age 34 = .ok (.aload_n 0, 1) := by decide +kernel
theorem dX7_age_35 : decode cX7_age 35 = .ok (.getfield 7, 3) := by decide +kernel
theorem dX7_age_38 : decode cX7_age 38 = .ok (.bipush 65, 2) := by decide +kernel
theorem dX7_age_40 : decode cX7_age 40 = .ok (.iload_n 1, 1) := by decide +kernel
theorem dX7_age_41 : decode cX7_age 41 = .ok (.iadd, 1) := by decide +kernel
theorem dX7_age_42 : decode cX7_age 42 = .ok (.iaload, 1) := by decide +kernel
theorem dX7_age_43 : decode cX7_age 43 = .ok (.isub, 1) := by decide +kernel
theorem dX7_age_44 : decode cX7_age 44 = .ok (.iastore, 1) := by decide +kernel
theorem dX7_age_45 : decode cX7_age 45 = .ok (.aload_n 0, 1) := by decide +kernel
theorem dX7_age_46 : decode cX7_age 46 = .ok (.getfield 7, 3) := by decide +kernel
theorem dX7_age_49 : decode cX7_age 49 = .ok (.bipush 65, 2) := by decide +kernel
theorem dX7_age_51 : decode cX7_age 51 = .ok (.iload_n 1, 1) := by decide +kernel
theorem dX7_age_52 : decode cX7_age 52 = .ok (.iadd, 1) := by decide +kernel
theorem dX7_age_53 : decode cX7_age 53 = .ok (.iconst 1, 1) := by decide +kernel
theorem dX7_age_54 : decode cX7_age 54 = .ok (.iastore, 1) := by decide +kernel
theorem dX7_age_55 : decode cX7_age 55 = .ok (.iinc 1 1, 3) := by decide +kernel
theorem dX7_age_58 : decode cX7_age 58 = .ok (.goto (-56), 3) := by decide +kernel
theorem dX7_age_61 : decode cX7_age 61 = .ok (.return_, 1) := by decide +kernel
theorem dX7_tick_0 : decode cX7_tick 0 = .ok (.aload_n 0, 1) := by decide +kernel
theorem dX7_tick_1 : decode cX7_tick 1 = .ok (.getfield 7, 3) := by decide +kernel
theorem dX7_tick_4 : decode cX7_tick 4 = .ok (.iconst 0, 1) := by decide +kernel
theorem dX7_tick_5 : decode cX7_tick 5 = .ok (.dup2, 1) := by decide +kernel
theorem dX7_tick_6 : decode cX7_tick 6 = .ok (.iaload, 1) := by decide +kernel
theorem dX7_tick_7 : decode cX7_tick 7 = .ok (.iconst 1, 1) := by decide +kernel
theorem dX7_tick_8 : decode cX7_tick 8 = .ok (.iadd, 1) := by decide +kernel
theorem dX7_tick_9 : decode cX7_tick 9 = .ok (.iastore, 1) := by decide +kernel
theorem dX7_tick_10 : decode cX7_tick 10 = .ok (.iconst 0, 1) := by decide +kernel
theorem dX7_tick_11 : decode cX7_tick 11 = .ok (.istore_n 1, 1) := by decide +kernel
theorem dX7_tick_12 : decode cX7_tick 12 = .ok (.iload_n 1, 1) := by decide +kernel
theorem dX7_tick_13 : decode cX7_tick 13 = .ok (.aload_n 0, 1) := by decide +kernel
theorem dX7_tick_14 : decode cX7_tick 14 = .ok (.getfield 7, 3) := by decide +kernel
theorem dX7_tick_17 : decode cX7_tick 17 = .ok (.iconst 1, 1) := by decide +kernel
theorem dX7_tick_18 : decode cX7_tick 18 = .ok (.iaload, 1) := by decide +kernel
theorem dX7_tick_19 : decode cX7_tick 19 = .ok (.if_icmp .ge 50, 3) := by decide +kernel
theorem dX7_tick_22 : decode cX7_tick 22 = .ok (.aload_n 0, 1) := by decide +kernel
theorem dX7_tick_23 : decode cX7_tick 23 = .ok (.getfield 7, 3) := by decide +kernel
theorem dX7_tick_26 : decode cX7_tick 26 = .ok (.iconst 0, 1) := by decide +kernel
theorem dX7_tick_27 : decode cX7_tick 27 = .ok (.iaload, 1) := by decide +kernel
theorem dX7_tick_28 : decode cX7_tick 28 = .ok (.bipush 10, 2) := by decide +kernel
theorem dX7_tick_30 : decode cX7_tick 30 = .ok (.irem, 1) := by decide +kernel
theorem dX7_tick_31 : decode cX7_tick 31 = .ok (.ifCond .ne 38, 3) := by decide +kernel
theorem dX7_tick_34 : decode cX7_tick 34 = .ok (.aload_n 0, 1) := by decide +kernel
theorem dX7_tick_35 : decode cX7_tick 35 = .ok (.getfield 7, 3) := by decide +kernel
theorem dX7_tick_38 : decode cX7_tick 38 = .ok (.bipush 21, 2) := by decide +kernel
theorem dX7_tick_40 : decode cX7_tick 40 = .ok (.iload_n 1, 1) := by decide +kernel
theorem dX7_tick_41 : decode cX7_tick 41 = .ok (.iadd, 1) := by decide +kernel
theorem dX7_tick_42 : decode cX7_tick 42 = .ok (.dup2, 1) := by decide +kernel
theorem dX7_tick_43 : decode cX7_tick 43 = .ok (.iaload, 1) := by decide +kernel
theorem dX7_tick_44 : decode cX7_tick 44 = .ok (.aload_n 0, 1) := by decide +kernel
theorem dX7_tick_45 : decode cX7_tick 45 = .ok (.getfield 7, 3) := by decide +kernel
theorem dX7_tick_48 : decode cX7_tick 48 = .ok (.bipush 21, 2) := by decide +kernel
theorem dX7_tick_50 : decode cX7_tick 50 = .ok (.iload_n 1, 1) := by decide +kernel
theorem dX7_tick_51 : decode cX7_tick 51 = .ok (.iadd, 1) := by decide +kernel
theorem dX7_tick_52 : decode cX7_tick 52 = .ok (.iaload, 1) := by decide +kernel
theorem dX7_tick_53 : decode cX7_tick 53 = .ok (.aload_n 0, 1) := by decide +kernel
theorem dX7_tick_54 : decode cX7_tick 54 = .ok (.getfield 7, 3) := by decide +kernel
theorem dX7_tick_57 : decode cX7_tick 57 = .ok (.bipush 6, 2) := by decide +kernel
theorem dX7_tick_59 : decode cX7_tick 59 = .ok (.iaload, 1) := by decide +kernel
theorem dX7_tick_60 : decode cX7_tick 60 = .ok (.ishr, 1) := by decide +kernel
theorem dX7_tick_61 : decode cX7_tick 61 = .ok (.isub, 1) := by decide +kernel
theorem dX7_tick_62 : decode cX7_tick 62 = .ok (.iastore, 1) := by decide +kernel
theorem dX7_tick_63 : decode cX7_tick 63 = .ok (.iinc 1 1, 3) := by decide +kernel
theorem dX7_tick_66 : decode cX7_tick 66 = .ok (.goto (-54), 3) := by decide +kernel
theorem dX7_tick_69 : decode cX7_tick 69 = .ok (.aload_n 0, 1) := by decide +kernel
theorem dX7_tick_70 : decode cX7_tick 70 = .ok (.getfield 7, 3) := by decide +kernel
theorem dX7_tick_73 : decode cX7_tick 73 = .ok (.iconst 4, 1) := by decide +kernel
theorem dX7_tick_74 : decode cX7_tick 74 = .ok (.iaload, 1) := by decide +kernel
theorem dX7_tick_75 : decode cX7_tick 75 = .ok (.iconst 1, 1) := by decide +kernel
theorem dX7_tick_76 : decode cX7_tick 76 = .ok (.if_icmp .ne 23, 3) := by decide +kernel
theorem dX7_tick_79 : decode cX7_tick 79 = .ok (.aload_n 0, 1) := by decide +kernel
theorem dX7_tick_80 : decode cX7_tick 80 = .ok (.getfield 7, 3) := by decide +kernel
theorem dX7_tick_83 : decode cX7_tick 83 = .ok (.iconst 0, 1) := by decide +kernel
theorem dX7_tick_84 : decode cX7_tick 84 = .ok (.iaload, 1) := by decide +kernel
theorem dX7_tick_85 : decode cX7_tick 85 = .ok (.aload_n 0, 1) := by decide +kernel
theorem dX7_tick_86 : decode cX7_tick 86 = .ok (.getfield 7, 3) := by decide +kernel
theorem dX7_tick_89 : decode cX7_tick 89 = .ok (.iconst 3, 1) := by decide +kernel
theorem dX7_tick_90 : decode cX7_tick 90 = .ok (.iaload, 1) := by decide +kernel
theorem dX7_tick_91 : decode cX7_tick 91 = .ok (.irem, 1) := by decide +kernel
theorem dX7_tick_92 : decode cX7_tick 92 = .ok (.ifCond .ne 7, 3) := by decide +kernel
theorem dX7_tick_95 : decode cX7_tick 95 = .ok (.aload_n 0, 1) := by decide +kernel
theorem dX7_tick_96 : decode cX7_tick 96 = .ok (.invokevirtual 59, 3) := by decide +kernel
theorem dX7_tick_99 : decode cX7_tick 99 = .ok (.return_, 1) := by decide +kernel
theorem dX7_pass_0 : decode cX7_pass 0 = .ok (.iconst 0, 1) := by decide +kernel
theorem dX7_pass_1 : decode cX7_pass 1 = .ok (.istore_n 2, 1) := by decide +kernel
theorem dX7_pass_2 : decode cX7_pass 2 = .ok (.iload_n 2, 1) := by decide +kernel
theorem dX7_pass_3 : decode cX7_pass 3 = .ok (.iload_n 1, 1) := by decide +kernel
theorem dX7_pass_4 : decode cX7_pass 4 = .ok (.if_icmp .ge 13, 3) := by decide +kernel
theorem dX7_pass_7 : decode cX7_pass 7 = .ok (.aload_n 0, 1) := by decide +kernel
theorem dX7_pass_8 : decode cX7_pass 8 = .ok (.invokevirtual 62, 3) := by decide +kernel
theorem dX7_pass_11 : decode cX7_pass 11 = .ok (.iinc 2 1, 3) := by decide +kernel
theorem dX7_pass_14 : decode cX7_pass 14 = .ok (.goto (-12), 3) := by decide +kernel
theorem dX7_pass_17 : decode cX7_pass 17 = .ok (.aload_n 0, 1) := by decide +kernel
theorem dX7_pass_18 : decode cX7_pass 18 = .ok (.getfield 7, 3) := by decide +kernel
theorem dX7_pass_21 : decode cX7_pass 21 = .ok (.iconst 0, 1) := by decide +kernel
theorem dX7_pass_22 : decode cX7_pass 22 = .ok (.iaload, 1) := by decide +kernel
theorem dX7_pass_23 : decode cX7_pass 23 = .ok (.ireturn, 1) := by decide +kernel
theorem dX7_whyNotPass_0 : decode cX7_whyNotPass 0 = .ok (.iload_n 1, 1) := by decide +kernel
theorem dX7_whyNotPass_1 : decode cX7_whyNotPass 1 = .ok (.iconst 1, 1) := by decide +kernel
theorem dX7_whyNotPass_2 : decode cX7_whyNotPass 2 = .ok (.sipush 1000, 3) := by decide +kernel
theorem dX7_whyNotPass_5 : decode cX7_whyNotPass 5 = .ok (.invokestatic 36, 3) := by decide +kernel
theorem dX7_whyNotPass_8 : decode cX7_whyNotPass 8 = .ok (.ifCond .ne 7, 3) := by decide +kernel
theorem dX7_whyNotPass_11 : decode cX7_whyNotPass 11 = .ok (.iconst (-1), 1) := by decide +kernel
theorem dX7_whyNotPass_12 : decode cX7_whyNotPass 12 = .ok (.goto 22, 3) := by decide +kernel
theorem dX7_whyNotPass_15 : decode cX7_whyNotPass 15 = .ok (.aload_n 0, 1) := by decide +kernel
theorem dX7_whyNotPass_16 : decode cX7_whyNotPass 16 = .ok (.getfield 7, 3) := by decide +kernel
theorem dX7_whyNotPass_19 : decode cX7_whyNotPass 19 = .ok (.iconst 0, 1) := by decide +kernel
theorem dX7_whyNotPass_20 : decode cX7_whyNotPass 20 = .ok (.iaload, 1) := by decide +kernel
theorem dX7_whyNotPass_21 : decode cX7_whyNotPass 21 = .ok (.iload_n 1, 1) := by decide +kernel
theorem dX7_whyNotPass_22 : decode cX7_whyNotPass 22 = .ok (.iadd, 1) := by decide +kernel
theorem dX7_whyNotPass_23 : decode cX7_whyNotPass 23 = .ok (.ldc 65, 2) := by decide +kernel
theorem dX7_whyNotPass_25 : decode cX7_whyNotPass 25 = .ok (.if_icmp .le 8, 3) := by decide +kernel
theorem dX7_whyNotPass_28 : decode cX7_whyNotPass 28 = .ok (.bipush (-2), 2) := by decide +kernel
theorem dX7_whyNotPass_30 : decode cX7_whyNotPass 30 = .ok (.goto 4, 3) := by decide +kernel
theorem dX7_whyNotPass_33 : decode cX7_whyNotPass 33 = .ok (.iconst 0, 1) := by decide +kernel
theorem dX7_whyNotPass_34 : decode cX7_whyNotPass 34 = .ok (.ireturn, 1) := by decide +kernel
theorem dX7_advance_0 : decode cX7_advance 0 = .ok (.aload_n 0, 1) := by decide +kernel
theorem dX7_advance_1 : decode cX7_advance 1 = .ok (.iload_n 1, 1) := by decide +kernel
theorem dX7_advance_2 : decode cX7_advance 2 = .ok (.invokevirtual 66, 3) := by decide +kernel
theorem dX7_advance_5 : decode cX7_advance 5 = .ok (.istore_n 2, 1) := by decide +kernel
theorem dX7_advance_6 : decode cX7_advance 6 = .ok (.iload_n 2, 1) := by decide +kernel
theorem dX7_advance_7 : decode cX7_advance 7 = .ok (.ifCond .eq 5, 3) := by decide +kernel
theorem dX7_advance_10 : decode cX7_advance 10 = .ok (.iload_n 2, 1) := by decide +kernel
theorem dX7_advance_11 : decode cX7_advance 11 = .ok (.ireturn, 1) := by decide +kernel
theorem dX7_advance_12 : decode cX7_advance 12 = .ok (.aload_n 0, 1) := by decide +kernel
theorem dX7_advance_13 : decode cX7_advance 13 = .ok (.invokevirtual 44, 3) := by decide +kernel
theorem dX7_advance_16 : decode cX7_advance 16 = .ok (.aload_n 0, 1) := by decide +kernel
theorem dX7_advance_17 : decode cX7_advance 17 = .ok (.iload_n 1, 1) := by decide +kernel
theorem dX7_advance_18 : decode cX7_advance 18 = .ok (.invokevirtual 69, 3) := by decide +kernel
theorem dX7_advance_21 : decode cX7_advance 21 = .ok (.ireturn, 1) := by decide +kernel
theorem dX7_isLive_0 : decode cX7_isLive 0 = .ok (.aload_n 0, 1) := by decide +kernel
theorem dX7_isLive_1 : decode cX7_isLive 1 = .ok (.getfield 7, 3) := by decide +kernel
theorem dX7_isLive_4 : decode cX7_isLive 4 = .ok (.iconst 4, 1) := by decide +kernel
theorem dX7_isLive_5 : decode cX7_isLive 5 = .ok (.iaload, 1) := by decide +kernel
theorem dX7_isLive_6 : decode cX7_isLive 6 = .ok (.iconst 1, 1) := by decide +kernel
theorem dX7_isLive_7 : decode cX7_isLive 7 = .ok (.if_icmp .eq 28, 3) := by decide +kernel
theorem dX7_isLive_10 : decode cX7_isLive 10 = .ok (.aload_n 0, 1) := by decide +kernel
theorem dX7_isLive_11 : decode cX7_isLive 11 = .ok (.getfield 7, 3) := by decide +kernel
theorem dX7_isLive_14 : decode cX7_isLive 14 = .ok (.iconst 0, 1) := by decide +kernel
theorem dX7_isLive_15 : decode cX7_isLive 15 = .ok (.iaload, 1) := by decide +kernel
theorem dX7_isLive_16 : decode cX7_isLive 16 = .ok (.aload_n 0, 1) := by decide +kernel
theorem dX7_isLive_17 : decode cX7_isLive 17 = .ok (.getfield 7, 3) := by decide +kernel
theorem dX7_isLive_20 : decode cX7_isLive 20 = .ok (.bipush 57, 2) := by decide +kernel
theorem dX7_isLive_22 : decode cX7_isLive 22 = .ok (.iload_n 1, 1) := by decide +kernel
theorem dX7_isLive_23 : decode cX7_isLive 23 = .ok (.iadd, 1) := by decide +kernel
theorem dX7_isLive_24 : decode cX7_isLive 24 = .ok (.iaload, 1) := by decide +kernel
theorem dX7_isLive_25 : decode cX7_isLive 25 = .ok (.isub, 1) := by decide +kernel
theorem dX7_isLive_26 : decode cX7_isLive 26 = .ok (.aload_n 0, 1) := by decide +kernel
theorem dX7_isLive_27 : decode cX7_isLive 27 = .ok (.getfield 7, 3) := by decide +kernel
theorem dX7_isLive_30 : decode cX7_isLive 30 = .ok (.iconst 3, 1) := by decide +kernel
theorem dX7_isLive_31 : decode cX7_isLive 31 = .ok (.iaload, 1) := by decide +kernel
theorem dX7_isLive_32 : decode cX7_isLive 32 = .ok (.if_icmp .gt 7, 3) := by decide +kernel
theorem dX7_isLive_35 : decode cX7_isLive 35 = .ok (.iconst 1, 1) := by decide +kernel
theorem dX7_isLive_36 : decode cX7_isLive 36 = .ok (.goto 4, 3) := by decide +kernel
theorem dX7_isLive_39 : decode cX7_isLive 39 = .ok (.iconst 0, 1) := by decide +kernel
theorem dX7_isLive_40 : decode cX7_isLive 40 = .ok (.istore_n 2, 1) := by decide +kernel
theorem dX7_isLive_41 : decode cX7_isLive 41 = .ok (.aload_n 0, 1) := by decide +kernel
theorem dX7_isLive_42 : decode cX7_isLive 42 = .ok (.getfield 7, 3) := by decide +kernel
theorem dX7_isLive_45 : decode cX7_isLive 45 = .ok (.bipush 41, 2) := by decide +kernel
theorem dX7_isLive_47 : decode cX7_isLive 47 = .ok (.iload_n 1, 1) := by decide +kernel
theorem dX7_isLive_48 : decode cX7_isLive 48 = .ok (.iadd, 1) := by decide +kernel
theorem dX7_isLive_49 : decode cX7_isLive 49 = .ok (.iaload, 1) := by decide +kernel
theorem dX7_isLive_50 : decode cX7_isLive 50 = .ok (.iconst 1, 1) := by decide +kernel
theorem dX7_isLive_51 : decode cX7_isLive 51 = .ok (.if_icmp .ne 11, 3) := by decide +kernel
theorem dX7_isLive_54 : decode cX7_isLive 54 = .ok (.iload_n 2, 1) := by decide +kernel
theorem dX7_isLive_55 : decode cX7_isLive 55 = .ok (.ifCond .eq 7, 3) := by decide +kernel
theorem dX7_isLive_58 : decode cX7_isLive 58 = .ok (.iconst 1, 1) := by decide +kernel
theorem dX7_isLive_59 : decode cX7_isLive 59 = .ok (.goto 4, 3) := by decide +kernel
theorem dX7_isLive_62 : decode cX7_isLive 62 = .ok (.iconst 0, 1) := by decide +kernel
theorem dX7_isLive_63 : decode cX7_isLive 63 = .ok (.ireturn, 1) := by decide +kernel
theorem dX7_metricOf_0 : decode cX7_metricOf 0 = .ok (.aload_n 0, 1) := by decide +kernel
theorem dX7_metricOf_1 : decode cX7_metricOf 1 = .ok (.getfield 7, 3) := by decide +kernel
theorem dX7_metricOf_4 : decode cX7_metricOf 4 = .ok (.bipush 21, 2) := by decide +kernel
theorem dX7_metricOf_6 : decode cX7_metricOf 6 = .ok (.iload_n 1, 1) := by decide +kernel
theorem dX7_metricOf_7 : decode cX7_metricOf 7 = .ok (.iadd, 1) := by decide +kernel
theorem dX7_metricOf_8 : decode cX7_metricOf 8 = .ok (.iaload, 1) := by decide +kernel
theorem dX7_metricOf_9 : decode cX7_metricOf 9 = .ok (.bipush 64, 2) := by decide +kernel
theorem dX7_metricOf_11 : decode cX7_metricOf 11 = .ok (.idiv, 1) := by decide +kernel
theorem dX7_metricOf_12 : decode cX7_metricOf 12 = .ok (.istore_n 2, 1) := by decide +kernel
theorem dX7_metricOf_13 : decode cX7_metricOf 13 = .ok (.iload_n 2, 1) := by decide +kernel
theorem dX7_metricOf_14 : decode cX7_metricOf 14 = .ok (.bipush 7, 2) := by decide +kernel
theorem dX7_metricOf_16 : decode cX7_metricOf 16 = .ok (.if_icmp .le 8, 3) := by decide +kernel
theorem dX7_metricOf_19 : decode cX7_metricOf 19 = .ok (.bipush 7, 2) := by decide +kernel
theorem dX7_metricOf_21 : decode cX7_metricOf 21 = .ok (.goto 4, 3) := by decide +kernel
theorem dX7_metricOf_24 : decode cX7_metricOf 24 = .ok (.iload_n 2, 1) := by decide +kernel
theorem dX7_metricOf_25 : decode cX7_metricOf 25 = .ok (.istore_n 2, 1) := by decide +kernel
theorem dX7_metricOf_26 : decode cX7_metricOf 26 = .ok (.iload_n 2, 1) := by decide +kernel
theorem dX7_metricOf_27 : decode cX7_metricOf 27 = .ok (.aload_n 0, 1) := by decide +kernel
theorem dX7_metricOf_28 : decode cX7_metricOf 28 = .ok (.getfield 7, 3) := by decide +kernel
theorem dX7_metricOf_31 : decode cX7_metricOf 31 = .ok (.bipush 17, 2) := by decide +kernel
theorem dX7_metricOf_33 : decode cX7_metricOf 33 = .ok (.iload_n 1, 1) := by decide +kernel
theorem dX7_metricOf_34 : decode cX7_metricOf 34 = .ok (.iadd, 1) := by decide +kernel
theorem dX7_metricOf_35 : decode cX7_metricOf 35 = .ok (.iaload, 1) := by decide +kernel
theorem dX7_metricOf_36 : decode cX7_metricOf 36 = .ok (.if_icmp .le 7, 3) := by decide +kernel
theorem dX7_metricOf_39 : decode cX7_metricOf 39 = .ok (.iload_n 2, 1) := by decide +kernel
theorem dX7_metricOf_40 : decode cX7_metricOf 40 = .ok (.goto 12, 3) := by decide +kernel
theorem dX7_metricOf_43 : decode cX7_metricOf 43 = .ok (.aload_n 0, 1) := by decide +kernel
theorem dX7_metricOf_44 : decode cX7_metricOf 44 = .ok (.getfield 7, 3) := by decide +kernel
theorem dX7_metricOf_47 : decode cX7_metricOf 47 = .ok (.bipush 17, 2) := by decide +kernel
theorem dX7_metricOf_49 : decode cX7_metricOf 49 = .ok (.iload_n 1, 1) := by decide +kernel
theorem dX7_metricOf_50 : decode cX7_metricOf 50 = .ok (.iadd, 1) := by decide +kernel
theorem dX7_metricOf_51 : decode cX7_metricOf 51 = .ok (.iaload, 1) := by decide +kernel
theorem dX7_metricOf_52 : decode cX7_metricOf 52 = .ok (.ireturn, 1) := by decide +kernel
theorem dX7_leastLoaded_0 : decode cX7_leastLoaded 0 = .ok (.iconst 0, 1) := by decide +kernel
theorem dX7_leastLoaded_1 : decode cX7_leastLoaded 1 = .ok (.istore_n 2, 1) := by decide +kernel
theorem dX7_leastLoaded_2 : decode cX7_leastLoaded 2 = .ok (.iconst 1, 1) := by decide +kernel
theorem dX7_leastLoaded_3 : decode cX7_leastLoaded 3 = .ok (.istore_n 3, 1) := by decide +kernel
theorem dX7_leastLoaded_4 : decode cX7_leastLoaded 4 = .ok (.iload_n 3, 1) := by decide +kernel
theorem dX7_leastLoaded_5 : decode cX7_leastLoaded 5 = .ok (.aload_n 0, 1) := by decide +kernel
theorem dX7_leastLoaded_6 : decode cX7_leastLoaded 6 = .ok (.getfield 7, 3) := by decide +kernel
theorem dX7_leastLoaded_9 : decode cX7_leastLoaded 9 = .ok (.iconst 1, 1) := by decide +kernel
theorem dX7_leastLoaded_10 : decode cX7_leastLoaded 10 = .ok (.iaload, 1) := by decide +kernel
theorem dX7_leastLoaded_11 : decode cX7_leastLoaded 11 = .ok (.if_icmp .ge 28, 3) := by decide +kernel
theorem dX7_leastLoaded_14 : decode cX7_leastLoaded 14 = .ok (.aload_n 0, 1) := by decide +kernel
theorem dX7_leastLoaded_15 : decode cX7_leastLoaded 15 = .ok (.iload_n 3, 1) := by decide +kernel
theorem dX7_leastLoaded_16 : decode cX7_leastLoaded 16 = .ok (.invokevirtual 72, 3) := by decide +kernel
theorem dX7_leastLoaded_19 : decode cX7_leastLoaded 19 = .ok (.aload_n 0, 1) := by decide +kernel
theorem dX7_leastLoaded_20 : decode cX7_leastLoaded 20 = .ok (.iload_n 2, 1) := by decide +kernel
theorem dX7_leastLoaded_21 : decode cX7_leastLoaded 21 = .ok (.invokevirtual 72, 3) := by decide +kernel
theorem dX7_leastLoaded_24 : decode cX7_leastLoaded 24 = .ok (.if_icmp .ge 7, 3) := by decide +kernel
theorem dX7_leastLoaded_27 : decode cX7_leastLoaded 27 = .ok (.iload_n 3, 1) := by decide +kernel
theorem dX7_leastLoaded_28 : decode cX7_leastLoaded 28 = .ok (.goto 4, 3) := by decide +kernel
theorem dX7_leastLoaded_31 : decode cX7_leastLoaded 31 = .ok (.iload_n 2, 1) := by decide +kernel
theorem dX7_leastLoaded_32 : decode cX7_leastLoaded 32 = .ok (.istore_n 2, 1) := by decide +kernel
theorem dX7_leastLoaded_33 : decode cX7_leastLoaded 33 = .ok (.iinc 3 1, 3) := by decide +kernel
theorem dX7_leastLoaded_36 : decode cX7_leastLoaded 36 = .ok (.goto (-32), 3) := by decide +kernel
theorem dX7_leastLoaded_39 : decode cX7_leastLoaded 39 = .ok (.aload_n 0, 1) := by decide +kernel
theorem dX7_leastLoaded_40 : decode cX7_leastLoaded 40 = .ok (.getfield 7, 3) := by decide +kernel
theorem dX7_leastLoaded_43 : decode cX7_leastLoaded 43 = .ok (.bipush 49, 2) := by decide +kernel
theorem dX7_leastLoaded_45 : decode cX7_leastLoaded 45 = .ok (.iload_n 1, 1) := by decide +kernel
theorem dX7_leastLoaded_46 : decode cX7_leastLoaded 46 = .ok (.iadd, 1) := by decide +kernel
theorem dX7_leastLoaded_47 : decode cX7_leastLoaded 47 = .ok (.iaload, 1) := by decide +kernel
theorem dX7_leastLoaded_48 : decode cX7_leastLoaded 48 = .ok (.istore_n 3, 1) := by decide +kernel
theorem dX7_leastLoaded_49 : decode cX7_leastLoaded 49 = .ok (.iload_n 3, 1) := by decide +kernel
theorem dX7_leastLoaded_50 : decode cX7_leastLoaded 50 = .ok (.bipush (-9), 2) := by decide +kernel
theorem dX7_leastLoaded_52 : decode cX7_leastLoaded 52 = .ok (.if_icmp .eq 20, 3) := by decide +kernel
theorem dX7_leastLoaded_55 : decode cX7_leastLoaded 55 = .ok (.aload_n 0, 1) := by decide +kernel
theorem dX7_leastLoaded_56 : decode cX7_leastLoaded 56 = .ok (.iload_n 3, 1) := by decide +kernel
theorem dX7_leastLoaded_57 : decode cX7_leastLoaded 57 = .ok (.invokevirtual 72, 3) := by decide +kernel
theorem dX7_leastLoaded_60 : decode cX7_leastLoaded 60 = .ok (.aload_n 0, 1) := by decide +kernel
theorem dX7_leastLoaded_61 : decode cX7_leastLoaded 61 = .ok (.iload_n 2, 1) := by decide +kernel
theorem dX7_leastLoaded_62 : decode cX7_leastLoaded 62 = .ok (.invokevirtual 72, 3) := by decide +kernel
theorem dX7_leastLoaded_65 : decode cX7_leastLoaded 65 = .ok (.if_icmp .ne 7, 3) := by decide +kernel
theorem dX7_leastLoaded_68 : decode cX7_leastLoaded 68 = .ok (.iload_n 3, 1) := by decide +kernel
theorem dX7_leastLoaded_69 : decode cX7_leastLoaded 69 = .ok (.goto 4, 3) := by decide +kernel
theorem dX7_leastLoaded_72 : decode cX7_leastLoaded 72 = .ok (.iload_n 2, 1) := by decide +kernel
theorem dX7_leastLoaded_73 : decode cX7_leastLoaded 73 = .ok (.ireturn, 1) := by decide +kernel
theorem dX7_nextGenerator_0 : decode cX7_nextGenerator 0 = .ok (.aload_n 0, 1) := by decide +kernel
theorem dX7_nextGenerator_1 : decode cX7_nextGenerator 1 = .ok (.getfield 7, 3) := by decide +kernel
theorem dX7_nextGenerator_4 : decode cX7_nextGenerator 4 = .ok (.bipush 7, 2) := by decide +kernel
theorem dX7_nextGenerator_6 : decode cX7_nextGenerator 6 = .ok (.iaload, 1) := by decide +kernel
theorem dX7_nextGenerator_7 : decode cX7_nextGenerator 7 = .ok (.i2l, 1) := by decide +kernel
theorem dX7_nextGenerator_8 : decode cX7_nextGenerator 8 = .ok (.ldc2_w 75, 3) := by decide +kernel
theorem dX7_nextGenerator_11 : decode cX7_nextGenerator 11 = .ok (.lmul, 1) := by decide +kernel
theorem dX7_nextGenerator_12 : decode cX7_nextGenerator 12 = .ok (.ldc2_w 77, 3) := by decide +kernel
theorem dX7_nextGenerator_15 : decode cX7_nextGenerator 15 = .ok (.ladd, 1) := by decide +kernel
theorem dX7_nextGenerator_16 : decode cX7_nextGenerator 16 = .ok (.ldc2_w 79, 3) := by decide +kernel
theorem dX7_nextGenerator_19 : decode cX7_nextGenerator 19 = .ok (.lrem, 1) := by decide +kernel
theorem dX7_nextGenerator_20 : decode cX7_nextGenerator 20 = .ok (.l2i, 1) := by decide +kernel
theorem dX7_nextGenerator_21 : decode cX7_nextGenerator 21 = .ok (.ireturn, 1) := by decide +kernel
theorem dX7_isByFlowlets_0 : decode cX7_isByFlowlets 0 = .ok (.aload_n 0, 1) := by decide +kernel
theorem dX7_isByFlowlets_1 : decode cX7_isByFlowlets 1 = .ok (.getfield 7, 3) := by decide +kernel
theorem dX7_isByFlowlets_4 : decode cX7_isByFlowlets 4 = .ok (.iconst 5, 1) := by decide +kernel
theorem dX7_isByFlowlets_5 : decode cX7_isByFlowlets 5 = .ok (.iaload, 1) := by decide +kernel
theorem dX7_isByFlowlets_6 : decode cX7_isByFlowlets 6 = .ok (.iconst 1, 1) := by decide +kernel
theorem dX7_isByFlowlets_7 : decode cX7_isByFlowlets 7 = .ok (.if_icmp .eq 13, 3) := by decide +kernel
theorem dX7_isByFlowlets_10 : decode cX7_isByFlowlets 10 = .ok (.aload_n 0, 1) := by decide +kernel
theorem dX7_isByFlowlets_11 : decode cX7_isByFlowlets 11 = .ok (.getfield 7, 3) := by decide +kernel
theorem dX7_isByFlowlets_14 : decode cX7_isByFlowlets 14 = .ok (.iconst 5, 1) := by decide +kernel
theorem dX7_isByFlowlets_15 : decode cX7_isByFlowlets 15 = .ok (.iaload, 1) := by decide +kernel
theorem dX7_isByFlowlets_16 : decode cX7_isByFlowlets 16 = .ok (.iconst 3, 1) := by decide +kernel
theorem dX7_isByFlowlets_17 : decode cX7_isByFlowlets 17 = .ok (.if_icmp .ne 7, 3) := by decide +kernel
theorem dX7_isByFlowlets_20 : decode cX7_isByFlowlets 20 = .ok (.iconst 1, 1) := by decide +kernel
theorem dX7_isByFlowlets_21 : decode cX7_isByFlowlets 21 = .ok (.goto 4, 3) := by decide +kernel
theorem dX7_isByFlowlets_24 : decode cX7_isByFlowlets 24 = .ok (.iconst 0, 1) := by decide +kernel
theorem dX7_isByFlowlets_25 : decode cX7_isByFlowlets 25 = .ok (.ireturn, 1) := by decide +kernel
theorem dX7_choose_0 : decode cX7_choose 0 = .ok (.aload_n 0, 1) := by decide +kernel
theorem dX7_choose_1 : decode cX7_choose 1 = .ok (.getfield 7, 3) := by decide +kernel
theorem dX7_choose_4 : decode cX7_choose 4 = .ok (.iconst 5, 1) := by decide +kernel
theorem dX7_choose_5 : decode cX7_choose 5 = .ok (.iaload, 1) := by decide +kernel
theorem dX7_choose_6 : decode cX7_choose 6 = .ok (.ifCond .ne 12, 3) := by decide +kernel
theorem dX7_choose_9 : decode cX7_choose 9 = .ok (.iload_n 1, 1) := by decide +kernel
theorem dX7_choose_10 : decode cX7_choose 10 = .ok (.aload_n 0, 1) := by decide +kernel
theorem dX7_choose_11 : decode cX7_choose 11 = .ok (.getfield 7, 3) := by decide +kernel
theorem dX7_choose_14 : decode cX7_choose 14 = .ok (.iconst 1, 1) := by decide +kernel
theorem dX7_choose_15 : decode cX7_choose 15 = .ok (.iaload, 1) := by decide +kernel
theorem dX7_choose_16 : decode cX7_choose 16 = .ok (.irem, 1) := by decide +kernel
theorem dX7_choose_17 : decode cX7_choose 17 = .ok (.ireturn, 1) := by decide +kernel
theorem dX7_choose_18 : decode cX7_choose 18 = .ok (.aload_n 0, 1) := by decide +kernel
theorem dX7_choose_19 : decode cX7_choose 19 = .ok (.getfield 7, 3) := by decide +kernel
theorem dX7_choose_22 : decode cX7_choose 22 = .ok (.iconst 5, 1) := by decide +kernel
theorem dX7_choose_23 : decode cX7_choose 23 = .ok (.iaload, 1) := by decide +kernel
theorem dX7_choose_24 : decode cX7_choose 24 = .ok (.iconst 2, 1) := by decide +kernel
theorem dX7_choose_25 : decode cX7_choose 25 = .ok (.if_icmp .ne 18, 3) := by decide +kernel
theorem dX7_choose_28 : decode cX7_choose 28 = .ok (.aload_n 0, 1) := by decide +kernel
theorem dX7_choose_29 : decode cX7_choose 29 = .ok (.getfield 7, 3) := by decide +kernel
theorem dX7_choose_32 : decode cX7_choose 32 = .ok (.bipush 8, 2) := by decide +kernel
theorem dX7_choose_34 : decode cX7_choose 34 = .ok (.iaload, 1) := by decide +kernel
theorem dX7_choose_35 : decode cX7_choose 35 = .ok (.aload_n 0, 1) := by decide +kernel
theorem dX7_choose_36 : decode cX7_choose 36 = .ok (.getfield 7, 3) := by decide +kernel
theorem dX7_choose_39 : decode cX7_choose 39 = .ok (.iconst 1, 1) := by decide +kernel
theorem dX7_choose_40 : decode cX7_choose 40 = .ok (.iaload, 1) := by decide +kernel
theorem dX7_choose_41 : decode cX7_choose 41 = .ok (.irem, 1) := by decide +kernel
theorem dX7_choose_42 : decode cX7_choose 42 = .ok (.ireturn, 1) := by decide +kernel
theorem dX7_choose_43 : decode cX7_choose 43 = .ok (.aload_n 0, 1) := by decide +kernel
theorem dX7_choose_44 : decode cX7_choose 44 = .ok (.iload_n 1, 1) := by decide +kernel
theorem dX7_choose_45 : decode cX7_choose 45 = .ok (.invokevirtual 47, 3) := by decide +kernel
theorem dX7_choose_48 : decode cX7_choose 48 = .ok (.istore_n 2, 1) := by decide +kernel
theorem dX7_choose_49 : decode cX7_choose 49 = .ok (.aload_n 0, 1) := by decide +kernel
theorem dX7_choose_50 : decode cX7_choose 50 = .ok (.iload_n 2, 1) := by decide +kernel
theorem dX7_choose_51 : decode cX7_choose 51 = .ok (.invokevirtual 81, 3) := by decide +kernel
theorem dX7_choose_54 : decode cX7_choose 54 = .ok (.ifCond .eq 13, 3) := by decide +kernel
theorem dX7_choose_57 : decode cX7_choose 57 = .ok (.aload_n 0, 1) := by decide +kernel
theorem dX7_choose_58 : decode cX7_choose 58 = .ok (.getfield 7, 3) := by decide +kernel
theorem dX7_choose_61 : decode cX7_choose 61 = .ok (.bipush 49, 2) := by decide +kernel
theorem dX7_choose_63 : decode cX7_choose 63 = .ok (.iload_n 2, 1) := by decide +kernel
theorem dX7_choose_64 : decode cX7_choose 64 = .ok (.iadd, 1) := by decide +kernel
theorem dX7_choose_65 : decode cX7_choose 65 = .ok (.iaload, 1) := by decide +kernel
theorem dX7_choose_66 : decode cX7_choose 66 = .ok (.ireturn, 1) := by decide +kernel
theorem dX7_choose_67 : decode cX7_choose 67 = .ok (.aload_n 0, 1) := by decide +kernel
theorem dX7_choose_68 : decode cX7_choose 68 = .ok (.getfield 7, 3) := by decide +kernel
theorem dX7_choose_71 : decode cX7_choose 71 = .ok (.iconst 5, 1) := by decide +kernel
theorem dX7_choose_72 : decode cX7_choose 72 = .ok (.iaload, 1) := by decide +kernel
theorem dX7_choose_73 : decode cX7_choose 73 = .ok (.iconst 1, 1) := by decide +kernel
theorem dX7_choose_74 : decode cX7_choose 74 = .ok (.if_icmp .ne 11, 3) := by decide +kernel
theorem dX7_choose_77 : decode cX7_choose 77 = .ok (.aload_n 0, 1) := by decide +kernel
theorem dX7_choose_78 : decode cX7_choose 78 = .ok (.iload_n 2, 1) := by decide +kernel
theorem dX7_choose_79 : decode cX7_choose 79 = .ok (.invokevirtual 84, 3) := by decide +kernel
theorem dX7_choose_82 : decode cX7_choose 82 = .ok (.goto 17, 3) := by decide +kernel
theorem dX7_choose_85 : decode cX7_choose 85 = .ok (.aload_n 0, 1) := by decide +kernel
theorem dX7_choose_86 : decode cX7_choose 86 = .ok (.invokevirtual 87, 3) := by decide +kernel
theorem dX7_choose_89 : decode cX7_choose 89 = .ok (.ldc 91, 2) := by decide +kernel
theorem dX7_choose_91 : decode cX7_choose 91 = .ok (.idiv, 1) := by decide +kernel
theorem dX7_choose_92 : decode cX7_choose 92 = .ok (.aload_n 0, 1) := by decide +kernel
theorem dX7_choose_93 : decode cX7_choose 93 = .ok (.getfield 7, 3) := by decide +kernel
theorem dX7_choose_96 : decode cX7_choose 96 = .ok (.iconst 1, 1) := by decide +kernel
theorem dX7_choose_97 : decode cX7_choose 97 = .ok (.iaload, 1) := by decide +kernel
theorem dX7_choose_98 : decode cX7_choose 98 = .ok (.irem, 1) := by decide +kernel
theorem dX7_choose_99 : decode cX7_choose 99 = .ok (.ireturn, 1) := by decide +kernel
theorem dX7_take_0 : decode cX7_take 0 = .ok (.aload_n 0, 1) := by decide +kernel
theorem dX7_take_1 : decode cX7_take 1 = .ok (.getfield 7, 3) := by decide +kernel
theorem dX7_take_4 : decode cX7_take 4 = .ok (.bipush 8, 2) := by decide +kernel
theorem dX7_take_6 : decode cX7_take 6 = .ok (.dup2, 1) := by decide +kernel
theorem dX7_take_7 : decode cX7_take 7 = .ok (.iaload, 1) := by decide +kernel
theorem dX7_take_8 : decode cX7_take 8 = .ok (.aload_n 0, 1) := by decide +kernel
theorem dX7_take_9 : decode cX7_take 9 = .ok (.getfield 7, 3) := by decide +kernel
theorem dX7_take_12 : decode cX7_take 12 = .ok (.iconst 5, 1) := by decide +kernel
theorem dX7_take_13 : decode cX7_take 13 = .ok (.iaload, 1) := by decide +kernel
theorem dX7_take_14 : decode cX7_take 14 = .ok (.iconst 2, 1) := by decide +kernel
theorem dX7_take_15 : decode cX7_take 15 = .ok (.if_icmp .ne 7, 3) := by decide +kernel
theorem dX7_take_18 : decode cX7_take 18 = .ok (.iconst 1, 1) := by decide +kernel
theorem dX7_take_19 : decode cX7_take 19 = .ok (.goto 4, 3) := by decide +kernel
theorem dX7_take_22 : decode cX7_take 22 = .ok (.iconst 0, 1) := by decide +kernel
theorem dX7_take_23 : decode cX7_take 23 = .ok (.iadd, 1) := by decide +kernel
theorem dX7_take_24 : decode cX7_take 24 = .ok (.iastore, 1) := by decide +kernel
theorem dX7_take_25 : decode cX7_take 25 = .ok (.aload_n 0, 1) := by decide +kernel
theorem dX7_take_26 : decode cX7_take 26 = .ok (.invokevirtual 92, 3) := by decide +kernel
theorem dX7_take_29 : decode cX7_take 29 = .ok (.ifCond .ne 4, 3) := by decide +kernel
theorem dX7_take_32 : decode cX7_take 32 = .ok (.return_, 1) := by decide +kernel
theorem dX7_take_33 : decode cX7_take 33 = .ok (.aload_n 0, 1) := by decide +kernel
theorem dX7_take_34 : decode cX7_take 34 = .ok (.iload_n 1, 1) := by decide +kernel
theorem dX7_take_35 : decode cX7_take 35 = .ok (.invokevirtual 47, 3) := by decide +kernel
theorem dX7_take_38 : decode cX7_take 38 = .ok (.istore_n 3, 1) := by decide +kernel
theorem dX7_take_39 : decode cX7_take 39 = .ok (.aload_n 0, 1) := by decide +kernel
theorem dX7_take_40 : decode cX7_take 40 = .ok (.iload_n 3, 1) := by decide +kernel
theorem dX7_take_41 : decode cX7_take 41 = .ok (.invokevirtual 81, 3) := by decide +kernel
theorem dX7_take_44 : decode cX7_take 44 = .ok (.ifCond .ne 47, 3) := by decide +kernel
theorem dX7_take_47 : decode cX7_take 47 = .ok (.aload_n 0, 1) := by decide +kernel
theorem dX7_take_48 : decode cX7_take 48 = .ok (.getfield 7, 3) := by decide +kernel
theorem dX7_take_51 : decode cX7_take 51 = .ok (.bipush 73, 2) := by decide +kernel
theorem dX7_take_53 : decode cX7_take 53 = .ok (.iload_n 1, 1) := by decide +kernel
theorem dX7_take_54 : decode cX7_take 54 = .ok (.iadd, 1) := by decide +kernel
theorem dX7_take_55 : decode cX7_take 55 = .ok (.dup2, 1) := by decide +kernel
theorem dX7_take_56 : decode cX7_take 56 = .ok (.iaload, 1) := by decide +kernel
theorem dX7_take_57 : decode cX7_take 57 = .ok (.iconst 1, 1) := by decide +kernel
theorem dX7_take_58 : decode cX7_take 58 = .ok (.iadd, 1) := by decide +kernel
theorem dX7_take_59 : decode cX7_take 59 = .ok (.iastore, 1) := by decide +kernel
theorem dX7_take_60 : decode cX7_take 60 = .ok (.aload_n 0, 1) := by decide +kernel
theorem dX7_take_61 : decode cX7_take 61 = .ok (.getfield 7, 3) := by decide +kernel
theorem dX7_take_64 : decode cX7_take 64 = .ok (.bipush 7, 2) := by decide +kernel
theorem dX7_take_66 : decode cX7_take 66 = .ok (.aload_n 0, 1) := by decide +kernel
theorem dX7_take_67 : decode cX7_take 67 = .ok (.getfield 7, 3) := by decide +kernel
theorem dX7_take_70 : decode cX7_take 70 = .ok (.iconst 5, 1) := by decide +kernel
theorem dX7_take_71 : decode cX7_take 71 = .ok (.iaload, 1) := by decide +kernel
theorem dX7_take_72 : decode cX7_take 72 = .ok (.iconst 3, 1) := by decide +kernel
theorem dX7_take_73 : decode cX7_take 73 = .ok (.if_icmp .ne 10, 3) := by decide +kernel
theorem dX7_take_76 : decode cX7_take 76 = .ok (.aload_n 0, 1) := by decide +kernel
theorem dX7_take_77 : decode cX7_take 77 = .ok (.invokevirtual 87, 3) := by decide +kernel
theorem dX7_take_80 : decode cX7_take 80 = .ok (.goto 10, 3) := by decide +kernel
theorem dX7_take_83 : decode cX7_take 83 = .ok (.aload_n 0, 1) := by decide +kernel
theorem dX7_take_84 : decode cX7_take 84 = .ok (.getfield 7, 3) := by decide +kernel
theorem dX7_take_87 : decode cX7_take 87 = .ok (.bipush 7, 2) := by decide +kernel
theorem dX7_take_89 : decode cX7_take 89 = .ok (.iaload, 1) := by decide +kernel
theorem dX7_take_90 : decode cX7_take 90 = .ok (.iastore, 1) := by decide +kernel
theorem dX7_take_91 : decode cX7_take 91 = .ok (.aload_n 0, 1) := by decide +kernel
theorem dX7_take_92 : decode cX7_take 92 = .ok (.getfield 7, 3) := by decide +kernel
theorem dX7_take_95 : decode cX7_take 95 = .ok (.bipush 41, 2) := by decide +kernel
theorem dX7_take_97 : decode cX7_take 97 = .ok (.iload_n 3, 1) := by decide +kernel
theorem dX7_take_98 : decode cX7_take 98 = .ok (.iadd, 1) := by decide +kernel
theorem dX7_take_99 : decode cX7_take 99 = .ok (.iconst 1, 1) := by decide +kernel
theorem dX7_take_100 : decode cX7_take 100 = .ok (.iastore, 1) := by decide +kernel
theorem dX7_take_101 : decode cX7_take 101 = .ok (.aload_n 0, 1) := by decide +kernel
theorem dX7_take_102 : decode cX7_take 102 = .ok (.getfield 7, 3) := by decide +kernel
theorem dX7_take_105 : decode cX7_take 105 = .ok (.bipush 49, 2) := by decide +kernel
theorem dX7_take_107 : decode cX7_take 107 = .ok (.iload_n 3, 1) := by decide +kernel
theorem dX7_take_108 : decode cX7_take 108 = .ok (.iadd, 1) := by decide +kernel
theorem dX7_take_109 : decode cX7_take 109 = .ok (.iload_n 2, 1) := by decide +kernel
theorem dX7_take_110 : decode cX7_take 110 = .ok (.iastore, 1) := by decide +kernel
theorem dX7_take_111 : decode cX7_take 111 = .ok (.aload_n 0, 1) := by decide +kernel
theorem dX7_take_112 : decode cX7_take 112 = .ok (.getfield 7, 3) := by decide +kernel
theorem dX7_take_115 : decode cX7_take 115 = .ok (.bipush 57, 2) := by decide +kernel
theorem dX7_take_117 : decode cX7_take 117 = .ok (.iload_n 3, 1) := by decide +kernel
theorem dX7_take_118 : decode cX7_take 118 = .ok (.iadd, 1) := by decide +kernel
theorem dX7_take_119 : decode cX7_take 119 = .ok (.aload_n 0, 1) := by decide +kernel
theorem dX7_take_120 : decode cX7_take 120 = .ok (.getfield 7, 3) := by decide +kernel
theorem dX7_take_123 : decode cX7_take 123 = .ok (.iconst 0, 1) := by decide +kernel
theorem dX7_take_124 : decode cX7_take 124 = .ok (.iaload, 1) := by decide +kernel
theorem dX7_take_125 : decode cX7_take 125 = .ok (.iastore, 1) := by decide +kernel
theorem dX7_take_126 : decode cX7_take 126 = .ok (.aload_n 0, 1) := by decide +kernel
theorem dX7_take_127 : decode cX7_take 127 = .ok (.getfield 7, 3) := by decide +kernel
theorem dX7_take_130 : decode cX7_take 130 = .ok (.bipush 65, 2) := by decide +kernel
theorem dX7_take_132 : decode cX7_take 132 = .ok (.iload_n 3, 1) := by decide +kernel
theorem dX7_take_133 : decode cX7_take 133 = .ok (.iadd, 1) := by decide +kernel
theorem dX7_take_134 : decode cX7_take 134 = .ok (.iconst 0, 1) := by decide +kernel
theorem dX7_take_135 : decode cX7_take 135 = .ok (.iastore, 1) := by decide +kernel
theorem dX7_take_136 : decode cX7_take 136 = .ok (.return_, 1) := by decide +kernel
theorem dX7_isTooBusy_0 : decode cX7_isTooBusy 0 = .ok (.aload_n 0, 1) := by decide +kernel
theorem dX7_isTooBusy_1 : decode cX7_isTooBusy 1 = .ok (.getfield 7, 3) := by decide +kernel
theorem dX7_isTooBusy_4 : decode cX7_isTooBusy 4 = .ok (.bipush 25, 2) := by decide +kernel
theorem dX7_isTooBusy_6 : decode cX7_isTooBusy 6 = .ok (.iload_n 1, 1) := by decide +kernel
theorem dX7_isTooBusy_7 : decode cX7_isTooBusy 7 = .ok (.iadd, 1) := by decide +kernel
theorem dX7_isTooBusy_8 : decode cX7_isTooBusy 8 = .ok (.iaload, 1) := by decide +kernel
theorem dX7_isTooBusy_9 : decode cX7_isTooBusy 9 = .ok (.aload_n 0, 1) := by decide +kernel
theorem dX7_isTooBusy_10 : decode cX7_isTooBusy 10 = .ok (.getfield 7, 3) := by decide +kernel
theorem dX7_isTooBusy_13 : decode cX7_isTooBusy 13 = .ok (.iconst 0, 1) := by decide +kernel
theorem dX7_isTooBusy_14 : decode cX7_isTooBusy 14 = .ok (.iaload, 1) := by decide +kernel
theorem dX7_isTooBusy_15 : decode cX7_isTooBusy 15 = .ok (.isub, 1) := by decide +kernel
theorem dX7_isTooBusy_16 : decode cX7_isTooBusy 16 = .ok (.sipush 200, 3) := by decide +kernel
theorem dX7_isTooBusy_19 : decode cX7_isTooBusy 19 = .ok (.if_icmp .le 7, 3) := by decide +kernel
theorem dX7_isTooBusy_22 : decode cX7_isTooBusy 22 = .ok (.iconst 1, 1) := by decide +kernel
theorem dX7_isTooBusy_23 : decode cX7_isTooBusy 23 = .ok (.goto 4, 3) := by decide +kernel
theorem dX7_isTooBusy_26 : decode cX7_isTooBusy 26 = .ok (.iconst 0, 1) := by decide +kernel
theorem dX7_isTooBusy_27 : decode cX7_isTooBusy 27 = .ok (.ireturn, 1) := by decide +kernel
theorem dX7_endOf_0 : decode cX7_endOf 0 = .ok (.aload_n 0, 1) := by decide +kernel
theorem dX7_endOf_1 : decode cX7_endOf 1 = .ok (.getfield 7, 3) := by decide +kernel
theorem dX7_endOf_4 : decode cX7_endOf 4 = .ok (.bipush 25, 2) := by decide +kernel
theorem dX7_endOf_6 : decode cX7_endOf 6 = .ok (.iload_n 1, 1) := by decide +kernel
theorem dX7_endOf_7 : decode cX7_endOf 7 = .ok (.iadd, 1) := by decide +kernel
theorem dX7_endOf_8 : decode cX7_endOf 8 = .ok (.iaload, 1) := by decide +kernel
theorem dX7_endOf_9 : decode cX7_endOf 9 = .ok (.aload_n 0, 1) := by decide +kernel
theorem dX7_endOf_10 : decode cX7_endOf 10 = .ok (.getfield 7, 3) := by decide +kernel
theorem dX7_endOf_13 : decode cX7_endOf 13 = .ok (.iconst 0, 1) := by decide +kernel
end
section
theorem dX7_endOf_14 : decode cX7_endOf 14 = .ok (.iaload, 1) := by decide +kernel
theorem dX7_endOf_15 : decode cX7_endOf 15 = .ok (.if_icmp .le 15, 3) := by decide +kernel
theorem dX7_endOf_18 : decode cX7_endOf 18 = .ok (.aload_n 0, 1) := by decide +kernel
theorem dX7_endOf_19 : decode cX7_endOf 19 = .ok (.getfield 7, 3) := by decide +kernel
theorem dX7_endOf_22 : decode cX7_endOf 22 = .ok (.bipush 25, 2) := by decide +kernel
theorem dX7_endOf_24 : decode cX7_endOf 24 = .ok (.iload_n 1, 1) := by decide +kernel
theorem dX7_endOf_25 : decode cX7_endOf 25 = .ok (.iadd, 1) := by decide +kernel
theorem dX7_endOf_26 : decode cX7_endOf 26 = .ok (.iaload, 1) := by decide +kernel
theorem dX7_endOf_27 : decode cX7_endOf 27 = .ok (.goto 9, 3) := by decide +kernel
theorem dX7_endOf_30 : decode cX7_endOf 30 = .ok (.aload_n 0, 1) := by decide +kernel
theorem dX7_endOf_31 : decode cX7_endOf 31 = .ok (.getfield 7, 3) := by decide +kernel
theorem dX7_endOf_34 : decode cX7_endOf 34 = .ok (.iconst 0, 1) := by decide +kernel
theorem dX7_endOf_35 : decode cX7_endOf 35 = .ok (.iaload, 1) := by decide +kernel
theorem dX7_endOf_36 : decode cX7_endOf 36 = .ok (.istore_n 3, 1) := by decide +kernel
theorem dX7_endOf_37 : decode cX7_endOf 37 = .ok (.iload_n 3, 1) := by decide +kernel
theorem dX7_endOf_38 : decode cX7_endOf 38 = .ok (.iload_n 2, 1) := by decide +kernel
theorem dX7_endOf_39 : decode cX7_endOf 39 = .ok (.aload_n 0, 1) := by decide +kernel
theorem dX7_endOf_40 : decode cX7_endOf 40 = .ok (.getfield 7, 3) := by decide +kernel
theorem dX7_endOf_43 : decode cX7_endOf 43 = .ok (.bipush 13, 2) := by decide +kernel
theorem dX7_endOf_45 : decode cX7_endOf 45 = .ok (.iload_n 1, 1) := by decide +kernel
theorem dX7_endOf_46 : decode cX7_endOf 46 = .ok (.iadd, 1) := by decide +kernel
theorem dX7_endOf_47 : decode cX7_endOf 47 = .ok (.iaload, 1) := by decide +kernel
theorem dX7_endOf_48 : decode cX7_endOf 48 = .ok (.iadd, 1) := by decide +kernel
theorem dX7_endOf_49 : decode cX7_endOf 49 = .ok (.iconst 1, 1) := by decide +kernel
theorem dX7_endOf_50 : decode cX7_endOf 50 = .ok (.isub, 1) := by decide +kernel
theorem dX7_endOf_51 : decode cX7_endOf 51 = .ok (.aload_n 0, 1) := by decide +kernel
theorem dX7_endOf_52 : decode cX7_endOf 52 = .ok (.getfield 7, 3) := by decide +kernel
theorem dX7_endOf_55 : decode cX7_endOf 55 = .ok (.bipush 13, 2) := by decide +kernel
theorem dX7_endOf_57 : decode cX7_endOf 57 = .ok (.iload_n 1, 1) := by decide +kernel
theorem dX7_endOf_58 : decode cX7_endOf 58 = .ok (.iadd, 1) := by decide +kernel
theorem dX7_endOf_59 : decode cX7_endOf 59 = .ok (.iaload, 1) := by decide +kernel
theorem dX7_endOf_60 : decode cX7_endOf 60 = .ok (.idiv, 1) := by decide +kernel
theorem dX7_endOf_61 : decode cX7_endOf 61 = .ok (.iadd, 1) := by decide +kernel
theorem dX7_endOf_62 : decode cX7_endOf 62 = .ok (.ireturn, 1) := by decide +kernel
theorem dX7_transmit_0 : decode cX7_transmit 0 = .ok (.aload_n 0, 1) := by decide +kernel
theorem dX7_transmit_1 : decode cX7_transmit 1 = .ok (.iload_n 1, 1) := by decide +kernel
theorem dX7_transmit_2 : decode cX7_transmit 2 = .ok (.invokevirtual 96, 3) := by decide +kernel
theorem dX7_transmit_5 : decode cX7_transmit 5 = .ok (.istore_n 3, 1) := by decide +kernel
theorem dX7_transmit_6 : decode cX7_transmit 6 = .ok (.aload_n 0, 1) := by decide +kernel
theorem dX7_transmit_7 : decode cX7_transmit 7 = .ok (.iload_n 1, 1) := by decide +kernel
theorem dX7_transmit_8 : decode cX7_transmit 8 = .ok (.iload_n 3, 1) := by decide +kernel
theorem dX7_transmit_9 : decode cX7_transmit 9 = .ok (.invokevirtual 99, 3) := by decide +kernel
theorem dX7_transmit_12 : decode cX7_transmit 12 = .ok (.aload_n 0, 1) := by decide +kernel
theorem dX7_transmit_13 : decode cX7_transmit 13 = .ok (.iload_n 3, 1) := by decide +kernel
theorem dX7_transmit_14 : decode cX7_transmit 14 = .ok (.invokevirtual 102, 3) := by decide +kernel
theorem dX7_transmit_17 : decode cX7_transmit 17 = .ok (.ifCond .eq 21, 3) := by decide +kernel
theorem dX7_transmit_20 : decode cX7_transmit 20 = .ok (.aload_n 0, 1) := by decide +kernel
theorem dX7_transmit_21 : decode cX7_transmit 21 = .ok (.getfield 7, 3) := by decide +kernel
theorem dX7_transmit_24 : decode cX7_transmit 24 = .ok (.bipush 37, 2) := by decide +kernel
theorem dX7_transmit_26 : decode cX7_transmit 26 = .ok (.iload_n 3, 1) := by decide +kernel
theorem dX7_transmit_27 : decode cX7_transmit 27 = .ok (.iadd, 1) := by decide +kernel
theorem dX7_transmit_28 : decode cX7_transmit 28 = .ok (.dup2, 1) := by decide +kernel
theorem dX7_transmit_29 : decode cX7_transmit 29 = .ok (.iaload, 1) := by decide +kernel
theorem dX7_transmit_30 : decode cX7_transmit 30 = .ok (.iconst 1, 1) := by decide +kernel
theorem dX7_transmit_31 : decode cX7_transmit 31 = .ok (.iadd, 1) := by decide +kernel
theorem dX7_transmit_32 : decode cX7_transmit 32 = .ok (.iastore, 1) := by decide +kernel
theorem dX7_transmit_33 : decode cX7_transmit 33 = .ok (.bipush 10, 2) := by decide +kernel
theorem dX7_transmit_35 : decode cX7_transmit 35 = .ok (.iload_n 3, 1) := by decide +kernel
theorem dX7_transmit_36 : decode cX7_transmit 36 = .ok (.iadd, 1) := by decide +kernel
theorem dX7_transmit_37 : decode cX7_transmit 37 = .ok (.ireturn, 1) := by decide +kernel
theorem dX7_transmit_38 : decode cX7_transmit 38 = .ok (.aload_n 0, 1) := by decide +kernel
theorem dX7_transmit_39 : decode cX7_transmit 39 = .ok (.iload_n 3, 1) := by decide +kernel
theorem dX7_transmit_40 : decode cX7_transmit 40 = .ok (.iload_n 2, 1) := by decide +kernel
theorem dX7_transmit_41 : decode cX7_transmit 41 = .ok (.invokevirtual 105, 3) := by decide +kernel
theorem dX7_transmit_44 : decode cX7_transmit 44 = .ok (.istore 4, 2) := by decide +kernel
theorem dX7_transmit_46 : decode cX7_transmit 46 = .ok (.iload 4, 2) := by decide +kernel
theorem dX7_transmit_48 : decode cX7_transmit 48 = .ok (.aload_n 0, 1) := by decide +kernel
theorem dX7_transmit_49 : decode cX7_transmit 49 = .ok (.getfield 7, 3) := by decide +kernel
theorem dX7_transmit_52 : decode cX7_transmit 52 = .ok (.bipush 9, 2) := by decide +kernel
theorem dX7_transmit_54 : decode cX7_transmit 54 = .ok (.iload_n 3, 1) := by decide +kernel
theorem dX7_transmit_55 : decode cX7_transmit 55 = .ok (.iadd, 1) := by decide +kernel
theorem dX7_transmit_56 : decode cX7_transmit 56 = .ok (.iaload, 1) := by decide +kernel
theorem dX7_transmit_57 : decode cX7_transmit 57 = .ok (.iadd, 1) := by decide +kernel
theorem dX7_transmit_58 : decode cX7_transmit 58 = .ok (.istore 5, 2) := by decide +kernel
theorem dX7_transmit_60 : decode cX7_transmit 60 = .ok (.aload_n 0, 1) := by decide +kernel
theorem dX7_transmit_61 : decode cX7_transmit 61 = .ok (.getfield 7, 3) := by decide +kernel
theorem dX7_transmit_64 : decode cX7_transmit 64 = .ok (.bipush 25, 2) := by decide +kernel
theorem dX7_transmit_66 : decode cX7_transmit 66 = .ok (.iload_n 3, 1) := by decide +kernel
theorem dX7_transmit_67 : decode cX7_transmit 67 = .ok (.iadd, 1) := by decide +kernel
theorem dX7_transmit_68 : decode cX7_transmit 68 = .ok (.iload 4, 2) := by decide +kernel
theorem dX7_transmit_70 : decode cX7_transmit 70 = .ok (.iastore, 1) := by decide +kernel
theorem dX7_transmit_71 : decode cX7_transmit 71 = .ok (.aload_n 0, 1) := by decide +kernel
theorem dX7_transmit_72 : decode cX7_transmit 72 = .ok (.getfield 7, 3) := by decide +kernel
theorem dX7_transmit_75 : decode cX7_transmit 75 = .ok (.bipush 21, 2) := by decide +kernel
theorem dX7_transmit_77 : decode cX7_transmit 77 = .ok (.iload_n 3, 1) := by decide +kernel
theorem dX7_transmit_78 : decode cX7_transmit 78 = .ok (.iadd, 1) := by decide +kernel
theorem dX7_transmit_79 : decode cX7_transmit 79 = .ok (.dup2, 1) := by decide +kernel
theorem dX7_transmit_80 : decode cX7_transmit 80 = .ok (.iaload, 1) := by decide +kernel
theorem dX7_transmit_81 : decode cX7_transmit 81 = .ok (.iload_n 2, 1) := by decide +kernel
theorem dX7_transmit_82 : decode cX7_transmit 82 = .ok (.iadd, 1) := by decide +kernel
theorem dX7_transmit_83 : decode cX7_transmit 83 = .ok (.iastore, 1) := by decide +kernel
theorem dX7_transmit_84 : decode cX7_transmit 84 = .ok (.aload_n 0, 1) := by decide +kernel
theorem dX7_transmit_85 : decode cX7_transmit 85 = .ok (.getfield 7, 3) := by decide +kernel
theorem dX7_transmit_88 : decode cX7_transmit 88 = .ok (.bipush 29, 2) := by decide +kernel
theorem dX7_transmit_90 : decode cX7_transmit 90 = .ok (.iload_n 3, 1) := by decide +kernel
theorem dX7_transmit_91 : decode cX7_transmit 91 = .ok (.iadd, 1) := by decide +kernel
theorem dX7_transmit_92 : decode cX7_transmit 92 = .ok (.dup2, 1) := by decide +kernel
theorem dX7_transmit_93 : decode cX7_transmit 93 = .ok (.iaload, 1) := by decide +kernel
theorem dX7_transmit_94 : decode cX7_transmit 94 = .ok (.iconst 1, 1) := by decide +kernel
theorem dX7_transmit_95 : decode cX7_transmit 95 = .ok (.iadd, 1) := by decide +kernel
theorem dX7_transmit_96 : decode cX7_transmit 96 = .ok (.iastore, 1) := by decide +kernel
theorem dX7_transmit_97 : decode cX7_transmit 97 = .ok (.aload_n 0, 1) := by decide +kernel
theorem dX7_transmit_98 : decode cX7_transmit 98 = .ok (.getfield 7, 3) := by decide +kernel
theorem dX7_transmit_101 : decode cX7_transmit 101 = .ok (.bipush 33, 2) := by decide +kernel
theorem dX7_transmit_103 : decode cX7_transmit 103 = .ok (.iload_n 3, 1) := by decide +kernel
theorem dX7_transmit_104 : decode cX7_transmit 104 = .ok (.iadd, 1) := by decide +kernel
theorem dX7_transmit_105 : decode cX7_transmit 105 = .ok (.dup2, 1) := by decide +kernel
theorem dX7_transmit_106 : decode cX7_transmit 106 = .ok (.iaload, 1) := by decide +kernel
theorem dX7_transmit_107 : decode cX7_transmit 107 = .ok (.iload_n 2, 1) := by decide +kernel
theorem dX7_transmit_108 : decode cX7_transmit 108 = .ok (.iadd, 1) := by decide +kernel
theorem dX7_transmit_109 : decode cX7_transmit 109 = .ok (.iastore, 1) := by decide +kernel
theorem dX7_transmit_110 : decode cX7_transmit 110 = .ok (.aload_n 0, 1) := by decide +kernel
theorem dX7_transmit_111 : decode cX7_transmit 111 = .ok (.getfield 7, 3) := by decide +kernel
theorem dX7_transmit_114 : decode cX7_transmit 114 = .ok (.bipush 89, 2) := by decide +kernel
theorem dX7_transmit_116 : decode cX7_transmit 116 = .ok (.iload_n 1, 1) := by decide +kernel
theorem dX7_transmit_117 : decode cX7_transmit 117 = .ok (.iadd, 1) := by decide +kernel
theorem dX7_transmit_118 : decode cX7_transmit 118 = .ok (.dup2, 1) := by decide +kernel
theorem dX7_transmit_119 : decode cX7_transmit 119 = .ok (.iaload, 1) := by decide +kernel
theorem dX7_transmit_120 : decode cX7_transmit 120 = .ok (.aload_n 0, 1) := by decide +kernel
theorem dX7_transmit_121 : decode cX7_transmit 121 = .ok (.getfield 7, 3) := by decide +kernel
theorem dX7_transmit_124 : decode cX7_transmit 124 = .ok (.bipush 105, 2) := by decide +kernel
theorem dX7_transmit_126 : decode cX7_transmit 126 = .ok (.iload_n 1, 1) := by decide +kernel
theorem dX7_transmit_127 : decode cX7_transmit 127 = .ok (.iadd, 1) := by decide +kernel
theorem dX7_transmit_128 : decode cX7_transmit 128 = .ok (.iaload, 1) := by decide +kernel
theorem dX7_transmit_129 : decode cX7_transmit 129 = .ok (.bipush (-9), 2) := by decide +kernel
theorem dX7_transmit_131 : decode cX7_transmit 131 = .ok (.if_icmp .eq 20, 3) := by decide +kernel
theorem dX7_transmit_134 : decode cX7_transmit 134 = .ok (.aload_n 0, 1) := by decide +kernel
theorem dX7_transmit_135 : decode cX7_transmit 135 = .ok (.getfield 7, 3) := by decide +kernel
theorem dX7_transmit_138 : decode cX7_transmit 138 = .ok (.bipush 105, 2) := by decide +kernel
theorem dX7_transmit_140 : decode cX7_transmit 140 = .ok (.iload_n 1, 1) := by decide +kernel
theorem dX7_transmit_141 : decode cX7_transmit 141 = .ok (.iadd, 1) := by decide +kernel
theorem dX7_transmit_142 : decode cX7_transmit 142 = .ok (.iaload, 1) := by decide +kernel
theorem dX7_transmit_143 : decode cX7_transmit 143 = .ok (.iload_n 3, 1) := by decide +kernel
theorem dX7_transmit_144 : decode cX7_transmit 144 = .ok (.if_icmp .eq 7, 3) := by decide +kernel
theorem dX7_transmit_147 : decode cX7_transmit 147 = .ok (.iconst 1, 1) := by decide +kernel
theorem dX7_transmit_148 : decode cX7_transmit 148 = .ok (.goto 4, 3) := by decide +kernel
theorem dX7_transmit_151 : decode cX7_transmit 151 = .ok (.iconst 0, 1) := by decide +kernel
theorem dX7_transmit_152 : decode cX7_transmit 152 = .ok (.iadd, 1) := by decide +kernel
theorem dX7_transmit_153 : decode cX7_transmit 153 = .ok (.iastore, 1) := by decide +kernel
theorem dX7_transmit_154 : decode cX7_transmit 154 = .ok (.aload_n 0, 1) := by decide +kernel
theorem dX7_transmit_155 : decode cX7_transmit 155 = .ok (.getfield 7, 3) := by decide +kernel
theorem dX7_transmit_158 : decode cX7_transmit 158 = .ok (.bipush 105, 2) := by decide +kernel
theorem dX7_transmit_160 : decode cX7_transmit 160 = .ok (.iload_n 1, 1) := by decide +kernel
theorem dX7_transmit_161 : decode cX7_transmit 161 = .ok (.iadd, 1) := by decide +kernel
theorem dX7_transmit_162 : decode cX7_transmit 162 = .ok (.iload_n 3, 1) := by decide +kernel
theorem dX7_transmit_163 : decode cX7_transmit 163 = .ok (.iastore, 1) := by decide +kernel
theorem dX7_transmit_164 : decode cX7_transmit 164 = .ok (.aload_n 0, 1) := by decide +kernel
theorem dX7_transmit_165 : decode cX7_transmit 165 = .ok (.getfield 7, 3) := by decide +kernel
theorem dX7_transmit_168 : decode cX7_transmit 168 = .ok (.bipush 121, 2) := by decide +kernel
theorem dX7_transmit_170 : decode cX7_transmit 170 = .ok (.iload_n 1, 1) := by decide +kernel
theorem dX7_transmit_171 : decode cX7_transmit 171 = .ok (.iadd, 1) := by decide +kernel
theorem dX7_transmit_172 : decode cX7_transmit 172 = .ok (.dup2, 1) := by decide +kernel
theorem dX7_transmit_173 : decode cX7_transmit 173 = .ok (.iaload, 1) := by decide +kernel
theorem dX7_transmit_174 : decode cX7_transmit 174 = .ok (.iload 5, 2) := by decide +kernel
theorem dX7_transmit_176 : decode cX7_transmit 176 = .ok (.aload_n 0, 1) := by decide +kernel
theorem dX7_transmit_177 : decode cX7_transmit 177 = .ok (.getfield 7, 3) := by decide +kernel
theorem dX7_transmit_180 : decode cX7_transmit 180 = .ok (.sipush 137, 3) := by decide +kernel
theorem dX7_transmit_183 : decode cX7_transmit 183 = .ok (.iload_n 1, 1) := by decide +kernel
theorem dX7_transmit_184 : decode cX7_transmit 184 = .ok (.iadd, 1) := by decide +kernel
theorem dX7_transmit_185 : decode cX7_transmit 185 = .ok (.iaload, 1) := by decide +kernel
theorem dX7_transmit_186 : decode cX7_transmit 186 = .ok (.if_icmp .ge 7, 3) := by decide +kernel
theorem dX7_transmit_189 : decode cX7_transmit 189 = .ok (.iconst 1, 1) := by decide +kernel
theorem dX7_transmit_190 : decode cX7_transmit 190 = .ok (.goto 4, 3) := by decide +kernel
theorem dX7_transmit_193 : decode cX7_transmit 193 = .ok (.iconst 0, 1) := by decide +kernel
theorem dX7_transmit_194 : decode cX7_transmit 194 = .ok (.iadd, 1) := by decide +kernel
theorem dX7_transmit_195 : decode cX7_transmit 195 = .ok (.iastore, 1) := by decide +kernel
theorem dX7_transmit_196 : decode cX7_transmit 196 = .ok (.aload_n 0, 1) := by decide +kernel
theorem dX7_transmit_197 : decode cX7_transmit 197 = .ok (.getfield 7, 3) := by decide +kernel
theorem dX7_transmit_200 : decode cX7_transmit 200 = .ok (.sipush 137, 3) := by decide +kernel
theorem dX7_transmit_203 : decode cX7_transmit 203 = .ok (.iload_n 1, 1) := by decide +kernel
theorem dX7_transmit_204 : decode cX7_transmit 204 = .ok (.iadd, 1) := by decide +kernel
theorem dX7_transmit_205 : decode cX7_transmit 205 = .ok (.iload 5, 2) := by decide +kernel
theorem dX7_transmit_207 : decode cX7_transmit 207 = .ok (.aload_n 0, 1) := by decide +kernel
theorem dX7_transmit_208 : decode cX7_transmit 208 = .ok (.getfield 7, 3) := by decide +kernel
theorem dX7_transmit_211 : decode cX7_transmit 211 = .ok (.sipush 137, 3) := by decide +kernel
theorem dX7_transmit_214 : decode cX7_transmit 214 = .ok (.iload_n 1, 1) := by decide +kernel
theorem dX7_transmit_215 : decode cX7_transmit 215 = .ok (.iadd, 1) := by decide +kernel
theorem dX7_transmit_216 : decode cX7_transmit 216 = .ok (.iaload, 1) := by decide +kernel
theorem dX7_transmit_217 : decode cX7_transmit 217 = .ok (.if_icmp .le 8, 3) := by decide +kernel
theorem dX7_transmit_220 : decode cX7_transmit 220 = .ok (.iload 5, 2) := by decide +kernel
theorem dX7_transmit_222 : decode cX7_transmit 222 = .ok (.goto 13, 3) := by decide +kernel
theorem dX7_transmit_225 : decode cX7_transmit 225 = .ok (.aload_n 0, 1) := by decide +kernel
theorem dX7_transmit_226 : decode cX7_transmit 226 = .ok (.getfield 7, 3) := by decide +kernel
theorem dX7_transmit_229 : decode cX7_transmit 229 = .ok (.sipush 137, 3) := by decide +kernel
theorem dX7_transmit_232 : decode cX7_transmit 232 = .ok (.iload_n 1, 1) := by decide +kernel
theorem dX7_transmit_233 : decode cX7_transmit 233 = .ok (.iadd, 1) := by decide +kernel
theorem dX7_transmit_234 : decode cX7_transmit 234 = .ok (.iaload, 1) := by decide +kernel
theorem dX7_transmit_235 : decode cX7_transmit 235 = .ok (.iastore, 1) := by decide +kernel
theorem dX7_transmit_236 : decode cX7_transmit 236 = .ok (.iload_n 3, 1) := by decide +kernel
theorem dX7_transmit_237 : decode cX7_transmit 237 = .ok (.ireturn, 1) := by decide +kernel
theorem dX7_send_0 : decode cX7_send 0 = .ok (.iload_n 1, 1) := by decide +kernel
theorem dX7_send_1 : decode cX7_send 1 = .ok (.invokestatic 108, 3) := by decide +kernel
theorem dX7_send_4 : decode cX7_send 4 = .ok (.ifCond .eq 10, 3) := by decide +kernel
theorem dX7_send_7 : decode cX7_send 7 = .ok (.iload_n 2, 1) := by decide +kernel
theorem dX7_send_8 : decode cX7_send 8 = .ok (.invokestatic 111, 3) := by decide +kernel
theorem dX7_send_11 : decode cX7_send 11 = .ok (.ifCond .ne 5, 3) := by decide +kernel
theorem dX7_send_14 : decode cX7_send 14 = .ok (.iconst (-1), 1) := by decide +kernel
theorem dX7_send_15 : decode cX7_send 15 = .ok (.ireturn, 1) := by decide +kernel
theorem dX7_send_16 : decode cX7_send 16 = .ok (.aload_n 0, 1) := by decide +kernel
theorem dX7_send_17 : decode cX7_send 17 = .ok (.invokevirtual 44, 3) := by decide +kernel
theorem dX7_send_20 : decode cX7_send 20 = .ok (.aload_n 0, 1) := by decide +kernel
theorem dX7_send_21 : decode cX7_send 21 = .ok (.iload_n 1, 1) := by decide +kernel
theorem dX7_send_22 : decode cX7_send 22 = .ok (.iload_n 2, 1) := by decide +kernel
theorem dX7_send_23 : decode cX7_send 23 = .ok (.invokevirtual 114, 3) := by decide +kernel
theorem dX7_send_26 : decode cX7_send 26 = .ok (.ireturn, 1) := by decide +kernel
theorem dX7_now_0 : decode cX7_now 0 = .ok (.aload_n 0, 1) := by decide +kernel
theorem dX7_now_1 : decode cX7_now 1 = .ok (.getfield 7, 3) := by decide +kernel
theorem dX7_now_4 : decode cX7_now 4 = .ok (.iconst 0, 1) := by decide +kernel
theorem dX7_now_5 : decode cX7_now 5 = .ok (.iaload, 1) := by decide +kernel
theorem dX7_now_6 : decode cX7_now 6 = .ok (.ireturn, 1) := by decide +kernel
theorem dX7_entryOf_0 : decode cX7_entryOf 0 = .ok (.iload_n 1, 1) := by decide +kernel
theorem dX7_entryOf_1 : decode cX7_entryOf 1 = .ok (.invokestatic 108, 3) := by decide +kernel
theorem dX7_entryOf_4 : decode cX7_entryOf 4 = .ok (.ifCond .eq 11, 3) := by decide +kernel
theorem dX7_entryOf_7 : decode cX7_entryOf 7 = .ok (.aload_n 0, 1) := by decide +kernel
theorem dX7_entryOf_8 : decode cX7_entryOf 8 = .ok (.iload_n 1, 1) := by decide +kernel
theorem dX7_entryOf_9 : decode cX7_entryOf 9 = .ok (.invokevirtual 47, 3) := by decide +kernel
theorem dX7_entryOf_12 : decode cX7_entryOf 12 = .ok (.goto 4, 3) := by decide +kernel
theorem dX7_entryOf_15 : decode cX7_entryOf 15 = .ok (.iconst (-1), 1) := by decide +kernel
theorem dX7_entryOf_16 : decode cX7_entryOf 16 = .ok (.ireturn, 1) := by decide +kernel
theorem dX7_isActive_0 : decode cX7_isActive 0 = .ok (.aload_n 0, 1) := by decide +kernel
theorem dX7_isActive_1 : decode cX7_isActive 1 = .ok (.iload_n 1, 1) := by decide +kernel
theorem dX7_isActive_2 : decode cX7_isActive 2 = .ok (.invokevirtual 117, 3) := by decide +kernel
theorem dX7_isActive_5 : decode cX7_isActive 5 = .ok (.ifCond .ne 7, 3) := by decide +kernel
theorem dX7_isActive_8 : decode cX7_isActive 8 = .ok (.iconst (-1), 1) := by decide +kernel
theorem dX7_isActive_9 : decode cX7_isActive 9 = .ok (.goto 16, 3) := by decide +kernel
theorem dX7_isActive_12 : decode cX7_isActive 12 = .ok (.aload_n 0, 1) := by decide +kernel
theorem dX7_isActive_13 : decode cX7_isActive 13 = .ok (.iload_n 1, 1) := by decide +kernel
theorem dX7_isActive_14 : decode cX7_isActive 14 = .ok (.invokevirtual 81, 3) := by decide +kernel
theorem dX7_isActive_17 : decode cX7_isActive 17 = .ok (.ifCond .eq 7, 3) := by decide +kernel
theorem dX7_isActive_20 : decode cX7_isActive 20 = .ok (.iconst 1, 1) := by decide +kernel
theorem dX7_isActive_21 : decode cX7_isActive 21 = .ok (.goto 4, 3) := by decide +kernel
theorem dX7_isActive_24 : decode cX7_isActive 24 = .ok (.iconst 0, 1) := by decide +kernel
theorem dX7_isActive_25 : decode cX7_isActive 25 = .ok (.ireturn, 1) := by decide +kernel
theorem dX7_entryPath_0 : decode cX7_entryPath 0 = .ok (.aload_n 0, 1) := by decide +kernel
theorem dX7_entryPath_1 : decode cX7_entryPath 1 = .ok (.iload_n 1, 1) := by decide +kernel
theorem dX7_entryPath_2 : decode cX7_entryPath 2 = .ok (.invokevirtual 117, 3) := by decide +kernel
theorem dX7_entryPath_5 : decode cX7_entryPath 5 = .ok (.ifCond .eq 15, 3) := by decide +kernel
theorem dX7_entryPath_8 : decode cX7_entryPath 8 = .ok (.aload_n 0, 1) := by decide +kernel
theorem dX7_entryPath_9 : decode cX7_entryPath 9 = .ok (.getfield 7, 3) := by decide +kernel
theorem dX7_entryPath_12 : decode cX7_entryPath 12 = .ok (.bipush 49, 2) := by decide +kernel
theorem dX7_entryPath_14 : decode cX7_entryPath 14 = .ok (.iload_n 1, 1) := by decide +kernel
theorem dX7_entryPath_15 : decode cX7_entryPath 15 = .ok (.iadd, 1) := by decide +kernel
theorem dX7_entryPath_16 : decode cX7_entryPath 16 = .ok (.iaload, 1) := by decide +kernel
theorem dX7_entryPath_17 : decode cX7_entryPath 17 = .ok (.goto 4, 3) := by decide +kernel
theorem dX7_entryPath_20 : decode cX7_entryPath 20 = .ok (.iconst (-1), 1) := by decide +kernel
theorem dX7_entryPath_21 : decode cX7_entryPath 21 = .ok (.ireturn, 1) := by decide +kernel
theorem dX7_ageBit_0 : decode cX7_ageBit 0 = .ok (.aload_n 0, 1) := by decide +kernel
theorem dX7_ageBit_1 : decode cX7_ageBit 1 = .ok (.iload_n 1, 1) := by decide +kernel
theorem dX7_ageBit_2 : decode cX7_ageBit 2 = .ok (.invokevirtual 117, 3) := by decide +kernel
theorem dX7_ageBit_5 : decode cX7_ageBit 5 = .ok (.ifCond .ne 7, 3) := by decide +kernel
theorem dX7_ageBit_8 : decode cX7_ageBit 8 = .ok (.iconst (-1), 1) := by decide +kernel
theorem dX7_ageBit_9 : decode cX7_ageBit 9 = .ok (.goto 30, 3) := by decide +kernel
theorem dX7_ageBit_12 : decode cX7_ageBit 12 = .ok (.aload_n 0, 1) := by decide +kernel
theorem dX7_ageBit_13 : decode cX7_ageBit 13 = .ok (.getfield 7, 3) := by decide +kernel
theorem dX7_ageBit_16 : decode cX7_ageBit 16 = .ok (.bipush 41, 2) := by decide +kernel
theorem dX7_ageBit_18 : decode cX7_ageBit 18 = .ok (.iload_n 1, 1) := by decide +kernel
theorem dX7_ageBit_19 : decode cX7_ageBit 19 = .ok (.iadd, 1) := by decide +kernel
theorem dX7_ageBit_20 : decode cX7_ageBit 20 = .ok (.iaload, 1) := by decide +kernel
theorem dX7_ageBit_21 : decode cX7_ageBit 21 = .ok (.iconst 1, 1) := by decide +kernel
theorem dX7_ageBit_22 : decode cX7_ageBit 22 = .ok (.if_icmp .ne 15, 3) := by decide +kernel
theorem dX7_ageBit_25 : decode cX7_ageBit 25 = .ok (.aload_n 0, 1) := by decide +kernel
theorem dX7_ageBit_26 : decode cX7_ageBit 26 = .ok (.getfield 7, 3) := by decide +kernel
theorem dX7_ageBit_29 : decode cX7_ageBit 29 = .ok (.bipush 65, 2) := by decide +kernel
theorem dX7_ageBit_31 : decode cX7_ageBit 31 = .ok (.iload_n 1, 1) := by decide +kernel
theorem dX7_ageBit_32 : decode cX7_ageBit 32 = .ok (.iadd, 1) := by decide +kernel
theorem dX7_ageBit_33 : decode cX7_ageBit 33 = .ok (.iaload, 1) := by decide +kernel
theorem dX7_ageBit_34 : decode cX7_ageBit 34 = .ok (.goto 5, 3) := by decide +kernel
theorem dX7_ageBit_37 : decode cX7_ageBit 37 = .ok (.bipush (-9), 2) := by decide +kernel
theorem dX7_ageBit_39 : decode cX7_ageBit 39 = .ok (.ireturn, 1) := by decide +kernel
theorem dX7_idleTime_0 : decode cX7_idleTime 0 = .ok (.aload_n 0, 1) := by decide +kernel
theorem dX7_idleTime_1 : decode cX7_idleTime 1 = .ok (.iload_n 1, 1) := by decide +kernel
theorem dX7_idleTime_2 : decode cX7_idleTime 2 = .ok (.invokevirtual 117, 3) := by decide +kernel
theorem dX7_idleTime_5 : decode cX7_idleTime 5 = .ok (.ifCond .ne 7, 3) := by decide +kernel
theorem dX7_idleTime_8 : decode cX7_idleTime 8 = .ok (.iconst (-1), 1) := by decide +kernel
theorem dX7_idleTime_9 : decode cX7_idleTime 9 = .ok (.goto 38, 3) := by decide +kernel
theorem dX7_idleTime_12 : decode cX7_idleTime 12 = .ok (.aload_n 0, 1) := by decide +kernel
theorem dX7_idleTime_13 : decode cX7_idleTime 13 = .ok (.getfield 7, 3) := by decide +kernel
theorem dX7_idleTime_16 : decode cX7_idleTime 16 = .ok (.bipush 49, 2) := by decide +kernel
theorem dX7_idleTime_18 : decode cX7_idleTime 18 = .ok (.iload_n 1, 1) := by decide +kernel
theorem dX7_idleTime_19 : decode cX7_idleTime 19 = .ok (.iadd, 1) := by decide +kernel
theorem dX7_idleTime_20 : decode cX7_idleTime 20 = .ok (.iaload, 1) := by decide +kernel
theorem dX7_idleTime_21 : decode cX7_idleTime 21 = .ok (.bipush (-9), 2) := by decide +kernel
theorem dX7_idleTime_23 : decode cX7_idleTime 23 = .ok (.if_icmp .ne 8, 3) := by decide +kernel
theorem dX7_idleTime_26 : decode cX7_idleTime 26 = .ok (.bipush (-9), 2) := by decide +kernel
theorem dX7_idleTime_28 : decode cX7_idleTime 28 = .ok (.goto 19, 3) := by decide +kernel
theorem dX7_idleTime_31 : decode cX7_idleTime 31 = .ok (.aload_n 0, 1) := by decide +kernel
theorem dX7_idleTime_32 : decode cX7_idleTime 32 = .ok (.getfield 7, 3) := by decide +kernel
theorem dX7_idleTime_35 : decode cX7_idleTime 35 = .ok (.iconst 0, 1) := by decide +kernel
theorem dX7_idleTime_36 : decode cX7_idleTime 36 = .ok (.iaload, 1) := by decide +kernel
theorem dX7_idleTime_37 : decode cX7_idleTime 37 = .ok (.aload_n 0, 1) := by decide +kernel
theorem dX7_idleTime_38 : decode cX7_idleTime 38 = .ok (.getfield 7, 3) := by decide +kernel
theorem dX7_idleTime_41 : decode cX7_idleTime 41 = .ok (.bipush 57, 2) := by decide +kernel
theorem dX7_idleTime_43 : decode cX7_idleTime 43 = .ok (.iload_n 1, 1) := by decide +kernel
theorem dX7_idleTime_44 : decode cX7_idleTime 44 = .ok (.iadd, 1) := by decide +kernel
theorem dX7_idleTime_45 : decode cX7_idleTime 45 = .ok (.iaload, 1) := by decide +kernel
theorem dX7_idleTime_46 : decode cX7_idleTime 46 = .ok (.isub, 1) := by decide +kernel
theorem dX7_idleTime_47 : decode cX7_idleTime 47 = .ok (.ireturn, 1) := by decide +kernel
theorem dX7_activeEntries_0 : decode cX7_activeEntries 0 = .ok (.iconst 0, 1) := by decide +kernel
theorem dX7_activeEntries_1 : decode cX7_activeEntries 1 = .ok (.istore_n 1, 1) := by decide +kernel
theorem dX7_activeEntries_2 : decode cX7_activeEntries 2 = .ok (.iconst 0, 1) := by decide +kernel
theorem dX7_activeEntries_3 : decode cX7_activeEntries 3 = .ok (.istore_n 2, 1) := by decide +kernel
theorem dX7_activeEntries_4 : decode cX7_activeEntries 4 = .ok (.iload_n 2, 1) := by decide +kernel
theorem dX7_activeEntries_5 : decode cX7_activeEntries 5 = .ok (.aload_n 0, 1) := by decide +kernel
theorem dX7_activeEntries_6 : decode cX7_activeEntries 6 = .ok (.getfield 7, 3) := by decide +kernel
theorem dX7_activeEntries_9 : decode cX7_activeEntries 9 = .ok (.iconst 2, 1) := by decide +kernel
theorem dX7_activeEntries_10 : decode cX7_activeEntries 10 = .ok (.iaload, 1) := by decide +kernel
theorem dX7_activeEntries_11 : decode cX7_activeEntries 11 = .ok (.if_icmp .ge 25, 3) := by decide +kernel
theorem dX7_activeEntries_14 : decode cX7_activeEntries 14 = .ok (.iload_n 1, 1) := by decide +kernel
theorem dX7_activeEntries_15 : decode cX7_activeEntries 15 = .ok (.aload_n 0, 1) := by decide +kernel
theorem dX7_activeEntries_16 : decode cX7_activeEntries 16 = .ok (.iload_n 2, 1) := by decide +kernel
theorem dX7_activeEntries_17 : decode cX7_activeEntries 17 = .ok (.invokevirtual 81, 3) := by decide +kernel
theorem dX7_activeEntries_20 : decode cX7_activeEntries 20 = .ok (.ifCond .eq 7, 3) := by decide +kernel
theorem dX7_activeEntries_23 : decode cX7_activeEntries 23 = .ok (.iconst 1, 1) := by decide +kernel
theorem dX7_activeEntries_24 : decode cX7_activeEntries 24 = .ok (.goto 4, 3) := by decide +kernel
theorem dX7_activeEntries_27 : decode cX7_activeEntries 27 = .ok (.iconst 0, 1) := by decide +kernel
theorem dX7_activeEntries_28 : decode cX7_activeEntries 28 = .ok (.iadd, 1) := by decide +kernel
theorem dX7_activeEntries_29 : decode cX7_activeEntries 29 = .ok (.istore_n 1, 1) := by decide +kernel
theorem dX7_activeEntries_30 : decode cX7_activeEntries 30 = .ok (.iinc 2 1, 3) := by decide +kernel
theorem dX7_activeEntries_33 : decode cX7_activeEntries 33 = .ok (.goto (-29), 3) := by decide +kernel
theorem dX7_activeEntries_36 : decode cX7_activeEntries 36 = .ok (.iload_n 1, 1) := by decide +kernel
theorem dX7_activeEntries_37 : decode cX7_activeEntries 37 = .ok (.ireturn, 1) := by decide +kernel
theorem dX7_ofPath_0 : decode cX7_ofPath 0 = .ok (.aload_n 0, 1) := by decide +kernel
theorem dX7_ofPath_1 : decode cX7_ofPath 1 = .ok (.iload_n 1, 1) := by decide +kernel
theorem dX7_ofPath_2 : decode cX7_ofPath 2 = .ok (.invokevirtual 51, 3) := by decide +kernel
theorem dX7_ofPath_5 : decode cX7_ofPath 5 = .ok (.ifCond .eq 14, 3) := by decide +kernel
theorem dX7_ofPath_8 : decode cX7_ofPath 8 = .ok (.aload_n 0, 1) := by decide +kernel
theorem dX7_ofPath_9 : decode cX7_ofPath 9 = .ok (.getfield 7, 3) := by decide +kernel
theorem dX7_ofPath_12 : decode cX7_ofPath 12 = .ok (.iload_n 2, 1) := by decide +kernel
theorem dX7_ofPath_13 : decode cX7_ofPath 13 = .ok (.iload_n 1, 1) := by decide +kernel
theorem dX7_ofPath_14 : decode cX7_ofPath 14 = .ok (.iadd, 1) := by decide +kernel
theorem dX7_ofPath_15 : decode cX7_ofPath 15 = .ok (.iaload, 1) := by decide +kernel
theorem dX7_ofPath_16 : decode cX7_ofPath 16 = .ok (.goto 4, 3) := by decide +kernel
theorem dX7_ofPath_19 : decode cX7_ofPath 19 = .ok (.iconst (-1), 1) := by decide +kernel
theorem dX7_ofPath_20 : decode cX7_ofPath 20 = .ok (.ireturn, 1) := by decide +kernel
theorem dX7_load_0 : decode cX7_load 0 = .ok (.aload_n 0, 1) := by decide +kernel
theorem dX7_load_1 : decode cX7_load 1 = .ok (.iload_n 1, 1) := by decide +kernel
theorem dX7_load_2 : decode cX7_load 2 = .ok (.bipush 21, 2) := by decide +kernel
theorem dX7_load_4 : decode cX7_load 4 = .ok (.invokevirtual 120, 3) := by decide +kernel
theorem dX7_load_7 : decode cX7_load 7 = .ok (.ireturn, 1) := by decide +kernel
theorem dX7_metric_0 : decode cX7_metric 0 = .ok (.aload_n 0, 1) := by decide +kernel
theorem dX7_metric_1 : decode cX7_metric 1 = .ok (.iload_n 1, 1) := by decide +kernel
theorem dX7_metric_2 : decode cX7_metric 2 = .ok (.invokevirtual 51, 3) := by decide +kernel
theorem dX7_metric_5 : decode cX7_metric 5 = .ok (.ifCond .eq 11, 3) := by decide +kernel
theorem dX7_metric_8 : decode cX7_metric 8 = .ok (.aload_n 0, 1) := by decide +kernel
theorem dX7_metric_9 : decode cX7_metric 9 = .ok (.iload_n 1, 1) := by decide +kernel
theorem dX7_metric_10 : decode cX7_metric 10 = .ok (.invokevirtual 72, 3) := by decide +kernel
theorem dX7_metric_13 : decode cX7_metric 13 = .ok (.goto 4, 3) := by decide +kernel
theorem dX7_metric_16 : decode cX7_metric 16 = .ok (.iconst (-1), 1) := by decide +kernel
theorem dX7_metric_17 : decode cX7_metric 17 = .ok (.ireturn, 1) := by decide +kernel
theorem dX7_busyTime_0 : decode cX7_busyTime 0 = .ok (.aload_n 0, 1) := by decide +kernel
theorem dX7_busyTime_1 : decode cX7_busyTime 1 = .ok (.iload_n 1, 1) := by decide +kernel
theorem dX7_busyTime_2 : decode cX7_busyTime 2 = .ok (.invokevirtual 51, 3) := by decide +kernel
theorem dX7_busyTime_5 : decode cX7_busyTime 5 = .ok (.ifCond .ne 5, 3) := by decide +kernel
theorem dX7_busyTime_8 : decode cX7_busyTime 8 = .ok (.iconst (-1), 1) := by decide +kernel
theorem dX7_busyTime_9 : decode cX7_busyTime 9 = .ok (.ireturn, 1) := by decide +kernel
theorem dX7_busyTime_10 : decode cX7_busyTime 10 = .ok (.aload_n 0, 1) := by decide +kernel
theorem dX7_busyTime_11 : decode cX7_busyTime 11 = .ok (.getfield 7, 3) := by decide +kernel
theorem dX7_busyTime_14 : decode cX7_busyTime 14 = .ok (.bipush 25, 2) := by decide +kernel
theorem dX7_busyTime_16 : decode cX7_busyTime 16 = .ok (.iload_n 1, 1) := by decide +kernel
theorem dX7_busyTime_17 : decode cX7_busyTime 17 = .ok (.iadd, 1) := by decide +kernel
theorem dX7_busyTime_18 : decode cX7_busyTime 18 = .ok (.iaload, 1) := by decide +kernel
theorem dX7_busyTime_19 : decode cX7_busyTime 19 = .ok (.aload_n 0, 1) := by decide +kernel
theorem dX7_busyTime_20 : decode cX7_busyTime 20 = .ok (.getfield 7, 3) := by decide +kernel
theorem dX7_busyTime_23 : decode cX7_busyTime 23 = .ok (.iconst 0, 1) := by decide +kernel
theorem dX7_busyTime_24 : decode cX7_busyTime 24 = .ok (.iaload, 1) := by decide +kernel
theorem dX7_busyTime_25 : decode cX7_busyTime 25 = .ok (.isub, 1) := by decide +kernel
theorem dX7_busyTime_26 : decode cX7_busyTime 26 = .ok (.istore_n 2, 1) := by decide +kernel
theorem dX7_busyTime_27 : decode cX7_busyTime 27 = .ok (.iload_n 2, 1) := by decide +kernel
theorem dX7_busyTime_28 : decode cX7_busyTime 28 = .ok (.ifCond .le 7, 3) := by decide +kernel
theorem dX7_busyTime_31 : decode cX7_busyTime 31 = .ok (.iload_n 2, 1) := by decide +kernel
theorem dX7_busyTime_32 : decode cX7_busyTime 32 = .ok (.goto 4, 3) := by decide +kernel
theorem dX7_busyTime_35 : decode cX7_busyTime 35 = .ok (.iconst 0, 1) := by decide +kernel
theorem dX7_busyTime_36 : decode cX7_busyTime 36 = .ok (.ireturn, 1) := by decide +kernel
theorem dX7_latencyOf_0 : decode cX7_latencyOf 0 = .ok (.aload_n 0, 1) := by decide +kernel
theorem dX7_latencyOf_1 : decode cX7_latencyOf 1 = .ok (.iload_n 1, 1) := by decide +kernel
theorem dX7_latencyOf_2 : decode cX7_latencyOf 2 = .ok (.iload_n 2, 1) := by decide +kernel
theorem dX7_latencyOf_3 : decode cX7_latencyOf 3 = .ok (.invokevirtual 105, 3) := by decide +kernel
theorem dX7_latencyOf_6 : decode cX7_latencyOf 6 = .ok (.aload_n 0, 1) := by decide +kernel
theorem dX7_latencyOf_7 : decode cX7_latencyOf 7 = .ok (.getfield 7, 3) := by decide +kernel
theorem dX7_latencyOf_10 : decode cX7_latencyOf 10 = .ok (.bipush 9, 2) := by decide +kernel
theorem dX7_latencyOf_12 : decode cX7_latencyOf 12 = .ok (.iload_n 1, 1) := by decide +kernel
theorem dX7_latencyOf_13 : decode cX7_latencyOf 13 = .ok (.iadd, 1) := by decide +kernel
theorem dX7_latencyOf_14 : decode cX7_latencyOf 14 = .ok (.iaload, 1) := by decide +kernel
theorem dX7_latencyOf_15 : decode cX7_latencyOf 15 = .ok (.iadd, 1) := by decide +kernel
theorem dX7_latencyOf_16 : decode cX7_latencyOf 16 = .ok (.aload_n 0, 1) := by decide +kernel
theorem dX7_latencyOf_17 : decode cX7_latencyOf 17 = .ok (.getfield 7, 3) := by decide +kernel
theorem dX7_latencyOf_20 : decode cX7_latencyOf 20 = .ok (.iconst 0, 1) := by decide +kernel
theorem dX7_latencyOf_21 : decode cX7_latencyOf 21 = .ok (.iaload, 1) := by decide +kernel
theorem dX7_latencyOf_22 : decode cX7_latencyOf 22 = .ok (.isub, 1) := by decide +kernel
theorem dX7_latencyOf_23 : decode cX7_latencyOf 23 = .ok (.ireturn, 1) := by decide +kernel
theorem dX7_latency_0 : decode cX7_latency 0 = .ok (.aload_n 0, 1) := by decide +kernel
theorem dX7_latency_1 : decode cX7_latency 1 = .ok (.iload_n 1, 1) := by decide +kernel
theorem dX7_latency_2 : decode cX7_latency 2 = .ok (.invokevirtual 51, 3) := by decide +kernel
theorem dX7_latency_5 : decode cX7_latency 5 = .ok (.ifCond .eq 19, 3) := by decide +kernel
theorem dX7_latency_8 : decode cX7_latency 8 = .ok (.iload_n 2, 1) := by decide +kernel
theorem dX7_latency_9 : decode cX7_latency 9 = .ok (.invokestatic 111, 3) := by decide +kernel
theorem dX7_latency_12 : decode cX7_latency 12 = .ok (.ifCond .eq 12, 3) := by decide +kernel
theorem dX7_latency_15 : decode cX7_latency 15 = .ok (.aload_n 0, 1) := by decide +kernel
theorem dX7_latency_16 : decode cX7_latency 16 = .ok (.iload_n 1, 1) := by decide +kernel
theorem dX7_latency_17 : decode cX7_latency 17 = .ok (.iload_n 2, 1) := by decide +kernel
theorem dX7_latency_18 : decode cX7_latency 18 = .ok (.invokevirtual 123, 3) := by decide +kernel
theorem dX7_latency_21 : decode cX7_latency 21 = .ok (.goto 4, 3) := by decide +kernel
theorem dX7_latency_24 : decode cX7_latency 24 = .ok (.iconst (-1), 1) := by decide +kernel
theorem dX7_latency_25 : decode cX7_latency 25 = .ok (.ireturn, 1) := by decide +kernel
theorem dX7_safeGap_0 : decode cX7_safeGap 0 = .ok (.iload_n 1, 1) := by decide +kernel
theorem dX7_safeGap_1 : decode cX7_safeGap 1 = .ok (.invokestatic 111, 3) := by decide +kernel
theorem dX7_safeGap_4 : decode cX7_safeGap 4 = .ok (.ifCond .ne 5, 3) := by decide +kernel
theorem dX7_safeGap_7 : decode cX7_safeGap 7 = .ok (.iconst (-1), 1) := by decide +kernel
theorem dX7_safeGap_8 : decode cX7_safeGap 8 = .ok (.ireturn, 1) := by decide +kernel
theorem dX7_safeGap_9 : decode cX7_safeGap 9 = .ok (.aload_n 0, 1) := by decide +kernel
theorem dX7_safeGap_10 : decode cX7_safeGap 10 = .ok (.iconst 0, 1) := by decide +kernel
theorem dX7_safeGap_11 : decode cX7_safeGap 11 = .ok (.iload_n 1, 1) := by decide +kernel
theorem dX7_safeGap_12 : decode cX7_safeGap 12 = .ok (.invokevirtual 123, 3) := by decide +kernel
theorem dX7_safeGap_15 : decode cX7_safeGap 15 = .ok (.istore_n 2, 1) := by decide +kernel
theorem dX7_safeGap_16 : decode cX7_safeGap 16 = .ok (.iload_n 2, 1) := by decide +kernel
theorem dX7_safeGap_17 : decode cX7_safeGap 17 = .ok (.istore_n 3, 1) := by decide +kernel
theorem dX7_safeGap_18 : decode cX7_safeGap 18 = .ok (.iconst 1, 1) := by decide +kernel
theorem dX7_safeGap_19 : decode cX7_safeGap 19 = .ok (.istore 4, 2) := by decide +kernel
theorem dX7_safeGap_21 : decode cX7_safeGap 21 = .ok (.iload 4, 2) := by decide +kernel
theorem dX7_safeGap_23 : decode cX7_safeGap 23 = .ok (.aload_n 0, 1) := by decide +kernel
theorem dX7_safeGap_24 : decode cX7_safeGap 24 = .ok (.getfield 7, 3) := by decide +kernel
theorem dX7_safeGap_27 : decode cX7_safeGap 27 = .ok (.iconst 1, 1) := by decide +kernel
theorem dX7_safeGap_28 : decode cX7_safeGap 28 = .ok (.iaload, 1) := by decide +kernel
theorem dX7_safeGap_29 : decode cX7_safeGap 29 = .ok (.if_icmp .ge 44, 3) := by decide +kernel
theorem dX7_safeGap_32 : decode cX7_safeGap 32 = .ok (.aload_n 0, 1) := by decide +kernel
theorem dX7_safeGap_33 : decode cX7_safeGap 33 = .ok (.iload 4, 2) := by decide +kernel
theorem dX7_safeGap_35 : decode cX7_safeGap 35 = .ok (.iload_n 1, 1) := by decide +kernel
theorem dX7_safeGap_36 : decode cX7_safeGap 36 = .ok (.invokevirtual 123, 3) := by decide +kernel
theorem dX7_safeGap_39 : decode cX7_safeGap 39 = .ok (.istore 5, 2) := by decide +kernel
theorem dX7_safeGap_41 : decode cX7_safeGap 41 = .ok (.iload 5, 2) := by decide +kernel
theorem dX7_safeGap_43 : decode cX7_safeGap 43 = .ok (.iload_n 2, 1) := by decide +kernel
theorem dX7_safeGap_44 : decode cX7_safeGap 44 = .ok (.if_icmp .ge 8, 3) := by decide +kernel
theorem dX7_safeGap_47 : decode cX7_safeGap 47 = .ok (.iload 5, 2) := by decide +kernel
theorem dX7_safeGap_49 : decode cX7_safeGap 49 = .ok (.goto 4, 3) := by decide +kernel
theorem dX7_safeGap_52 : decode cX7_safeGap 52 = .ok (.iload_n 2, 1) := by decide +kernel
theorem dX7_safeGap_53 : decode cX7_safeGap 53 = .ok (.istore_n 2, 1) := by decide +kernel
theorem dX7_safeGap_54 : decode cX7_safeGap 54 = .ok (.iload 5, 2) := by decide +kernel
theorem dX7_safeGap_56 : decode cX7_safeGap 56 = .ok (.iload_n 3, 1) := by decide +kernel
theorem dX7_safeGap_57 : decode cX7_safeGap 57 = .ok (.if_icmp .le 8, 3) := by decide +kernel
theorem dX7_safeGap_60 : decode cX7_safeGap 60 = .ok (.iload 5, 2) := by decide +kernel
theorem dX7_safeGap_62 : decode cX7_safeGap 62 = .ok (.goto 4, 3) := by decide +kernel
theorem dX7_safeGap_65 : decode cX7_safeGap 65 = .ok (.iload_n 3, 1) := by decide +kernel
theorem dX7_safeGap_66 : decode cX7_safeGap 66 = .ok (.istore_n 3, 1) := by decide +kernel
theorem dX7_safeGap_67 : decode cX7_safeGap 67 = .ok (.iinc 4 1, 3) := by decide +kernel
theorem dX7_safeGap_70 : decode cX7_safeGap 70 = .ok (.goto (-49), 3) := by decide +kernel
theorem dX7_safeGap_73 : decode cX7_safeGap 73 = .ok (.iload_n 3, 1) := by decide +kernel
theorem dX7_safeGap_74 : decode cX7_safeGap 74 = .ok (.iload_n 2, 1) := by decide +kernel
theorem dX7_safeGap_75 : decode cX7_safeGap 75 = .ok (.isub, 1) := by decide +kernel
theorem dX7_safeGap_76 : decode cX7_safeGap 76 = .ok (.ireturn, 1) := by decide +kernel
theorem dX7_packets_0 : decode cX7_packets 0 = .ok (.aload_n 0, 1) := by decide +kernel
theorem dX7_packets_1 : decode cX7_packets 1 = .ok (.iload_n 1, 1) := by decide +kernel
theorem dX7_packets_2 : decode cX7_packets 2 = .ok (.bipush 29, 2) := by decide +kernel
theorem dX7_packets_4 : decode cX7_packets 4 = .ok (.invokevirtual 120, 3) := by decide +kernel
theorem dX7_packets_7 : decode cX7_packets 7 = .ok (.ireturn, 1) := by decide +kernel
theorem dX7_bytes_0 : decode cX7_bytes 0 = .ok (.aload_n 0, 1) := by decide +kernel
theorem dX7_bytes_1 : decode cX7_bytes 1 = .ok (.iload_n 1, 1) := by decide +kernel
theorem dX7_bytes_2 : decode cX7_bytes 2 = .ok (.bipush 33, 2) := by decide +kernel
theorem dX7_bytes_4 : decode cX7_bytes 4 = .ok (.invokevirtual 120, 3) := by decide +kernel
theorem dX7_bytes_7 : decode cX7_bytes 7 = .ok (.ireturn, 1) := by decide +kernel
theorem dX7_drops_0 : decode cX7_drops 0 = .ok (.aload_n 0, 1) := by decide +kernel
theorem dX7_drops_1 : decode cX7_drops 1 = .ok (.iload_n 1, 1) := by decide +kernel
theorem dX7_drops_2 : decode cX7_drops 2 = .ok (.bipush 37, 2) := by decide +kernel
theorem dX7_drops_4 : decode cX7_drops 4 = .ok (.invokevirtual 120, 3) := by decide +kernel
theorem dX7_drops_7 : decode cX7_drops 7 = .ok (.ireturn, 1) := by decide +kernel
theorem dX7_imbalance_0 : decode cX7_imbalance 0 = .ok (.aload_n 0, 1) := by decide +kernel
theorem dX7_imbalance_1 : decode cX7_imbalance 1 = .ok (.getfield 7, 3) := by decide +kernel
theorem dX7_imbalance_4 : decode cX7_imbalance 4 = .ok (.bipush 33, 2) := by decide +kernel
theorem dX7_imbalance_6 : decode cX7_imbalance 6 = .ok (.iaload, 1) := by decide +kernel
theorem dX7_imbalance_7 : decode cX7_imbalance 7 = .ok (.istore_n 1, 1) := by decide +kernel
theorem dX7_imbalance_8 : decode cX7_imbalance 8 = .ok (.iload_n 1, 1) := by decide +kernel
theorem dX7_imbalance_9 : decode cX7_imbalance 9 = .ok (.istore_n 2, 1) := by decide +kernel
theorem dX7_imbalance_10 : decode cX7_imbalance 10 = .ok (.iconst 1, 1) := by decide +kernel
theorem dX7_imbalance_11 : decode cX7_imbalance 11 = .ok (.istore_n 3, 1) := by decide +kernel
theorem dX7_imbalance_12 : decode cX7_imbalance 12 = .ok (.iload_n 3, 1) := by decide +kernel
theorem dX7_imbalance_13 : decode cX7_imbalance 13 = .ok (.aload_n 0, 1) := by decide +kernel
theorem dX7_imbalance_14 : decode cX7_imbalance 14 = .ok (.getfield 7, 3) := by decide +kernel
theorem dX7_imbalance_17 : decode cX7_imbalance 17 = .ok (.iconst 1, 1) := by decide +kernel
theorem dX7_imbalance_18 : decode cX7_imbalance 18 = .ok (.iaload, 1) := by decide +kernel
theorem dX7_imbalance_19 : decode cX7_imbalance 19 = .ok (.if_icmp .ge 46, 3) := by decide +kernel
theorem dX7_imbalance_22 : decode cX7_imbalance 22 = .ok (.aload_n 0, 1) := by decide +kernel
theorem dX7_imbalance_23 : decode cX7_imbalance 23 = .ok (.getfield 7, 3) := by decide +kernel
theorem dX7_imbalance_26 : decode cX7_imbalance 26 = .ok (.bipush 33, 2) := by decide +kernel
theorem dX7_imbalance_28 : decode cX7_imbalance 28 = .ok (.iload_n 3, 1) := by decide +kernel
theorem dX7_imbalance_29 : decode cX7_imbalance 29 = .ok (.iadd, 1) := by decide +kernel
theorem dX7_imbalance_30 : decode cX7_imbalance 30 = .ok (.iaload, 1) := by decide +kernel
theorem dX7_imbalance_31 : decode cX7_imbalance 31 = .ok (.istore 4, 2) := by decide +kernel
theorem dX7_imbalance_33 : decode cX7_imbalance 33 = .ok (.iload 4, 2) := by decide +kernel
theorem dX7_imbalance_35 : decode cX7_imbalance 35 = .ok (.iload_n 1, 1) := by decide +kernel
theorem dX7_imbalance_36 : decode cX7_imbalance 36 = .ok (.if_icmp .ge 8, 3) := by decide +kernel
theorem dX7_imbalance_39 : decode cX7_imbalance 39 = .ok (.iload 4, 2) := by decide +kernel
theorem dX7_imbalance_41 : decode cX7_imbalance 41 = .ok (.goto 4, 3) := by decide +kernel
theorem dX7_imbalance_44 : decode cX7_imbalance 44 = .ok (.iload_n 1, 1) := by decide +kernel
theorem dX7_imbalance_45 : decode cX7_imbalance 45 = .ok (.istore_n 1, 1) := by decide +kernel
theorem dX7_imbalance_46 : decode cX7_imbalance 46 = .ok (.iload 4, 2) := by decide +kernel
theorem dX7_imbalance_48 : decode cX7_imbalance 48 = .ok (.iload_n 2, 1) := by decide +kernel
theorem dX7_imbalance_49 : decode cX7_imbalance 49 = .ok (.if_icmp .le 8, 3) := by decide +kernel
theorem dX7_imbalance_52 : decode cX7_imbalance 52 = .ok (.iload 4, 2) := by decide +kernel
theorem dX7_imbalance_54 : decode cX7_imbalance 54 = .ok (.goto 4, 3) := by decide +kernel
theorem dX7_imbalance_57 : decode cX7_imbalance 57 = .ok (.iload_n 2, 1) := by decide +kernel
theorem dX7_imbalance_58 : decode cX7_imbalance 58 = .ok (.istore_n 2, 1) := by decide +kernel
theorem dX7_imbalance_59 : decode cX7_imbalance 59 = .ok (.iinc 3 1, 3) := by decide +kernel
theorem dX7_imbalance_62 : decode cX7_imbalance 62 = .ok (.goto (-50), 3) := by decide +kernel
theorem dX7_imbalance_65 : decode cX7_imbalance 65 = .ok (.iload_n 2, 1) := by decide +kernel
theorem dX7_imbalance_66 : decode cX7_imbalance 66 = .ok (.iload_n 1, 1) := by decide +kernel
theorem dX7_imbalance_67 : decode cX7_imbalance 67 = .ok (.isub, 1) := by decide +kernel
theorem dX7_imbalance_68 : decode cX7_imbalance 68 = .ok (.ireturn, 1) := by decide +kernel
theorem dX7_nextPath_0 : decode cX7_nextPath 0 = .ok (.iload_n 1, 1) := by decide +kernel
theorem dX7_nextPath_1 : decode cX7_nextPath 1 = .ok (.invokestatic 108, 3) := by decide +kernel
theorem dX7_nextPath_4 : decode cX7_nextPath 4 = .ok (.ifCond .eq 11, 3) := by decide +kernel
theorem dX7_nextPath_7 : decode cX7_nextPath 7 = .ok (.aload_n 0, 1) := by decide +kernel
theorem dX7_nextPath_8 : decode cX7_nextPath 8 = .ok (.iload_n 1, 1) := by decide +kernel
theorem dX7_nextPath_9 : decode cX7_nextPath 9 = .ok (.invokevirtual 96, 3) := by decide +kernel
theorem dX7_nextPath_12 : decode cX7_nextPath 12 = .ok (.goto 4, 3) := by decide +kernel
theorem dX7_nextPath_15 : decode cX7_nextPath 15 = .ok (.iconst (-1), 1) := by decide +kernel
theorem dX7_nextPath_16 : decode cX7_nextPath 16 = .ok (.ireturn, 1) := by decide +kernel
theorem dX7_wouldReorder_0 : decode cX7_wouldReorder 0 = .ok (.iload_n 1, 1) := by decide +kernel
theorem dX7_wouldReorder_1 : decode cX7_wouldReorder 1 = .ok (.invokestatic 108, 3) := by decide +kernel
theorem dX7_wouldReorder_4 : decode cX7_wouldReorder 4 = .ok (.ifCond .eq 10, 3) := by decide +kernel
theorem dX7_wouldReorder_7 : decode cX7_wouldReorder 7 = .ok (.iload_n 2, 1) := by decide +kernel
theorem dX7_wouldReorder_8 : decode cX7_wouldReorder 8 = .ok (.invokestatic 111, 3) := by decide +kernel
theorem dX7_wouldReorder_11 : decode cX7_wouldReorder 11 = .ok (.ifCond .ne 5, 3) := by decide +kernel
theorem dX7_wouldReorder_14 : decode cX7_wouldReorder 14 = .ok (.iconst (-1), 1) := by decide +kernel
theorem dX7_wouldReorder_15 : decode cX7_wouldReorder 15 = .ok (.ireturn, 1) := by decide +kernel
theorem dX7_wouldReorder_16 : decode cX7_wouldReorder 16 = .ok (.aload_n 0, 1) := by decide +kernel
theorem dX7_wouldReorder_17 : decode cX7_wouldReorder 17 = .ok (.iload_n 1, 1) := by decide +kernel
theorem dX7_wouldReorder_18 : decode cX7_wouldReorder 18 = .ok (.invokevirtual 96, 3) := by decide +kernel
theorem dX7_wouldReorder_21 : decode cX7_wouldReorder 21 = .ok (.istore_n 3, 1) := by decide +kernel
theorem dX7_wouldReorder_22 : decode cX7_wouldReorder 22 = .ok (.aload_n 0, 1) := by decide +kernel
theorem dX7_wouldReorder_23 : decode cX7_wouldReorder 23 = .ok (.iload_n 3, 1) := by decide +kernel
theorem dX7_wouldReorder_24 : decode cX7_wouldReorder 24 = .ok (.iload_n 2, 1) := by decide +kernel
theorem dX7_wouldReorder_25 : decode cX7_wouldReorder 25 = .ok (.invokevirtual 105, 3) := by decide +kernel
theorem dX7_wouldReorder_28 : decode cX7_wouldReorder 28 = .ok (.aload_n 0, 1) := by decide +kernel
theorem dX7_wouldReorder_29 : decode cX7_wouldReorder 29 = .ok (.getfield 7, 3) := by decide +kernel
theorem dX7_wouldReorder_32 : decode cX7_wouldReorder 32 = .ok (.bipush 9, 2) := by decide +kernel
theorem dX7_wouldReorder_34 : decode cX7_wouldReorder 34 = .ok (.iload_n 3, 1) := by decide +kernel
theorem dX7_wouldReorder_35 : decode cX7_wouldReorder 35 = .ok (.iadd, 1) := by decide +kernel
theorem dX7_wouldReorder_36 : decode cX7_wouldReorder 36 = .ok (.iaload, 1) := by decide +kernel
theorem dX7_wouldReorder_37 : decode cX7_wouldReorder 37 = .ok (.iadd, 1) := by decide +kernel
theorem dX7_wouldReorder_38 : decode cX7_wouldReorder 38 = .ok (.aload_n 0, 1) := by decide +kernel
theorem dX7_wouldReorder_39 : decode cX7_wouldReorder 39 = .ok (.getfield 7, 3) := by decide +kernel
theorem dX7_wouldReorder_42 : decode cX7_wouldReorder 42 = .ok (.sipush 137, 3) := by decide +kernel
theorem dX7_wouldReorder_45 : decode cX7_wouldReorder 45 = .ok (.iload_n 1, 1) := by decide +kernel
theorem dX7_wouldReorder_46 : decode cX7_wouldReorder 46 = .ok (.iadd, 1) := by decide +kernel
theorem dX7_wouldReorder_47 : decode cX7_wouldReorder 47 = .ok (.iaload, 1) := by decide +kernel
theorem dX7_wouldReorder_48 : decode cX7_wouldReorder 48 = .ok (.if_icmp .ge 7, 3) := by decide +kernel
theorem dX7_wouldReorder_51 : decode cX7_wouldReorder 51 = .ok (.iconst 1, 1) := by decide +kernel
theorem dX7_wouldReorder_52 : decode cX7_wouldReorder 52 = .ok (.goto 4, 3) := by decide +kernel
theorem dX7_wouldReorder_55 : decode cX7_wouldReorder 55 = .ok (.iconst 0, 1) := by decide +kernel
theorem dX7_wouldReorder_56 : decode cX7_wouldReorder 56 = .ok (.istore 4, 2) := by decide +kernel
theorem dX7_wouldReorder_58 : decode cX7_wouldReorder 58 = .ok (.iload 4, 2) := by decide +kernel
theorem dX7_wouldReorder_60 : decode cX7_wouldReorder 60 = .ok (.ifCond .eq 15, 3) := by decide +kernel
theorem dX7_wouldReorder_63 : decode cX7_wouldReorder 63 = .ok (.aload_n 0, 1) := by decide +kernel
theorem dX7_wouldReorder_64 : decode cX7_wouldReorder 64 = .ok (.iload_n 3, 1) := by decide +kernel
theorem dX7_wouldReorder_65 : decode cX7_wouldReorder 65 = .ok (.invokevirtual 102, 3) := by decide +kernel
theorem dX7_wouldReorder_68 : decode cX7_wouldReorder 68 = .ok (.ifCond .ne 7, 3) := by decide +kernel
theorem dX7_wouldReorder_71 : decode cX7_wouldReorder 71 = .ok (.iconst 1, 1) := by decide +kernel
theorem dX7_wouldReorder_72 : decode cX7_wouldReorder 72 = .ok (.goto 4, 3) := by decide +kernel
theorem dX7_wouldReorder_75 : decode cX7_wouldReorder 75 = .ok (.iconst 0, 1) := by decide +kernel
theorem dX7_wouldReorder_76 : decode cX7_wouldReorder 76 = .ok (.ireturn, 1) := by decide +kernel
theorem dX7_ofFlow_0 : decode cX7_ofFlow 0 = .ok (.iload_n 1, 1) := by decide +kernel
theorem dX7_ofFlow_1 : decode cX7_ofFlow 1 = .ok (.invokestatic 108, 3) := by decide +kernel
theorem dX7_ofFlow_4 : decode cX7_ofFlow 4 = .ok (.ifCond .eq 14, 3) := by decide +kernel
theorem dX7_ofFlow_7 : decode cX7_ofFlow 7 = .ok (.aload_n 0, 1) := by decide +kernel
theorem dX7_ofFlow_8 : decode cX7_ofFlow 8 = .ok (.getfield 7, 3) := by decide +kernel
theorem dX7_ofFlow_11 : decode cX7_ofFlow 11 = .ok (.iload_n 2, 1) := by decide +kernel
theorem dX7_ofFlow_12 : decode cX7_ofFlow 12 = .ok (.iload_n 1, 1) := by decide +kernel
theorem dX7_ofFlow_13 : decode cX7_ofFlow 13 = .ok (.iadd, 1) := by decide +kernel
theorem dX7_ofFlow_14 : decode cX7_ofFlow 14 = .ok (.iaload, 1) := by decide +kernel
theorem dX7_ofFlow_15 : decode cX7_ofFlow 15 = .ok (.goto 4, 3) := by decide +kernel
theorem dX7_ofFlow_18 : decode cX7_ofFlow 18 = .ok (.iconst (-1), 1) := by decide +kernel
theorem dX7_ofFlow_19 : decode cX7_ofFlow 19 = .ok (.ireturn, 1) := by decide +kernel
theorem dX7_flowlets_0 : decode cX7_flowlets 0 = .ok (.aload_n 0, 1) := by decide +kernel
theorem dX7_flowlets_1 : decode cX7_flowlets 1 = .ok (.iload_n 1, 1) := by decide +kernel
theorem dX7_flowlets_2 : decode cX7_flowlets 2 = .ok (.bipush 73, 2) := by decide +kernel
theorem dX7_flowlets_4 : decode cX7_flowlets 4 = .ok (.invokevirtual 126, 3) := by decide +kernel
theorem dX7_flowlets_7 : decode cX7_flowlets 7 = .ok (.ireturn, 1) := by decide +kernel
theorem dX7_pathChanges_0 : decode cX7_pathChanges 0 = .ok (.aload_n 0, 1) := by decide +kernel
theorem dX7_pathChanges_1 : decode cX7_pathChanges 1 = .ok (.iload_n 1, 1) := by decide +kernel
theorem dX7_pathChanges_2 : decode cX7_pathChanges 2 = .ok (.bipush 89, 2) := by decide +kernel
theorem dX7_pathChanges_4 : decode cX7_pathChanges 4 = .ok (.invokevirtual 126, 3) := by decide +kernel
theorem dX7_pathChanges_7 : decode cX7_pathChanges 7 = .ok (.ireturn, 1) := by decide +kernel
theorem dX7_reordered_0 : decode cX7_reordered 0 = .ok (.aload_n 0, 1) := by decide +kernel
theorem dX7_reordered_1 : decode cX7_reordered 1 = .ok (.iload_n 1, 1) := by decide +kernel
theorem dX7_reordered_2 : decode cX7_reordered 2 = .ok (.bipush 121, 2) := by decide +kernel
theorem dX7_reordered_4 : decode cX7_reordered 4 = .ok (.invokevirtual 126, 3) := by decide +kernel
theorem dX7_reordered_7 : decode cX7_reordered 7 = .ok (.ireturn, 1) := by decide +kernel
theorem dX7_lastArrival_0 : decode cX7_lastArrival 0 = .ok (.aload_n 0, 1) := by decide +kernel
theorem dX7_lastArrival_1 : decode cX7_lastArrival 1 = .ok (.iload_n 1, 1) := by decide +kernel
theorem dX7_lastArrival_2 : decode cX7_lastArrival 2 = .ok (.sipush 137, 3) := by decide +kernel
theorem dX7_lastArrival_5 : decode cX7_lastArrival 5 = .ok (.invokevirtual 126, 3) := by decide +kernel
theorem dX7_lastArrival_8 : decode cX7_lastArrival 8 = .ok (.ireturn, 1) := by decide +kernel
theorem dX7_appendCharacter_0 : decode cX7_appendCharacter 0 = .ok (.iload_n 1, 1) := by decide +kernel
theorem dX7_appendCharacter_1 : decode cX7_appendCharacter 1 = .ok (.iconst 0, 1) := by decide +kernel
theorem dX7_appendCharacter_2 : decode cX7_appendCharacter 2 = .ok (.sipush 255, 3) := by decide +kernel
theorem dX7_appendCharacter_5 : decode cX7_appendCharacter 5 = .ok (.invokestatic 36, 3) := by decide +kernel
theorem dX7_appendCharacter_8 : decode cX7_appendCharacter 8 = .ok (.ifCond .ne 5, 3) := by decide +kernel
theorem dX7_appendCharacter_11 : decode cX7_appendCharacter 11 = .ok (.iconst (-1), 1) := by decide +kernel
theorem dX7_appendCharacter_12 : decode cX7_appendCharacter 12 = .ok (.ireturn, 1) := by decide +kernel
theorem dX7_appendCharacter_13 : decode cX7_appendCharacter 13 = .ok (.aload_n 0, 1) := by decide +kernel
theorem dX7_appendCharacter_14 : decode cX7_appendCharacter 14 = .ok (.getfield 129, 3) := by decide +kernel
theorem dX7_appendCharacter_17 : decode cX7_appendCharacter 17 = .ok (.bipush 120, 2) := by decide +kernel
theorem dX7_appendCharacter_19 : decode cX7_appendCharacter 19 = .ok (.if_icmp .ne 6, 3) := by decide +kernel
theorem dX7_appendCharacter_22 : decode cX7_appendCharacter 22 = .ok (.bipush (-3), 2) := by decide +kernel
theorem dX7_appendCharacter_24 : decode cX7_appendCharacter 24 = .ok (.ireturn, 1) := by decide +kernel
theorem dX7_appendCharacter_25 : decode cX7_appendCharacter 25 = .ok (.aload_n 0, 1) := by decide +kernel
theorem dX7_appendCharacter_26 : decode cX7_appendCharacter 26 = .ok (.getfield 23, 3) := by decide +kernel
theorem dX7_appendCharacter_29 : decode cX7_appendCharacter 29 = .ok (.aload_n 0, 1) := by decide +kernel
theorem dX7_appendCharacter_30 : decode cX7_appendCharacter 30 = .ok (.getfield 129, 3) := by decide +kernel
theorem dX7_appendCharacter_33 : decode cX7_appendCharacter 33 = .ok (.iload_n 1, 1) := by decide +kernel
theorem dX7_appendCharacter_34 : decode cX7_appendCharacter 34 = .ok (.iastore, 1) := by decide +kernel
theorem dX7_appendCharacter_35 : decode cX7_appendCharacter 35 = .ok (.aload_n 0, 1) := by decide +kernel
theorem dX7_appendCharacter_36 : decode cX7_appendCharacter 36 = .ok (.dup, 1) := by decide +kernel
theorem dX7_appendCharacter_37 : decode cX7_appendCharacter 37 = .ok (.getfield 129, 3) := by decide +kernel
theorem dX7_appendCharacter_40 : decode cX7_appendCharacter 40 = .ok (.iconst 1, 1) := by decide +kernel
theorem dX7_appendCharacter_41 : decode cX7_appendCharacter 41 = .ok (.iadd, 1) := by decide +kernel
theorem dX7_appendCharacter_42 : decode cX7_appendCharacter 42 = .ok (.putfield 129, 3) := by decide +kernel
theorem dX7_appendCharacter_45 : decode cX7_appendCharacter 45 = .ok (.aload_n 0, 1) := by decide +kernel
theorem dX7_appendCharacter_46 : decode cX7_appendCharacter 46 = .ok (.getfield 129, 3) := by decide +kernel
theorem dX7_appendCharacter_49 : decode cX7_appendCharacter 49 = .ok (.ireturn, 1) := by decide +kernel
theorem dX7_clearText_0 : decode cX7_clearText 0 = .ok (.aload_n 0, 1) := by decide +kernel
theorem dX7_clearText_1 : decode cX7_clearText 1 = .ok (.getfield 129, 3) := by decide +kernel
theorem dX7_clearText_4 : decode cX7_clearText 4 = .ok (.istore_n 1, 1) := by decide +kernel
theorem dX7_clearText_5 : decode cX7_clearText 5 = .ok (.aload_n 0, 1) := by decide +kernel
theorem dX7_clearText_6 : decode cX7_clearText 6 = .ok (.iconst 0, 1) := by decide +kernel
theorem dX7_clearText_7 : decode cX7_clearText 7 = .ok (.putfield 129, 3) := by decide +kernel
theorem dX7_clearText_10 : decode cX7_clearText 10 = .ok (.iload_n 1, 1) := by decide +kernel
theorem dX7_clearText_11 : decode cX7_clearText 11 = .ok (.ireturn, 1) := by decide +kernel
theorem dX7_sign_0 : decode cX7_sign 0 = .ok (.aload_n 0, 1) := by decide +kernel
theorem dX7_sign_1 : decode cX7_sign 1 = .ok (.getfield 132, 3) := by decide +kernel
theorem dX7_sign_4 : decode cX7_sign 4 = .ok (.aload_n 0, 1) := by decide +kernel
theorem dX7_sign_5 : decode cX7_sign 5 = .ok (.getfield 129, 3) := by decide +kernel
theorem dX7_sign_8 : decode cX7_sign 8 = .ok (.if_icmp .ge 30, 3) := by decide +kernel
theorem dX7_sign_11 : decode cX7_sign 11 = .ok (.aload_n 0, 1) := by decide +kernel
theorem dX7_sign_12 : decode cX7_sign 12 = .ok (.getfield 23, 3) := by decide +kernel
theorem dX7_sign_15 : decode cX7_sign 15 = .ok (.aload_n 0, 1) := by decide +kernel
theorem dX7_sign_16 : decode cX7_sign 16 = .ok (.getfield 132, 3) := by decide +kernel
theorem dX7_sign_19 : decode cX7_sign 19 = .ok (.iaload, 1) := by decide +kernel
theorem dX7_sign_20 : decode cX7_sign 20 = .ok (.bipush 32, 2) := by decide +kernel
theorem dX7_sign_22 : decode cX7_sign 22 = .ok (.if_icmp .ne 16, 3) := by decide +kernel
theorem dX7_sign_25 : decode cX7_sign 25 = .ok (.aload_n 0, 1) := by decide +kernel
theorem dX7_sign_26 : decode cX7_sign 26 = .ok (.dup, 1) := by decide +kernel
theorem dX7_sign_27 : decode cX7_sign 27 = .ok (.getfield 132, 3) := by decide +kernel
theorem dX7_sign_30 : decode cX7_sign 30 = .ok (.iconst 1, 1) := by decide +kernel
theorem dX7_sign_31 : decode cX7_sign 31 = .ok (.iadd, 1) := by decide +kernel
theorem dX7_sign_32 : decode cX7_sign 32 = .ok (.putfield 132, 3) := by decide +kernel
theorem dX7_sign_35 : decode cX7_sign 35 = .ok (.goto (-35), 3) := by decide +kernel
theorem dX7_sign_38 : decode cX7_sign 38 = .ok (.aload_n 0, 1) := by decide +kernel
theorem dX7_sign_39 : decode cX7_sign 39 = .ok (.getfield 132, 3) := by decide +kernel
theorem dX7_sign_42 : decode cX7_sign 42 = .ok (.aload_n 0, 1) := by decide +kernel
theorem dX7_sign_43 : decode cX7_sign 43 = .ok (.getfield 129, 3) := by decide +kernel
theorem dX7_sign_46 : decode cX7_sign 46 = .ok (.if_icmp .ge 15, 3) := by decide +kernel
theorem dX7_sign_49 : decode cX7_sign 49 = .ok (.aload_n 0, 1) := by decide +kernel
theorem dX7_sign_50 : decode cX7_sign 50 = .ok (.getfield 23, 3) := by decide +kernel
theorem dX7_sign_53 : decode cX7_sign 53 = .ok (.aload_n 0, 1) := by decide +kernel
theorem dX7_sign_54 : decode cX7_sign 54 = .ok (.getfield 132, 3) := by decide +kernel
theorem dX7_sign_57 : decode cX7_sign 57 = .ok (.iaload, 1) := by decide +kernel
theorem dX7_sign_58 : decode cX7_sign 58 = .ok (.goto 5, 3) := by decide +kernel
theorem dX7_sign_61 : decode cX7_sign 61 = .ok (.bipush (-9), 2) := by decide +kernel
theorem dX7_sign_63 : decode cX7_sign 63 = .ok (.ireturn, 1) := by decide +kernel
theorem dX7_reads_0 : decode cX7_reads 0 = .ok (.aload_n 0, 1) := by decide +kernel
theorem dX7_reads_1 : decode cX7_reads 1 = .ok (.invokevirtual 135, 3) := by decide +kernel
theorem dX7_reads_4 : decode cX7_reads 4 = .ok (.iload_n 1, 1) := by decide +kernel
theorem dX7_reads_5 : decode cX7_reads 5 = .ok (.if_icmp .ne 7, 3) := by decide +kernel
theorem dX7_reads_8 : decode cX7_reads 8 = .ok (.iconst 1, 1) := by decide +kernel
theorem dX7_reads_9 : decode cX7_reads 9 = .ok (.goto 4, 3) := by decide +kernel
theorem dX7_reads_12 : decode cX7_reads 12 = .ok (.iconst 0, 1) := by decide +kernel
theorem dX7_reads_13 : decode cX7_reads 13 = .ok (.istore_n 2, 1) := by decide +kernel
theorem dX7_reads_14 : decode cX7_reads 14 = .ok (.aload_n 0, 1) := by decide +kernel
theorem dX7_reads_15 : decode cX7_reads 15 = .ok (.dup, 1) := by decide +kernel
theorem dX7_reads_16 : decode cX7_reads 16 = .ok (.getfield 132, 3) := by decide +kernel
theorem dX7_reads_19 : decode cX7_reads 19 = .ok (.iload_n 2, 1) := by decide +kernel
theorem dX7_reads_20 : decode cX7_reads 20 = .ok (.ifCond .eq 7, 3) := by decide +kernel
theorem dX7_reads_23 : decode cX7_reads 23 = .ok (.iconst 1, 1) := by decide +kernel
theorem dX7_reads_24 : decode cX7_reads 24 = .ok (.goto 4, 3) := by decide +kernel
theorem dX7_reads_27 : decode cX7_reads 27 = .ok (.iconst 0, 1) := by decide +kernel
theorem dX7_reads_28 : decode cX7_reads 28 = .ok (.iadd, 1) := by decide +kernel
theorem dX7_reads_29 : decode cX7_reads 29 = .ok (.putfield 132, 3) := by decide +kernel
theorem dX7_reads_32 : decode cX7_reads 32 = .ok (.iload_n 2, 1) := by decide +kernel
theorem dX7_reads_33 : decode cX7_reads 33 = .ok (.ireturn, 1) := by decide +kernel
theorem dX7_number_0 : decode cX7_number 0 = .ok (.aload_n 0, 1) := by decide +kernel
theorem dX7_number_1 : decode cX7_number 1 = .ok (.invokevirtual 135, 3) := by decide +kernel
theorem dX7_number_4 : decode cX7_number 4 = .ok (.bipush 48, 2) := by decide +kernel
theorem dX7_number_6 : decode cX7_number 6 = .ok (.bipush 57, 2) := by decide +kernel
theorem dX7_number_8 : decode cX7_number 8 = .ok (.invokestatic 36, 3) := by decide +kernel
theorem dX7_number_11 : decode cX7_number 11 = .ok (.ifCond .ne 6, 3) := by decide +kernel
theorem dX7_number_14 : decode cX7_number 14 = .ok (.bipush (-9), 2) := by decide +kernel
theorem dX7_number_16 : decode cX7_number 16 = .ok (.ireturn, 1) := by decide +kernel
theorem dX7_number_17 : decode cX7_number 17 = .ok (.iconst 0, 1) := by decide +kernel
theorem dX7_number_18 : decode cX7_number 18 = .ok (.istore_n 1, 1) := by decide +kernel
theorem dX7_number_19 : decode cX7_number 19 = .ok (.iconst 0, 1) := by decide +kernel
theorem dX7_number_20 : decode cX7_number 20 = .ok (.istore_n 2, 1) := by decide +kernel
theorem dX7_number_21 : decode cX7_number 21 = .ok (.aload_n 0, 1) := by decide +kernel
theorem dX7_number_22 : decode cX7_number 22 = .ok (.getfield 132, 3) := by decide +kernel
theorem dX7_number_25 : decode cX7_number 25 = .ok (.aload_n 0, 1) := by decide +kernel
theorem dX7_number_26 : decode cX7_number 26 = .ok (.getfield 129, 3) := by decide +kernel
theorem dX7_number_29 : decode cX7_number 29 = .ok (.if_icmp .ge 73, 3) := by decide +kernel
theorem dX7_number_32 : decode cX7_number 32 = .ok (.aload_n 0, 1) := by decide +kernel
theorem dX7_number_33 : decode cX7_number 33 = .ok (.getfield 23, 3) := by decide +kernel
theorem dX7_number_36 : decode cX7_number 36 = .ok (.aload_n 0, 1) := by decide +kernel
theorem dX7_number_37 : decode cX7_number 37 = .ok (.getfield 132, 3) := by decide +kernel
theorem dX7_number_40 : decode cX7_number 40 = .ok (.iaload, 1) := by decide +kernel
theorem dX7_number_41 : decode cX7_number 41 = .ok (.bipush 48, 2) := by decide +kernel
theorem dX7_number_43 : decode cX7_number 43 = .ok (.bipush 57, 2) := by decide +kernel
theorem dX7_number_45 : decode cX7_number 45 = .ok (.invokestatic 36, 3) := by decide +kernel
theorem dX7_number_48 : decode cX7_number 48 = .ok (.ifCond .eq 54, 3) := by decide +kernel
theorem dX7_number_51 : decode cX7_number 51 = .ok (.iload_n 1, 1) := by decide +kernel
theorem dX7_number_52 : decode cX7_number 52 = .ok (.iconst 4, 1) := by decide +kernel
theorem dX7_number_53 : decode cX7_number 53 = .ok (.if_icmp .eq 12, 3) := by decide +kernel
theorem dX7_number_56 : decode cX7_number 56 = .ok (.iload_n 1, 1) := by decide +kernel
theorem dX7_number_57 : decode cX7_number 57 = .ok (.iconst 1, 1) := by decide +kernel
theorem dX7_number_58 : decode cX7_number 58 = .ok (.if_icmp .ne 10, 3) := by decide +kernel
theorem dX7_number_61 : decode cX7_number 61 = .ok (.iload_n 2, 1) := by decide +kernel
theorem dX7_number_62 : decode cX7_number 62 = .ok (.ifCond .ne 6, 3) := by decide +kernel
theorem dX7_number_65 : decode cX7_number 65 = .ok (.bipush (-9), 2) := by decide +kernel
theorem dX7_number_67 : decode cX7_number 67 = .ok (.ireturn, 1) := by decide +kernel
theorem dX7_number_68 : decode cX7_number 68 = .ok (.bipush 10, 2) := by decide +kernel
theorem dX7_number_70 : decode cX7_number 70 = .ok (.iload_n 2, 1) := by decide +kernel
theorem dX7_number_71 : decode cX7_number 71 = .ok (.imul, 1) := by decide +kernel
theorem dX7_number_72 : decode cX7_number 72 = .ok (.aload_n 0, 1) := by decide +kernel
theorem dX7_number_73 : decode cX7_number 73 = .ok (.getfield 23, 3) := by decide +kernel
theorem dX7_number_76 : decode cX7_number 76 = .ok (.aload_n 0, 1) := by decide +kernel
theorem dX7_number_77 : decode cX7_number 77 = .ok (.getfield 132, 3) := by decide +kernel
theorem dX7_number_80 : decode cX7_number 80 = .ok (.iaload, 1) := by decide +kernel
theorem dX7_number_81 : decode cX7_number 81 = .ok (.iadd, 1) := by decide +kernel
theorem dX7_number_82 : decode cX7_number 82 = .ok (.bipush 48, 2) := by decide +kernel
theorem dX7_number_84 : decode cX7_number 84 = .ok (.isub, 1) := by decide +kernel
theorem dX7_number_85 : decode cX7_number 85 = .ok (.istore_n 2, 1) := by decide +kernel
theorem dX7_number_86 : decode cX7_number 86 = .ok (.iinc 1 1, 3) := by decide +kernel
theorem dX7_number_89 : decode cX7_number 89 = .ok (.aload_n 0, 1) := by decide +kernel
theorem dX7_number_90 : decode cX7_number 90 = .ok (.dup, 1) := by decide +kernel
theorem dX7_number_91 : decode cX7_number 91 = .ok (.getfield 132, 3) := by decide +kernel
theorem dX7_number_94 : decode cX7_number 94 = .ok (.iconst 1, 1) := by decide +kernel
theorem dX7_number_95 : decode cX7_number 95 = .ok (.iadd, 1) := by decide +kernel
theorem dX7_number_96 : decode cX7_number 96 = .ok (.putfield 132, 3) := by decide +kernel
theorem dX7_number_99 : decode cX7_number 99 = .ok (.goto (-78), 3) := by decide +kernel
theorem dX7_number_102 : decode cX7_number 102 = .ok (.iload_n 2, 1) := by decide +kernel
theorem dX7_number_103 : decode cX7_number 103 = .ok (.ireturn, 1) := by decide +kernel
theorem dX7_readItem_0 : decode cX7_readItem 0 = .ok (.bipush (-9), 2) := by decide +kernel
theorem dX7_readItem_2 : decode cX7_readItem 2 = .ok (.istore_n 1, 1) := by decide +kernel
theorem dX7_readItem_3 : decode cX7_readItem 3 = .ok (.aload_n 0, 1) := by decide +kernel
theorem dX7_readItem_4 : decode cX7_readItem 4 = .ok (.bipush 102, 2) := by decide +kernel
theorem dX7_readItem_6 : decode cX7_readItem 6 = .ok (.invokevirtual 138, 3) := by decide +kernel
theorem dX7_readItem_9 : decode cX7_readItem 9 = .ok (.ifCond .eq 25, 3) := by decide +kernel
theorem dX7_readItem_12 : decode cX7_readItem 12 = .ok (.aload_n 0, 1) := by decide +kernel
theorem dX7_readItem_13 : decode cX7_readItem 13 = .ok (.invokevirtual 141, 3) := by decide +kernel
theorem dX7_readItem_16 : decode cX7_readItem 16 = .ok (.istore_n 1, 1) := by decide +kernel
theorem dX7_readItem_17 : decode cX7_readItem 17 = .ok (.iload_n 1, 1) := by decide +kernel
theorem dX7_readItem_18 : decode cX7_readItem 18 = .ok (.bipush (-9), 2) := by decide +kernel
theorem dX7_readItem_20 : decode cX7_readItem 20 = .ok (.if_icmp .eq 12, 3) := by decide +kernel
theorem dX7_readItem_23 : decode cX7_readItem 23 = .ok (.aload_n 0, 1) := by decide +kernel
theorem dX7_readItem_24 : decode cX7_readItem 24 = .ok (.bipush 44, 2) := by decide +kernel
theorem dX7_readItem_26 : decode cX7_readItem 26 = .ok (.invokevirtual 138, 3) := by decide +kernel
theorem dX7_readItem_29 : decode cX7_readItem 29 = .ok (.ifCond .ne 16, 3) := by decide +kernel
theorem dX7_readItem_32 : decode cX7_readItem 32 = .ok (.iconst 0, 1) := by decide +kernel
theorem dX7_readItem_33 : decode cX7_readItem 33 = .ok (.ireturn, 1) := by decide +kernel
theorem dX7_readItem_34 : decode cX7_readItem 34 = .ok (.aload_n 0, 1) := by decide +kernel
theorem dX7_readItem_35 : decode cX7_readItem 35 = .ok (.bipush 116, 2) := by decide +kernel
theorem dX7_readItem_37 : decode cX7_readItem 37 = .ok (.invokevirtual 138, 3) := by decide +kernel
theorem dX7_readItem_40 : decode cX7_readItem 40 = .ok (.ifCond .ne 5, 3) := by decide +kernel
theorem dX7_readItem_43 : decode cX7_readItem 43 = .ok (.iconst 0, 1) := by decide +kernel
theorem dX7_readItem_44 : decode cX7_readItem 44 = .ok (.ireturn, 1) := by decide +kernel
theorem dX7_readItem_45 : decode cX7_readItem 45 = .ok (.aload_n 0, 1) := by decide +kernel
theorem dX7_readItem_46 : decode cX7_readItem 46 = .ok (.invokevirtual 141, 3) := by decide +kernel
theorem dX7_readItem_49 : decode cX7_readItem 49 = .ok (.istore_n 2, 1) := by decide +kernel
theorem dX7_readItem_50 : decode cX7_readItem 50 = .ok (.iload_n 2, 1) := by decide +kernel
theorem dX7_readItem_51 : decode cX7_readItem 51 = .ok (.bipush (-9), 2) := by decide +kernel
theorem dX7_readItem_53 : decode cX7_readItem 53 = .ok (.if_icmp .eq 12, 3) := by decide +kernel
theorem dX7_readItem_56 : decode cX7_readItem 56 = .ok (.aload_n 0, 1) := by decide +kernel
theorem dX7_readItem_57 : decode cX7_readItem 57 = .ok (.bipush 59, 2) := by decide +kernel
theorem dX7_readItem_59 : decode cX7_readItem 59 = .ok (.invokevirtual 138, 3) := by decide +kernel
theorem dX7_readItem_62 : decode cX7_readItem 62 = .ok (.ifCond .ne 5, 3) := by decide +kernel
theorem dX7_readItem_65 : decode cX7_readItem 65 = .ok (.iconst 0, 1) := by decide +kernel
theorem dX7_readItem_66 : decode cX7_readItem 66 = .ok (.ireturn, 1) := by decide +kernel
theorem dX7_readItem_67 : decode cX7_readItem 67 = .ok (.aload_n 0, 1) := by decide +kernel
theorem dX7_readItem_68 : decode cX7_readItem 68 = .ok (.getfield 26, 3) := by decide +kernel
theorem dX7_readItem_71 : decode cX7_readItem 71 = .ok (.aload_n 0, 1) := by decide +kernel
theorem dX7_readItem_72 : decode cX7_readItem 72 = .ok (.getfield 144, 3) := by decide +kernel
theorem dX7_readItem_75 : decode cX7_readItem 75 = .ok (.iload_n 1, 1) := by decide +kernel
theorem dX7_readItem_76 : decode cX7_readItem 76 = .ok (.iastore, 1) := by decide +kernel
theorem dX7_readItem_77 : decode cX7_readItem 77 = .ok (.aload_n 0, 1) := by decide +kernel
theorem dX7_readItem_78 : decode cX7_readItem 78 = .ok (.getfield 29, 3) := by decide +kernel
theorem dX7_readItem_81 : decode cX7_readItem 81 = .ok (.aload_n 0, 1) := by decide +kernel
theorem dX7_readItem_82 : decode cX7_readItem 82 = .ok (.getfield 144, 3) := by decide +kernel
theorem dX7_readItem_85 : decode cX7_readItem 85 = .ok (.iload_n 2, 1) := by decide +kernel
theorem dX7_readItem_86 : decode cX7_readItem 86 = .ok (.iastore, 1) := by decide +kernel
theorem dX7_readItem_87 : decode cX7_readItem 87 = .ok (.aload_n 0, 1) := by decide +kernel
theorem dX7_readItem_88 : decode cX7_readItem 88 = .ok (.dup, 1) := by decide +kernel
theorem dX7_readItem_89 : decode cX7_readItem 89 = .ok (.getfield 144, 3) := by decide +kernel
theorem dX7_readItem_92 : decode cX7_readItem 92 = .ok (.iconst 1, 1) := by decide +kernel
theorem dX7_readItem_93 : decode cX7_readItem 93 = .ok (.iadd, 1) := by decide +kernel
theorem dX7_readItem_94 : decode cX7_readItem 94 = .ok (.putfield 144, 3) := by decide +kernel
theorem dX7_readItem_97 : decode cX7_readItem 97 = .ok (.iconst 1, 1) := by decide +kernel
theorem dX7_readItem_98 : decode cX7_readItem 98 = .ok (.ireturn, 1) := by decide +kernel
theorem dX7_readText_0 : decode cX7_readText 0 = .ok (.aload_n 0, 1) := by decide +kernel
theorem dX7_readText_1 : decode cX7_readText 1 = .ok (.iconst 0, 1) := by decide +kernel
theorem dX7_readText_2 : decode cX7_readText 2 = .ok (.putfield 132, 3) := by decide +kernel
theorem dX7_readText_5 : decode cX7_readText 5 = .ok (.aload_n 0, 1) := by decide +kernel
theorem dX7_readText_6 : decode cX7_readText 6 = .ok (.iconst 0, 1) := by decide +kernel
theorem dX7_readText_7 : decode cX7_readText 7 = .ok (.putfield 144, 3) := by decide +kernel
theorem dX7_readText_10 : decode cX7_readText 10 = .ok (.aload_n 0, 1) := by decide +kernel
theorem dX7_readText_11 : decode cX7_readText 11 = .ok (.invokevirtual 147, 3) := by decide +kernel
theorem dX7_readText_14 : decode cX7_readText 14 = .ok (.istore_n 1, 1) := by decide +kernel
theorem dX7_readText_15 : decode cX7_readText 15 = .ok (.iload_n 1, 1) := by decide +kernel
theorem dX7_readText_16 : decode cX7_readText 16 = .ok (.ifCond .eq 20, 3) := by decide +kernel
theorem dX7_readText_19 : decode cX7_readText 19 = .ok (.aload_n 0, 1) := by decide +kernel
theorem dX7_readText_20 : decode cX7_readText 20 = .ok (.invokevirtual 135, 3) := by decide +kernel
theorem dX7_readText_23 : decode cX7_readText 23 = .ok (.bipush (-9), 2) := by decide +kernel
theorem dX7_readText_25 : decode cX7_readText 25 = .ok (.if_icmp .eq 11, 3) := by decide +kernel
theorem dX7_readText_28 : decode cX7_readText 28 = .ok (.aload_n 0, 1) := by decide +kernel
theorem dX7_readText_29 : decode cX7_readText 29 = .ok (.invokevirtual 147, 3) := by decide +kernel
theorem dX7_readText_32 : decode cX7_readText 32 = .ok (.istore_n 1, 1) := by decide +kernel
theorem dX7_readText_33 : decode cX7_readText 33 = .ok (.goto (-18), 3) := by decide +kernel
theorem dX7_readText_36 : decode cX7_readText 36 = .ok (.iload_n 1, 1) := by decide +kernel
theorem dX7_readText_37 : decode cX7_readText 37 = .ok (.ireturn, 1) := by decide +kernel
theorem dX7_execute_0 : decode cX7_execute 0 = .ok (.aload_n 0, 1) := by decide +kernel
theorem dX7_execute_1 : decode cX7_execute 1 = .ok (.getfield 26, 3) := by decide +kernel
theorem dX7_execute_4 : decode cX7_execute 4 = .ok (.iload_n 1, 1) := by decide +kernel
theorem dX7_execute_5 : decode cX7_execute 5 = .ok (.iaload, 1) := by decide +kernel
theorem dX7_execute_6 : decode cX7_execute 6 = .ok (.istore_n 2, 1) := by decide +kernel
theorem dX7_execute_7 : decode cX7_execute 7 = .ok (.aload_n 0, 1) := by decide +kernel
theorem dX7_execute_8 : decode cX7_execute 8 = .ok (.getfield 29, 3) := by decide +kernel
theorem dX7_execute_11 : decode cX7_execute 11 = .ok (.iload_n 1, 1) := by decide +kernel
theorem dX7_execute_12 : decode cX7_execute 12 = .ok (.iaload, 1) := by decide +kernel
theorem dX7_execute_13 : decode cX7_execute 13 = .ok (.istore_n 3, 1) := by decide +kernel
theorem dX7_execute_14 : decode cX7_execute 14 = .ok (.iload_n 2, 1) := by decide +kernel
theorem dX7_execute_15 : decode cX7_execute 15 = .ok (.bipush (-9), 2) := by decide +kernel
theorem dX7_execute_17 : decode cX7_execute 17 = .ok (.if_icmp .ne 37, 3) := by decide +kernel
theorem dX7_execute_20 : decode cX7_execute 20 = .ok (.aload_n 0, 1) := by decide +kernel
theorem dX7_execute_21 : decode cX7_execute 21 = .ok (.iload_n 3, 1) := by decide +kernel
theorem dX7_execute_22 : decode cX7_execute 22 = .ok (.invokevirtual 66, 3) := by decide +kernel
theorem dX7_execute_25 : decode cX7_execute 25 = .ok (.ifCond .ne 7, 3) := by decide +kernel
theorem dX7_execute_28 : decode cX7_execute 28 = .ok (.iconst 1, 1) := by decide +kernel
theorem dX7_execute_29 : decode cX7_execute 29 = .ok (.goto 4, 3) := by decide +kernel
theorem dX7_execute_32 : decode cX7_execute 32 = .ok (.iconst 0, 1) := by decide +kernel
theorem dX7_execute_33 : decode cX7_execute 33 = .ok (.istore 4, 2) := by decide +kernel
theorem dX7_execute_35 : decode cX7_execute 35 = .ok (.iload 4, 2) := by decide +kernel
theorem dX7_execute_37 : decode cX7_execute 37 = .ok (.ifCond .eq 15, 3) := by decide +kernel
theorem dX7_execute_40 : decode cX7_execute 40 = .ok (.aload_n 0, 1) := by decide +kernel
theorem dX7_execute_41 : decode cX7_execute 41 = .ok (.iload_n 3, 1) := by decide +kernel
theorem dX7_execute_42 : decode cX7_execute 42 = .ok (.invokevirtual 69, 3) := by decide +kernel
theorem dX7_execute_45 : decode cX7_execute 45 = .ok (.ifCond .le 7, 3) := by decide +kernel
theorem dX7_execute_48 : decode cX7_execute 48 = .ok (.iconst 1, 1) := by decide +kernel
theorem dX7_execute_49 : decode cX7_execute 49 = .ok (.goto 4, 3) := by decide +kernel
theorem dX7_execute_52 : decode cX7_execute 52 = .ok (.iconst 0, 1) := by decide +kernel
theorem dX7_execute_53 : decode cX7_execute 53 = .ok (.ireturn, 1) := by decide +kernel
theorem dX7_execute_54 : decode cX7_execute 54 = .ok (.iload_n 2, 1) := by decide +kernel
theorem dX7_execute_55 : decode cX7_execute 55 = .ok (.invokestatic 108, 3) := by decide +kernel
theorem dX7_execute_58 : decode cX7_execute 58 = .ok (.ifCond .eq 14, 3) := by decide +kernel
theorem dX7_execute_61 : decode cX7_execute 61 = .ok (.iload_n 3, 1) := by decide +kernel
theorem dX7_execute_62 : decode cX7_execute 62 = .ok (.invokestatic 111, 3) := by decide +kernel
theorem dX7_execute_65 : decode cX7_execute 65 = .ok (.ifCond .eq 7, 3) := by decide +kernel
theorem dX7_execute_68 : decode cX7_execute 68 = .ok (.iconst 1, 1) := by decide +kernel
theorem dX7_execute_69 : decode cX7_execute 69 = .ok (.goto 4, 3) := by decide +kernel
theorem dX7_execute_72 : decode cX7_execute 72 = .ok (.iconst 0, 1) := by decide +kernel
theorem dX7_execute_73 : decode cX7_execute 73 = .ok (.istore 4, 2) := by decide +kernel
theorem dX7_execute_75 : decode cX7_execute 75 = .ok (.iload 4, 2) := by decide +kernel
theorem dX7_execute_77 : decode cX7_execute 77 = .ok (.ifCond .eq 16, 3) := by decide +kernel
theorem dX7_execute_80 : decode cX7_execute 80 = .ok (.aload_n 0, 1) := by decide +kernel
theorem dX7_execute_81 : decode cX7_execute 81 = .ok (.iload_n 2, 1) := by decide +kernel
theorem dX7_execute_82 : decode cX7_execute 82 = .ok (.iload_n 3, 1) := by decide +kernel
theorem dX7_execute_83 : decode cX7_execute 83 = .ok (.invokevirtual 114, 3) := by decide +kernel
theorem dX7_execute_86 : decode cX7_execute 86 = .ok (.ifCond .lt 7, 3) := by decide +kernel
theorem dX7_execute_89 : decode cX7_execute 89 = .ok (.iconst 1, 1) := by decide +kernel
theorem dX7_execute_90 : decode cX7_execute 90 = .ok (.goto 4, 3) := by decide +kernel
theorem dX7_execute_93 : decode cX7_execute 93 = .ok (.iconst 0, 1) := by decide +kernel
theorem dX7_execute_94 : decode cX7_execute 94 = .ok (.ireturn, 1) := by decide +kernel
theorem dX7_runTrace_0 : decode cX7_runTrace 0 = .ok (.aload_n 0, 1) := by decide +kernel
theorem dX7_runTrace_1 : decode cX7_runTrace 1 = .ok (.invokevirtual 150, 3) := by decide +kernel
theorem dX7_runTrace_4 : decode cX7_runTrace 4 = .ok (.ifCond .ne 11, 3) := by decide +kernel
theorem dX7_runTrace_7 : decode cX7_runTrace 7 = .ok (.bipush (-10), 2) := by decide +kernel
theorem dX7_runTrace_9 : decode cX7_runTrace 9 = .ok (.aload_n 0, 1) := by decide +kernel
theorem dX7_runTrace_10 : decode cX7_runTrace 10 = .ok (.getfield 132, 3) := by decide +kernel
theorem dX7_runTrace_13 : decode cX7_runTrace 13 = .ok (.isub, 1) := by decide +kernel
theorem dX7_runTrace_14 : decode cX7_runTrace 14 = .ok (.ireturn, 1) := by decide +kernel
theorem dX7_runTrace_15 : decode cX7_runTrace 15 = .ok (.aload_n 0, 1) := by decide +kernel
theorem dX7_runTrace_16 : decode cX7_runTrace 16 = .ok (.invokevirtual 44, 3) := by decide +kernel
theorem dX7_runTrace_19 : decode cX7_runTrace 19 = .ok (.iconst 0, 1) := by decide +kernel
theorem dX7_runTrace_20 : decode cX7_runTrace 20 = .ok (.istore_n 1, 1) := by decide +kernel
theorem dX7_runTrace_21 : decode cX7_runTrace 21 = .ok (.iconst 0, 1) := by decide +kernel
theorem dX7_runTrace_22 : decode cX7_runTrace 22 = .ok (.istore_n 2, 1) := by decide +kernel
theorem dX7_runTrace_23 : decode cX7_runTrace 23 = .ok (.iload_n 2, 1) := by decide +kernel
theorem dX7_runTrace_24 : decode cX7_runTrace 24 = .ok (.aload_n 0, 1) := by decide +kernel
theorem dX7_runTrace_25 : decode cX7_runTrace 25 = .ok (.getfield 144, 3) := by decide +kernel
theorem dX7_runTrace_28 : decode cX7_runTrace 28 = .ok (.if_icmp .ge 25, 3) := by decide +kernel
theorem dX7_runTrace_31 : decode cX7_runTrace 31 = .ok (.iload_n 1, 1) := by decide +kernel
theorem dX7_runTrace_32 : decode cX7_runTrace 32 = .ok (.aload_n 0, 1) := by decide +kernel
theorem dX7_runTrace_33 : decode cX7_runTrace 33 = .ok (.iload_n 2, 1) := by decide +kernel
theorem dX7_runTrace_34 : decode cX7_runTrace 34 = .ok (.invokevirtual 153, 3) := by decide +kernel
theorem dX7_runTrace_37 : decode cX7_runTrace 37 = .ok (.ifCond .eq 7, 3) := by decide +kernel
theorem dX7_runTrace_40 : decode cX7_runTrace 40 = .ok (.iconst 1, 1) := by decide +kernel
theorem dX7_runTrace_41 : decode cX7_runTrace 41 = .ok (.goto 4, 3) := by decide +kernel
theorem dX7_runTrace_44 : decode cX7_runTrace 44 = .ok (.iconst 0, 1) := by decide +kernel
theorem dX7_runTrace_45 : decode cX7_runTrace 45 = .ok (.iadd, 1) := by decide +kernel
theorem dX7_runTrace_46 : decode cX7_runTrace 46 = .ok (.istore_n 1, 1) := by decide +kernel
theorem dX7_runTrace_47 : decode cX7_runTrace 47 = .ok (.iinc 2 1, 3) := by decide +kernel
theorem dX7_runTrace_50 : decode cX7_runTrace 50 = .ok (.goto (-27), 3) := by decide +kernel
theorem dX7_runTrace_53 : decode cX7_runTrace 53 = .ok (.aload_n 0, 1) := by decide +kernel
theorem dX7_runTrace_54 : decode cX7_runTrace 54 = .ok (.iconst 0, 1) := by decide +kernel
theorem dX7_runTrace_55 : decode cX7_runTrace 55 = .ok (.putfield 129, 3) := by decide +kernel
theorem dX7_runTrace_58 : decode cX7_runTrace 58 = .ok (.iload_n 1, 1) := by decide +kernel
theorem dX7_runTrace_59 : decode cX7_runTrace 59 = .ok (.ireturn, 1) := by decide +kernel
theorem dX7_undo_0 : decode cX7_undo 0 = .ok (.aload_n 0, 1) := by decide +kernel
theorem dX7_undo_1 : decode cX7_undo 1 = .ok (.getfield 40, 3) := by decide +kernel
theorem dX7_undo_4 : decode cX7_undo 4 = .ok (.ifCond .ne 6, 3) := by decide +kernel
theorem dX7_undo_7 : decode cX7_undo 7 = .ok (.bipush (-2), 2) := by decide +kernel
theorem dX7_undo_9 : decode cX7_undo 9 = .ok (.ireturn, 1) := by decide +kernel
theorem dX7_undo_10 : decode cX7_undo 10 = .ok (.aload_n 0, 1) := by decide +kernel
theorem dX7_undo_11 : decode cX7_undo 11 = .ok (.dup, 1) := by decide +kernel
theorem dX7_undo_12 : decode cX7_undo 12 = .ok (.getfield 40, 3) := by decide +kernel
theorem dX7_undo_15 : decode cX7_undo 15 = .ok (.iconst 1, 1) := by decide +kernel
theorem dX7_undo_16 : decode cX7_undo 16 = .ok (.isub, 1) := by decide +kernel
theorem dX7_undo_17 : decode cX7_undo 17 = .ok (.putfield 40, 3) := by decide +kernel
theorem dX7_undo_20 : decode cX7_undo 20 = .ok (.iconst 0, 1) := by decide +kernel
theorem dX7_undo_21 : decode cX7_undo 21 = .ok (.istore_n 1, 1) := by decide +kernel
theorem dX7_undo_22 : decode cX7_undo 22 = .ok (.iload_n 1, 1) := by decide +kernel
theorem dX7_undo_23 : decode cX7_undo 23 = .ok (.sipush 153, 3) := by decide +kernel
theorem dX7_undo_26 : decode cX7_undo 26 = .ok (.if_icmp .ge 30, 3) := by decide +kernel
theorem dX7_undo_29 : decode cX7_undo 29 = .ok (.aload_n 0, 1) := by decide +kernel
theorem dX7_undo_30 : decode cX7_undo 30 = .ok (.getfield 7, 3) := by decide +kernel
theorem dX7_undo_33 : decode cX7_undo 33 = .ok (.iload_n 1, 1) := by decide +kernel
theorem dX7_undo_34 : decode cX7_undo 34 = .ok (.aload_n 0, 1) := by decide +kernel
theorem dX7_undo_35 : decode cX7_undo 35 = .ok (.getfield 13, 3) := by decide +kernel
theorem dX7_undo_38 : decode cX7_undo 38 = .ok (.sipush 153, 3) := by decide +kernel
theorem dX7_undo_41 : decode cX7_undo 41 = .ok (.aload_n 0, 1) := by decide +kernel
theorem dX7_undo_42 : decode cX7_undo 42 = .ok (.getfield 40, 3) := by decide +kernel
theorem dX7_undo_45 : decode cX7_undo 45 = .ok (.imul, 1) := by decide +kernel
theorem dX7_undo_46 : decode cX7_undo 46 = .ok (.iload_n 1, 1) := by decide +kernel
theorem dX7_undo_47 : decode cX7_undo 47 = .ok (.iadd, 1) := by decide +kernel
theorem dX7_undo_48 : decode cX7_undo 48 = .ok (.iaload, 1) := by decide +kernel
theorem dX7_undo_49 : decode cX7_undo 49 = .ok (.iastore, 1) := by decide +kernel
theorem dX7_undo_50 : decode cX7_undo 50 = .ok (.iinc 1 1, 3) := by decide +kernel
theorem dX7_undo_53 : decode cX7_undo 53 = .ok (.goto (-31), 3) := by decide +kernel
theorem dX7_undo_56 : decode cX7_undo 56 = .ok (.aload_n 0, 1) := by decide +kernel
theorem dX7_undo_57 : decode cX7_undo 57 = .ok (.getfield 40, 3) := by decide +kernel
theorem dX7_undo_60 : decode cX7_undo 60 = .ok (.ireturn, 1) := by decide +kernel
theorem dX7_save_0 : decode cX7_save 0 = .ok (.iload_n 1, 1) := by decide +kernel
theorem dX7_save_1 : decode cX7_save 1 = .ok (.iconst 0, 1) := by decide +kernel
theorem dX7_save_2 : decode cX7_save 2 = .ok (.iconst 1, 1) := by decide +kernel
theorem dX7_save_3 : decode cX7_save 3 = .ok (.invokestatic 36, 3) := by decide +kernel
theorem dX7_save_6 : decode cX7_save 6 = .ok (.ifCond .ne 5, 3) := by decide +kernel
theorem dX7_save_9 : decode cX7_save 9 = .ok (.iconst (-1), 1) := by decide +kernel
theorem dX7_save_10 : decode cX7_save 10 = .ok (.ireturn, 1) := by decide +kernel
theorem dX7_save_11 : decode cX7_save 11 = .ok (.iconst 0, 1) := by decide +kernel
theorem dX7_save_12 : decode cX7_save 12 = .ok (.istore_n 2, 1) := by decide +kernel
theorem dX7_save_13 : decode cX7_save 13 = .ok (.iload_n 2, 1) := by decide +kernel
theorem dX7_save_14 : decode cX7_save 14 = .ok (.sipush 153, 3) := by decide +kernel
theorem dX7_save_17 : decode cX7_save 17 = .ok (.if_icmp .ge 27, 3) := by decide +kernel
theorem dX7_save_20 : decode cX7_save 20 = .ok (.aload_n 0, 1) := by decide +kernel
theorem dX7_save_21 : decode cX7_save 21 = .ok (.getfield 16, 3) := by decide +kernel
theorem dX7_save_24 : decode cX7_save 24 = .ok (.sipush 153, 3) := by decide +kernel
theorem dX7_save_27 : decode cX7_save 27 = .ok (.iload_n 1, 1) := by decide +kernel
theorem dX7_save_28 : decode cX7_save 28 = .ok (.imul, 1) := by decide +kernel
theorem dX7_save_29 : decode cX7_save 29 = .ok (.iload_n 2, 1) := by decide +kernel
theorem dX7_save_30 : decode cX7_save 30 = .ok (.iadd, 1) := by decide +kernel
theorem dX7_save_31 : decode cX7_save 31 = .ok (.aload_n 0, 1) := by decide +kernel
theorem dX7_save_32 : decode cX7_save 32 = .ok (.getfield 7, 3) := by decide +kernel
theorem dX7_save_35 : decode cX7_save 35 = .ok (.iload_n 2, 1) := by decide +kernel
theorem dX7_save_36 : decode cX7_save 36 = .ok (.iaload, 1) := by decide +kernel
theorem dX7_save_37 : decode cX7_save 37 = .ok (.iastore, 1) := by decide +kernel
theorem dX7_save_38 : decode cX7_save 38 = .ok (.iinc 2 1, 3) := by decide +kernel
theorem dX7_save_41 : decode cX7_save 41 = .ok (.goto (-28), 3) := by decide +kernel
theorem dX7_save_44 : decode cX7_save 44 = .ok (.aload_n 0, 1) := by decide +kernel
theorem dX7_save_45 : decode cX7_save 45 = .ok (.getfield 19, 3) := by decide +kernel
theorem dX7_save_48 : decode cX7_save 48 = .ok (.iload_n 1, 1) := by decide +kernel
theorem dX7_save_49 : decode cX7_save 49 = .ok (.iconst 1, 1) := by decide +kernel
theorem dX7_save_50 : decode cX7_save 50 = .ok (.bastore, 1) := by decide +kernel
theorem dX7_save_51 : decode cX7_save 51 = .ok (.aload_n 0, 1) := by decide +kernel
theorem dX7_save_52 : decode cX7_save 52 = .ok (.getfield 7, 3) := by decide +kernel
theorem dX7_save_55 : decode cX7_save 55 = .ok (.iconst 0, 1) := by decide +kernel
theorem dX7_save_56 : decode cX7_save 56 = .ok (.iaload, 1) := by decide +kernel
theorem dX7_save_57 : decode cX7_save 57 = .ok (.ireturn, 1) := by decide +kernel
theorem dX7_restore_0 : decode cX7_restore 0 = .ok (.iload_n 1, 1) := by decide +kernel
theorem dX7_restore_1 : decode cX7_restore 1 = .ok (.iconst 0, 1) := by decide +kernel
theorem dX7_restore_2 : decode cX7_restore 2 = .ok (.iconst 1, 1) := by decide +kernel
theorem dX7_restore_3 : decode cX7_restore 3 = .ok (.invokestatic 36, 3) := by decide +kernel
theorem dX7_restore_6 : decode cX7_restore 6 = .ok (.ifCond .ne 5, 3) := by decide +kernel
theorem dX7_restore_9 : decode cX7_restore 9 = .ok (.iconst (-1), 1) := by decide +kernel
theorem dX7_restore_10 : decode cX7_restore 10 = .ok (.ireturn, 1) := by decide +kernel
theorem dX7_restore_11 : decode cX7_restore 11 = .ok (.aload_n 0, 1) := by decide +kernel
theorem dX7_restore_12 : decode cX7_restore 12 = .ok (.getfield 19, 3) := by decide +kernel
theorem dX7_restore_15 : decode cX7_restore 15 = .ok (.iload_n 1, 1) := by decide +kernel
theorem dX7_restore_16 : decode cX7_restore 16 = .ok (.baload, 1) := by decide +kernel
theorem dX7_restore_17 : decode cX7_restore 17 = .ok (.ifCond .ne 6, 3) := by decide +kernel
theorem dX7_restore_20 : decode cX7_restore 20 = .ok (.bipush (-2), 2) := by decide +kernel
theorem dX7_restore_22 : decode cX7_restore 22 = .ok (.ireturn, 1) := by decide +kernel
theorem dX7_restore_23 : decode cX7_restore 23 = .ok (.iconst 0, 1) := by decide +kernel
theorem dX7_restore_24 : decode cX7_restore 24 = .ok (.istore_n 2, 1) := by decide +kernel
theorem dX7_restore_25 : decode cX7_restore 25 = .ok (.iload_n 2, 1) := by decide +kernel
theorem dX7_restore_26 : decode cX7_restore 26 = .ok (.sipush 153, 3) := by decide +kernel
theorem dX7_restore_29 : decode cX7_restore 29 = .ok (.if_icmp .ge 27, 3) := by decide +kernel
theorem dX7_restore_32 : decode cX7_restore 32 = .ok (.aload_n 0, 1) := by decide +kernel
theorem dX7_restore_33 : decode cX7_restore 33 = .ok (.getfield 7, 3) := by decide +kernel
theorem dX7_restore_36 : decode cX7_restore 36 = .ok (.iload_n 2, 1) := by decide +kernel
theorem dX7_restore_37 : decode cX7_restore 37 = .ok (.aload_n 0, 1) := by decide +kernel
theorem dX7_restore_38 : decode cX7_restore 38 = .ok (.getfield 16, 3) := by decide +kernel
theorem dX7_restore_41 : decode cX7_restore 41 = .ok (.sipush 153, 3) := by decide +kernel
theorem dX7_restore_44 : decode cX7_restore 44 = .ok (.iload_n 1, 1) := by decide +kernel
theorem dX7_restore_45 : decode cX7_restore 45 = .ok (.imul, 1) := by decide +kernel
theorem dX7_restore_46 : decode cX7_restore 46 = .ok (.iload_n 2, 1) := by decide +kernel
theorem dX7_restore_47 : decode cX7_restore 47 = .ok (.iadd, 1) := by decide +kernel
end
section
theorem dX7_restore_48 : decode cX7_restore 48 = .ok (.iaload, 1) := by decide +kernel
theorem dX7_restore_49 : decode cX7_restore 49 = .ok (.iastore, 1) := by decide +kernel
theorem dX7_restore_50 : decode cX7_restore 50 = .ok (.iinc 2 1, 3) := by decide +kernel
theorem dX7_restore_53 : decode cX7_restore 53 = .ok (.goto (-28), 3) := by decide +kernel
theorem dX7_restore_56 : decode cX7_restore 56 = .ok (.aload_n 0, 1) := by decide +kernel
theorem dX7_restore_57 : decode cX7_restore 57 = .ok (.iconst 0, 1) := by decide +kernel
theorem dX7_restore_58 : decode cX7_restore 58 = .ok (.putfield 40, 3) := by decide +kernel
theorem dX7_restore_61 : decode cX7_restore 61 = .ok (.aload_n 0, 1) := by decide +kernel
theorem dX7_restore_62 : decode cX7_restore 62 = .ok (.getfield 7, 3) := by decide +kernel
theorem dX7_restore_65 : decode cX7_restore 65 = .ok (.iconst 0, 1) := by decide +kernel
theorem dX7_restore_66 : decode cX7_restore 66 = .ok (.iaload, 1) := by decide +kernel
theorem dX7_restore_67 : decode cX7_restore 67 = .ok (.ireturn, 1) := by decide +kernel
theorem dJ9_max_7cf53_0 : decode cJ9_max_7cf53 0 = .ok (.iload_n 0, 1) := by decide +kernel
theorem dJ9_max_7cf53_1 : decode cJ9_max_7cf53 1 = .ok (.iload_n 1, 1) := by decide +kernel
theorem dJ9_max_7cf53_2 : decode cJ9_max_7cf53 2 = .ok (.if_icmp .lt 7, 3) := by decide +kernel
theorem dJ9_max_7cf53_5 : decode cJ9_max_7cf53 5 = .ok (.iload_n 0, 1) := by decide +kernel
theorem dJ9_max_7cf53_6 : decode cJ9_max_7cf53 6 = .ok (.goto 4, 3) := by decide +kernel
theorem dJ9_max_7cf53_9 : decode cJ9_max_7cf53 9 = .ok (.iload_n 1, 1) := by decide +kernel
theorem dJ9_max_7cf53_10 : decode cJ9_max_7cf53 10 = .ok (.ireturn, 1) := by decide +kernel
theorem dJ9_min_7cf53_0 : decode cJ9_min_7cf53 0 = .ok (.iload_n 0, 1) := by decide +kernel
theorem dJ9_min_7cf53_1 : decode cJ9_min_7cf53 1 = .ok (.iload_n 1, 1) := by decide +kernel
theorem dJ9_min_7cf53_2 : decode cJ9_min_7cf53 2 = .ok (.if_icmp .gt 7, 3) := by decide +kernel
theorem dJ9_min_7cf53_5 : decode cJ9_min_7cf53 5 = .ok (.iload_n 0, 1) := by decide +kernel
theorem dJ9_min_7cf53_6 : decode cJ9_min_7cf53 6 = .ok (.goto 4, 3) := by decide +kernel
theorem dJ9_min_7cf53_9 : decode cJ9_min_7cf53 9 = .ok (.iload_n 1, 1) := by decide +kernel
theorem dJ9_min_7cf53_10 : decode cJ9_min_7cf53 10 = .ok (.ireturn, 1) := by decide +kernel
theorem dL_law_0 : decode cL_law 0 = .ok (.new 7, 3) := by decide +kernel
theorem dL_law_3 : decode cL_law 3 = .ok (.dup, 1) := by decide +kernel
theorem dL_law_4 : decode cL_law 4 = .ok (.invokespecial 9, 3) := by decide +kernel
theorem dL_law_7 : decode cL_law 7 = .ok (.astore_n 1, 1) := by decide +kernel
theorem dL_law_8 : decode cL_law 8 = .ok (.new 10, 3) := by decide +kernel
theorem dL_law_11 : decode cL_law 11 = .ok (.dup, 1) := by decide +kernel
theorem dL_law_12 : decode cL_law 12 = .ok (.invokespecial 12, 3) := by decide +kernel
theorem dL_law_15 : decode cL_law 15 = .ok (.astore_n 2, 1) := by decide +kernel
theorem dL_law_16 : decode cL_law 16 = .ok (.iconst 0, 1) := by decide +kernel
theorem dL_law_17 : decode cL_law 17 = .ok (.istore_n 3, 1) := by decide +kernel
theorem dL_law_18 : decode cL_law 18 = .ok (.iload_n 3, 1) := by decide +kernel
theorem dL_law_19 : decode cL_law 19 = .ok (.aload_n 0, 1) := by decide +kernel
theorem dL_law_20 : decode cL_law 20 = .ok (.arraylength, 1) := by decide +kernel
theorem dL_law_21 : decode cL_law 21 = .ok (.iconst 3, 1) := by decide +kernel
theorem dL_law_22 : decode cL_law 22 = .ok (.isub, 1) := by decide +kernel
theorem dL_law_23 : decode cL_law 23 = .ok (.if_icmp .gt 1094, 3) := by decide +kernel
theorem dL_law_26 : decode cL_law 26 = .ok (.aload_n 0, 1) := by decide +kernel
theorem dL_law_27 : decode cL_law 27 = .ok (.iload_n 3, 1) := by decide +kernel
theorem dL_law_28 : decode cL_law 28 = .ok (.iaload, 1) := by decide +kernel
theorem dL_law_29 : decode cL_law 29 = .ok (.bipush 63, 2) := by decide +kernel
theorem dL_law_31 : decode cL_law 31 = .ok (.iand, 1) := by decide +kernel
theorem dL_law_32 : decode cL_law 32 = .ok (.tableswitch 1079 0 38 #[172, 205, 238, 271, 304, 327, 350, 373, 396, 419, 442, 475, 488, 511, 534, 557, 580, 603, 616, 639, 662, 685, 718, 741, 764, 787, 810, 823, 846, 879, 902, 925, 948, 971, 994, 1007, 1020, 1033, 1056], 172) := by decide +kernel
theorem dL_law_204 : decode cL_law 204 = .ok (.aload_n 1, 1) := by decide +kernel
theorem dL_law_205 : decode cL_law 205 = .ok (.aload_n 0, 1) := by decide +kernel
theorem dL_law_206 : decode cL_law 206 = .ok (.iload_n 3, 1) := by decide +kernel
theorem dL_law_207 : decode cL_law 207 = .ok (.iconst 1, 1) := by decide +kernel
theorem dL_law_208 : decode cL_law 208 = .ok (.iadd, 1) := by decide +kernel
theorem dL_law_209 : decode cL_law 209 = .ok (.iaload, 1) := by decide +kernel
theorem dL_law_210 : decode cL_law 210 = .ok (.aload_n 0, 1) := by decide +kernel
theorem dL_law_211 : decode cL_law 211 = .ok (.iload_n 3, 1) := by decide +kernel
theorem dL_law_212 : decode cL_law 212 = .ok (.iconst 2, 1) := by decide +kernel
theorem dL_law_213 : decode cL_law 213 = .ok (.iadd, 1) := by decide +kernel
theorem dL_law_214 : decode cL_law 214 = .ok (.iaload, 1) := by decide +kernel
theorem dL_law_215 : decode cL_law 215 = .ok (.invokevirtual 13, 3) := by decide +kernel
theorem dL_law_218 : decode cL_law 218 = .ok (.aload_n 2, 1) := by decide +kernel
theorem dL_law_219 : decode cL_law 219 = .ok (.aload_n 0, 1) := by decide +kernel
theorem dL_law_220 : decode cL_law 220 = .ok (.iload_n 3, 1) := by decide +kernel
theorem dL_law_221 : decode cL_law 221 = .ok (.iconst 1, 1) := by decide +kernel
theorem dL_law_222 : decode cL_law 222 = .ok (.iadd, 1) := by decide +kernel
theorem dL_law_223 : decode cL_law 223 = .ok (.iaload, 1) := by decide +kernel
theorem dL_law_224 : decode cL_law 224 = .ok (.aload_n 0, 1) := by decide +kernel
theorem dL_law_225 : decode cL_law 225 = .ok (.iload_n 3, 1) := by decide +kernel
theorem dL_law_226 : decode cL_law 226 = .ok (.iconst 2, 1) := by decide +kernel
theorem dL_law_227 : decode cL_law 227 = .ok (.iadd, 1) := by decide +kernel
theorem dL_law_228 : decode cL_law 228 = .ok (.iaload, 1) := by decide +kernel
theorem dL_law_229 : decode cL_law 229 = .ok (.invokevirtual 17, 3) := by decide +kernel
theorem dL_law_232 : decode cL_law 232 = .ok (.if_icmp .eq 879, 3) := by decide +kernel
theorem dL_law_235 : decode cL_law 235 = .ok (.iconst 0, 1) := by decide +kernel
theorem dL_law_236 : decode cL_law 236 = .ok (.ireturn, 1) := by decide +kernel
theorem dL_law_237 : decode cL_law 237 = .ok (.aload_n 1, 1) := by decide +kernel
theorem dL_law_238 : decode cL_law 238 = .ok (.aload_n 0, 1) := by decide +kernel
theorem dL_law_239 : decode cL_law 239 = .ok (.iload_n 3, 1) := by decide +kernel
theorem dL_law_240 : decode cL_law 240 = .ok (.iconst 1, 1) := by decide +kernel
theorem dL_law_241 : decode cL_law 241 = .ok (.iadd, 1) := by decide +kernel
theorem dL_law_242 : decode cL_law 242 = .ok (.iaload, 1) := by decide +kernel
theorem dL_law_243 : decode cL_law 243 = .ok (.aload_n 0, 1) := by decide +kernel
theorem dL_law_244 : decode cL_law 244 = .ok (.iload_n 3, 1) := by decide +kernel
theorem dL_law_245 : decode cL_law 245 = .ok (.iconst 2, 1) := by decide +kernel
theorem dL_law_246 : decode cL_law 246 = .ok (.iadd, 1) := by decide +kernel
theorem dL_law_247 : decode cL_law 247 = .ok (.iaload, 1) := by decide +kernel
theorem dL_law_248 : decode cL_law 248 = .ok (.invokevirtual 18, 3) := by decide +kernel
theorem dL_law_251 : decode cL_law 251 = .ok (.aload_n 2, 1) := by decide +kernel
theorem dL_law_252 : decode cL_law 252 = .ok (.aload_n 0, 1) := by decide +kernel
theorem dL_law_253 : decode cL_law 253 = .ok (.iload_n 3, 1) := by decide +kernel
theorem dL_law_254 : decode cL_law 254 = .ok (.iconst 1, 1) := by decide +kernel
theorem dL_law_255 : decode cL_law 255 = .ok (.iadd, 1) := by decide +kernel
theorem dL_law_256 : decode cL_law 256 = .ok (.iaload, 1) := by decide +kernel
theorem dL_law_257 : decode cL_law 257 = .ok (.aload_n 0, 1) := by decide +kernel
theorem dL_law_258 : decode cL_law 258 = .ok (.iload_n 3, 1) := by decide +kernel
theorem dL_law_259 : decode cL_law 259 = .ok (.iconst 2, 1) := by decide +kernel
theorem dL_law_260 : decode cL_law 260 = .ok (.iadd, 1) := by decide +kernel
theorem dL_law_261 : decode cL_law 261 = .ok (.iaload, 1) := by decide +kernel
theorem dL_law_262 : decode cL_law 262 = .ok (.invokevirtual 21, 3) := by decide +kernel
theorem dL_law_265 : decode cL_law 265 = .ok (.if_icmp .eq 846, 3) := by decide +kernel
theorem dL_law_268 : decode cL_law 268 = .ok (.iconst 0, 1) := by decide +kernel
theorem dL_law_269 : decode cL_law 269 = .ok (.ireturn, 1) := by decide +kernel
theorem dL_law_270 : decode cL_law 270 = .ok (.aload_n 1, 1) := by decide +kernel
theorem dL_law_271 : decode cL_law 271 = .ok (.aload_n 0, 1) := by decide +kernel
theorem dL_law_272 : decode cL_law 272 = .ok (.iload_n 3, 1) := by decide +kernel
theorem dL_law_273 : decode cL_law 273 = .ok (.iconst 1, 1) := by decide +kernel
theorem dL_law_274 : decode cL_law 274 = .ok (.iadd, 1) := by decide +kernel
theorem dL_law_275 : decode cL_law 275 = .ok (.iaload, 1) := by decide +kernel
theorem dL_law_276 : decode cL_law 276 = .ok (.aload_n 0, 1) := by decide +kernel
theorem dL_law_277 : decode cL_law 277 = .ok (.iload_n 3, 1) := by decide +kernel
theorem dL_law_278 : decode cL_law 278 = .ok (.iconst 2, 1) := by decide +kernel
theorem dL_law_279 : decode cL_law 279 = .ok (.iadd, 1) := by decide +kernel
theorem dL_law_280 : decode cL_law 280 = .ok (.iaload, 1) := by decide +kernel
theorem dL_law_281 : decode cL_law 281 = .ok (.invokevirtual 22, 3) := by decide +kernel
theorem dL_law_284 : decode cL_law 284 = .ok (.aload_n 2, 1) := by decide +kernel
theorem dL_law_285 : decode cL_law 285 = .ok (.aload_n 0, 1) := by decide +kernel
theorem dL_law_286 : decode cL_law 286 = .ok (.iload_n 3, 1) := by decide +kernel
theorem dL_law_287 : decode cL_law 287 = .ok (.iconst 1, 1) := by decide +kernel
theorem dL_law_288 : decode cL_law 288 = .ok (.iadd, 1) := by decide +kernel
theorem dL_law_289 : decode cL_law 289 = .ok (.iaload, 1) := by decide +kernel
theorem dL_law_290 : decode cL_law 290 = .ok (.aload_n 0, 1) := by decide +kernel
theorem dL_law_291 : decode cL_law 291 = .ok (.iload_n 3, 1) := by decide +kernel
theorem dL_law_292 : decode cL_law 292 = .ok (.iconst 2, 1) := by decide +kernel
theorem dL_law_293 : decode cL_law 293 = .ok (.iadd, 1) := by decide +kernel
theorem dL_law_294 : decode cL_law 294 = .ok (.iaload, 1) := by decide +kernel
theorem dL_law_295 : decode cL_law 295 = .ok (.invokevirtual 25, 3) := by decide +kernel
theorem dL_law_298 : decode cL_law 298 = .ok (.if_icmp .eq 813, 3) := by decide +kernel
theorem dL_law_301 : decode cL_law 301 = .ok (.iconst 0, 1) := by decide +kernel
theorem dL_law_302 : decode cL_law 302 = .ok (.ireturn, 1) := by decide +kernel
theorem dL_law_303 : decode cL_law 303 = .ok (.aload_n 1, 1) := by decide +kernel
theorem dL_law_304 : decode cL_law 304 = .ok (.aload_n 0, 1) := by decide +kernel
theorem dL_law_305 : decode cL_law 305 = .ok (.iload_n 3, 1) := by decide +kernel
theorem dL_law_306 : decode cL_law 306 = .ok (.iconst 1, 1) := by decide +kernel
theorem dL_law_307 : decode cL_law 307 = .ok (.iadd, 1) := by decide +kernel
theorem dL_law_308 : decode cL_law 308 = .ok (.iaload, 1) := by decide +kernel
theorem dL_law_309 : decode cL_law 309 = .ok (.aload_n 0, 1) := by decide +kernel
theorem dL_law_310 : decode cL_law 310 = .ok (.iload_n 3, 1) := by decide +kernel
theorem dL_law_311 : decode cL_law 311 = .ok (.iconst 2, 1) := by decide +kernel
theorem dL_law_312 : decode cL_law 312 = .ok (.iadd, 1) := by decide +kernel
theorem dL_law_313 : decode cL_law 313 = .ok (.iaload, 1) := by decide +kernel
theorem dL_law_314 : decode cL_law 314 = .ok (.invokevirtual 26, 3) := by decide +kernel
theorem dL_law_317 : decode cL_law 317 = .ok (.aload_n 2, 1) := by decide +kernel
theorem dL_law_318 : decode cL_law 318 = .ok (.aload_n 0, 1) := by decide +kernel
theorem dL_law_319 : decode cL_law 319 = .ok (.iload_n 3, 1) := by decide +kernel
theorem dL_law_320 : decode cL_law 320 = .ok (.iconst 1, 1) := by decide +kernel
theorem dL_law_321 : decode cL_law 321 = .ok (.iadd, 1) := by decide +kernel
theorem dL_law_322 : decode cL_law 322 = .ok (.iaload, 1) := by decide +kernel
theorem dL_law_323 : decode cL_law 323 = .ok (.aload_n 0, 1) := by decide +kernel
theorem dL_law_324 : decode cL_law 324 = .ok (.iload_n 3, 1) := by decide +kernel
theorem dL_law_325 : decode cL_law 325 = .ok (.iconst 2, 1) := by decide +kernel
theorem dL_law_326 : decode cL_law 326 = .ok (.iadd, 1) := by decide +kernel
theorem dL_law_327 : decode cL_law 327 = .ok (.iaload, 1) := by decide +kernel
theorem dL_law_328 : decode cL_law 328 = .ok (.invokevirtual 29, 3) := by decide +kernel
theorem dL_law_331 : decode cL_law 331 = .ok (.if_icmp .eq 780, 3) := by decide +kernel
theorem dL_law_334 : decode cL_law 334 = .ok (.iconst 0, 1) := by decide +kernel
theorem dL_law_335 : decode cL_law 335 = .ok (.ireturn, 1) := by decide +kernel
theorem dL_law_336 : decode cL_law 336 = .ok (.aload_n 1, 1) := by decide +kernel
theorem dL_law_337 : decode cL_law 337 = .ok (.aload_n 0, 1) := by decide +kernel
theorem dL_law_338 : decode cL_law 338 = .ok (.iload_n 3, 1) := by decide +kernel
theorem dL_law_339 : decode cL_law 339 = .ok (.iconst 1, 1) := by decide +kernel
theorem dL_law_340 : decode cL_law 340 = .ok (.iadd, 1) := by decide +kernel
theorem dL_law_341 : decode cL_law 341 = .ok (.iaload, 1) := by decide +kernel
theorem dL_law_342 : decode cL_law 342 = .ok (.invokevirtual 30, 3) := by decide +kernel
theorem dL_law_345 : decode cL_law 345 = .ok (.aload_n 2, 1) := by decide +kernel
theorem dL_law_346 : decode cL_law 346 = .ok (.aload_n 0, 1) := by decide +kernel
theorem dL_law_347 : decode cL_law 347 = .ok (.iload_n 3, 1) := by decide +kernel
theorem dL_law_348 : decode cL_law 348 = .ok (.iconst 1, 1) := by decide +kernel
theorem dL_law_349 : decode cL_law 349 = .ok (.iadd, 1) := by decide +kernel
theorem dL_law_350 : decode cL_law 350 = .ok (.iaload, 1) := by decide +kernel
theorem dL_law_351 : decode cL_law 351 = .ok (.invokevirtual 34, 3) := by decide +kernel
theorem dL_law_354 : decode cL_law 354 = .ok (.if_icmp .eq 757, 3) := by decide +kernel
theorem dL_law_357 : decode cL_law 357 = .ok (.iconst 0, 1) := by decide +kernel
theorem dL_law_358 : decode cL_law 358 = .ok (.ireturn, 1) := by decide +kernel
theorem dL_law_359 : decode cL_law 359 = .ok (.aload_n 1, 1) := by decide +kernel
theorem dL_law_360 : decode cL_law 360 = .ok (.aload_n 0, 1) := by decide +kernel
theorem dL_law_361 : decode cL_law 361 = .ok (.iload_n 3, 1) := by decide +kernel
theorem dL_law_362 : decode cL_law 362 = .ok (.iconst 1, 1) := by decide +kernel
theorem dL_law_363 : decode cL_law 363 = .ok (.iadd, 1) := by decide +kernel
theorem dL_law_364 : decode cL_law 364 = .ok (.iaload, 1) := by decide +kernel
theorem dL_law_365 : decode cL_law 365 = .ok (.invokevirtual 35, 3) := by decide +kernel
theorem dL_law_368 : decode cL_law 368 = .ok (.aload_n 2, 1) := by decide +kernel
theorem dL_law_369 : decode cL_law 369 = .ok (.aload_n 0, 1) := by decide +kernel
theorem dL_law_370 : decode cL_law 370 = .ok (.iload_n 3, 1) := by decide +kernel
theorem dL_law_371 : decode cL_law 371 = .ok (.iconst 1, 1) := by decide +kernel
theorem dL_law_372 : decode cL_law 372 = .ok (.iadd, 1) := by decide +kernel
theorem dL_law_373 : decode cL_law 373 = .ok (.iaload, 1) := by decide +kernel
theorem dL_law_374 : decode cL_law 374 = .ok (.invokevirtual 38, 3) := by decide +kernel
theorem dL_law_377 : decode cL_law 377 = .ok (.if_icmp .eq 734, 3) := by decide +kernel
theorem dL_law_380 : decode cL_law 380 = .ok (.iconst 0, 1) := by decide +kernel
theorem dL_law_381 : decode cL_law 381 = .ok (.ireturn, 1) := by decide +kernel
theorem dL_law_382 : decode cL_law 382 = .ok (.aload_n 1, 1) := by decide +kernel
theorem dL_law_383 : decode cL_law 383 = .ok (.aload_n 0, 1) := by decide +kernel
theorem dL_law_384 : decode cL_law 384 = .ok (.iload_n 3, 1) := by decide +kernel
theorem dL_law_385 : decode cL_law 385 = .ok (.iconst 1, 1) := by decide +kernel
theorem dL_law_386 : decode cL_law 386 = .ok (.iadd, 1) := by decide +kernel
theorem dL_law_387 : decode cL_law 387 = .ok (.iaload, 1) := by decide +kernel
theorem dL_law_388 : decode cL_law 388 = .ok (.invokevirtual 39, 3) := by decide +kernel
theorem dL_law_391 : decode cL_law 391 = .ok (.aload_n 2, 1) := by decide +kernel
theorem dL_law_392 : decode cL_law 392 = .ok (.aload_n 0, 1) := by decide +kernel
theorem dL_law_393 : decode cL_law 393 = .ok (.iload_n 3, 1) := by decide +kernel
theorem dL_law_394 : decode cL_law 394 = .ok (.iconst 1, 1) := by decide +kernel
theorem dL_law_395 : decode cL_law 395 = .ok (.iadd, 1) := by decide +kernel
theorem dL_law_396 : decode cL_law 396 = .ok (.iaload, 1) := by decide +kernel
theorem dL_law_397 : decode cL_law 397 = .ok (.invokevirtual 42, 3) := by decide +kernel
theorem dL_law_400 : decode cL_law 400 = .ok (.if_icmp .eq 711, 3) := by decide +kernel
theorem dL_law_403 : decode cL_law 403 = .ok (.iconst 0, 1) := by decide +kernel
theorem dL_law_404 : decode cL_law 404 = .ok (.ireturn, 1) := by decide +kernel
theorem dL_law_405 : decode cL_law 405 = .ok (.aload_n 1, 1) := by decide +kernel
theorem dL_law_406 : decode cL_law 406 = .ok (.aload_n 0, 1) := by decide +kernel
theorem dL_law_407 : decode cL_law 407 = .ok (.iload_n 3, 1) := by decide +kernel
theorem dL_law_408 : decode cL_law 408 = .ok (.iconst 1, 1) := by decide +kernel
theorem dL_law_409 : decode cL_law 409 = .ok (.iadd, 1) := by decide +kernel
theorem dL_law_410 : decode cL_law 410 = .ok (.iaload, 1) := by decide +kernel
theorem dL_law_411 : decode cL_law 411 = .ok (.invokevirtual 43, 3) := by decide +kernel
theorem dL_law_414 : decode cL_law 414 = .ok (.aload_n 2, 1) := by decide +kernel
theorem dL_law_415 : decode cL_law 415 = .ok (.aload_n 0, 1) := by decide +kernel
theorem dL_law_416 : decode cL_law 416 = .ok (.iload_n 3, 1) := by decide +kernel
theorem dL_law_417 : decode cL_law 417 = .ok (.iconst 1, 1) := by decide +kernel
theorem dL_law_418 : decode cL_law 418 = .ok (.iadd, 1) := by decide +kernel
theorem dL_law_419 : decode cL_law 419 = .ok (.iaload, 1) := by decide +kernel
theorem dL_law_420 : decode cL_law 420 = .ok (.invokevirtual 46, 3) := by decide +kernel
theorem dL_law_423 : decode cL_law 423 = .ok (.if_icmp .eq 688, 3) := by decide +kernel
theorem dL_law_426 : decode cL_law 426 = .ok (.iconst 0, 1) := by decide +kernel
theorem dL_law_427 : decode cL_law 427 = .ok (.ireturn, 1) := by decide +kernel
theorem dL_law_428 : decode cL_law 428 = .ok (.aload_n 1, 1) := by decide +kernel
theorem dL_law_429 : decode cL_law 429 = .ok (.aload_n 0, 1) := by decide +kernel
theorem dL_law_430 : decode cL_law 430 = .ok (.iload_n 3, 1) := by decide +kernel
theorem dL_law_431 : decode cL_law 431 = .ok (.iconst 1, 1) := by decide +kernel
theorem dL_law_432 : decode cL_law 432 = .ok (.iadd, 1) := by decide +kernel
theorem dL_law_433 : decode cL_law 433 = .ok (.iaload, 1) := by decide +kernel
theorem dL_law_434 : decode cL_law 434 = .ok (.invokevirtual 47, 3) := by decide +kernel
theorem dL_law_437 : decode cL_law 437 = .ok (.aload_n 2, 1) := by decide +kernel
theorem dL_law_438 : decode cL_law 438 = .ok (.aload_n 0, 1) := by decide +kernel
theorem dL_law_439 : decode cL_law 439 = .ok (.iload_n 3, 1) := by decide +kernel
theorem dL_law_440 : decode cL_law 440 = .ok (.iconst 1, 1) := by decide +kernel
theorem dL_law_441 : decode cL_law 441 = .ok (.iadd, 1) := by decide +kernel
theorem dL_law_442 : decode cL_law 442 = .ok (.iaload, 1) := by decide +kernel
theorem dL_law_443 : decode cL_law 443 = .ok (.invokevirtual 50, 3) := by decide +kernel
theorem dL_law_446 : decode cL_law 446 = .ok (.if_icmp .eq 665, 3) := by decide +kernel
theorem dL_law_449 : decode cL_law 449 = .ok (.iconst 0, 1) := by decide +kernel
theorem dL_law_450 : decode cL_law 450 = .ok (.ireturn, 1) := by decide +kernel
theorem dL_law_451 : decode cL_law 451 = .ok (.aload_n 1, 1) := by decide +kernel
theorem dL_law_452 : decode cL_law 452 = .ok (.aload_n 0, 1) := by decide +kernel
theorem dL_law_453 : decode cL_law 453 = .ok (.iload_n 3, 1) := by decide +kernel
theorem dL_law_454 : decode cL_law 454 = .ok (.iconst 1, 1) := by decide +kernel
theorem dL_law_455 : decode cL_law 455 = .ok (.iadd, 1) := by decide +kernel
theorem dL_law_456 : decode cL_law 456 = .ok (.iaload, 1) := by decide +kernel
theorem dL_law_457 : decode cL_law 457 = .ok (.invokevirtual 51, 3) := by decide +kernel
theorem dL_law_460 : decode cL_law 460 = .ok (.aload_n 2, 1) := by decide +kernel
theorem dL_law_461 : decode cL_law 461 = .ok (.aload_n 0, 1) := by decide +kernel
theorem dL_law_462 : decode cL_law 462 = .ok (.iload_n 3, 1) := by decide +kernel
theorem dL_law_463 : decode cL_law 463 = .ok (.iconst 1, 1) := by decide +kernel
theorem dL_law_464 : decode cL_law 464 = .ok (.iadd, 1) := by decide +kernel
theorem dL_law_465 : decode cL_law 465 = .ok (.iaload, 1) := by decide +kernel
theorem dL_law_466 : decode cL_law 466 = .ok (.invokevirtual 54, 3) := by decide +kernel
theorem dL_law_469 : decode cL_law 469 = .ok (.if_icmp .eq 642, 3) := by decide +kernel
theorem dL_law_472 : decode cL_law 472 = .ok (.iconst 0, 1) := by decide +kernel
theorem dL_law_473 : decode cL_law 473 = .ok (.ireturn, 1) := by decide +kernel
theorem dL_law_474 : decode cL_law 474 = .ok (.aload_n 1, 1) := by decide +kernel
theorem dL_law_475 : decode cL_law 475 = .ok (.aload_n 0, 1) := by decide +kernel
theorem dL_law_476 : decode cL_law 476 = .ok (.iload_n 3, 1) := by decide +kernel
theorem dL_law_477 : decode cL_law 477 = .ok (.iconst 1, 1) := by decide +kernel
theorem dL_law_478 : decode cL_law 478 = .ok (.iadd, 1) := by decide +kernel
theorem dL_law_479 : decode cL_law 479 = .ok (.iaload, 1) := by decide +kernel
theorem dL_law_480 : decode cL_law 480 = .ok (.aload_n 0, 1) := by decide +kernel
theorem dL_law_481 : decode cL_law 481 = .ok (.iload_n 3, 1) := by decide +kernel
theorem dL_law_482 : decode cL_law 482 = .ok (.iconst 2, 1) := by decide +kernel
theorem dL_law_483 : decode cL_law 483 = .ok (.iadd, 1) := by decide +kernel
theorem dL_law_484 : decode cL_law 484 = .ok (.iaload, 1) := by decide +kernel
theorem dL_law_485 : decode cL_law 485 = .ok (.invokevirtual 55, 3) := by decide +kernel
theorem dL_law_488 : decode cL_law 488 = .ok (.aload_n 2, 1) := by decide +kernel
theorem dL_law_489 : decode cL_law 489 = .ok (.aload_n 0, 1) := by decide +kernel
theorem dL_law_490 : decode cL_law 490 = .ok (.iload_n 3, 1) := by decide +kernel
theorem dL_law_491 : decode cL_law 491 = .ok (.iconst 1, 1) := by decide +kernel
theorem dL_law_492 : decode cL_law 492 = .ok (.iadd, 1) := by decide +kernel
theorem dL_law_493 : decode cL_law 493 = .ok (.iaload, 1) := by decide +kernel
theorem dL_law_494 : decode cL_law 494 = .ok (.aload_n 0, 1) := by decide +kernel
theorem dL_law_495 : decode cL_law 495 = .ok (.iload_n 3, 1) := by decide +kernel
theorem dL_law_496 : decode cL_law 496 = .ok (.iconst 2, 1) := by decide +kernel
theorem dL_law_497 : decode cL_law 497 = .ok (.iadd, 1) := by decide +kernel
theorem dL_law_498 : decode cL_law 498 = .ok (.iaload, 1) := by decide +kernel
theorem dL_law_499 : decode cL_law 499 = .ok (.invokevirtual 58, 3) := by decide +kernel
theorem dL_law_502 : decode cL_law 502 = .ok (.if_icmp .eq 609, 3) := by decide +kernel
theorem dL_law_505 : decode cL_law 505 = .ok (.iconst 0, 1) := by decide +kernel
theorem dL_law_506 : decode cL_law 506 = .ok (.ireturn, 1) := by decide +kernel
theorem dL_law_507 : decode cL_law 507 = .ok (.aload_n 1, 1) := by decide +kernel
theorem dL_law_508 : decode cL_law 508 = .ok (.invokevirtual 59, 3) := by decide +kernel
theorem dL_law_511 : decode cL_law 511 = .ok (.aload_n 2, 1) := by decide +kernel
theorem dL_law_512 : decode cL_law 512 = .ok (.invokevirtual 63, 3) := by decide +kernel
theorem dL_law_515 : decode cL_law 515 = .ok (.if_icmp .eq 596, 3) := by decide +kernel
theorem dL_law_518 : decode cL_law 518 = .ok (.iconst 0, 1) := by decide +kernel
theorem dL_law_519 : decode cL_law 519 = .ok (.ireturn, 1) := by decide +kernel
theorem dL_law_520 : decode cL_law 520 = .ok (.aload_n 1, 1) := by decide +kernel
theorem dL_law_521 : decode cL_law 521 = .ok (.aload_n 0, 1) := by decide +kernel
theorem dL_law_522 : decode cL_law 522 = .ok (.iload_n 3, 1) := by decide +kernel
theorem dL_law_523 : decode cL_law 523 = .ok (.iconst 1, 1) := by decide +kernel
theorem dL_law_524 : decode cL_law 524 = .ok (.iadd, 1) := by decide +kernel
theorem dL_law_525 : decode cL_law 525 = .ok (.iaload, 1) := by decide +kernel
theorem dL_law_526 : decode cL_law 526 = .ok (.invokevirtual 64, 3) := by decide +kernel
theorem dL_law_529 : decode cL_law 529 = .ok (.aload_n 2, 1) := by decide +kernel
theorem dL_law_530 : decode cL_law 530 = .ok (.aload_n 0, 1) := by decide +kernel
theorem dL_law_531 : decode cL_law 531 = .ok (.iload_n 3, 1) := by decide +kernel
theorem dL_law_532 : decode cL_law 532 = .ok (.iconst 1, 1) := by decide +kernel
theorem dL_law_533 : decode cL_law 533 = .ok (.iadd, 1) := by decide +kernel
theorem dL_law_534 : decode cL_law 534 = .ok (.iaload, 1) := by decide +kernel
theorem dL_law_535 : decode cL_law 535 = .ok (.invokevirtual 67, 3) := by decide +kernel
theorem dL_law_538 : decode cL_law 538 = .ok (.if_icmp .eq 573, 3) := by decide +kernel
theorem dL_law_541 : decode cL_law 541 = .ok (.iconst 0, 1) := by decide +kernel
theorem dL_law_542 : decode cL_law 542 = .ok (.ireturn, 1) := by decide +kernel
theorem dL_law_543 : decode cL_law 543 = .ok (.aload_n 1, 1) := by decide +kernel
theorem dL_law_544 : decode cL_law 544 = .ok (.aload_n 0, 1) := by decide +kernel
theorem dL_law_545 : decode cL_law 545 = .ok (.iload_n 3, 1) := by decide +kernel
theorem dL_law_546 : decode cL_law 546 = .ok (.iconst 1, 1) := by decide +kernel
theorem dL_law_547 : decode cL_law 547 = .ok (.iadd, 1) := by decide +kernel
theorem dL_law_548 : decode cL_law 548 = .ok (.iaload, 1) := by decide +kernel
theorem dL_law_549 : decode cL_law 549 = .ok (.invokevirtual 68, 3) := by decide +kernel
theorem dL_law_552 : decode cL_law 552 = .ok (.aload_n 2, 1) := by decide +kernel
theorem dL_law_553 : decode cL_law 553 = .ok (.aload_n 0, 1) := by decide +kernel
theorem dL_law_554 : decode cL_law 554 = .ok (.iload_n 3, 1) := by decide +kernel
theorem dL_law_555 : decode cL_law 555 = .ok (.iconst 1, 1) := by decide +kernel
theorem dL_law_556 : decode cL_law 556 = .ok (.iadd, 1) := by decide +kernel
theorem dL_law_557 : decode cL_law 557 = .ok (.iaload, 1) := by decide +kernel
theorem dL_law_558 : decode cL_law 558 = .ok (.invokevirtual 71, 3) := by decide +kernel
theorem dL_law_561 : decode cL_law 561 = .ok (.if_icmp .eq 550, 3) := by decide +kernel
theorem dL_law_564 : decode cL_law 564 = .ok (.iconst 0, 1) := by decide +kernel
theorem dL_law_565 : decode cL_law 565 = .ok (.ireturn, 1) := by decide +kernel
theorem dL_law_566 : decode cL_law 566 = .ok (.aload_n 1, 1) := by decide +kernel
theorem dL_law_567 : decode cL_law 567 = .ok (.aload_n 0, 1) := by decide +kernel
theorem dL_law_568 : decode cL_law 568 = .ok (.iload_n 3, 1) := by decide +kernel
theorem dL_law_569 : decode cL_law 569 = .ok (.iconst 1, 1) := by decide +kernel
theorem dL_law_570 : decode cL_law 570 = .ok (.iadd, 1) := by decide +kernel
theorem dL_law_571 : decode cL_law 571 = .ok (.iaload, 1) := by decide +kernel
theorem dL_law_572 : decode cL_law 572 = .ok (.invokevirtual 72, 3) := by decide +kernel
theorem dL_law_575 : decode cL_law 575 = .ok (.aload_n 2, 1) := by decide +kernel
theorem dL_law_576 : decode cL_law 576 = .ok (.aload_n 0, 1) := by decide +kernel
theorem dL_law_577 : decode cL_law 577 = .ok (.iload_n 3, 1) := by decide +kernel
theorem dL_law_578 : decode cL_law 578 = .ok (.iconst 1, 1) := by decide +kernel
theorem dL_law_579 : decode cL_law 579 = .ok (.iadd, 1) := by decide +kernel
theorem dL_law_580 : decode cL_law 580 = .ok (.iaload, 1) := by decide +kernel
theorem dL_law_581 : decode cL_law 581 = .ok (.invokevirtual 75, 3) := by decide +kernel
theorem dL_law_584 : decode cL_law 584 = .ok (.if_icmp .eq 527, 3) := by decide +kernel
theorem dL_law_587 : decode cL_law 587 = .ok (.iconst 0, 1) := by decide +kernel
theorem dL_law_588 : decode cL_law 588 = .ok (.ireturn, 1) := by decide +kernel
theorem dL_law_589 : decode cL_law 589 = .ok (.aload_n 1, 1) := by decide +kernel
theorem dL_law_590 : decode cL_law 590 = .ok (.aload_n 0, 1) := by decide +kernel
theorem dL_law_591 : decode cL_law 591 = .ok (.iload_n 3, 1) := by decide +kernel
theorem dL_law_592 : decode cL_law 592 = .ok (.iconst 1, 1) := by decide +kernel
theorem dL_law_593 : decode cL_law 593 = .ok (.iadd, 1) := by decide +kernel
theorem dL_law_594 : decode cL_law 594 = .ok (.iaload, 1) := by decide +kernel
theorem dL_law_595 : decode cL_law 595 = .ok (.invokevirtual 76, 3) := by decide +kernel
theorem dL_law_598 : decode cL_law 598 = .ok (.aload_n 2, 1) := by decide +kernel
theorem dL_law_599 : decode cL_law 599 = .ok (.aload_n 0, 1) := by decide +kernel
theorem dL_law_600 : decode cL_law 600 = .ok (.iload_n 3, 1) := by decide +kernel
theorem dL_law_601 : decode cL_law 601 = .ok (.iconst 1, 1) := by decide +kernel
theorem dL_law_602 : decode cL_law 602 = .ok (.iadd, 1) := by decide +kernel
theorem dL_law_603 : decode cL_law 603 = .ok (.iaload, 1) := by decide +kernel
theorem dL_law_604 : decode cL_law 604 = .ok (.invokevirtual 79, 3) := by decide +kernel
theorem dL_law_607 : decode cL_law 607 = .ok (.if_icmp .eq 504, 3) := by decide +kernel
theorem dL_law_610 : decode cL_law 610 = .ok (.iconst 0, 1) := by decide +kernel
theorem dL_law_611 : decode cL_law 611 = .ok (.ireturn, 1) := by decide +kernel
theorem dL_law_612 : decode cL_law 612 = .ok (.aload_n 1, 1) := by decide +kernel
theorem dL_law_613 : decode cL_law 613 = .ok (.aload_n 0, 1) := by decide +kernel
theorem dL_law_614 : decode cL_law 614 = .ok (.iload_n 3, 1) := by decide +kernel
theorem dL_law_615 : decode cL_law 615 = .ok (.iconst 1, 1) := by decide +kernel
theorem dL_law_616 : decode cL_law 616 = .ok (.iadd, 1) := by decide +kernel
theorem dL_law_617 : decode cL_law 617 = .ok (.iaload, 1) := by decide +kernel
theorem dL_law_618 : decode cL_law 618 = .ok (.invokevirtual 80, 3) := by decide +kernel
theorem dL_law_621 : decode cL_law 621 = .ok (.aload_n 2, 1) := by decide +kernel
theorem dL_law_622 : decode cL_law 622 = .ok (.aload_n 0, 1) := by decide +kernel
theorem dL_law_623 : decode cL_law 623 = .ok (.iload_n 3, 1) := by decide +kernel
theorem dL_law_624 : decode cL_law 624 = .ok (.iconst 1, 1) := by decide +kernel
theorem dL_law_625 : decode cL_law 625 = .ok (.iadd, 1) := by decide +kernel
theorem dL_law_626 : decode cL_law 626 = .ok (.iaload, 1) := by decide +kernel
theorem dL_law_627 : decode cL_law 627 = .ok (.invokevirtual 83, 3) := by decide +kernel
theorem dL_law_630 : decode cL_law 630 = .ok (.if_icmp .eq 481, 3) := by decide +kernel
theorem dL_law_633 : decode cL_law 633 = .ok (.iconst 0, 1) := by decide +kernel
theorem dL_law_634 : decode cL_law 634 = .ok (.ireturn, 1) := by decide +kernel
theorem dL_law_635 : decode cL_law 635 = .ok (.aload_n 1, 1) := by decide +kernel
theorem dL_law_636 : decode cL_law 636 = .ok (.invokevirtual 84, 3) := by decide +kernel
theorem dL_law_639 : decode cL_law 639 = .ok (.aload_n 2, 1) := by decide +kernel
theorem dL_law_640 : decode cL_law 640 = .ok (.invokevirtual 87, 3) := by decide +kernel
theorem dL_law_643 : decode cL_law 643 = .ok (.if_icmp .eq 468, 3) := by decide +kernel
theorem dL_law_646 : decode cL_law 646 = .ok (.iconst 0, 1) := by decide +kernel
theorem dL_law_647 : decode cL_law 647 = .ok (.ireturn, 1) := by decide +kernel
theorem dL_law_648 : decode cL_law 648 = .ok (.aload_n 1, 1) := by decide +kernel
theorem dL_law_649 : decode cL_law 649 = .ok (.aload_n 0, 1) := by decide +kernel
theorem dL_law_650 : decode cL_law 650 = .ok (.iload_n 3, 1) := by decide +kernel
theorem dL_law_651 : decode cL_law 651 = .ok (.iconst 1, 1) := by decide +kernel
theorem dL_law_652 : decode cL_law 652 = .ok (.iadd, 1) := by decide +kernel
theorem dL_law_653 : decode cL_law 653 = .ok (.iaload, 1) := by decide +kernel
theorem dL_law_654 : decode cL_law 654 = .ok (.invokevirtual 88, 3) := by decide +kernel
theorem dL_law_657 : decode cL_law 657 = .ok (.aload_n 2, 1) := by decide +kernel
theorem dL_law_658 : decode cL_law 658 = .ok (.aload_n 0, 1) := by decide +kernel
theorem dL_law_659 : decode cL_law 659 = .ok (.iload_n 3, 1) := by decide +kernel
theorem dL_law_660 : decode cL_law 660 = .ok (.iconst 1, 1) := by decide +kernel
theorem dL_law_661 : decode cL_law 661 = .ok (.iadd, 1) := by decide +kernel
theorem dL_law_662 : decode cL_law 662 = .ok (.iaload, 1) := by decide +kernel
theorem dL_law_663 : decode cL_law 663 = .ok (.invokevirtual 91, 3) := by decide +kernel
theorem dL_law_666 : decode cL_law 666 = .ok (.if_icmp .eq 445, 3) := by decide +kernel
theorem dL_law_669 : decode cL_law 669 = .ok (.iconst 0, 1) := by decide +kernel
theorem dL_law_670 : decode cL_law 670 = .ok (.ireturn, 1) := by decide +kernel
theorem dL_law_671 : decode cL_law 671 = .ok (.aload_n 1, 1) := by decide +kernel
theorem dL_law_672 : decode cL_law 672 = .ok (.aload_n 0, 1) := by decide +kernel
theorem dL_law_673 : decode cL_law 673 = .ok (.iload_n 3, 1) := by decide +kernel
theorem dL_law_674 : decode cL_law 674 = .ok (.iconst 1, 1) := by decide +kernel
theorem dL_law_675 : decode cL_law 675 = .ok (.iadd, 1) := by decide +kernel
theorem dL_law_676 : decode cL_law 676 = .ok (.iaload, 1) := by decide +kernel
theorem dL_law_677 : decode cL_law 677 = .ok (.invokevirtual 92, 3) := by decide +kernel
theorem dL_law_680 : decode cL_law 680 = .ok (.aload_n 2, 1) := by decide +kernel
theorem dL_law_681 : decode cL_law 681 = .ok (.aload_n 0, 1) := by decide +kernel
theorem dL_law_682 : decode cL_law 682 = .ok (.iload_n 3, 1) := by decide +kernel
theorem dL_law_683 : decode cL_law 683 = .ok (.iconst 1, 1) := by decide +kernel
theorem dL_law_684 : decode cL_law 684 = .ok (.iadd, 1) := by decide +kernel
theorem dL_law_685 : decode cL_law 685 = .ok (.iaload, 1) := by decide +kernel
theorem dL_law_686 : decode cL_law 686 = .ok (.invokevirtual 95, 3) := by decide +kernel
theorem dL_law_689 : decode cL_law 689 = .ok (.if_icmp .eq 422, 3) := by decide +kernel
theorem dL_law_692 : decode cL_law 692 = .ok (.iconst 0, 1) := by decide +kernel
theorem dL_law_693 : decode cL_law 693 = .ok (.ireturn, 1) := by decide +kernel
theorem dL_law_694 : decode cL_law 694 = .ok (.aload_n 1, 1) := by decide +kernel
theorem dL_law_695 : decode cL_law 695 = .ok (.aload_n 0, 1) := by decide +kernel
theorem dL_law_696 : decode cL_law 696 = .ok (.iload_n 3, 1) := by decide +kernel
theorem dL_law_697 : decode cL_law 697 = .ok (.iconst 1, 1) := by decide +kernel
theorem dL_law_698 : decode cL_law 698 = .ok (.iadd, 1) := by decide +kernel
theorem dL_law_699 : decode cL_law 699 = .ok (.iaload, 1) := by decide +kernel
theorem dL_law_700 : decode cL_law 700 = .ok (.invokevirtual 96, 3) := by decide +kernel
theorem dL_law_703 : decode cL_law 703 = .ok (.aload_n 2, 1) := by decide +kernel
theorem dL_law_704 : decode cL_law 704 = .ok (.aload_n 0, 1) := by decide +kernel
theorem dL_law_705 : decode cL_law 705 = .ok (.iload_n 3, 1) := by decide +kernel
theorem dL_law_706 : decode cL_law 706 = .ok (.iconst 1, 1) := by decide +kernel
theorem dL_law_707 : decode cL_law 707 = .ok (.iadd, 1) := by decide +kernel
theorem dL_law_708 : decode cL_law 708 = .ok (.iaload, 1) := by decide +kernel
theorem dL_law_709 : decode cL_law 709 = .ok (.invokevirtual 99, 3) := by decide +kernel
theorem dL_law_712 : decode cL_law 712 = .ok (.if_icmp .eq 399, 3) := by decide +kernel
theorem dL_law_715 : decode cL_law 715 = .ok (.iconst 0, 1) := by decide +kernel
theorem dL_law_716 : decode cL_law 716 = .ok (.ireturn, 1) := by decide +kernel
theorem dL_law_717 : decode cL_law 717 = .ok (.aload_n 1, 1) := by decide +kernel
theorem dL_law_718 : decode cL_law 718 = .ok (.aload_n 0, 1) := by decide +kernel
theorem dL_law_719 : decode cL_law 719 = .ok (.iload_n 3, 1) := by decide +kernel
theorem dL_law_720 : decode cL_law 720 = .ok (.iconst 1, 1) := by decide +kernel
theorem dL_law_721 : decode cL_law 721 = .ok (.iadd, 1) := by decide +kernel
theorem dL_law_722 : decode cL_law 722 = .ok (.iaload, 1) := by decide +kernel
theorem dL_law_723 : decode cL_law 723 = .ok (.aload_n 0, 1) := by decide +kernel
theorem dL_law_724 : decode cL_law 724 = .ok (.iload_n 3, 1) := by decide +kernel
theorem dL_law_725 : decode cL_law 725 = .ok (.iconst 2, 1) := by decide +kernel
theorem dL_law_726 : decode cL_law 726 = .ok (.iadd, 1) := by decide +kernel
theorem dL_law_727 : decode cL_law 727 = .ok (.iaload, 1) := by decide +kernel
theorem dL_law_728 : decode cL_law 728 = .ok (.invokevirtual 100, 3) := by decide +kernel
theorem dL_law_731 : decode cL_law 731 = .ok (.aload_n 2, 1) := by decide +kernel
theorem dL_law_732 : decode cL_law 732 = .ok (.aload_n 0, 1) := by decide +kernel
theorem dL_law_733 : decode cL_law 733 = .ok (.iload_n 3, 1) := by decide +kernel
theorem dL_law_734 : decode cL_law 734 = .ok (.iconst 1, 1) := by decide +kernel
theorem dL_law_735 : decode cL_law 735 = .ok (.iadd, 1) := by decide +kernel
theorem dL_law_736 : decode cL_law 736 = .ok (.iaload, 1) := by decide +kernel
theorem dL_law_737 : decode cL_law 737 = .ok (.aload_n 0, 1) := by decide +kernel
theorem dL_law_738 : decode cL_law 738 = .ok (.iload_n 3, 1) := by decide +kernel
theorem dL_law_739 : decode cL_law 739 = .ok (.iconst 2, 1) := by decide +kernel
theorem dL_law_740 : decode cL_law 740 = .ok (.iadd, 1) := by decide +kernel
theorem dL_law_741 : decode cL_law 741 = .ok (.iaload, 1) := by decide +kernel
theorem dL_law_742 : decode cL_law 742 = .ok (.invokevirtual 103, 3) := by decide +kernel
theorem dL_law_745 : decode cL_law 745 = .ok (.if_icmp .eq 366, 3) := by decide +kernel
theorem dL_law_748 : decode cL_law 748 = .ok (.iconst 0, 1) := by decide +kernel
theorem dL_law_749 : decode cL_law 749 = .ok (.ireturn, 1) := by decide +kernel
theorem dL_law_750 : decode cL_law 750 = .ok (.aload_n 1, 1) := by decide +kernel
theorem dL_law_751 : decode cL_law 751 = .ok (.aload_n 0, 1) := by decide +kernel
theorem dL_law_752 : decode cL_law 752 = .ok (.iload_n 3, 1) := by decide +kernel
theorem dL_law_753 : decode cL_law 753 = .ok (.iconst 1, 1) := by decide +kernel
theorem dL_law_754 : decode cL_law 754 = .ok (.iadd, 1) := by decide +kernel
theorem dL_law_755 : decode cL_law 755 = .ok (.iaload, 1) := by decide +kernel
theorem dL_law_756 : decode cL_law 756 = .ok (.invokevirtual 104, 3) := by decide +kernel
theorem dL_law_759 : decode cL_law 759 = .ok (.aload_n 2, 1) := by decide +kernel
theorem dL_law_760 : decode cL_law 760 = .ok (.aload_n 0, 1) := by decide +kernel
theorem dL_law_761 : decode cL_law 761 = .ok (.iload_n 3, 1) := by decide +kernel
theorem dL_law_762 : decode cL_law 762 = .ok (.iconst 1, 1) := by decide +kernel
theorem dL_law_763 : decode cL_law 763 = .ok (.iadd, 1) := by decide +kernel
theorem dL_law_764 : decode cL_law 764 = .ok (.iaload, 1) := by decide +kernel
theorem dL_law_765 : decode cL_law 765 = .ok (.invokevirtual 107, 3) := by decide +kernel
theorem dL_law_768 : decode cL_law 768 = .ok (.if_icmp .eq 343, 3) := by decide +kernel
theorem dL_law_771 : decode cL_law 771 = .ok (.iconst 0, 1) := by decide +kernel
theorem dL_law_772 : decode cL_law 772 = .ok (.ireturn, 1) := by decide +kernel
theorem dL_law_773 : decode cL_law 773 = .ok (.aload_n 1, 1) := by decide +kernel
theorem dL_law_774 : decode cL_law 774 = .ok (.aload_n 0, 1) := by decide +kernel
theorem dL_law_775 : decode cL_law 775 = .ok (.iload_n 3, 1) := by decide +kernel
theorem dL_law_776 : decode cL_law 776 = .ok (.iconst 1, 1) := by decide +kernel
theorem dL_law_777 : decode cL_law 777 = .ok (.iadd, 1) := by decide +kernel
theorem dL_law_778 : decode cL_law 778 = .ok (.iaload, 1) := by decide +kernel
theorem dL_law_779 : decode cL_law 779 = .ok (.invokevirtual 108, 3) := by decide +kernel
theorem dL_law_782 : decode cL_law 782 = .ok (.aload_n 2, 1) := by decide +kernel
theorem dL_law_783 : decode cL_law 783 = .ok (.aload_n 0, 1) := by decide +kernel
theorem dL_law_784 : decode cL_law 784 = .ok (.iload_n 3, 1) := by decide +kernel
theorem dL_law_785 : decode cL_law 785 = .ok (.iconst 1, 1) := by decide +kernel
theorem dL_law_786 : decode cL_law 786 = .ok (.iadd, 1) := by decide +kernel
theorem dL_law_787 : decode cL_law 787 = .ok (.iaload, 1) := by decide +kernel
theorem dL_law_788 : decode cL_law 788 = .ok (.invokevirtual 111, 3) := by decide +kernel
theorem dL_law_791 : decode cL_law 791 = .ok (.if_icmp .eq 320, 3) := by decide +kernel
theorem dL_law_794 : decode cL_law 794 = .ok (.iconst 0, 1) := by decide +kernel
theorem dL_law_795 : decode cL_law 795 = .ok (.ireturn, 1) := by decide +kernel
theorem dL_law_796 : decode cL_law 796 = .ok (.aload_n 1, 1) := by decide +kernel
theorem dL_law_797 : decode cL_law 797 = .ok (.aload_n 0, 1) := by decide +kernel
theorem dL_law_798 : decode cL_law 798 = .ok (.iload_n 3, 1) := by decide +kernel
theorem dL_law_799 : decode cL_law 799 = .ok (.iconst 1, 1) := by decide +kernel
theorem dL_law_800 : decode cL_law 800 = .ok (.iadd, 1) := by decide +kernel
theorem dL_law_801 : decode cL_law 801 = .ok (.iaload, 1) := by decide +kernel
theorem dL_law_802 : decode cL_law 802 = .ok (.invokevirtual 112, 3) := by decide +kernel
theorem dL_law_805 : decode cL_law 805 = .ok (.aload_n 2, 1) := by decide +kernel
theorem dL_law_806 : decode cL_law 806 = .ok (.aload_n 0, 1) := by decide +kernel
theorem dL_law_807 : decode cL_law 807 = .ok (.iload_n 3, 1) := by decide +kernel
theorem dL_law_808 : decode cL_law 808 = .ok (.iconst 1, 1) := by decide +kernel
theorem dL_law_809 : decode cL_law 809 = .ok (.iadd, 1) := by decide +kernel
theorem dL_law_810 : decode cL_law 810 = .ok (.iaload, 1) := by decide +kernel
theorem dL_law_811 : decode cL_law 811 = .ok (.invokevirtual 115, 3) := by decide +kernel
theorem dL_law_814 : decode cL_law 814 = .ok (.if_icmp .eq 297, 3) := by decide +kernel
theorem dL_law_817 : decode cL_law 817 = .ok (.iconst 0, 1) := by decide +kernel
theorem dL_law_818 : decode cL_law 818 = .ok (.ireturn, 1) := by decide +kernel
theorem dL_law_819 : decode cL_law 819 = .ok (.aload_n 1, 1) := by decide +kernel
theorem dL_law_820 : decode cL_law 820 = .ok (.aload_n 0, 1) := by decide +kernel
theorem dL_law_821 : decode cL_law 821 = .ok (.iload_n 3, 1) := by decide +kernel
theorem dL_law_822 : decode cL_law 822 = .ok (.iconst 1, 1) := by decide +kernel
theorem dL_law_823 : decode cL_law 823 = .ok (.iadd, 1) := by decide +kernel
theorem dL_law_824 : decode cL_law 824 = .ok (.iaload, 1) := by decide +kernel
theorem dL_law_825 : decode cL_law 825 = .ok (.invokevirtual 116, 3) := by decide +kernel
theorem dL_law_828 : decode cL_law 828 = .ok (.aload_n 2, 1) := by decide +kernel
theorem dL_law_829 : decode cL_law 829 = .ok (.aload_n 0, 1) := by decide +kernel
theorem dL_law_830 : decode cL_law 830 = .ok (.iload_n 3, 1) := by decide +kernel
theorem dL_law_831 : decode cL_law 831 = .ok (.iconst 1, 1) := by decide +kernel
theorem dL_law_832 : decode cL_law 832 = .ok (.iadd, 1) := by decide +kernel
theorem dL_law_833 : decode cL_law 833 = .ok (.iaload, 1) := by decide +kernel
theorem dL_law_834 : decode cL_law 834 = .ok (.invokevirtual 119, 3) := by decide +kernel
theorem dL_law_837 : decode cL_law 837 = .ok (.if_icmp .eq 274, 3) := by decide +kernel
theorem dL_law_840 : decode cL_law 840 = .ok (.iconst 0, 1) := by decide +kernel
theorem dL_law_841 : decode cL_law 841 = .ok (.ireturn, 1) := by decide +kernel
theorem dL_law_842 : decode cL_law 842 = .ok (.aload_n 1, 1) := by decide +kernel
theorem dL_law_843 : decode cL_law 843 = .ok (.invokevirtual 120, 3) := by decide +kernel
theorem dL_law_846 : decode cL_law 846 = .ok (.aload_n 2, 1) := by decide +kernel
theorem dL_law_847 : decode cL_law 847 = .ok (.invokevirtual 123, 3) := by decide +kernel
theorem dL_law_850 : decode cL_law 850 = .ok (.if_icmp .eq 261, 3) := by decide +kernel
theorem dL_law_853 : decode cL_law 853 = .ok (.iconst 0, 1) := by decide +kernel
theorem dL_law_854 : decode cL_law 854 = .ok (.ireturn, 1) := by decide +kernel
theorem dL_law_855 : decode cL_law 855 = .ok (.aload_n 1, 1) := by decide +kernel
theorem dL_law_856 : decode cL_law 856 = .ok (.aload_n 0, 1) := by decide +kernel
theorem dL_law_857 : decode cL_law 857 = .ok (.iload_n 3, 1) := by decide +kernel
theorem dL_law_858 : decode cL_law 858 = .ok (.iconst 1, 1) := by decide +kernel
theorem dL_law_859 : decode cL_law 859 = .ok (.iadd, 1) := by decide +kernel
theorem dL_law_860 : decode cL_law 860 = .ok (.iaload, 1) := by decide +kernel
theorem dL_law_861 : decode cL_law 861 = .ok (.invokevirtual 124, 3) := by decide +kernel
theorem dL_law_864 : decode cL_law 864 = .ok (.aload_n 2, 1) := by decide +kernel
theorem dL_law_865 : decode cL_law 865 = .ok (.aload_n 0, 1) := by decide +kernel
theorem dL_law_866 : decode cL_law 866 = .ok (.iload_n 3, 1) := by decide +kernel
theorem dL_law_867 : decode cL_law 867 = .ok (.iconst 1, 1) := by decide +kernel
theorem dL_law_868 : decode cL_law 868 = .ok (.iadd, 1) := by decide +kernel
theorem dL_law_869 : decode cL_law 869 = .ok (.iaload, 1) := by decide +kernel
theorem dL_law_870 : decode cL_law 870 = .ok (.invokevirtual 127, 3) := by decide +kernel
theorem dL_law_873 : decode cL_law 873 = .ok (.if_icmp .eq 238, 3) := by decide +kernel
theorem dL_law_876 : decode cL_law 876 = .ok (.iconst 0, 1) := by decide +kernel
theorem dL_law_877 : decode cL_law 877 = .ok (.ireturn, 1) := by decide +kernel
theorem dL_law_878 : decode cL_law 878 = .ok (.aload_n 1, 1) := by decide +kernel
theorem dL_law_879 : decode cL_law 879 = .ok (.aload_n 0, 1) := by decide +kernel
theorem dL_law_880 : decode cL_law 880 = .ok (.iload_n 3, 1) := by decide +kernel
theorem dL_law_881 : decode cL_law 881 = .ok (.iconst 1, 1) := by decide +kernel
theorem dL_law_882 : decode cL_law 882 = .ok (.iadd, 1) := by decide +kernel
theorem dL_law_883 : decode cL_law 883 = .ok (.iaload, 1) := by decide +kernel
theorem dL_law_884 : decode cL_law 884 = .ok (.aload_n 0, 1) := by decide +kernel
theorem dL_law_885 : decode cL_law 885 = .ok (.iload_n 3, 1) := by decide +kernel
theorem dL_law_886 : decode cL_law 886 = .ok (.iconst 2, 1) := by decide +kernel
theorem dL_law_887 : decode cL_law 887 = .ok (.iadd, 1) := by decide +kernel
theorem dL_law_888 : decode cL_law 888 = .ok (.iaload, 1) := by decide +kernel
theorem dL_law_889 : decode cL_law 889 = .ok (.invokevirtual 128, 3) := by decide +kernel
theorem dL_law_892 : decode cL_law 892 = .ok (.aload_n 2, 1) := by decide +kernel
theorem dL_law_893 : decode cL_law 893 = .ok (.aload_n 0, 1) := by decide +kernel
theorem dL_law_894 : decode cL_law 894 = .ok (.iload_n 3, 1) := by decide +kernel
theorem dL_law_895 : decode cL_law 895 = .ok (.iconst 1, 1) := by decide +kernel
theorem dL_law_896 : decode cL_law 896 = .ok (.iadd, 1) := by decide +kernel
theorem dL_law_897 : decode cL_law 897 = .ok (.iaload, 1) := by decide +kernel
theorem dL_law_898 : decode cL_law 898 = .ok (.aload_n 0, 1) := by decide +kernel
theorem dL_law_899 : decode cL_law 899 = .ok (.iload_n 3, 1) := by decide +kernel
theorem dL_law_900 : decode cL_law 900 = .ok (.iconst 2, 1) := by decide +kernel
theorem dL_law_901 : decode cL_law 901 = .ok (.iadd, 1) := by decide +kernel
theorem dL_law_902 : decode cL_law 902 = .ok (.iaload, 1) := by decide +kernel
theorem dL_law_903 : decode cL_law 903 = .ok (.invokevirtual 131, 3) := by decide +kernel
theorem dL_law_906 : decode cL_law 906 = .ok (.if_icmp .eq 205, 3) := by decide +kernel
theorem dL_law_909 : decode cL_law 909 = .ok (.iconst 0, 1) := by decide +kernel
theorem dL_law_910 : decode cL_law 910 = .ok (.ireturn, 1) := by decide +kernel
theorem dL_law_911 : decode cL_law 911 = .ok (.aload_n 1, 1) := by decide +kernel
theorem dL_law_912 : decode cL_law 912 = .ok (.aload_n 0, 1) := by decide +kernel
theorem dL_law_913 : decode cL_law 913 = .ok (.iload_n 3, 1) := by decide +kernel
theorem dL_law_914 : decode cL_law 914 = .ok (.iconst 1, 1) := by decide +kernel
theorem dL_law_915 : decode cL_law 915 = .ok (.iadd, 1) := by decide +kernel
theorem dL_law_916 : decode cL_law 916 = .ok (.iaload, 1) := by decide +kernel
theorem dL_law_917 : decode cL_law 917 = .ok (.invokevirtual 132, 3) := by decide +kernel
theorem dL_law_920 : decode cL_law 920 = .ok (.aload_n 2, 1) := by decide +kernel
theorem dL_law_921 : decode cL_law 921 = .ok (.aload_n 0, 1) := by decide +kernel
theorem dL_law_922 : decode cL_law 922 = .ok (.iload_n 3, 1) := by decide +kernel
theorem dL_law_923 : decode cL_law 923 = .ok (.iconst 1, 1) := by decide +kernel
theorem dL_law_924 : decode cL_law 924 = .ok (.iadd, 1) := by decide +kernel
theorem dL_law_925 : decode cL_law 925 = .ok (.iaload, 1) := by decide +kernel
theorem dL_law_926 : decode cL_law 926 = .ok (.invokevirtual 135, 3) := by decide +kernel
theorem dL_law_929 : decode cL_law 929 = .ok (.if_icmp .eq 182, 3) := by decide +kernel
theorem dL_law_932 : decode cL_law 932 = .ok (.iconst 0, 1) := by decide +kernel
theorem dL_law_933 : decode cL_law 933 = .ok (.ireturn, 1) := by decide +kernel
theorem dL_law_934 : decode cL_law 934 = .ok (.aload_n 1, 1) := by decide +kernel
theorem dL_law_935 : decode cL_law 935 = .ok (.aload_n 0, 1) := by decide +kernel
theorem dL_law_936 : decode cL_law 936 = .ok (.iload_n 3, 1) := by decide +kernel
theorem dL_law_937 : decode cL_law 937 = .ok (.iconst 1, 1) := by decide +kernel
theorem dL_law_938 : decode cL_law 938 = .ok (.iadd, 1) := by decide +kernel
theorem dL_law_939 : decode cL_law 939 = .ok (.iaload, 1) := by decide +kernel
theorem dL_law_940 : decode cL_law 940 = .ok (.invokevirtual 136, 3) := by decide +kernel
theorem dL_law_943 : decode cL_law 943 = .ok (.aload_n 2, 1) := by decide +kernel
theorem dL_law_944 : decode cL_law 944 = .ok (.aload_n 0, 1) := by decide +kernel
theorem dL_law_945 : decode cL_law 945 = .ok (.iload_n 3, 1) := by decide +kernel
theorem dL_law_946 : decode cL_law 946 = .ok (.iconst 1, 1) := by decide +kernel
theorem dL_law_947 : decode cL_law 947 = .ok (.iadd, 1) := by decide +kernel
theorem dL_law_948 : decode cL_law 948 = .ok (.iaload, 1) := by decide +kernel
theorem dL_law_949 : decode cL_law 949 = .ok (.invokevirtual 139, 3) := by decide +kernel
theorem dL_law_952 : decode cL_law 952 = .ok (.if_icmp .eq 159, 3) := by decide +kernel
theorem dL_law_955 : decode cL_law 955 = .ok (.iconst 0, 1) := by decide +kernel
theorem dL_law_956 : decode cL_law 956 = .ok (.ireturn, 1) := by decide +kernel
theorem dL_law_957 : decode cL_law 957 = .ok (.aload_n 1, 1) := by decide +kernel
theorem dL_law_958 : decode cL_law 958 = .ok (.aload_n 0, 1) := by decide +kernel
theorem dL_law_959 : decode cL_law 959 = .ok (.iload_n 3, 1) := by decide +kernel
theorem dL_law_960 : decode cL_law 960 = .ok (.iconst 1, 1) := by decide +kernel
theorem dL_law_961 : decode cL_law 961 = .ok (.iadd, 1) := by decide +kernel
theorem dL_law_962 : decode cL_law 962 = .ok (.iaload, 1) := by decide +kernel
theorem dL_law_963 : decode cL_law 963 = .ok (.invokevirtual 140, 3) := by decide +kernel
theorem dL_law_966 : decode cL_law 966 = .ok (.aload_n 2, 1) := by decide +kernel
theorem dL_law_967 : decode cL_law 967 = .ok (.aload_n 0, 1) := by decide +kernel
theorem dL_law_968 : decode cL_law 968 = .ok (.iload_n 3, 1) := by decide +kernel
theorem dL_law_969 : decode cL_law 969 = .ok (.iconst 1, 1) := by decide +kernel
theorem dL_law_970 : decode cL_law 970 = .ok (.iadd, 1) := by decide +kernel
theorem dL_law_971 : decode cL_law 971 = .ok (.iaload, 1) := by decide +kernel
theorem dL_law_972 : decode cL_law 972 = .ok (.invokevirtual 143, 3) := by decide +kernel
theorem dL_law_975 : decode cL_law 975 = .ok (.if_icmp .eq 136, 3) := by decide +kernel
theorem dL_law_978 : decode cL_law 978 = .ok (.iconst 0, 1) := by decide +kernel
theorem dL_law_979 : decode cL_law 979 = .ok (.ireturn, 1) := by decide +kernel
theorem dL_law_980 : decode cL_law 980 = .ok (.aload_n 1, 1) := by decide +kernel
theorem dL_law_981 : decode cL_law 981 = .ok (.aload_n 0, 1) := by decide +kernel
theorem dL_law_982 : decode cL_law 982 = .ok (.iload_n 3, 1) := by decide +kernel
theorem dL_law_983 : decode cL_law 983 = .ok (.iconst 1, 1) := by decide +kernel
theorem dL_law_984 : decode cL_law 984 = .ok (.iadd, 1) := by decide +kernel
theorem dL_law_985 : decode cL_law 985 = .ok (.iaload, 1) := by decide +kernel
theorem dL_law_986 : decode cL_law 986 = .ok (.invokevirtual 144, 3) := by decide +kernel
theorem dL_law_989 : decode cL_law 989 = .ok (.aload_n 2, 1) := by decide +kernel
theorem dL_law_990 : decode cL_law 990 = .ok (.aload_n 0, 1) := by decide +kernel
theorem dL_law_991 : decode cL_law 991 = .ok (.iload_n 3, 1) := by decide +kernel
theorem dL_law_992 : decode cL_law 992 = .ok (.iconst 1, 1) := by decide +kernel
theorem dL_law_993 : decode cL_law 993 = .ok (.iadd, 1) := by decide +kernel
theorem dL_law_994 : decode cL_law 994 = .ok (.iaload, 1) := by decide +kernel
theorem dL_law_995 : decode cL_law 995 = .ok (.invokevirtual 147, 3) := by decide +kernel
theorem dL_law_998 : decode cL_law 998 = .ok (.if_icmp .eq 113, 3) := by decide +kernel
theorem dL_law_1001 : decode cL_law 1001 = .ok (.iconst 0, 1) := by decide +kernel
theorem dL_law_1002 : decode cL_law 1002 = .ok (.ireturn, 1) := by decide +kernel
theorem dL_law_1003 : decode cL_law 1003 = .ok (.aload_n 1, 1) := by decide +kernel
theorem dL_law_1004 : decode cL_law 1004 = .ok (.aload_n 0, 1) := by decide +kernel
theorem dL_law_1005 : decode cL_law 1005 = .ok (.iload_n 3, 1) := by decide +kernel
theorem dL_law_1006 : decode cL_law 1006 = .ok (.iconst 1, 1) := by decide +kernel
theorem dL_law_1007 : decode cL_law 1007 = .ok (.iadd, 1) := by decide +kernel
theorem dL_law_1008 : decode cL_law 1008 = .ok (.iaload, 1) := by decide +kernel
theorem dL_law_1009 : decode cL_law 1009 = .ok (.invokevirtual 148, 3) := by decide +kernel
theorem dL_law_1012 : decode cL_law 1012 = .ok (.aload_n 2, 1) := by decide +kernel
theorem dL_law_1013 : decode cL_law 1013 = .ok (.aload_n 0, 1) := by decide +kernel
theorem dL_law_1014 : decode cL_law 1014 = .ok (.iload_n 3, 1) := by decide +kernel
theorem dL_law_1015 : decode cL_law 1015 = .ok (.iconst 1, 1) := by decide +kernel
theorem dL_law_1016 : decode cL_law 1016 = .ok (.iadd, 1) := by decide +kernel
theorem dL_law_1017 : decode cL_law 1017 = .ok (.iaload, 1) := by decide +kernel
theorem dL_law_1018 : decode cL_law 1018 = .ok (.invokevirtual 151, 3) := by decide +kernel
theorem dL_law_1021 : decode cL_law 1021 = .ok (.if_icmp .eq 90, 3) := by decide +kernel
theorem dL_law_1024 : decode cL_law 1024 = .ok (.iconst 0, 1) := by decide +kernel
theorem dL_law_1025 : decode cL_law 1025 = .ok (.ireturn, 1) := by decide +kernel
theorem dL_law_1026 : decode cL_law 1026 = .ok (.aload_n 1, 1) := by decide +kernel
theorem dL_law_1027 : decode cL_law 1027 = .ok (.invokevirtual 152, 3) := by decide +kernel
theorem dL_law_1030 : decode cL_law 1030 = .ok (.aload_n 2, 1) := by decide +kernel
theorem dL_law_1031 : decode cL_law 1031 = .ok (.invokevirtual 155, 3) := by decide +kernel
theorem dL_law_1034 : decode cL_law 1034 = .ok (.if_icmp .eq 77, 3) := by decide +kernel
theorem dL_law_1037 : decode cL_law 1037 = .ok (.iconst 0, 1) := by decide +kernel
theorem dL_law_1038 : decode cL_law 1038 = .ok (.ireturn, 1) := by decide +kernel
theorem dL_law_1039 : decode cL_law 1039 = .ok (.aload_n 1, 1) := by decide +kernel
theorem dL_law_1040 : decode cL_law 1040 = .ok (.invokevirtual 156, 3) := by decide +kernel
theorem dL_law_1043 : decode cL_law 1043 = .ok (.aload_n 2, 1) := by decide +kernel
theorem dL_law_1044 : decode cL_law 1044 = .ok (.invokevirtual 159, 3) := by decide +kernel
theorem dL_law_1047 : decode cL_law 1047 = .ok (.if_icmp .eq 64, 3) := by decide +kernel
theorem dL_law_1050 : decode cL_law 1050 = .ok (.iconst 0, 1) := by decide +kernel
theorem dL_law_1051 : decode cL_law 1051 = .ok (.ireturn, 1) := by decide +kernel
theorem dL_law_1052 : decode cL_law 1052 = .ok (.aload_n 1, 1) := by decide +kernel
theorem dL_law_1053 : decode cL_law 1053 = .ok (.invokevirtual 160, 3) := by decide +kernel
theorem dL_law_1056 : decode cL_law 1056 = .ok (.aload_n 2, 1) := by decide +kernel
theorem dL_law_1057 : decode cL_law 1057 = .ok (.invokevirtual 163, 3) := by decide +kernel
theorem dL_law_1060 : decode cL_law 1060 = .ok (.if_icmp .eq 51, 3) := by decide +kernel
theorem dL_law_1063 : decode cL_law 1063 = .ok (.iconst 0, 1) := by decide +kernel
theorem dL_law_1064 : decode cL_law 1064 = .ok (.ireturn, 1) := by decide +kernel
theorem dL_law_1065 : decode cL_law 1065 = .ok (.aload_n 1, 1) := by decide +kernel
theorem dL_law_1066 : decode cL_law 1066 = .ok (.aload_n 0, 1) := by decide +kernel
theorem dL_law_1067 : decode cL_law 1067 = .ok (.iload_n 3, 1) := by decide +kernel
theorem dL_law_1068 : decode cL_law 1068 = .ok (.iconst 1, 1) := by decide +kernel
theorem dL_law_1069 : decode cL_law 1069 = .ok (.iadd, 1) := by decide +kernel
theorem dL_law_1070 : decode cL_law 1070 = .ok (.iaload, 1) := by decide +kernel
theorem dL_law_1071 : decode cL_law 1071 = .ok (.invokevirtual 164, 3) := by decide +kernel
theorem dL_law_1074 : decode cL_law 1074 = .ok (.aload_n 2, 1) := by decide +kernel
theorem dL_law_1075 : decode cL_law 1075 = .ok (.aload_n 0, 1) := by decide +kernel
theorem dL_law_1076 : decode cL_law 1076 = .ok (.iload_n 3, 1) := by decide +kernel
theorem dL_law_1077 : decode cL_law 1077 = .ok (.iconst 1, 1) := by decide +kernel
theorem dL_law_1078 : decode cL_law 1078 = .ok (.iadd, 1) := by decide +kernel
theorem dL_law_1079 : decode cL_law 1079 = .ok (.iaload, 1) := by decide +kernel
theorem dL_law_1080 : decode cL_law 1080 = .ok (.invokevirtual 167, 3) := by decide +kernel
theorem dL_law_1083 : decode cL_law 1083 = .ok (.if_icmp .eq 28, 3) := by decide +kernel
theorem dL_law_1086 : decode cL_law 1086 = .ok (.iconst 0, 1) := by decide +kernel
theorem dL_law_1087 : decode cL_law 1087 = .ok (.ireturn, 1) := by decide +kernel
theorem dL_law_1088 : decode cL_law 1088 = .ok (.aload_n 1, 1) := by decide +kernel
theorem dL_law_1089 : decode cL_law 1089 = .ok (.aload_n 0, 1) := by decide +kernel
theorem dL_law_1090 : decode cL_law 1090 = .ok (.iload_n 3, 1) := by decide +kernel
theorem dL_law_1091 : decode cL_law 1091 = .ok (.iconst 1, 1) := by decide +kernel
theorem dL_law_1092 : decode cL_law 1092 = .ok (.iadd, 1) := by decide +kernel
theorem dL_law_1093 : decode cL_law 1093 = .ok (.iaload, 1) := by decide +kernel
theorem dL_law_1094 : decode cL_law 1094 = .ok (.invokevirtual 168, 3) := by decide +kernel
theorem dL_law_1097 : decode cL_law 1097 = .ok (.aload_n 2, 1) := by decide +kernel
theorem dL_law_1098 : decode cL_law 1098 = .ok (.aload_n 0, 1) := by decide +kernel
theorem dL_law_1099 : decode cL_law 1099 = .ok (.iload_n 3, 1) := by decide +kernel
theorem dL_law_1100 : decode cL_law 1100 = .ok (.iconst 1, 1) := by decide +kernel
theorem dL_law_1101 : decode cL_law 1101 = .ok (.iadd, 1) := by decide +kernel
theorem dL_law_1102 : decode cL_law 1102 = .ok (.iaload, 1) := by decide +kernel
theorem dL_law_1103 : decode cL_law 1103 = .ok (.invokevirtual 171, 3) := by decide +kernel
theorem dL_law_1106 : decode cL_law 1106 = .ok (.if_icmp .eq 5, 3) := by decide +kernel
theorem dL_law_1109 : decode cL_law 1109 = .ok (.iconst 0, 1) := by decide +kernel
theorem dL_law_1110 : decode cL_law 1110 = .ok (.ireturn, 1) := by decide +kernel
theorem dL_law_1111 : decode cL_law 1111 = .ok (.iinc 3 3, 3) := by decide +kernel
theorem dL_law_1114 : decode cL_law 1114 = .ok (.goto (-1096), 3) := by decide +kernel
theorem dL_law_1117 : decode cL_law 1117 = .ok (.iconst 1, 1) := by decide +kernel
theorem dL_law_1118 : decode cL_law 1118 = .ok (.ireturn, 1) := by decide +kernel
end
section
/-! The world as a map from addresses to cells (M), over the kit's lists of cells. Every contract is said of any map M that holds what the method needs: so no frame is cut and no part is joined. -/
abbrev gG : Type := va_G × (Nat → ClassId)
abbrev HM : Type := Nat → Option va_E
def tyL (c : Nat → ClassId) : List (ClassId × FieldType) := [(c 0, .int), (c 1, .boolean), (c 2, .object RX0), (c 3, .object RX1), (c 4, .object RX2), (c 5, .object RX4)]
def mu (M : HM) (a : Nat) (e : va_E) : HM := fun q => if q = a then some e else M q
theorem mu_at (M : HM) (a : Nat) (e : va_E) : mu M a e a = some e := by simp [mu]
theorem mu_ne (M : HM) (e : va_E) {a q : Nat} (h : q ≠ a) : mu M a e q = M q := by simp [mu, h]
theorem mu_mu (M : HM) (a : Nat) (e e' : va_E) : mu (mu M a e) a e' = mu M a e' := by
  funext q
  by_cases h : q = a <;> simp [mu, h]
theorem mu_self {M : HM} {a : Nat} {e : va_E} (h : M a = some e) : mu M a e = M := by
  funext q
  by_cases hq : q = a
  · subst hq
    simp [mu, h]
  · simp [mu, hq]
def Lw (M : HM) (ws : va_W) : Prop := ∀ (a : Nat) (e : va_E), M a = some e ↔ ∃ k : Nat, ws[k]? = some (a, e)
def Wh (G : gG) (A : Nat → Prop) (M : HM) (H : Heap) : Prop := ∃ ws : va_W, va_P G.1 vwCl ws H ∧ va_D A ws ∧ Lw M ws
def Wd (G : gG) (A : Nat → Prop) (H0 : Heap) (M : HM) (H : Heap) (locs : List Loc) : Prop := Wh G A M H ∧ va_S A H0 H locs ∧ ∀ q, H0.size ≤ q → A q
theorem Lw.set {M : HM} {ws : va_W} {A : Nat → Prop} {a k : Nat} {e e' : va_E} (h : Lw M ws) (hD : va_D A ws) (hk : ws[k]? = some (a, e)) : Lw (mu M a e') (ws.set k (a, e')) := by
  have hl := (List.getElem?_eq_some_iff.mp hk).1
  intro b x
  by_cases hb : b = a
  · subst hb
    rw [mu_at]
    constructor
    · intro q
      cases q
      exact ⟨k, List.getElem?_set_self hl⟩
    · rintro ⟨j, hj⟩
      by_cases hjk : j = k
      · subst hjk
        rw [List.getElem?_set_self hl] at hj
        cases hj
        rfl
      · rw [List.getElem?_set_ne (Ne.symm hjk)] at hj
        exact absurd (hD.1 j k _ _ hj hk rfl) hjk
  · rw [mu_ne _ _ hb, h b x]
    constructor
    · rintro ⟨j, hj⟩
      refine ⟨j, ?_⟩
      have hjk : j ≠ k := by
        intro q
        subst q
        rw [hk] at hj
        cases hj
        exact hb rfl
      rw [List.getElem?_set_ne (Ne.symm hjk)]
      exact hj
    · rintro ⟨j, hj⟩
      refine ⟨j, ?_⟩
      have hjk : j ≠ k := by
        intro q
        subst q
        rw [List.getElem?_set_self hl] at hj
        cases hj
        exact hb rfl
      rw [List.getElem?_set_ne (Ne.symm hjk)] at hj
      exact hj
theorem Lw.push {M : HM} {ws : va_W} {A : Nat → Prop} {a : Nat} {e : va_E} (h : Lw M ws) (hD : va_D A (ws ++ [(a, e)])) : M a = none ∧ Lw (mu M a e) (ws ++ [(a, e)]) := by
  have hlast : (ws ++ [(a, e)])[ws.length]? = some (a, e) := by simp
  have hno : ∀ (j : Nat) (x : va_E), ws[j]? = some (a, x) → False := by
    intro j x hj
    have hl := (List.getElem?_eq_some_iff.mp hj).1
    have h1 : (ws ++ [(a, e)])[j]? = some (a, x) := by rw [List.getElem?_append_left hl]; exact hj
    have := hD.1 j ws.length _ _ h1 hlast rfl
    omega
  have hnone : M a = none := by
    cases hm : M a with
    | none => rfl
    | some x =>
      obtain ⟨j, hj⟩ := (h a x).mp hm
      exact (hno j x hj).elim
  refine ⟨hnone, fun b x => ?_⟩
  by_cases hb : b = a
  · subst hb
    rw [mu_at]
    constructor
    · intro q
      cases q
      exact ⟨ws.length, hlast⟩
    · rintro ⟨j, hj⟩
      have := hD.1 j ws.length _ _ hj hlast rfl
      subst this
      rw [hlast] at hj
      cases hj
      rfl
  · rw [mu_ne _ _ hb, h b x]
    constructor
    · rintro ⟨j, hj⟩
      have hl := (List.getElem?_eq_some_iff.mp hj).1
      exact ⟨j, by rw [List.getElem?_append_left hl]; exact hj⟩
    · rintro ⟨j, hj⟩
      by_cases hl : j < ws.length
      · rw [List.getElem?_append_left hl] at hj
        exact ⟨j, hj⟩
      · rw [List.getElem?_append_right (by omega)] at hj
        have hz : j - ws.length < 1 := (List.getElem?_eq_some_iff.mp hj).1
        rw [show j - ws.length = 0 by omega] at hj
        cases hj
        exact absurd rfl hb
/-- an array's contents count up to its length alone -/
theorem arrV_ext {cA : ClassId} {n : Nat} {f g : Nat → Value} (h : ∀ i, i < n → f i = g i) : arrV cA n f = arrV cA n g := by
  unfold arrV
  congr 1
  first
    | (apply Array.ext_getElem?; intro i; by_cases hi : i < n <;> simp [hi, h i]; done)
    | (congr 1; apply List.map_congr_left; intro i hi; exact h i (List.mem_range.mp hi))
    | (simp; intro i hi; exact h i hi)
/-- what holds of the tables at every state: the classes, the array classes, the words -/
def Kx (G : gG) (U : State) : Prop := va_K G.1 vwCl (tyL G.2) U ∧ (∀ w ∈ tbk, w.before #[] U = true) ∧ (va_AO RX0 U ∧ va_AO RX1 U ∧ va_AO RX2 U ∧ va_AO RX4 U) ∧ (Cond.arrayClass .int).before #[] U = true ∧ (Cond.arrayClass .boolean).before #[] U = true
theorem Kx.warm {G : gG} {s U : State} (hW : s.WarmedH U.vm) (h : Kx G s) : Kx G U := by
  obtain ⟨h1, h2, ⟨h3, h4, h5, h6⟩, h7, h8⟩ := h
  refine ⟨va_K.moved hW.alike h1, fun w hw => ?_, ⟨h3.moved hW.alike, h4.moved hW.alike, h5.moved hW.alike, h6.moved hW.alike⟩, word_at hW (Or.inr ⟨_, rfl⟩) h7, word_at hW (Or.inr ⟨_, rfl⟩) h8⟩
  obtain ⟨-, a1, a2⟩ := tb_in hw
  have h9 := Cond.onTables_warmH (T := U) (args' := #[]) hW a1 a2 (h2 w hw)
  rwa [State.setVm_self] at h9
theorem Kx.ts {G : gG} {s : State} (h : Kx G s) {args : Array Value} : ∀ w ∈ tbk, w.before args s = true := fun w hw => va_tabs (tb_in hw).2.1 rfl (h.2.1 w hw)
theorem Kx.same {G : gG} {s U : State} (hv : s.vm = U.vm) (h : Kx G s) : Kx G U := by
  obtain ⟨h1, h2, ⟨h3, h4, h5, h6⟩, h7, h8⟩ := h
  have hA : s.vm.Alike U.vm := hv ▸ Vm.Alike.refl s.vm
  have hc : ∀ ty : FieldType, (Cond.arrayClass ty).before #[] s = true → (Cond.arrayClass ty).before #[] U = true := fun ty h => by
    simp only [Cond.before, Cond.holds, Cond.value] at h ⊢
    rw [← hv]
    exact h
  exact ⟨va_K.moved hA h1, fun w hw => va_tabs (tb_in hw).2.1 hv (h2 w hw), ⟨h3.moved hA, h4.moved hA, h5.moved hA, h6.moved hA⟩, hc _ h7, hc _ h8⟩
/-- what stays through a method's body -/
def cx (p : Program) (s : State) (m : MethodId) (c : Code) (cc : ByteArray) (nL : Nat) (own : String) (G : gG) : Prop := p.tables.exec = Jvm.exec ∧ c.code = cc ∧ c.maxLocals = nL ∧ s.vm.findClass own = some m.cls ∧ Kx G s
def rd (d k n : Nat) : Room := { frames := d, cells := k, slots := n, locals := 27 * d }
theorem gV {own : String} {index maxL n : Nat} {y : MethodName} {cc : ByteArray} {ret : Option FieldType} (hl : Cond.methodLink own index y ∈ tbk) (mw : MWv y cc maxL ret n) : GoodIn tbk (wsV own index y.cls y [Cond.code y cc maxL ret]) := by
  obtain ⟨h1, h2, h3, h4, -⟩ := mw
  intro w hw
  simp only [wsV, List.cons_append, List.nil_append, List.mem_cons, List.not_mem_nil, or_false] at hw
  rcases hw with rfl | rfl | rfl | rfl | rfl
  · exact ⟨hl, Or.inl rfl⟩
  · exact ⟨h1, Or.inl rfl⟩
  · exact ⟨h2, Or.inl rfl⟩
  · exact ⟨h3, Or.inl rfl⟩
  · exact ⟨h4, Or.inl rfl⟩
theorem gC {maxL : Nat} {y : MethodName} {cc : ByteArray} {ret : Option FieldType} (h : Cond.code y cc maxL ret ∈ tbk) : GoodIn tbk [Cond.code y cc maxL ret] := by
  intro w hw
  rw [List.mem_singleton] at hw
  subst hw
  exact ⟨h, Or.inl rfl⟩
section RW
variable {p : Program} {l : Launch} {e : Env} {R : Room} {s : State} {m : MethodId} {args : Array Value} {below : List Frame} {meth : Method} {c : Code} {H : Heap} {locs : List Loc} {cells slots : Nat} {Q : State → Prop}
variable {cc : ByteArray} {pc nL : Nat} {ls : Array Slot} {rest : List Value} {G : gG} {A : Nat → Prop} {a : Nat} {M : HM} {H0 : Heap} {own : String}
theorem r_get (cX : cx p s m c cc nL own G) {C : String} {T : u_T} {N ci index : Nat} (hin : ∀ w ∈ u_ws C T N, w ∈ tbk) (hw : Wd G A H0 M H locs) {fs : List Value} (hM : M a = some (.inr (ci, fs))) (hc : vwCl[ci]? = some (C, T, N)) (k : Nat) (hk : k < N) (hlink : Cond.fieldLink own index (T k).1 (T k).2.1 (T k).2.2.1 ∈ tbk) {v : Value} (hv : fs[k]? = some v) (hdg : decode cc pc = .ok (.getfield index, 3))
    (kk : W p l e R s m args below meth c H locs cells slots Q (F0 m (pc + 3) ls (v :: rest))) : W p l e R s m args below meth c H locs cells slots Q (F0 m pc ls (.ref a :: rest)) := by
  obtain ⟨⟨ws, hP, hD, hL⟩, hS, hA⟩ := hw
  obtain ⟨hexec, hb, -, hown, hKx⟩ := cX
  have hK := hKx.1
  have hts : ∀ w ∈ tbk, w.before args s = true := hKx.ts
  obtain ⟨q0, hq⟩ := (hL a _).mp hM
  exact va_get hexec hb hts hin hown hK hP q0 hq hc k hk (hts _ hlink) (fun _ h => h) hv hdg kk
theorem r_put (cX : cx p s m c cc nL own G) {C : String} {T : u_T} {N ci index : Nat} (hin : ∀ w ∈ u_ws C T N, w ∈ tbk) (ty0 : Nat → FieldType) (hty : ∀ k, k < N → parseFieldDescriptor (T k).2.2.1 = some (ty0 k)) (hnm : ∀ a, a < N → ∀ b, b < N → a ≠ b → (T a).2.1 ≠ (T b).2.1) (hw : Wd G A H0 M H locs) {fs : List Value} (hM : M a = some (.inr (ci, fs))) (hc : vwCl[ci]? = some (C, T, N)) (k : Nat) (hk : k < N) (hlink : Cond.fieldLink own index (T k).1 (T k).2.1 (T k).2.2.1 ∈ tbk) (hfin : (T k).2.2.2 = false) {v : Value} (hn : narrow (ty0 k) v = v) (hfit : fits (ty0 k) v = true) {fs' : List Value} (hfs : fs.set k v = fs') (hl : k < fs.length) (hdg : decode cc pc = .ok (.putfield index, 3))
    (kk : ∀ (H1 : Heap) (locs1 : List Loc), Wd G A H0 (mu M a (.inr (ci, fs'))) H1 locs1 → W p l e R s m args below meth c H1 locs1 cells slots Q (F0 m (pc + 3) ls rest)) : W p l e R s m args below meth c H locs cells slots Q (F0 m pc ls (v :: .ref a :: rest)) := by
  obtain ⟨⟨ws, hP, hD, hL⟩, hS, hA⟩ := hw
  obtain ⟨hexec, hb, -, hown, hKx⟩ := cX
  have hK := hKx.1
  have hts : ∀ w ∈ tbk, w.before args s = true := hKx.ts
  obtain ⟨q0, hq⟩ := (hL a _).mp hM
  subst hfs
  exact va_put hexec hb hts hin ty0 hty hnm hown hK hP hD hS q0 hq hc k hk (hts _ hlink) (fun _ h => h) hfin (hty k hk) hn hfit hl hdg (fun H1 locs1 hP1 hD1 hS1 => kk H1 locs1 ⟨⟨_, hP1, hD1, hL.set hD hq⟩, hS1, hA⟩)
theorem r_putF (cX : cx p s m c cc nL own G) {C : String} {T : u_T} {N ci index : Nat} (hin : ∀ w ∈ u_ws C T N, w ∈ tbk) (ty0 : Nat → FieldType) (hty : ∀ k, k < N → parseFieldDescriptor (T k).2.2.1 = some (ty0 k)) (hnm : ∀ a, a < N → ∀ b, b < N → a ≠ b → (T a).2.1 ≠ (T b).2.1) (hw : Wd G A H0 M H locs) {fs : List Value} (hM : M a = some (.inr (ci, fs))) (hc : vwCl[ci]? = some (C, T, N)) (k : Nat) (hk : k < N) (hlink : Cond.fieldLink own index (T k).1 (T k).2.1 (T k).2.2.1 ∈ tbk) (hfin : (T k).2.2.2 = true) (hin2 : meth.name = "<init>") (hdecl : (T k).1 = own) {v : Value} (hn : narrow (ty0 k) v = v) (hfit : fits (ty0 k) v = true) {fs' : List Value} (hfs : fs.set k v = fs') (hl : k < fs.length) (hdg : decode cc pc = .ok (.putfield index, 3))
    (kk : ∀ (H1 : Heap) (locs1 : List Loc), Wd G A H0 (mu M a (.inr (ci, fs'))) H1 locs1 → W p l e R s m args below meth c H1 locs1 cells slots Q (F0 m (pc + 3) ls rest)) : W p l e R s m args below meth c H locs cells slots Q (F0 m pc ls (v :: .ref a :: rest)) := by
  obtain ⟨⟨ws, hP, hD, hL⟩, hS, hA⟩ := hw
  obtain ⟨hexec, hb, -, hown, hKx⟩ := cX
  have hK := hKx.1
  have hts : ∀ w ∈ tbk, w.before args s = true := hKx.ts
  obtain ⟨q0, hq⟩ := (hL a _).mp hM
  subst hfs
  exact va_putF hexec hb hts hin ty0 hty hnm hown hK hP hD hS q0 hq hc k hk (hts _ hlink) (fun _ h => h) hfin hin2 hdecl (hty k hk) hn hfit hl hdg (fun H1 locs1 hP1 hD1 hS1 => kk H1 locs1 ⟨⟨_, hP1, hD1, hL.set hD hq⟩, hS1, hA⟩)
/-- an int array, by a place that is a natural number -/
theorem r_iald (cX : cx p s m c cc nL own G) (hw : Wd G A H0 M H locs) {n : Nat} {f : Nat → Int32} (hM : M a = some (.inl (G.2 0, n, .inl f))) {i : Int32} (k : Nat) (hi : i = nI k) (hk : k < n) (hn : n < 2 ^ 31) {v : Int32} (hv : f k = v) (hdg : decode cc pc = .ok (.iaload, 1))
    (kk : W p l e R s m args below meth c H locs cells slots Q (F0 m (pc + 1) ls (.int v :: rest))) : W p l e R s m args below meth c H locs cells slots Q (F0 m pc ls (.int i :: .ref a :: rest)) := by
  obtain ⟨⟨ws, hP, hD, hL⟩, hS, hA⟩ := hw
  obtain ⟨hexec, hb, -, hown, hKx⟩ := cX
  have hK := hKx.1
  have hts : ∀ w ∈ tbk, w.before args s = true := hKx.ts
  obtain ⟨q0, hq⟩ := (hL a _).mp hM
  subst hi
  subst hv
  refine va_iald hexec hb hK hP q0 0 hq rfl (vp_in_nI hk hn) hdg ?_
  rw [nI_clamp (Nat.lt_trans hk hn)]
  exact kk
theorem r_zald (cX : cx p s m c cc nL own G) (hw : Wd G A H0 M H locs) {n : Nat} {f : Nat → Int32} (hM : M a = some (.inl (G.2 1, n, .inl f))) {i : Int32} (k : Nat) (hi : i = nI k) (hk : k < n) (hn : n < 2 ^ 31) {v : Int32} (hv : f k = v) (hdg : decode cc pc = .ok (.baload, 1))
    (kk : W p l e R s m args below meth c H locs cells slots Q (F0 m (pc + 1) ls (.int v :: rest))) : W p l e R s m args below meth c H locs cells slots Q (F0 m pc ls (.int i :: .ref a :: rest)) := by
  obtain ⟨⟨ws, hP, hD, hL⟩, hS, hA⟩ := hw
  obtain ⟨hexec, hb, -, hown, hKx⟩ := cX
  have hK := hKx.1
  have hts : ∀ w ∈ tbk, w.before args s = true := hKx.ts
  obtain ⟨q0, hq⟩ := (hL a _).mp hM
  subst hi
  subst hv
  refine va_zald hexec hb hK hP q0 1 hq rfl (vp_in_nI hk hn) hdg ?_
  rw [nI_clamp (Nat.lt_trans hk hn)]
  exact kk
theorem r_aald (cX : cx p s m c cc nL own G) (hw : Wd G A H0 M H locs) (t0 : Nat) {C : String} (ht : (tyL G.2)[t0]? = some (G.2 t0, .object C)) {n : Nat} {f : Nat → Option Nat} (hM : M a = some (.inl (G.2 t0, n, .inr (.inr (.inr (.inr f)))))) {i : Int32} (k : Nat) (hi : i = nI k) (hk : k < n) (hn : n < 2 ^ 31) {v : Nat} (hv : f k = some v) (hdg : decode cc pc = .ok (.aaload, 1))
    (kk : W p l e R s m args below meth c H locs cells slots Q (F0 m (pc + 1) ls (.ref v :: rest))) : W p l e R s m args below meth c H locs cells slots Q (F0 m pc ls (.int i :: .ref a :: rest)) := by
  obtain ⟨⟨ws, hP, hD, hL⟩, hS, hA⟩ := hw
  obtain ⟨hexec, hb, -, hown, hKx⟩ := cX
  have hK := hKx.1
  have hts : ∀ w ∈ tbk, w.before args s = true := hKx.ts
  obtain ⟨q0, hq⟩ := (hL a _).mp hM
  subst hi
  refine va_aldq hexec hb hK hP q0 t0 hq ht (vp_in_nI hk hn) hdg ?_
  rw [nI_clamp (Nat.lt_trans hk hn), hv]
  exact kk
theorem r_iast (cX : cx p s m c cc nL own G) (hw : Wd G A H0 M H locs) {n : Nat} {f : Nat → Int32} (hM : M a = some (.inl (G.2 0, n, .inl f))) {i x : Int32} (k : Nat) (hi : i = nI k) (hk : k < n) (hn : n < 2 ^ 31) (hdg : decode cc pc = .ok (.iastore, 1))
    (kk : ∀ (H1 : Heap) (locs1 : List Loc), Wd G A H0 (mu M a (.inl (G.2 0, n, .inl (upd f k x)))) H1 locs1 → W p l e R s m args below meth c H1 locs1 cells slots Q (F0 m (pc + 1) ls rest)) : W p l e R s m args below meth c H locs cells slots Q (F0 m pc ls (.int x :: .int i :: .ref a :: rest)) := by
  obtain ⟨⟨ws, hP, hD, hL⟩, hS, hA⟩ := hw
  obtain ⟨hexec, hb, -, hown, hKx⟩ := cX
  have hK := hKx.1
  have hts : ∀ w ∈ tbk, w.before args s = true := hKx.ts
  obtain ⟨q0, hq⟩ := (hL a _).mp hM
  subst hi
  refine va_iast hexec hb hK hP hD hS q0 0 hq rfl (vp_in_nI hk hn) hdg (fun H1 locs1 hP1 hD1 hS1 => ?_)
  rw [nI_clamp (Nat.lt_trans hk hn)] at hP1 hD1
  exact kk H1 locs1 ⟨⟨_, hP1, hD1, hL.set hD hq⟩, hS1, hA⟩
theorem r_zast (cX : cx p s m c cc nL own G) (hw : Wd G A H0 M H locs) {n : Nat} {f : Nat → Int32} (hM : M a = some (.inl (G.2 1, n, .inl f))) {i x : Int32} (k : Nat) (hi : i = nI k) (hk : k < n) (hn : n < 2 ^ 31) (hx : vp_nar .boolean x = x) (hdg : decode cc pc = .ok (.bastore, 1))
    (kk : ∀ (H1 : Heap) (locs1 : List Loc), Wd G A H0 (mu M a (.inl (G.2 1, n, .inl (upd f k x)))) H1 locs1 → W p l e R s m args below meth c H1 locs1 cells slots Q (F0 m (pc + 1) ls rest)) : W p l e R s m args below meth c H locs cells slots Q (F0 m pc ls (.int x :: .int i :: .ref a :: rest)) := by
  obtain ⟨⟨ws, hP, hD, hL⟩, hS, hA⟩ := hw
  obtain ⟨hexec, hb, -, hown, hKx⟩ := cX
  have hK := hKx.1
  have hts : ∀ w ∈ tbk, w.before args s = true := hKx.ts
  obtain ⟨q0, hq⟩ := (hL a _).mp hM
  subst hi
  refine va_zast hexec hb hK hP hD hS q0 1 hq rfl (vp_in_nI hk hn) hdg (fun H1 locs1 hP1 hD1 hS1 => ?_)
  rw [nI_clamp (Nat.lt_trans hk hn), hx] at hP1 hD1
  exact kk H1 locs1 ⟨⟨_, hP1, hD1, hL.set hD hq⟩, hS1, hA⟩
theorem r_aast (cX : cx p s m c cc nL own G) (hw : Wd G A H0 M H locs) (t0 ci : Nat) {r : vw_C} (ht : (tyL G.2)[t0]? = some (G.2 t0, .object r.1)) {n v : Nat} {vs : List Value} {f : Nat → Option Nat} (hM : M a = some (.inl (G.2 t0, n, .inr (.inr (.inr (.inr f)))))) (hv : M v = some (.inr (ci, vs))) (hc : vwCl[ci]? = some r) {i : Int32} (k : Nat) (hi : i = nI k) (hk : k < n) (hn : n < 2 ^ 31) (hdg : decode cc pc = .ok (.aastore, 1))
    (kk : ∀ (H1 : Heap) (locs1 : List Loc), Wd G A H0 (mu M a (.inl (G.2 t0, n, .inr (.inr (.inr (.inr (va_up f k (some v)))))))) H1 locs1 → W p l e R s m args below meth c H1 locs1 cells slots Q (F0 m (pc + 1) ls rest)) : W p l e R s m args below meth c H locs cells slots Q (F0 m pc ls (.ref v :: .int i :: .ref a :: rest)) := by
  obtain ⟨⟨ws, hP, hD, hL⟩, hS, hA⟩ := hw
  obtain ⟨hexec, hb, -, hown, hKx⟩ := cX
  have hK := hKx.1
  have hts : ∀ w ∈ tbk, w.before args s = true := hKx.ts
  obtain ⟨q0, hq⟩ := (hL a _).mp hM
  obtain ⟨q1, hq1⟩ := (hL v _).mp hv
  subst hi
  refine va_astq hexec hb hK hP hD hS q0 t0 q1 ci hq ht hq1 hc (vp_in_nI hk hn) hdg (fun H1 locs1 hP1 hD1 hS1 => ?_)
  rw [nI_clamp (Nat.lt_trans hk hn)] at hP1 hD1
  exact kk H1 locs1 ⟨⟨_, hP1, hD1, hL.set hD hq⟩, hS1, hA⟩
theorem r_new (cX : cx p s m c cc nL own G) {C : String} {T : u_T} {N ci index : Nat} (hin : ∀ w ∈ u_ws C T N, w ∈ tbk) (ty : Nat → FieldType) (hty : ∀ k, k < N → parseFieldDescriptor (T k).2.2.1 = some (ty k)) (hcl : Cond.classLink own index C ∈ tbk) (hinst : Cond.instantiable C N ∈ tbk) (hini : Cond.initialized C ∈ tbk)
    (hw : Wd G A H0 M H locs) (hc : vwCl[ci]? = some (C, T, N)) {fs : List Value} (hfs : ∀ j, j < N → defaultValue (ty j) = vp_V fs j) (hcells : cells + 1 ≤ R.cells) (hslots : slots + N ≤ R.slots) (hdg : decode cc pc = .ok (.new index, 3))
    (kk : ∀ (q : Nat) (H1 : Heap), M q = none → Wd G A H0 (mu M q (.inr (ci, fs))) H1 locs → W p l e R s m args below meth c H1 locs (cells + 1) (slots + N) Q (F0 m (pc + 3) ls (.ref q :: rest))) : W p l e R s m args below meth c H locs cells slots Q (F0 m pc ls rest) := by
  obtain ⟨⟨ws, hP, hD, hL⟩, hS, hA⟩ := hw
  obtain ⟨hexec, hb, -, hown, hKx⟩ := cX
  have hK := hKx.1
  have hts : ∀ w ∈ tbk, w.before args s = true := hKx.ts
  refine va_new (c0 := c) hexec hb hts hin ty hty hown (hts _ hcl) (hts _ hinst) (hts _ hini) hK hP hD hS hA hc hfs hcells hslots hdg (fun q H1 hP1 hD1 hS1 => ?_)
  obtain ⟨h1, h2⟩ := hL.push hD1
  exact kk q H1 h1 ⟨⟨_, hP1, hD1, h2⟩, hS1, hA⟩
theorem r_newa (cX : cx p s m c cc nL own G) {atype : ArrayType} (harr : (Cond.arrayClass (newarray.typeOf atype)).before #[] s = true) {ty : FieldType} (hty : newarray.typeOf atype = ty) (t0 : Nat) (ht : (tyL G.2)[t0]? = some (G.2 t0, ty)) (hno : ∀ C, ty ≠ .object C) (hd : defaultValue ty = .int 0) (hw : Wd G A H0 M H locs) {n : Int32} (N' : Nat) (hn : ¬ n < 0) (hN : n.toNatClampNeg = N') (hbytes : N' * componentBytes ty ≤ 536870912) (hcells : cells + 1 ≤ R.cells) (hslots : slots + N' ≤ R.slots) (hdg : decode cc pc = .ok (.newarray atype, 2))
    (kk : ∀ (q : Nat) (H1 : Heap), M q = none → Wd G A H0 (mu M q (.inl (G.2 t0, N', .inl (fun _ => 0)))) H1 locs → W p l e R s m args below meth c H1 locs (cells + 1) (slots + N') Q (F0 m (pc + 2) ls (.ref q :: rest))) : W p l e R s m args below meth c H locs cells slots Q (F0 m pc ls (.int n :: rest)) := by
  obtain ⟨⟨ws, hP, hD, hL⟩, hS, hA⟩ := hw
  obtain ⟨hexec, hb, -, hown, hKx⟩ := cX
  have hK := hKx.1
  have hts : ∀ w ∈ tbk, w.before args s = true := hKx.ts
  refine va_newa (a0 := (N', .inl (fun _ => 0))) hexec hb (show (Cond.arrayClass (newarray.typeOf atype)).before args s = true from harr) hty hK hP hD hS hA (fun cA => by rw [hd]; rfl) hn hN hbytes hcells hslots hdg (fun q cA H1 hK1 hP1 hD1 hS1 => ?_)
  have e1 := (hK1.2 (tyL G.2).length (cA, ty) (by simp)).2
  have e2 := (hK.2 t0 _ ht).2
  have hcA : cA = G.2 t0 := by
    cases ty with
    | object C => exact absurd rfl (hno C)
    | _ => exact Option.some.inj ((show s.vm.findClass _ = some cA from e1).symm.trans e2)
  subst hcA
  obtain ⟨h1, h2⟩ := hL.push hD1
  exact kk q H1 h1 ⟨⟨_, hP1, hD1, h2⟩, hS1, hA⟩
theorem r_newq (cX : cx p s m c cc nL own G) {C : String} {index : Nat} (hclink : Cond.classLink own index C ∈ tbk) (hover : va_AO C s) (t0 : Nat) (ht : (tyL G.2)[t0]? = some (G.2 t0, .object C)) (hw : Wd G A H0 M H locs) {n : Int32} (N' : Nat) (hn : ¬ n < 0) (hN : n.toNatClampNeg = N') (hbytes : N' * 4 ≤ 536870912) (hcells : cells + 1 ≤ R.cells) (hslots : slots + N' ≤ R.slots) (hdg : decode cc pc = .ok (.anewarray index, 3))
    (kk : ∀ (q : Nat) (H1 : Heap), M q = none → Wd G A H0 (mu M q (.inl (G.2 t0, N', .inr (.inr (.inr (.inr (fun _ => none))))))) H1 locs → W p l e R s m args below meth c H1 locs (cells + 1) (slots + N') Q (F0 m (pc + 3) ls (.ref q :: rest))) : W p l e R s m args below meth c H locs cells slots Q (F0 m pc ls (.int n :: rest)) := by
  obtain ⟨⟨ws, hP, hD, hL⟩, hS, hA⟩ := hw
  obtain ⟨hexec, hb, -, hown, hKx⟩ := cX
  have hK := hKx.1
  have hts : ∀ w ∈ tbk, w.before args s = true := hKx.ts
  refine va_newq hexec hb hown (hts _ hclink) hover hK hP hD hS hA hn hN hbytes hcells hslots hdg (fun q cA H1 hK1 hP1 hD1 hS1 => ?_)
  have e1 := (hK1.2 (tyL G.2).length (cA, .object C) (by simp)).2
  have e2 := (hK.2 t0 _ ht).2
  have hcA : cA = G.2 t0 := by
    obtain ⟨_, _, _, _, _, x1⟩ := e1
    obtain ⟨_, _, _, _, _, x2⟩ := e2
    exact Option.some.inj (x1.symm.trans x2)
  subst hcA
  obtain ⟨h1, h2⟩ := hL.push hD1
  exact kk q H1 h1 ⟨⟨_, hP1, hD1, h2⟩, hS1, hA⟩
end RW
/-! contracts -/
def dm (M : HM) (sz : Nat) : Nat → Prop := fun q => (∃ e, M q = some e) ∨ sz ≤ q
def Pk (G : gG) (av : List Value) (M : HM) (sz : Nat) : Array Value → State → Prop := va_Pc av (fun U => U.heap.size = sz ∧ Wh G (fun _ => True) M U.heap ∧ Kx G U)
def QI (G : gG) (M : HM) (sz : Nat) (post : Int32 → HM → Prop) : Array Value → State → Outcome → State → Prop := va_Qi post (fun M' t => Wh G (dm M sz) M' t.heap) (dm M sz)
def QV (G : gG) (M : HM) (sz : Nat) (post : HM → Prop) : Array Value → State → Outcome → State → Prop := va_Qv post (fun M' t => Wh G (dm M sz) M' t.heap) (dm M sz)
/-- a method that answers an int (or a boolean): from the map M it comes to a map M' with post -/
def Ci (l : Launch) (y : MethodName) (cc : ByteArray) (maxL : Nat) (ty : FieldType) (rm : Room) (G : gG) (av : List Value) (M : HM) (post : Int32 → HM → Prop) : Prop := ∀ sz, Met l y [Cond.code y cc maxL (some ty)] rm (Pk G av M sz) (QI G M sz post) rm.cells rm.slots (dm M sz)
def Cv (l : Launch) (y : MethodName) (cc : ByteArray) (maxL : Nat) (rm : Room) (G : gG) (av : List Value) (M : HM) (post : HM → Prop) : Prop := ∀ sz, Met l y [Cond.code y cc maxL none] rm (Pk G av M sz) (QV G M sz post) rm.cells rm.slots (dm M sz)
theorem Wh.weaken {G : gG} {A B : Nat → Prop} {M : HM} {H : Heap} (h : Wh G A M H) (hAB : ∀ q, A q → B q) : Wh G B M H := by
  obtain ⟨ws, hP, hD, hL⟩ := h
  exact ⟨ws, hP, hD.weaken (fun _ _ _ h => hAB _ h), hL⟩
theorem Wh.self {G : gG} {A : Nat → Prop} {M : HM} {H : Heap} {sz : Nat} (h : Wh G A M H) : Wh G (dm M sz) M H := by
  obtain ⟨ws, hP, hD, hL⟩ := h
  exact ⟨ws, hP, ⟨hD.1, fun k q hk => Or.inl ⟨q.2, (hL q.1 q.2).mpr ⟨k, hk⟩⟩⟩, hL⟩
theorem Wd.dm {G : gG} {A : Nat → Prop} {M : HM} {H H0 : Heap} {locs : List Loc} (h : Wd G A H0 M H locs) : ∀ q, dm M H.size q → A q := by
  obtain ⟨⟨ws, hP, hD, hL⟩, hS, hA⟩ := h
  intro q hq
  rcases hq with ⟨e, he⟩ | hq
  · obtain ⟨k, hk⟩ := (hL q e).mp he
    exact hD.2 k _ hk
  · exact hA q (Nat.le_trans hS.1 hq)
theorem Wd.lt {G : gG} {A : Nat → Prop} {M : HM} {H H0 : Heap} {locs : List Loc} (h : Wd G A H0 M H locs) {q : Nat} {e : va_E} (hq : M q = some e) : q < H.size := by
  obtain ⟨⟨ws, hP, hD, hL⟩, hS, hA⟩ := h
  obtain ⟨k, hk⟩ := (hL q e).mp hq
  exact (hP k _ hk).lt
/-- the world may be written by another map that says the same of every address -/
theorem Wd.to {G : gG} {A : Nat → Prop} {M M' : HM} {H H0 : Heap} {locs : List Loc} (h : Wd G A H0 M H locs) (e : M = M') : Wd G A H0 M' H locs := e ▸ h
section CT
variable {l : Launch} {y : MethodName} {rm : Room} {G : gG} {av : List Value} {M : HM} {cc : ByteArray} {maxL : Nat}
theorem Ci.of {post : Int32 → HM → Prop} {ty : FieldType} (hy : plainName y.cls = true) (hlen : (lg_sl av).length ≤ maxL)
    (body : ∀ (p : Program) (e : Env) (s : State) (m : MethodId) (args : Array Value) (below : List Frame) (meth : Method) (c : Code) (ls : Array Slot), cx p s m c cc maxL y.cls G → Wd G (dm M s.heap.size) s.heap M s.heap [] → meth.locks = false → meth.sig.returnType = some ty → lv_has ls maxL (lv_args 0 av) →
      W p l e rm s m args below meth c s.heap [] 0 0 (MQ below (QI G M s.heap.size post) args s rm.cells rm.slots (dm M s.heap.size)) (F0 m 0 ls [])) : Ci l y cc maxL ty rm G av M post := by
  intro sz
  refine Met.ofW (cc := cc) (maxL := maxL) (ret := some ty) hy rfl ?_
  intro p e s m args below meth c s₁ B hml hv
  obtain ⟨rfl, hsz, hP, hK⟩ := hv
  subst hsz
  have hl := lv_entry av (n := maxL) hlen
  rw [lg_entry_eq]
  exact body p e s m _ below meth c _ ⟨B.exec, B.bytes, hml, findClass_of_methodNamed B.named, hK⟩ ⟨hP.self, va_S.rf, fun q h => Or.inr h⟩ B.notSynchronized B.returns hl
theorem Cv.of {post : HM → Prop} (hy : plainName y.cls = true) (hlen : (lg_sl av).length ≤ maxL)
    (body : ∀ (p : Program) (e : Env) (s : State) (m : MethodId) (args : Array Value) (below : List Frame) (meth : Method) (c : Code) (ls : Array Slot), cx p s m c cc maxL y.cls G → Wd G (dm M s.heap.size) s.heap M s.heap [] → meth.locks = false → meth.sig.returnType = none → meth.name = y.name → lv_has ls maxL (lv_args 0 av) →
      W p l e rm s m args below meth c s.heap [] 0 0 (MQ below (QV G M s.heap.size post) args s rm.cells rm.slots (dm M s.heap.size)) (F0 m 0 ls [])) : Cv l y cc maxL rm G av M post := by
  intro sz
  refine Met.ofW (cc := cc) (maxL := maxL) (ret := none) hy rfl ?_
  intro p e s m args below meth c s₁ B hml hv
  obtain ⟨rfl, hsz, hP, hK⟩ := hv
  subst hsz
  have hl := lv_entry av (n := maxL) hlen
  rw [lg_entry_eq]
  exact body p e s m _ below meth c _ ⟨B.exec, B.bytes, hml, findClass_of_methodNamed B.named, hK⟩ ⟨hP.self, va_S.rf, fun q h => Or.inr h⟩ B.notSynchronized B.returns (name_of_methodNamed B.named B.method).1 hl
end CT
section RC
variable {p : Program} {l : Launch} {e : Env} {R : Room} {s : State} {m : MethodId} {args : Array Value} {below : List Frame} {meth : Method} {c : Code} {H : Heap} {locs : List Loc} {cells slots : Nat} {Q : State → Prop}
variable {cc : ByteArray} {pc nL : Nat} {ls : Array Slot} {rest st0 : List Value} {G : gG} {A : Nat → Prop} {a b : Nat} {M M0 : HM} {H0 : Heap} {own : String}
/-- ends of a method -/
theorem r_iret {post : Int32 → HM → Prop} {v : Int32} (cX : cx p s m c cc nL own G) (hr : meth.sig.returnType = some .int) (hlocks : meth.locks = false) (hw : Wd G (dm M0 s.heap.size) s.heap M H locs) (hp : post v M) (hdg : decode cc pc = .ok (.ireturn, 1)) :
    W p l e R s m args below meth c H locs cells slots (MQ below (QI G M0 s.heap.size post) args s cells slots (dm M0 s.heap.size)) (F0 m pc ls [.int v]) :=
  W.iret cX.1 cX.2.1 hr (fun t ht hW => ⟨⟨v, M, rfl, hp, by show Wh G _ M t.heap; rw [ht]; exact hw.1⟩, hw.2.1.F ht⟩) hw.2.1.2.2 hdg hlocks
theorem r_zret {post : Int32 → HM → Prop} {v : Int32} (cX : cx p s m c cc nL own G) (hr : meth.sig.returnType = some .boolean) (hlocks : meth.locks = false) (hn : narrow .boolean (.int v) = .int v) (hw : Wd G (dm M0 s.heap.size) s.heap M H locs) (hp : post v M) (hdg : decode cc pc = .ok (.ireturn, 1)) :
    W p l e R s m args below meth c H locs cells slots (MQ below (QI G M0 s.heap.size post) args s cells slots (dm M0 s.heap.size)) (F0 m pc ls [.int v]) :=
  W.zret cX.1 cX.2.1 hr hn (fun t ht hW => ⟨⟨v, M, rfl, hp, by show Wh G _ M t.heap; rw [ht]; exact hw.1⟩, hw.2.1.F ht⟩) hw.2.1.2.2 hdg hlocks
theorem r_vret {post : HM → Prop} (cX : cx p s m c cc nL own G) (hr : meth.sig.returnType = none) (hlocks : meth.locks = false) (hw : Wd G (dm M0 s.heap.size) s.heap M H locs) (hp : post M) (hdg : decode cc pc = .ok (.return_, 1)) :
    W p l e R s m args below meth c H locs cells slots (MQ below (QV G M0 s.heap.size post) args s cells slots (dm M0 s.heap.size)) (F0 m pc ls []) :=
  W.vret cX.1 cX.2.1 hr (fun t ht hW => ⟨⟨M, rfl, hp, by show Wh G _ M t.heap; rw [ht]; exact hw.1⟩, hw.2.1.F ht⟩) hw.2.1.2.2 hdg hlocks
theorem Pk_blind (av : List Value) (sz : Nat) : FrameBlind (Pk G av M sz) := fun a U g mk q => ⟨q.1, q.2.1, q.2.2.1, Kx.same (s := U) (U := U.calling g mk a) rfl q.2.2.2⟩
theorem Pk_at {av : List Value} (hK : Kx G s) (hw : Wd G A H0 M H locs) : ∀ U : State, U.heap = H → s.WarmedH U.vm → Pk G av M H.size av.toArray U := fun U hU hW => ⟨rfl, by rw [hU], by rw [hU]; exact hw.1.weaken (fun _ _ => trivial), hK.warm hW⟩
theorem Wd.recv {C : String} {T : u_T} {N ci : Nat} {fs : List Value} (hK : Kx G s) (hw : Wd G A H0 M H locs) (hM : M b = some (.inr (ci, fs))) (hc : vwCl[ci]? = some (C, T, N)) : ∃ cellB : Cell, H[b]? = some cellB ∧ cellB.vm.isStatics = false ∧ s.vm.findClass C = some cellB.cls := by
  obtain ⟨⟨ws, hP, hD, hL⟩, hS, hA⟩ := hw
  obtain ⟨q0, hq⟩ := (hL b _).mp hM
  exact va_recv (q := (C, T, N)) hK.1 hP hc hq
variable {y : MethodName} {bytes : ByteArray} {maxL n index : Nat} {ty : FieldType} {rm : Room} {C host : String} {As : List Value}
theorem r_backI {post : Int32 → HM → Prop} {g' : Array Value} (hw : Wd G A H0 M H locs) (hr : va_Run p l e R s m args below meth c H locs cells slots rm.cells rm.slots (F0 m pc ls st0) rest (QI G M H.size post g') (dm M H.size))
    (kk : ∀ (r : Int32) (M' : HM) (H1 : Heap) (locs1 : List Loc), post r M' → Wd G A H0 M' H1 locs1 → W p l e R s m args below meth c H1 locs1 (cells + rm.cells) (slots + rm.slots) Q (F0 m (pc + 3) ls (.int r :: rest))) : W p l e R s m args below meth c H locs cells slots Q (F0 m pc ls st0) :=
  va_calli hr hw.2.1 (fun q _ h => hw.dm q h) hw.dm (fun r M' t H1 locs1 ht hvm hp hB hz hk hS => kk r M' H1 locs1 hp ⟨by rw [← ht]; exact hB.weaken hw.dm, hS, hw.2.2⟩)
theorem r_backV {post : HM → Prop} {g' : Array Value} (hw : Wd G A H0 M H locs) (hr : va_Run p l e R s m args below meth c H locs cells slots rm.cells rm.slots (F0 m pc ls st0) rest (QV G M H.size post g') (dm M H.size))
    (kk : ∀ (M' : HM) (H1 : Heap) (locs1 : List Loc), post M' → Wd G A H0 M' H1 locs1 → W p l e R s m args below meth c H1 locs1 (cells + rm.cells) (slots + rm.slots) Q (F0 m (pc + 3) ls rest)) : W p l e R s m args below meth c H locs cells slots Q (F0 m pc ls st0) :=
  va_callv hr hw.2.1 (fun q _ h => hw.dm q h) hw.dm (fun M' t H1 locs1 ht hvm hp hB hz hk hS => kk M' H1 locs1 hp ⟨by rw [← ht]; exact hB.weaken hw.dm, hS, hw.2.2⟩)
/-- a virtual call that answers an int -/
theorem r_Vi {post : Int32 → HM → Prop} {ci N : Nat} {T : u_T} {fs : List Value} (cX : cx p s m c cc nL own G) (hw : Wd G A H0 M H locs) (hM : M b = some (.inr (ci, fs))) (hc : vwCl[ci]? = some (y.cls, T, N)) (As : List Value) (hC : Ci l y bytes maxL ty rm G (.ref b :: As) M post) (hl : Cond.methodLink own index y ∈ tbk) (mw : MWv y bytes maxL (some ty) n) (hR : rm.frames + 1 ≤ R.frames ∧ 8 + (maxL + 11) + rm.locals ≤ R.locals) (hst : st0 = As.reverse ++ .ref b :: rest) (hn : As.length = n) (hsz : ls.size = nL) (hrm : (rest.map fun v => v.category).sum ≤ 8) (hdg : decode cc pc = .ok (.invokevirtual index, 3)) (hf : cells + rm.cells ≤ R.cells ∧ slots + rm.slots ≤ R.slots)
    (kk : ∀ (r : Int32) (M' : HM) (H1 : Heap) (locs1 : List Loc), post r M' → Wd G A H0 M' H1 locs1 → W p l e R s m args below meth c H1 locs1 (cells + rm.cells) (slots + rm.slots) Q (F0 m (pc + 3) ls (.int r :: rest))) : W p l e R s m args below meth c H locs cells slots Q (F0 m pc ls st0) :=
  r_backI hw (va_runV (As := As) (rest := rest) (b := b) ⟨cX.1, cX.2.1, cX.2.2.1, cX.2.2.2.1, cX.2.2.2.2.ts⟩ (hC H.size) (cwV n cX.2.2.2.2.ts (gV hl mw) rfl rfl rfl ⟨rfl, mw.2.2.2.2⟩ hR) ⟨Pk_blind _ _, hw.recv cX.2.2.2.2 hM hc, Pk_at cX.2.2.2.2 hw⟩ rfl hn hsz hst (lv_room hrm) hdg hf) kk
theorem r_Vv {post : HM → Prop} {ci N : Nat} {T : u_T} {fs : List Value} (cX : cx p s m c cc nL own G) (hw : Wd G A H0 M H locs) (hM : M b = some (.inr (ci, fs))) (hc : vwCl[ci]? = some (y.cls, T, N)) (As : List Value) (hC : Cv l y bytes maxL rm G (.ref b :: As) M post) (hl : Cond.methodLink own index y ∈ tbk) (mw : MWv y bytes maxL none n) (hR : rm.frames + 1 ≤ R.frames ∧ 8 + (maxL + 11) + rm.locals ≤ R.locals) (hst : st0 = As.reverse ++ .ref b :: rest) (hn : As.length = n) (hsz : ls.size = nL) (hrm : (rest.map fun v => v.category).sum ≤ 8) (hdg : decode cc pc = .ok (.invokevirtual index, 3)) (hf : cells + rm.cells ≤ R.cells ∧ slots + rm.slots ≤ R.slots)
    (kk : ∀ (M' : HM) (H1 : Heap) (locs1 : List Loc), post M' → Wd G A H0 M' H1 locs1 → W p l e R s m args below meth c H1 locs1 (cells + rm.cells) (slots + rm.slots) Q (F0 m (pc + 3) ls rest)) : W p l e R s m args below meth c H locs cells slots Q (F0 m pc ls st0) :=
  r_backV hw (va_runV (As := As) (rest := rest) (b := b) ⟨cX.1, cX.2.1, cX.2.2.1, cX.2.2.2.1, cX.2.2.2.2.ts⟩ (hC H.size) (cwV n cX.2.2.2.2.ts (gV hl mw) rfl rfl rfl ⟨rfl, mw.2.2.2.2⟩ hR) ⟨Pk_blind _ _, hw.recv cX.2.2.2.2 hM hc, Pk_at cX.2.2.2.2 hw⟩ rfl hn hsz hst (lv_room hrm) hdg hf) kk
/-- a static call that answers an int -/
theorem r_Si {post : Int32 → HM → Prop} (cX : cx p s m c cc nL own G) (hw : Wd G A H0 M H locs) (As : List Value) (hC : Ci l y bytes maxL ty rm G As M post) (hl : Cond.methodLink own index y ∈ tbk) (mw : MWs y bytes maxL (some ty) n) (hR : rm.frames + 1 ≤ R.frames ∧ 8 + (maxL + 11) + rm.locals ≤ R.locals) (hst : st0 = As.reverse ++ rest) (hn : As.length = n) (hsz : ls.size = nL) (hrm : (rest.map fun v => v.category).sum ≤ 8) (hdg : decode cc pc = .ok (.invokestatic index, 3)) (hf : cells + rm.cells ≤ R.cells ∧ slots + rm.slots ≤ R.slots)
    (kk : ∀ (r : Int32) (M' : HM) (H1 : Heap) (locs1 : List Loc), post r M' → Wd G A H0 M' H1 locs1 → W p l e R s m args below meth c H1 locs1 (cells + rm.cells) (slots + rm.slots) Q (F0 m (pc + 3) ls (.int r :: rest))) : W p l e R s m args below meth c H locs cells slots Q (F0 m pc ls st0) :=
  r_backI hw (va_runS (As := As) (rest := rest) ⟨cX.1, cX.2.1, cX.2.2.1, cX.2.2.2.1, cX.2.2.2.2.ts⟩ (hC H.size) ⟨callB_of n cX.2.2.2.2.ts (gC mw.2.2.1) rfl rfl rfl (cX.2.2.2.2.ts _ mw.2.1) (cX.2.2.2.2.ts _ hl) mw.2.2.2 hR, cX.2.2.2.2.ts _ mw.1⟩ ⟨Pk_blind _ _, Pk_at cX.2.2.2.2 hw⟩ rfl hn hsz hst (lv_room hrm) hdg hf) kk
theorem r_SNi {post : Int32 → HM → Prop} (cX : cx p s m c cc nL own G) (hw : Wd G A H0 M H locs) (As : List Value) (hC : Ci l y bytes maxL ty rm G As M post) (hl : Cond.methodLinkNest own index y host ∈ tbk) (mw : MWs y bytes maxL (some ty) n) (hR : rm.frames + 1 ≤ R.frames ∧ 8 + (maxL + 11) + rm.locals ≤ R.locals) (hst : st0 = As.reverse ++ rest) (hn : As.length = n) (hsz : ls.size = nL) (hrm : (rest.map fun v => v.category).sum ≤ 8) (hdg : decode cc pc = .ok (.invokestatic index, 3)) (hf : cells + rm.cells ≤ R.cells ∧ slots + rm.slots ≤ R.slots)
    (kk : ∀ (r : Int32) (M' : HM) (H1 : Heap) (locs1 : List Loc), post r M' → Wd G A H0 M' H1 locs1 → W p l e R s m args below meth c H1 locs1 (cells + rm.cells) (slots + rm.slots) Q (F0 m (pc + 3) ls (.int r :: rest))) : W p l e R s m args below meth c H locs cells slots Q (F0 m pc ls st0) :=
  r_backI hw (va_runSN (As := As) (rest := rest) ⟨cX.1, cX.2.1, cX.2.2.1, cX.2.2.2.1, cX.2.2.2.2.ts⟩ (hC H.size) ⟨va_cnB n cX.2.2.2.2.ts (gC mw.2.2.1) rfl rfl rfl (cX.2.2.2.2.2.1 _ hl) (cX.2.2.2.2.ts _ mw.2.1) mw.2.2.2 hR, cX.2.2.2.2.ts _ mw.1, trivial⟩ ⟨Pk_blind _ _, Pk_at cX.2.2.2.2 hw⟩ rfl hn hsz hst (lv_room hrm) hdg hf) kk
/-- a constructor -/
theorem r_Iv {post : HM → Prop} (cX : cx p s m c cc nL own G) (hw : Wd G A H0 M H locs) (As : List Value) (hC : Cv l y bytes maxL rm G (.ref b :: As) M post) (hl : Cond.methodLink own index y ∈ tbk) (mw : MWi y bytes maxL n) (hR : rm.frames + 1 ≤ R.frames ∧ 8 + (maxL + 11) + rm.locals ≤ R.locals) (hst : st0 = As.reverse ++ .ref b :: rest) (hn : As.length = n) (hsz : ls.size = nL) (hrm : (rest.map fun v => v.category).sum ≤ 8) (hdg : decode cc pc = .ok (.invokespecial index, 3)) (hf : cells + rm.cells ≤ R.cells ∧ slots + rm.slots ≤ R.slots)
    (kk : ∀ (M' : HM) (H1 : Heap) (locs1 : List Loc), post M' → Wd G A H0 M' H1 locs1 → W p l e R s m args below meth c H1 locs1 (cells + rm.cells) (slots + rm.slots) Q (F0 m (pc + 3) ls rest)) : W p l e R s m args below meth c H locs cells slots Q (F0 m pc ls st0) :=
  r_backV hw (va_runI (As := As) (rest := rest) (b := b) ⟨cX.1, cX.2.1, cX.2.2.1, cX.2.2.2.1, cX.2.2.2.2.ts⟩ (hC H.size) ⟨callB_of n cX.2.2.2.2.ts (gC mw.2.2.1) rfl rfl rfl (cX.2.2.2.2.ts _ mw.2.1) (cX.2.2.2.2.ts _ hl) mw.2.2.2.2 hR, mw.2.2.2.1, cX.2.2.2.2.ts _ mw.1⟩ ⟨Pk_blind _ _, Pk_at cX.2.2.2.2 hw⟩ rfl hn hsz hst (lv_room hrm) hdg hf) kk
theorem r_INv {post : HM → Prop} (cX : cx p s m c cc nL own G) (hw : Wd G A H0 M H locs) (As : List Value) (hC : Cv l y bytes maxL rm G (.ref b :: As) M post) (hl : Cond.methodLinkNest own index y host ∈ tbk) (mw : MWi y bytes maxL n) (hR : rm.frames + 1 ≤ R.frames ∧ 8 + (maxL + 11) + rm.locals ≤ R.locals) (hst : st0 = As.reverse ++ .ref b :: rest) (hn : As.length = n) (hsz : ls.size = nL) (hrm : (rest.map fun v => v.category).sum ≤ 8) (hdg : decode cc pc = .ok (.invokespecial index, 3)) (hf : cells + rm.cells ≤ R.cells ∧ slots + rm.slots ≤ R.slots)
    (kk : ∀ (M' : HM) (H1 : Heap) (locs1 : List Loc), post M' → Wd G A H0 M' H1 locs1 → W p l e R s m args below meth c H1 locs1 (cells + rm.cells) (slots + rm.slots) Q (F0 m (pc + 3) ls rest)) : W p l e R s m args below meth c H locs cells slots Q (F0 m pc ls st0) :=
  r_backV hw (va_runIN (As := As) (rest := rest) (b := b) ⟨cX.1, cX.2.1, cX.2.2.1, cX.2.2.2.1, cX.2.2.2.2.ts⟩ (hC H.size) ⟨va_cnB n cX.2.2.2.2.ts (gC mw.2.2.1) rfl rfl rfl (cX.2.2.2.2.2.1 _ hl) (cX.2.2.2.2.ts _ mw.2.1) mw.2.2.2.2 hR, mw.2.2.2.1, cX.2.2.2.2.ts _ mw.1⟩ ⟨Pk_blind _ _, Pk_at cX.2.2.2.2 hw⟩ rfl hn hsz hst (lv_room hrm) hdg hf) kk
end RC
end
section
/-! A state of the switch is a function f of 153 cells, in the reference's order. A SwitchState object with its 31 other cells, at the addresses L 0 .. L 31, holds f: L 0 the object, L 1, L 2, L 3 its rows, L 4.. the paths, L 8.. the entries, L 16.. the flows. Its 'turn' is the remainder of cell 8. -/
def jr (x y : Int32) : Int32 := x - x / y * y
def tnOf (f : Nat → Int32) : Int32 := jr (f 8) (f 1)
def stFs (L : Nat → Nat) (f : Nat → Int32) : List Value := [.int (f 1), .int (f 2), .int (f 0), .int (f 5), .int (f 4), .int (f 3), .int (f 6), .int (f 7), .int (tnOf f), .ref (L 1), .ref (L 2), .ref (L 3)]
def paFs (f : Nat → Int32) (i : Nat) : List Value := [.int (f (9 + i)), .int (f (13 + i)), .int (f (17 + i)), .int (f (21 + i)), .int (f (25 + i)), .int (f (29 + i)), .int (f (33 + i)), .int (f (37 + i))]
def enFs (f : Nat → Int32) (i : Nat) : List Value := [.int (f (41 + i)), .int (f (49 + i)), .int (f (57 + i)), .int (f (65 + i))]
def flFs (f : Nat → Int32) (i : Nat) : List Value := [.int (f (73 + i)), .int (f (89 + i)), .int (f (121 + i)), .int (f (105 + i)), .int (f (137 + i))]
def Inj (L : Nat → Nat) (n : Nat) : Prop := ∀ i j, i < n → j < n → L i = L j → i = j
def aQ (cA : ClassId) (n : Nat) (g : Nat → Option Nat) : va_E := .inl (cA, n, .inr (.inr (.inr (.inr g))))
def aI (cA : ClassId) (n : Nat) (g : Nat → Int32) : va_E := .inl (cA, n, .inl g)
def IsSt (G : gG) (M : HM) (L : Nat → Nat) (f : Nat → Int32) : Prop :=
  M (L 0) = some (.inr (4, stFs L f)) ∧
  (∃ g, M (L 1) = some (.inl (G.2 4, 4, .inr (.inr (.inr (.inr g))))) ∧ ∀ i, i < 4 → g i = some (L (4 + i))) ∧
  (∃ g, M (L 2) = some (.inl (G.2 2, 8, .inr (.inr (.inr (.inr g))))) ∧ ∀ i, i < 8 → g i = some (L (8 + i))) ∧
  (∃ g, M (L 3) = some (.inl (G.2 3, 16, .inr (.inr (.inr (.inr g))))) ∧ ∀ i, i < 16 → g i = some (L (16 + i))) ∧
  (∀ i, i < 4 → M (L (4 + i)) = some (.inr (2, paFs f i))) ∧
  (∀ i, i < 8 → M (L (8 + i)) = some (.inr (0, enFs f i))) ∧
  (∀ i, i < 16 → M (L (16 + i)) = some (.inr (1, flFs f i))) ∧
  Inj L 32 ∧ ∀ i, i < 8 → f (41 + i) = 0 ∨ f (41 + i) = 1
/-- nothing but this state's cells has changed since M0 -/
def Off (M0 M : HM) (L : Nat → Nat) : Prop := ∀ q, (∀ i, i < 32 → q ≠ L i) → M q = M0 q
def St (G : gG) (M0 M : HM) (L : Nat → Nat) (f : Nat → Int32) : Prop := IsSt G M L f ∧ Off M0 M L
theorem Off.rf (M : HM) (L : Nat → Nat) : Off M M L := fun _ _ => rfl
theorem Off.trans {M0 M1 M2 : HM} {L : Nat → Nat} (h1 : Off M0 M1 L) (h2 : Off M1 M2 L) : Off M0 M2 L := fun q h => (h2 q h).trans (h1 q h)
theorem Off.mu {M0 M : HM} {L : Nat → Nat} (h : Off M0 M L) (i : Nat) (hi : i < 32) (e : va_E) : Off M0 (mu M (L i) e) L := fun q hq => (mu_ne _ _ (hq i hi)).trans (h q hq)
theorem IsSt.st {G : gG} {M : HM} {L : Nat → Nat} {f : Nat → Int32} (h : IsSt G M L f) : St G M M L f := ⟨h, Off.rf M L⟩
theorem St.trans {G : gG} {M0 M1 M2 : HM} {L : Nat → Nat} {f g : Nat → Int32} (h1 : St G M0 M1 L f) (h2 : St G M1 M2 L g) : St G M0 M2 L g := ⟨h2.1, h1.2.trans h2.2⟩
/-- a cell that isn't the one written stays -/
theorem mu_L {M : HM} {L : Nat → Nat} {n i j : Nat} (hL : Inj L n) (hi : i < n) (hj : j < n) (hij : i ≠ j) (e : va_E) : mu M (L j) e (L i) = M (L i) := mu_ne _ _ (fun q => hij (hL i j hi hj q))
theorem IsSt.ext {G : gG} {M : HM} {L : Nat → Nat} {f g : Nat → Int32} (h : IsSt G M L f) (e : ∀ k, k < 153 → f k = g k) : IsSt G M L g := by
  obtain ⟨h0, h1, h2, h3, h4, h5, h6, hL, hv⟩ := h
  refine ⟨?_, h1, h2, h3, fun i hi => ?_, fun i hi => ?_, fun i hi => ?_, hL, fun i hi => ?_⟩
  · rw [h0]
    simp only [stFs, tnOf, e 0 (by omega), e 1 (by omega), e 2 (by omega), e 3 (by omega), e 4 (by omega), e 5 (by omega), e 6 (by omega), e 7 (by omega), e 8 (by omega)]
  · rw [h4 i hi]
    simp only [paFs, e (9 + i) (by omega), e (13 + i) (by omega), e (17 + i) (by omega), e (21 + i) (by omega), e (25 + i) (by omega), e (29 + i) (by omega), e (33 + i) (by omega), e (37 + i) (by omega)]
  · rw [h5 i hi]
    simp only [enFs, e (41 + i) (by omega), e (49 + i) (by omega), e (57 + i) (by omega), e (65 + i) (by omega)]
  · rw [h6 i hi]
    simp only [flFs, e (73 + i) (by omega), e (89 + i) (by omega), e (121 + i) (by omega), e (105 + i) (by omega), e (137 + i) (by omega)]
  · rw [← e (41 + i) (by omega)]
    exact hv i hi
theorem St.ext {G : gG} {M0 M : HM} {L : Nat → Nat} {f g : Nat → Int32} (h : St G M0 M L f) (e : ∀ k, k < 153 → f k = g k) : St G M0 M L g := ⟨h.1.ext e, h.2⟩
/-- another map that holds the same at this state's cells -/
theorem IsSt.kept {G : gG} {M M' : HM} {L : Nat → Nat} {f : Nat → Int32} (h : IsSt G M L f) (e : ∀ i, i < 32 → M' (L i) = M (L i)) : IsSt G M' L f := by
  obtain ⟨h0, h1, h2, h3, h4, h5, h6, hL, hv⟩ := h
  refine ⟨(e 0 (by omega)).trans h0, ?_, ?_, ?_, fun i hi => (e _ (by omega)).trans (h4 i hi), fun i hi => (e _ (by omega)).trans (h5 i hi), fun i hi => (e _ (by omega)).trans (h6 i hi), hL, hv⟩
  · obtain ⟨g, a, b⟩ := h1
    exact ⟨g, (e 1 (by omega)).trans a, b⟩
  · obtain ⟨g, a, b⟩ := h2
    exact ⟨g, (e 2 (by omega)).trans a, b⟩
  · obtain ⟨g, a, b⟩ := h3
    exact ⟨g, (e 3 (by omega)).trans a, b⟩
/-- the object's own fields are written -/
theorem St.sc {G : gG} {M0 M : HM} {L : Nat → Nat} {f f' : Nat → Int32} (h : St G M0 M L f) (e : ∀ k, 9 ≤ k → k < 153 → f' k = f k) : St G M0 (mu M (L 0) (.inr (4, stFs L f'))) L f' := by
  obtain ⟨⟨h0, h1, h2, h3, h4, h5, h6, hL, hv⟩, hO⟩ := h
  refine ⟨⟨mu_at _ _ _, ?_, ?_, ?_, fun i hi => ?_, fun i hi => ?_, fun i hi => ?_, hL, fun i hi => ?_⟩, hO.mu 0 (by omega) _⟩
  · obtain ⟨g, a, b⟩ := h1
    exact ⟨g, (mu_L hL (by omega) (by omega) (by omega) _).trans a, b⟩
  · obtain ⟨g, a, b⟩ := h2
    exact ⟨g, (mu_L hL (by omega) (by omega) (by omega) _).trans a, b⟩
  · obtain ⟨g, a, b⟩ := h3
    exact ⟨g, (mu_L hL (by omega) (by omega) (by omega) _).trans a, b⟩
  · rw [mu_L hL (by omega) (by omega) (by omega), h4 i hi]
    simp only [paFs, e (9 + i) (by omega) (by omega), e (13 + i) (by omega) (by omega), e (17 + i) (by omega) (by omega), e (21 + i) (by omega) (by omega), e (25 + i) (by omega) (by omega), e (29 + i) (by omega) (by omega), e (33 + i) (by omega) (by omega), e (37 + i) (by omega) (by omega)]
  · rw [mu_L hL (by omega) (by omega) (by omega), h5 i hi]
    simp only [enFs, e (41 + i) (by omega) (by omega), e (49 + i) (by omega) (by omega), e (57 + i) (by omega) (by omega), e (65 + i) (by omega) (by omega)]
  · rw [mu_L hL (by omega) (by omega) (by omega), h6 i hi]
    simp only [flFs, e (73 + i) (by omega) (by omega), e (89 + i) (by omega) (by omega), e (121 + i) (by omega) (by omega), e (105 + i) (by omega) (by omega), e (137 + i) (by omega) (by omega)]
  · rw [e (41 + i) (by omega) (by omega)]
    exact hv i hi
/-- cells of a path, an entry, a flow -/
def isPa (j k : Nat) : Prop := k = 9 + j ∨ k = 13 + j ∨ k = 17 + j ∨ k = 21 + j ∨ k = 25 + j ∨ k = 29 + j ∨ k = 33 + j ∨ k = 37 + j
def isEn (j k : Nat) : Prop := k = 41 + j ∨ k = 49 + j ∨ k = 57 + j ∨ k = 65 + j
def isFl (j k : Nat) : Prop := k = 73 + j ∨ k = 89 + j ∨ k = 121 + j ∨ k = 105 + j ∨ k = 137 + j
theorem stFs_ext {L : Nat → Nat} {f f' : Nat → Int32} (e : ∀ k, k < 9 → f' k = f k) : stFs L f' = stFs L f := by
  simp only [stFs, tnOf, e 0 (by omega), e 1 (by omega), e 2 (by omega), e 3 (by omega), e 4 (by omega), e 5 (by omega), e 6 (by omega), e 7 (by omega), e 8 (by omega)]
theorem paFs_ext {f f' : Nat → Int32} {i : Nat} (e : ∀ k, isPa i k → f' k = f k) : paFs f' i = paFs f i := by
  simp only [paFs, e (9 + i) (by simp [isPa]), e (13 + i) (by simp [isPa]), e (17 + i) (by simp [isPa]), e (21 + i) (by simp [isPa]), e (25 + i) (by simp [isPa]), e (29 + i) (by simp [isPa]), e (33 + i) (by simp [isPa]), e (37 + i) (by simp [isPa])]
theorem enFs_ext {f f' : Nat → Int32} {i : Nat} (e : ∀ k, isEn i k → f' k = f k) : enFs f' i = enFs f i := by
  simp only [enFs, e (41 + i) (by simp [isEn]), e (49 + i) (by simp [isEn]), e (57 + i) (by simp [isEn]), e (65 + i) (by simp [isEn])]
theorem flFs_ext {f f' : Nat → Int32} {i : Nat} (e : ∀ k, isFl i k → f' k = f k) : flFs f' i = flFs f i := by
  simp only [flFs, e (73 + i) (by simp [isFl]), e (89 + i) (by simp [isFl]), e (121 + i) (by simp [isFl]), e (105 + i) (by simp [isFl]), e (137 + i) (by simp [isFl])]
theorem St.pa {G : gG} {M0 M : HM} {L : Nat → Nat} {f f' : Nat → Int32} {fs : List Value} (h : St G M0 M L f) (j : Nat) (hj : j < 4) (hfs : fs = paFs f' j) (e : ∀ k, k < 153 → ¬ isPa j k → f' k = f k) : St G M0 (mu M (L (4 + j)) (.inr (2, fs))) L f' := by
  subst hfs
  obtain ⟨⟨h0, h1, h2, h3, h4, h5, h6, hL, hv⟩, hO⟩ := h
  refine ⟨⟨?_, ?_, ?_, ?_, fun i hi => ?_, fun i hi => ?_, fun i hi => ?_, hL, fun i hi => ?_⟩, hO.mu _ (by omega) _⟩
  · rw [mu_L hL (by omega) (by omega) (by omega), h0, stFs_ext (f' := f') (fun k hk => e k (by omega) (by unfold isPa; omega))]
  · obtain ⟨g, a, b⟩ := h1
    exact ⟨g, (mu_L hL (by omega) (by omega) (by omega) _).trans a, b⟩
  · obtain ⟨g, a, b⟩ := h2
    exact ⟨g, (mu_L hL (by omega) (by omega) (by omega) _).trans a, b⟩
  · obtain ⟨g, a, b⟩ := h3
    exact ⟨g, (mu_L hL (by omega) (by omega) (by omega) _).trans a, b⟩
  · by_cases hij : i = j
    · subst hij
      exact mu_at _ _ _
    · rw [mu_L hL (by omega) (by omega) (by omega), h4 i hi, paFs_ext (f' := f') (fun k hk => e k (by unfold isPa at hk; omega) (by unfold isPa at *; omega))]
  · rw [mu_L hL (by omega) (by omega) (by omega), h5 i hi, enFs_ext (f' := f') (fun k hk => e k (by unfold isEn at hk; omega) (by unfold isPa isEn at *; omega))]
  · rw [mu_L hL (by omega) (by omega) (by omega), h6 i hi, flFs_ext (f' := f') (fun k hk => e k (by unfold isFl at hk; omega) (by unfold isPa isFl at *; omega))]
  · rw [e (41 + i) (by omega) (by unfold isPa; omega)]
    exact hv i hi
theorem St.en {G : gG} {M0 M : HM} {L : Nat → Nat} {f f' : Nat → Int32} {fs : List Value} (h : St G M0 M L f) (j : Nat) (hj : j < 8) (hfs : fs = enFs f' j) (hz : f' (41 + j) = 0 ∨ f' (41 + j) = 1) (e : ∀ k, k < 153 → ¬ isEn j k → f' k = f k) : St G M0 (mu M (L (8 + j)) (.inr (0, fs))) L f' := by
  subst hfs
  obtain ⟨⟨h0, h1, h2, h3, h4, h5, h6, hL, hv⟩, hO⟩ := h
  refine ⟨⟨?_, ?_, ?_, ?_, fun i hi => ?_, fun i hi => ?_, fun i hi => ?_, hL, fun i hi => ?_⟩, hO.mu _ (by omega) _⟩
  · rw [mu_L hL (by omega) (by omega) (by omega), h0, stFs_ext (f' := f') (fun k hk => e k (by omega) (by unfold isEn; omega))]
  · obtain ⟨g, a, b⟩ := h1
    exact ⟨g, (mu_L hL (by omega) (by omega) (by omega) _).trans a, b⟩
  · obtain ⟨g, a, b⟩ := h2
    exact ⟨g, (mu_L hL (by omega) (by omega) (by omega) _).trans a, b⟩
  · obtain ⟨g, a, b⟩ := h3
    exact ⟨g, (mu_L hL (by omega) (by omega) (by omega) _).trans a, b⟩
  · rw [mu_L hL (by omega) (by omega) (by omega), h4 i hi, paFs_ext (f' := f') (fun k hk => e k (by unfold isPa at hk; omega) (by unfold isPa isEn at *; omega))]
  · by_cases hij : i = j
    · subst hij
      exact mu_at _ _ _
    · rw [mu_L hL (by omega) (by omega) (by omega), h5 i hi, enFs_ext (f' := f') (fun k hk => e k (by unfold isEn at hk; omega) (by unfold isEn at *; omega))]
  · rw [mu_L hL (by omega) (by omega) (by omega), h6 i hi, flFs_ext (f' := f') (fun k hk => e k (by unfold isFl at hk; omega) (by unfold isEn isFl at *; omega))]
  · by_cases hij : i = j
    · subst hij
      exact hz
    · rw [e (41 + i) (by omega) (by unfold isEn; omega)]
      exact hv i hi
theorem St.fl {G : gG} {M0 M : HM} {L : Nat → Nat} {f f' : Nat → Int32} {fs : List Value} (h : St G M0 M L f) (j : Nat) (hj : j < 16) (hfs : fs = flFs f' j) (e : ∀ k, k < 153 → ¬ isFl j k → f' k = f k) : St G M0 (mu M (L (16 + j)) (.inr (1, fs))) L f' := by
  subst hfs
  obtain ⟨⟨h0, h1, h2, h3, h4, h5, h6, hL, hv⟩, hO⟩ := h
  refine ⟨⟨?_, ?_, ?_, ?_, fun i hi => ?_, fun i hi => ?_, fun i hi => ?_, hL, fun i hi => ?_⟩, hO.mu _ (by omega) _⟩
  · rw [mu_L hL (by omega) (by omega) (by omega), h0, stFs_ext (f' := f') (fun k hk => e k (by omega) (by unfold isFl; omega))]
  · obtain ⟨g, a, b⟩ := h1
    exact ⟨g, (mu_L hL (by omega) (by omega) (by omega) _).trans a, b⟩
  · obtain ⟨g, a, b⟩ := h2
    exact ⟨g, (mu_L hL (by omega) (by omega) (by omega) _).trans a, b⟩
  · obtain ⟨g, a, b⟩ := h3
    exact ⟨g, (mu_L hL (by omega) (by omega) (by omega) _).trans a, b⟩
  · rw [mu_L hL (by omega) (by omega) (by omega), h4 i hi, paFs_ext (f' := f') (fun k hk => e k (by unfold isPa at hk; omega) (by unfold isPa isFl at *; omega))]
  · rw [mu_L hL (by omega) (by omega) (by omega), h5 i hi, enFs_ext (f' := f') (fun k hk => e k (by unfold isEn at hk; omega) (by unfold isEn isFl at *; omega))]
  · by_cases hij : i = j
    · subst hij
      exact mu_at _ _ _
    · rw [mu_L hL (by omega) (by omega) (by omega), h6 i hi, flFs_ext (f' := f') (fun k hk => e k (by unfold isFl at hk; omega) (by unfold isFl at *; omega))]
  · rw [e (41 + i) (by omega) (by unfold isFl; omega)]
    exact hv i hi
end
section
/-! What the switch does, as functions of the 153 cells. Both sides are tied to these. -/
def cg (reg rem : Int32) : Int32 := if (if (7 : Int32) < reg / 64 then 7 else reg / 64) < rem then rem else (if (7 : Int32) < reg / 64 then 7 else reg / 64)
def wt (b t : Int32) : Int32 := if b - t < 0 then 0 else b - t
def tk (size rate : Int32) : Int32 := (size + rate - 1) / rate
def bg (b t : Int32) : Int32 := if t < b then b else t
def nP (f : Nat → Int32) : Nat := (f 1).toNatClampNeg
def nE (f : Nat → Int32) : Nat := (f 2).toNatClampNeg
def lvE (f : Nat → Int32) (i : Nat) : Bool := decide (f (41 + i) = 1 ∧ (f 4 = 1 ∨ f 0 - f (57 + i) ≤ f 3))
def mt (f : Nat → Int32) (i : Nat) : Int32 := cg (f (21 + i)) (f (17 + i))
def bs (f : Nat → Int32) : Nat → Nat
  | 0 => 0
  | n + 1 => if mt f (n + 1) < mt f (bs f n) then n + 1 else bs f n
def nx (g : Int32) : Int32 := (1103515245 * g + 12345) &&& 2147483647
def eN (f : Nat → Int32) (k : Nat) : Nat := (7 * k + 3) % nE f
def llF (f : Nat → Int32) (had : Int32) : Int32 := if had ≠ -9 ∧ mt f had.toNatClampNeg = mt f (bs f (nP f - 1)) then had else nI (bs f (nP f - 1))
def chF (f : Nat → Int32) (k : Nat) : Int32 := if f 5 = 0 then nI (k % nP f) else if f 5 = 2 then tnOf f else if lvE f (eN f k) = true then f (49 + eN f k) else if f 5 = 1 then llF f (f (49 + eN f k)) else jr (nx (f 7) / 65536) (f 1)
def tb1 (f : Nat → Int32) (k : Nat) : Nat → Int32 := if lvE f (eN f k) = true then f else if f 5 = 3 then upd (upd f (73 + k) (f (73 + k) + 1)) 7 (nx (f 7)) else upd f (73 + k) (f (73 + k) + 1)
def tabF (f : Nat → Int32) (k : Nat) (c : Int32) : Nat → Int32 := upd (upd (upd (upd (tb1 f k) (41 + eN f k) 1) (49 + eN f k) c) (57 + eN f k) (f 0)) (65 + eN f k) 0
def tkF (f : Nat → Int32) (k : Nat) (c : Int32) : Nat → Int32 := if f 5 = 1 ∨ f 5 = 3 then tabF f k c else if f 5 = 2 then upd f 8 (f 8 + 1) else f
def dvF (f : Nat → Int32) (k : Nat) (c ar : Int32) : Nat → Int32 := upd (upd (upd (upd f (89 + k) (f (89 + k) + (if ¬ f (105 + k) = -9 ∧ ¬ f (105 + k) = c then 1 else 0))) (105 + k) c) (121 + k) (f (121 + k) + (if ar < f (137 + k) then 1 else 0))) (137 + k) (if f (137 + k) < ar then ar else f (137 + k))
def xmF (f : Nat → Int32) (j : Nat) (size en : Int32) : Nat → Int32 := upd (upd (upd (upd f (25 + j) en) (21 + j) (f (21 + j) + size)) (29 + j) (f (29 + j) + 1)) (33 + j) (f (33 + j) + size)
def enF (f : Nat → Int32) (j : Nat) (size : Int32) : Int32 := bg (f (25 + j)) (f 0) + tk size (f (13 + j))
/-- a packet on path c: what send answers, and the state behind it (f: the state behind the choice) -/
def trF (f : Nat → Int32) (k : Nat) (c size : Int32) : Int32 × (Nat → Int32) := if 200 < f (25 + c.toNatClampNeg) - f 0 then (10 + c, upd f (37 + c.toNatClampNeg) (f (37 + c.toNatClampNeg) + 1)) else (c, dvF (xmF f c.toNatClampNeg size (enF f c.toNatClampNeg size)) k c (enF f c.toNatClampNeg size + f (9 + c.toNatClampNeg)))
def sdF (f : Nat → Int32) (k : Nat) (size : Int32) : Int32 × (Nat → Int32) := trF (tkF f k (chF f k)) k (chF f k) size
def dcN (f : Nat → Int32) : Nat → (Nat → Int32)
  | 0 => f
  | n + 1 => upd (dcN f n) (21 + n) (dcN f n (21 + n) - dcN f n (21 + n) >>> (f 6 &&& 31))
def agN (f : Nat → Int32) : Nat → (Nat → Int32)
  | 0 => f
  | n + 1 => if agN f n (41 + n) = 1 then upd (upd (agN f n) (41 + n) (1 - agN f n (65 + n))) (65 + n) 1 else agN f n
def t1F (f : Nat → Int32) : Nat → Int32 := upd f 0 (f 0 + 1)
def t2F (f : Nat → Int32) : Nat → Int32 := if jr (f 0) 10 = 0 then dcN f (nP f) else f
def t3F (f : Nat → Int32) : Nat → Int32 := if f 4 = 1 ∧ jr (f 0) (f 3) = 0 then agN f (nE f) else f
def tiF (f : Nat → Int32) : Nat → Int32 := t3F (t2F (t1F f))
def psN (f : Nat → Int32) : Nat → (Nat → Int32)
  | 0 => f
  | n + 1 => tiF (psN f n)
def cnF (f : Nat → Int32) (e : Int32) : Nat → Int32
  | 0 => 0
  | n + 1 => if jr (7 * nI n + 3) (f 2) = e then cnF f e n + 1 else cnF f e n
def acN (f : Nat → Int32) : Nat → Int32
  | 0 => 0
  | n + 1 => if lvE f n = true then acN f n + 1 else acN f n
def mnN (g : Nat → Int32) : Nat → Int32
  | 0 => g 0
  | n + 1 => if g (n + 1) < mnN g n then g (n + 1) else mnN g n
def mxN (g : Nat → Int32) : Nat → Int32
  | 0 => g 0
  | n + 1 => if mxN g n < g (n + 1) then g (n + 1) else mxN g n
def laF (f : Nat → Int32) (size : Int32) (j : Nat) : Int32 := wt (f (25 + j)) (f 0) + tk size (f (13 + j)) + f (9 + j)
def iniF (P E : Int32) : Nat → Int32 := fun k => if k = 1 then P else if k = 2 then E else if k = 3 then 20 else if k = 5 then 1 else if k = 6 then 2 else if k = 7 then 1 else if 9 ≤ k ∧ k < 17 then 10 else if (49 ≤ k ∧ k < 57) ∨ (105 ≤ k ∧ k < 121) ∨ (137 ≤ k ∧ k < 153) then -9 else 0
/-- the bounds that every state of a run keeps; B bounds the count of packets sent in mode 2 -/
def EntOk (f : Nat → Int32) (i : Nat) : Prop := (f (41 + i) = 0 ∨ f (41 + i) = 1) ∧ (f (41 + i) = 1 → f (49 + i) ≠ -9) ∧ (f (49 + i) = -9 ∨ ∃ k, k < nP f ∧ f (49 + i) = nI k) ∧ (f (65 + i) = 0 ∨ f (65 + i) = 1)
def Inv (B : Nat) (f : Nat → Int32) : Prop := (∃ T, T ≤ 1000000 ∧ f 0 = nI T) ∧ (∃ P, 2 ≤ P ∧ P ≤ 4 ∧ f 1 = nI P) ∧ (∃ E, 1 ≤ E ∧ E ≤ 8 ∧ f 2 = nI E) ∧ (∃ g, 1 ≤ g ∧ g ≤ 200 ∧ f 3 = nI g) ∧ (∃ g, g < 2 ^ 31 ∧ f 7 = nI g) ∧ (∃ t, t ≤ B ∧ f 8 = nI t) ∧ (∀ i, i < 4 → ∃ r, 1 ≤ r ∧ r ≤ 100 ∧ f (13 + i) = nI r) ∧ (∀ i, i < 4 → ∃ b, b ≤ 1001200 ∧ f (25 + i) = nI b) ∧ ∀ i, i < 8 → EntOk f i
theorem ix_lt {a b : Nat} (ha : a < 2 ^ 31) (h : ¬ nI b ≤ nI a) : a < b := by
  rcases Nat.lt_or_ge a b with q | q
  · exact q
  · exact absurd (nI_le q ha) h
theorem ix_ge {a b : Nat} (ha : a < 2 ^ 31) (hb : b < 2 ^ 31) (h : nI b ≤ nI a) : b ≤ a := (nI_leI hb ha).mp h
theorem Inv.P {B : Nat} {f : Nat → Int32} (h : Inv B f) : 2 ≤ nP f ∧ nP f ≤ 4 ∧ f 1 = nI (nP f) := by
  obtain ⟨P, h1, h2, h3⟩ := h.2.1
  have : nP f = P := by unfold nP; rw [h3]; exact nI_clamp (by omega)
  rw [this]
  exact ⟨h1, h2, h3⟩
theorem Inv.E {B : Nat} {f : Nat → Int32} (h : Inv B f) : 1 ≤ nE f ∧ nE f ≤ 8 ∧ f 2 = nI (nE f) := by
  obtain ⟨P, h1, h2, h3⟩ := h.2.2.1
  have : nE f = P := by unfold nE; rw [h3]; exact nI_clamp (by omega)
  rw [this]
  exact ⟨h1, h2, h3⟩
theorem Inv.nz1 {B : Nat} {f : Nat → Int32} (h : Inv B f) : ¬ f 1 = 0 := by
  obtain ⟨h1, h2, h3⟩ := h.P
  rw [h3]
  exact nI_ne0 (by omega) (by omega)
theorem Inv.nz2 {B : Nat} {f : Nat → Int32} (h : Inv B f) : ¬ f 2 = 0 := by
  obtain ⟨h1, h2, h3⟩ := h.E
  rw [h3]
  exact nI_ne0 (by omega) (by omega)
theorem Inv.nz3 {B : Nat} {f : Nat → Int32} (h : Inv B f) : ¬ f 3 = 0 := by
  obtain ⟨g, h1, h2, h3⟩ := h.2.2.2.1
  rw [h3]
  exact nI_ne0 (by omega) (by omega)
theorem Inv.nzr {B : Nat} {f : Nat → Int32} (h : Inv B f) (i : Nat) (hi : i < 4) : ¬ f (13 + i) = 0 := by
  obtain ⟨g, h1, h2, h3⟩ := h.2.2.2.2.2.2.1 i hi
  rw [h3]
  exact nI_ne0 (by omega) (by omega)
theorem jr_nI {a d : Nat} (ha : a < 2 ^ 31) (h0 : 0 < d) (hd : d < 2 ^ 31) : jr (nI a) (nI d) = nI (a % d) := pk_rem ha h0 hd
theorem eN_lt {B : Nat} {f : Nat → Int32} (h : Inv B f) (k : Nat) : eN f k < nE f ∧ eN f k < 8 := by
  obtain ⟨h1, h2, h3⟩ := h.E
  have := Nat.mod_lt (7 * k + 3) (show 0 < nE f by omega)
  unfold eN
  omega
theorem eN_eq {B : Nat} {f : Nat → Int32} (h : Inv B f) (k : Nat) (hk : k < 16) : jr (7 * nI k + 3) (f 2) = nI (eN f k) := by
  obtain ⟨h1, h2, h3⟩ := h.E
  rw [h3, show (7 : Int32) * nI k = nI (7 * k) from pk_mul 7 k, show nI (7 * k) + (3 : Int32) = nI (7 * k + 3) from nI_add (7 * k) 3, jr_nI (by omega) (by omega) (by omega)]
  rfl
theorem jr_0 (y : Int32) : jr 0 y = 0 := by simp [jr]
/-- g's cells at one path, entry, flow; f's elsewhere -/
def mxP (g f : Nat → Int32) (j : Nat) : Nat → Int32 := fun k => if 9 ≤ k ∧ k < 41 ∧ (k - 9) % 4 = j then g k else f k
def mxE (g f : Nat → Int32) (j : Nat) : Nat → Int32 := fun k => if 41 ≤ k ∧ k < 73 ∧ (k - 41) % 8 = j then g k else f k
def mxF (g f : Nat → Int32) (j : Nat) : Nat → Int32 := fun k => if 73 ≤ k ∧ k < 153 ∧ (k - 73) % 16 = j then g k else f k
def mxS (g f : Nat → Int32) : Nat → Int32 := fun k => if k < 9 then g k else f k
theorem St.mP {G : gG} {M0 M : HM} {L : Nat → Nat} {f : Nat → Int32} (h : St G M0 M L f) (g : Nat → Int32) (j : Nat) (hj : j < 4) : St G M0 (mu M (L (4 + j)) (.inr (2, paFs g j))) L (mxP g f j) := by
  refine h.pa j hj ?_ (fun k hk hn => ?_)
  · unfold paFs mxP
    rw [if_pos (by omega), if_pos (by omega), if_pos (by omega), if_pos (by omega), if_pos (by omega), if_pos (by omega), if_pos (by omega), if_pos (by omega)]
  · unfold mxP
    rw [if_neg]
    intro q
    apply hn
    unfold isPa
    omega
theorem St.mE {G : gG} {M0 M : HM} {L : Nat → Nat} {f : Nat → Int32} (h : St G M0 M L f) (g : Nat → Int32) (j : Nat) (hj : j < 8) (hz : g (41 + j) = 0 ∨ g (41 + j) = 1) : St G M0 (mu M (L (8 + j)) (.inr (0, enFs g j))) L (mxE g f j) := by
  have e : mxE g f j (41 + j) = g (41 + j) := by
    unfold mxE
    rw [if_pos (by omega)]
  refine h.en j hj ?_ (by rw [e]; exact hz) (fun k hk hn => ?_)
  · unfold enFs mxE
    rw [if_pos (by omega), if_pos (by omega), if_pos (by omega), if_pos (by omega)]
  · unfold mxE
    rw [if_neg]
    intro q
    apply hn
    unfold isEn
    omega
theorem St.mF {G : gG} {M0 M : HM} {L : Nat → Nat} {f : Nat → Int32} (h : St G M0 M L f) (g : Nat → Int32) (j : Nat) (hj : j < 16) : St G M0 (mu M (L (16 + j)) (.inr (1, flFs g j))) L (mxF g f j) := by
  refine h.fl j hj ?_ (fun k hk hn => ?_)
  · unfold flFs mxF
    rw [if_pos (by omega), if_pos (by omega), if_pos (by omega), if_pos (by omega), if_pos (by omega)]
  · unfold mxF
    rw [if_neg]
    intro q
    apply hn
    unfold isFl
    omega
/-- all of a state but the object's own numbers -/
def IsS0 (G : gG) (M : HM) (L : Nat → Nat) (f : Nat → Int32) : Prop :=
  (∃ g, M (L 1) = some (.inl (G.2 4, 4, .inr (.inr (.inr (.inr g))))) ∧ ∀ i, i < 4 → g i = some (L (4 + i))) ∧
  (∃ g, M (L 2) = some (.inl (G.2 2, 8, .inr (.inr (.inr (.inr g))))) ∧ ∀ i, i < 8 → g i = some (L (8 + i))) ∧
  (∃ g, M (L 3) = some (.inl (G.2 3, 16, .inr (.inr (.inr (.inr g))))) ∧ ∀ i, i < 16 → g i = some (L (16 + i))) ∧
  (∀ i, i < 4 → M (L (4 + i)) = some (.inr (2, paFs f i))) ∧
  (∀ i, i < 8 → M (L (8 + i)) = some (.inr (0, enFs f i))) ∧
  (∀ i, i < 16 → M (L (16 + i)) = some (.inr (1, flFs f i))) ∧
  Inj L 32 ∧ ∀ i, i < 8 → f (41 + i) = 0 ∨ f (41 + i) = 1
theorem IsS0.st {G : gG} {M0 M : HM} {L : Nat → Nat} {f g : Nat → Int32} {fs : List Value} (h : IsS0 G M L f) (hO : Off M0 M L) (hfs : fs = stFs L (mxS g f)) : St G M0 (mu M (L 0) (.inr (4, fs))) L (mxS g f) := by
  subst hfs
  have hL := h.2.2.2.2.2.2.1
  have h0 : St G M0 (mu M (L 0) (.inr (4, stFs L f))) L f := by
    obtain ⟨h1, h2, h3, h4, h5, h6, hL, hv⟩ := h
    refine ⟨⟨mu_at _ _ _, ?_, ?_, ?_, fun i hi => (mu_L hL (by omega) (by omega) (by omega) _).trans (h4 i hi), fun i hi => (mu_L hL (by omega) (by omega) (by omega) _).trans (h5 i hi), fun i hi => (mu_L hL (by omega) (by omega) (by omega) _).trans (h6 i hi), hL, hv⟩, hO.mu 0 (by omega) _⟩
    · obtain ⟨g, a, b⟩ := h1
      exact ⟨g, (mu_L hL (by omega) (by omega) (by omega) _).trans a, b⟩
    · obtain ⟨g, a, b⟩ := h2
      exact ⟨g, (mu_L hL (by omega) (by omega) (by omega) _).trans a, b⟩
    · obtain ⟨g, a, b⟩ := h3
      exact ⟨g, (mu_L hL (by omega) (by omega) (by omega) _).trans a, b⟩
  have h1 := h0.sc (f' := mxS g f) (fun k hk _ => by unfold mxS; rw [if_neg (by omega)])
  rw [mu_mu] at h1
  exact h1
theorem IsSt.s0 {G : gG} {M : HM} {L : Nat → Nat} {f : Nat → Int32} (h : IsSt G M L f) : IsS0 G M L f := h.2
end
section
/-! what the functions of 04 keep -/
theorem dcN_o (f : Nat → Int32) (n k : Nat) (h : k < 21 ∨ 21 + n ≤ k) : dcN f n k = f k := by
  induction n with
  | zero => rfl
  | succ n ih =>
    show upd (dcN f n) (21 + n) _ k = f k
    rw [pk_un (by omega)]
    exact ih (by omega)
theorem dcN_e (f : Nat → Int32) (n i : Nat) (hi : i < n) : dcN f n (21 + i) = f (21 + i) - f (21 + i) >>> (f 6 &&& 31) := by
  induction n with
  | zero => omega
  | succ n ih =>
    show upd (dcN f n) (21 + n) _ (21 + i) = _
    by_cases h : i = n
    · subst h
      rw [pk_us, dcN_o f i (21 + i) (by omega)]
    · rw [pk_un (by omega)]
      exact ih (by omega)
theorem agN_o (f : Nat → Int32) (n k : Nat) (h : (k < 41 ∨ 41 + n ≤ k) ∧ (k < 65 ∨ 65 + n ≤ k)) : agN f n k = f k := by
  induction n with
  | zero => rfl
  | succ n ih =>
    show (if agN f n (41 + n) = 1 then upd (upd (agN f n) (41 + n) (1 - agN f n (65 + n))) (65 + n) 1 else agN f n) k = f k
    split
    · rw [pk_un (by omega), pk_un (by omega)]
      exact ih (by omega)
    · exact ih (by omega)
theorem agN_e (f : Nat → Int32) (n i : Nat) (hi : i < n) (hn : n ≤ 8) : agN f n (41 + i) = (if f (41 + i) = 1 then 1 - f (65 + i) else f (41 + i)) ∧ agN f n (65 + i) = (if f (41 + i) = 1 then 1 else f (65 + i)) := by
  induction n with
  | zero => omega
  | succ n ih =>
    by_cases h : i = n
    · subst h
      have e1 := agN_o f i (41 + i) (by omega)
      have e2 := agN_o f i (65 + i) (by omega)
      constructor
      · show (if agN f i (41 + i) = 1 then upd (upd (agN f i) (41 + i) (1 - agN f i (65 + i))) (65 + i) 1 else agN f i) (41 + i) = _
        rw [e1, e2]
        split
        · rw [pk_un (by omega), pk_us]
        · exact e1
      · show (if agN f i (41 + i) = 1 then upd (upd (agN f i) (41 + i) (1 - agN f i (65 + i))) (65 + i) 1 else agN f i) (65 + i) = _
        rw [e1, e2]
        split
        · rw [pk_us]
        · exact e2
    · obtain ⟨a1, a2⟩ := ih (by omega) (by omega)
      constructor
      · show (if agN f n (41 + n) = 1 then upd (upd (agN f n) (41 + n) (1 - agN f n (65 + n))) (65 + n) 1 else agN f n) (41 + i) = _
        rw [← a1]
        split
        · rw [pk_un (by omega), pk_un (by omega)]
        · rfl
      · show (if agN f n (41 + n) = 1 then upd (upd (agN f n) (41 + n) (1 - agN f n (65 + n))) (65 + n) 1 else agN f n) (65 + i) = _
        rw [← a2]
        split
        · rw [pk_un (by omega), pk_un (by omega)]
        · rfl
theorem nP_ext {f g : Nat → Int32} (h : g 1 = f 1) : nP g = nP f := by unfold nP; rw [h]
theorem nE_ext {f g : Nat → Int32} (h : g 2 = f 2) : nE g = nE f := by unfold nE; rw [h]
theorem EntOk.ext {f g : Nat → Int32} {i : Nat} (h : EntOk f i) (e1 : g 1 = f 1) (e2 : g (41 + i) = f (41 + i)) (e3 : g (49 + i) = f (49 + i)) (e4 : g (65 + i) = f (65 + i)) : EntOk g i := by
  unfold EntOk at *
  rw [e2, e3, e4, nP_ext e1]
  exact h
theorem Inv.of {B : Nat} {f g : Nat → Int32} (h : Inv B f) (h0 : ∃ T, T ≤ 1000000 ∧ g 0 = nI T) (e : ∀ k, k = 1 ∨ k = 2 ∨ k = 3 ∨ k = 7 ∨ k = 8 ∨ (13 ≤ k ∧ k < 17) ∨ (25 ≤ k ∧ k < 29) ∨ (41 ≤ k ∧ k < 57) ∨ (65 ≤ k ∧ k < 73) → g k = f k) : Inv B g := by
  obtain ⟨-, h1, h2, h3, h7, h8, hr, hb, he⟩ := h
  refine ⟨h0, ?_, ?_, ?_, ?_, ?_, fun i hi => ?_, fun i hi => ?_, fun i hi => ?_⟩
  · rw [e 1 (by omega)]; exact h1
  · rw [e 2 (by omega)]; exact h2
  · rw [e 3 (by omega)]; exact h3
  · rw [e 7 (by omega)]; exact h7
  · rw [e 8 (by omega)]; exact h8
  · rw [e (13 + i) (by omega)]; exact hr i hi
  · rw [e (25 + i) (by omega)]; exact hb i hi
  · exact (he i hi).ext (e 1 (by omega)) (e _ (by omega)) (e _ (by omega)) (e _ (by omega))
theorem Inv.mono {B C : Nat} {f : Nat → Int32} (h : Inv B f) (hBC : B ≤ C) : Inv C f := by
  obtain ⟨h0, h1, h2, h3, h7, ⟨t, a, b⟩, hr, hb, he⟩ := h
  exact ⟨h0, h1, h2, h3, h7, ⟨t, by omega, b⟩, hr, hb, he⟩
theorem Inv.t1 {B T : Nat} {f : Nat → Int32} (h : Inv B f) (hT : f 0 = nI T) (hB : T + 1 ≤ 1000000) : Inv B (t1F f) ∧ t1F f 0 = nI (T + 1) := by
  have e : t1F f 0 = nI (T + 1) := by
    show upd f 0 _ 0 = _
    rw [pk_us, hT, nI_1]
  exact ⟨h.of ⟨T + 1, hB, e⟩ (fun k hk => pk_un (by omega)), e⟩
theorem t2F_o (f : Nat → Int32) (k : Nat) (h : k < 21 ∨ 25 ≤ k) (hP : nP f ≤ 4) : t2F f k = f k := by
  unfold t2F
  split
  · exact dcN_o f _ k (by omega)
  · rfl
theorem Inv.t2 {B : Nat} {f : Nat → Int32} (h : Inv B f) : Inv B (t2F f) ∧ t2F f 0 = f 0 := by
  have hP := h.P.2.1
  exact ⟨h.of (by rw [t2F_o f 0 (by omega) hP]; exact h.1) (fun k hk => t2F_o f k (by omega) hP), t2F_o f 0 (by omega) hP⟩
theorem Inv.ag {B : Nat} {f : Nat → Int32} (h : Inv B f) (n : Nat) (hn : n ≤ 8) : Inv B (agN f n) := by
  obtain ⟨h0, h1, h2, h3, h7, h8, hr, hb, he⟩ := h
  have o : ∀ k, k < 41 → agN f n k = f k := fun k hk => agN_o f n k (by omega)
  refine ⟨?_, ?_, ?_, ?_, ?_, ?_, fun i hi => ?_, fun i hi => ?_, fun i hi => ?_⟩
  · rw [o 0 (by omega)]; exact h0
  · rw [o 1 (by omega)]; exact h1
  · rw [o 2 (by omega)]; exact h2
  · rw [o 3 (by omega)]; exact h3
  · rw [o 7 (by omega)]; exact h7
  · rw [o 8 (by omega)]; exact h8
  · rw [o (13 + i) (by omega)]; exact hr i hi
  · rw [o (25 + i) (by omega)]; exact hb i hi
  · have hP : nP (agN f n) = nP f := nP_ext (o 1 (by omega))
    have e49 : agN f n (49 + i) = f (49 + i) := agN_o f n (49 + i) (by omega)
    by_cases hin : i < n
    · obtain ⟨a1, a2⟩ := agN_e f n i hin hn
      obtain ⟨b1, b2, b3, b4⟩ := he i hi
      unfold EntOk
      rw [a1, a2, e49, hP]
      by_cases hv : f (41 + i) = 1
      · rw [if_pos hv, if_pos hv]
        refine ⟨?_, fun _ => b2 hv, b3, Or.inr rfl⟩
        rcases b4 with q | q <;> rw [q] <;> decide
      · rw [if_neg hv, if_neg hv]
        exact ⟨b1, b2, b3, b4⟩
    · exact (he i hi).ext (o 1 (by omega)) (agN_o f n _ (by omega)) e49 (agN_o f n _ (by omega))
theorem t3F_o (f : Nat → Int32) (k : Nat) (h : k < 41) : t3F f k = f k := by
  unfold t3F
  split
  · exact agN_o f _ k (by omega)
  · rfl
theorem Inv.t3 {B : Nat} {f : Nat → Int32} (h : Inv B f) : Inv B (t3F f) ∧ t3F f 0 = f 0 := by
  refine ⟨?_, t3F_o f 0 (by omega)⟩
  unfold t3F
  split
  · exact h.ag _ h.E.2.1
  · exact h
theorem Inv.ti {B T : Nat} {f : Nat → Int32} (h : Inv B f) (hT : f 0 = nI T) (hB : T + 1 ≤ 1000000) : Inv B (tiF f) ∧ tiF f 0 = nI (T + 1) := by
  obtain ⟨a1, a2⟩ := h.t1 hT hB
  obtain ⟨b1, b2⟩ := a1.t2
  obtain ⟨c1, c2⟩ := b1.t3
  exact ⟨c1, c2.trans (b2.trans a2)⟩
theorem Inv.ps {B T n : Nat} {f : Nat → Int32} (h : Inv B f) (hT : f 0 = nI T) (hB : T + n ≤ 1000000) : ∀ i, i ≤ n → Inv B (psN f i) ∧ psN f i 0 = nI (T + i) := by
  intro i
  induction i with
  | zero => exact fun _ => ⟨h, hT⟩
  | succ i ih =>
    intro hi
    obtain ⟨a1, a2⟩ := ih (by omega)
    exact a1.ti (T := T + i) a2 (by omega)
theorem nx_N (g : Int32) : ∃ n, n < 2 ^ 31 ∧ nx g = nI n := by
  obtain ⟨j, h1, h2⟩ := pk_andE (1103515245 * g + 12345) (m := 2147483647) 31 (by decide)
  exact ⟨j, h1, h2⟩
theorem bs_le (f : Nat → Int32) (n : Nat) : bs f n ≤ n := by
  induction n with
  | zero => exact Nat.le_refl 0
  | succ n ih =>
    unfold bs
    split
    · exact Nat.le_refl _
    · omega
theorem chF_N {B : Nat} {f : Nat → Int32} (h : Inv B f) (hB : B < 2 ^ 30) (k : Nat) (hk : k < 16) : ∃ j, j < nP f ∧ chF f k = nI j := by
  obtain ⟨p1, p2, p3⟩ := h.P
  unfold chF
  split
  · exact ⟨_, Nat.mod_lt _ (by omega), rfl⟩
  split
  · obtain ⟨t, t1, t2⟩ := h.2.2.2.2.2.1
    refine ⟨t % nP f, Nat.mod_lt _ (by omega), ?_⟩
    unfold tnOf
    rw [t2, p3, jr_nI (by omega) (by omega) (by omega)]
  have he := (h.2.2.2.2.2.2.2.2 (eN f k) (eN_lt h k).2)
  split
  · rename_i hl
    simp only [lvE, decide_eq_true_eq] at hl
    rcases he.2.2.1 with q | q
    · exact absurd q (he.2.1 hl.1)
    · exact q
  split
  · unfold llF
    split
    · rename_i hq
      rcases he.2.2.1 with q | q
      · exact absurd q hq.1
      · exact q
    · have := bs_le f (nP f - 1)
      exact ⟨_, by omega, rfl⟩
  · obtain ⟨n, n1, n2⟩ := nx_N (f 7)
    refine ⟨n / 65536 % nP f, Nat.mod_lt _ (by omega), ?_⟩
    rw [n2, p3, show nI n / (65536 : Int32) = nI (n / 65536) from pk_div (d := 65536) n1 (by decide) (by decide), jr_nI (by omega) (by omega) (by omega)]
end
section
theorem nI_ne9 {j : Nat} (h : j < 2 ^ 31) : nI j ≠ -9 := by
  intro q
  have h1 : (nI j).toInt = (-9 : Int32).toInt := by rw [q]
  rw [nI_toInt h, show (-9 : Int32).toInt = -9 from by decide] at h1
  omega
theorem wt_bg {b t : Nat} (hb : b < 2 ^ 30) (ht : t < 2 ^ 30) : nI t + wt (nI b) (nI t) = bg (nI b) (nI t) := by
  unfold wt bg
  rcases Nat.lt_or_ge b t with h | h
  · rw [if_pos (pk_sneg ht h), if_neg (nI_nlt (by omega) (by omega))]
    exact Int32.add_zero _
  · rw [pk_sub h, if_neg (nI_pos (by omega)), nI_add, show t + (b - t) = b by omega]
    split
    · rfl
    · rename_i q
      have : ¬ t < b := fun z => q (nI_lt z (by omega))
      rw [show b = t by omega]
theorem wt_200 {b t : Nat} (hb : b < 2 ^ 30) (ht : t < 2 ^ 30) : 200 < wt (nI b) (nI t) ↔ 200 < nI b - nI t := by
  unfold wt
  split
  · rename_i q
    constructor
    · intro h
      exact absurd h (by decide)
    · intro h
      exact absurd (Int32.lt_trans h q) (by decide)
  · exact Iff.rfl
theorem tb1_o (f : Nat → Int32) (k q : Nat) (h7 : q ≠ 7) (hk : q ≠ 73 + k) : tb1 f k q = f q := by
  unfold tb1
  split
  · rfl
  split
  · rw [pk_un h7, pk_un hk]
  · rw [pk_un hk]
theorem tabF_o (f : Nat → Int32) (k q : Nat) (c : Int32) (h7 : q ≠ 7) (hk : q ≠ 73 + k) (he : ¬ isEn (eN f k) q) : tabF f k c q = f q := by
  unfold isEn at he
  unfold tabF
  rw [pk_un (by omega), pk_un (by omega), pk_un (by omega), pk_un (by omega), tb1_o f k q h7 hk]
theorem Inv.tab {B : Nat} {f : Nat → Int32} (h : Inv B f) (k : Nat) (hk : k < 16) {j : Nat} (hj : j < nP f) : Inv B (tabF f k (nI j)) := by
  obtain ⟨p1, p2, p3⟩ := h.P
  have he8 := (eN_lt h k).2
  have o : ∀ q, q ≠ 7 → q ≠ 73 + k → ¬ isEn (eN f k) q → tabF f k (nI j) q = f q := fun q a b c => tabF_o f k q _ a b c
  have o1 : tabF f k (nI j) 1 = f 1 := o 1 (by omega) (by omega) (by unfold isEn; omega)
  obtain ⟨h0, h1, h2, h3, h7, h8, hr, hb, he⟩ := h
  refine ⟨?_, ?_, ?_, ?_, ?_, ?_, fun i hi => ?_, fun i hi => ?_, fun i hi => ?_⟩
  · rw [o 0 (by omega) (by omega) (by unfold isEn; omega)]; exact h0
  · rw [o1]; exact h1
  · rw [o 2 (by omega) (by omega) (by unfold isEn; omega)]; exact h2
  · rw [o 3 (by omega) (by omega) (by unfold isEn; omega)]; exact h3
  · have e : tabF f k (nI j) 7 = tb1 f k 7 := by
      unfold tabF
      rw [pk_un (by omega), pk_un (by omega), pk_un (by omega), pk_un (by omega)]
    rw [e]
    unfold tb1
    split
    · exact h7
    split
    · rw [pk_us]
      exact nx_N _
    · rw [pk_un (by omega)]
      exact h7
  · rw [o 8 (by omega) (by omega) (by unfold isEn; omega)]; exact h8
  · rw [o (13 + i) (by omega) (by omega) (by unfold isEn; omega)]; exact hr i hi
  · rw [o (25 + i) (by omega) (by omega) (by unfold isEn; omega)]; exact hb i hi
  · by_cases hie : i = eN f k
    · have a1 : tabF f k (nI j) (41 + i) = 1 := by
        unfold tabF
        rw [pk_un (by omega), pk_un (by omega), pk_un (by omega), hie, pk_us]
      have a2 : tabF f k (nI j) (49 + i) = nI j := by
        unfold tabF
        rw [pk_un (by omega), pk_un (by omega), hie, pk_us]
      have a3 : tabF f k (nI j) (65 + i) = 0 := by
        unfold tabF
        rw [hie, pk_us]
      unfold EntOk
      rw [a1, a2, a3, nP_ext o1]
      exact ⟨Or.inr rfl, fun _ => nI_ne9 (by omega), Or.inr ⟨j, hj, rfl⟩, Or.inl rfl⟩
    · exact (he i hi).ext o1 (o _ (by omega) (by omega) (by unfold isEn; omega)) (o _ (by omega) (by omega) (by unfold isEn; omega)) (o _ (by omega) (by omega) (by unfold isEn; omega))
theorem Inv.chosen {B : Nat} {f : Nat → Int32} (h : Inv B f) (k : Nat) (hk : k < 16) {j : Nat} (hj : j < nP f) : Inv (B + 1) (tkF f k (nI j)) := by
  unfold tkF
  split
  · exact (h.tab k hk hj).mono (by omega)
  split
  · obtain ⟨h0, h1, h2, h3, h7, ⟨t, t1, t2⟩, hr, hb, he⟩ := h
    have o : ∀ q, q ≠ 8 → upd f 8 (f 8 + 1) q = f q := fun q a => pk_un a
    refine ⟨?_, ?_, ?_, ?_, ?_, ⟨t + 1, by omega, by rw [pk_us, t2, nI_1]⟩, fun i hi => ?_, fun i hi => ?_, fun i hi => ?_⟩
    · rw [o 0 (by omega)]; exact h0
    · rw [o 1 (by omega)]; exact h1
    · rw [o 2 (by omega)]; exact h2
    · rw [o 3 (by omega)]; exact h3
    · rw [o 7 (by omega)]; exact h7
    · rw [o (13 + i) (by omega)]; exact hr i hi
    · rw [o (25 + i) (by omega)]; exact hb i hi
    · exact (he i hi).ext (o _ (by omega)) (o _ (by omega)) (o _ (by omega)) (o _ (by omega))
  · exact h.mono (by omega)
theorem dvF_o (f : Nat → Int32) (k q : Nat) (c ar : Int32) (hk : k < 16) (h : q < 89) : dvF f k c ar q = f q := by
  unfold dvF
  rw [pk_un (by omega), pk_un (by omega), pk_un (by omega), pk_un (by omega)]
theorem xm_dv (f : Nat → Int32) (k j : Nat) (c ar size en : Int32) (hj : j < 4) : xmF (dvF f k c ar) j size en = dvF (xmF f j size en) k c ar := by
  funext q
  have d : ∀ q, q < 89 → dvF f k c ar q = f q := fun q h => by
    unfold dvF
    rw [pk_un (by omega), pk_un (by omega), pk_un (by omega), pk_un (by omega)]
  have x : ∀ q, 89 ≤ q → xmF f j size en q = f q := fun q h => by
    unfold xmF
    rw [pk_un (by omega), pk_un (by omega), pk_un (by omega), pk_un (by omega)]
  rcases Nat.lt_or_ge q 89 with h | h
  · have e : dvF (xmF f j size en) k c ar q = xmF f j size en q := by
      unfold dvF
      rw [pk_un (by omega), pk_un (by omega), pk_un (by omega), pk_un (by omega)]
    rw [e]
    unfold xmF
    simp only [upd, d (21 + j) (by omega), d (29 + j) (by omega), d (33 + j) (by omega), d q h]
  · have e : xmF (dvF f k c ar) j size en q = dvF f k c ar q := by
      unfold xmF
      rw [pk_un (by omega), pk_un (by omega), pk_un (by omega), pk_un (by omega)]
    rw [e]
    unfold dvF
    simp only [upd, x (89 + k) (by omega), x (105 + k) (by omega), x (121 + k) (by omega), x (137 + k) (by omega), x q h]
/-- when a packet arrives, as the class counts it and as the reference does -/
theorem Inv.arr {B : Nat} {f : Nat → Int32} (h : Inv B f) (j : Nat) (hj : j < 4) (size : Int32) : f 0 + wt (f (25 + j)) (f 0) + tk size (f (13 + j)) = enF f j size := by
  obtain ⟨T, a1, a2⟩ := h.1
  obtain ⟨b, b1, b2⟩ := h.2.2.2.2.2.2.2.1 j hj
  unfold enF
  rw [a2, b2, wt_bg (by omega) (by omega)]
theorem Inv.arr2 {B : Nat} {f : Nat → Int32} (h : Inv B f) (j : Nat) (hj : j < 4) (size : Int32) : f 0 + laF f size j = enF f j size + f (9 + j) := by
  unfold laF
  rw [← Int32.add_assoc, ← Int32.add_assoc, h.arr j hj size]
theorem Inv.drp {B : Nat} {f : Nat → Int32} (h : Inv B f) (j : Nat) (hj : j < 4) : 200 < wt (f (25 + j)) (f 0) ↔ 200 < f (25 + j) - f 0 := by
  obtain ⟨T, a1, a2⟩ := h.1
  obtain ⟨b, b1, b2⟩ := h.2.2.2.2.2.2.2.1 j hj
  rw [a2, b2]
  exact wt_200 (by omega) (by omega)
theorem stFs_turn {B : Nat} {f : Nat → Int32} (L : Nat → Nat) (h : Inv B f) (hB : B < 2 ^ 30) : (stFs L f).set 8 (.int (jr (tnOf f + 1) (f 1))) = stFs L (upd f 8 (f 8 + 1)) := by
  obtain ⟨p1, p2, p3⟩ := h.P
  obtain ⟨t, t1, t2⟩ := h.2.2.2.2.2.1
  have e : jr (tnOf f + 1) (f 1) = tnOf (upd f 8 (f 8 + 1)) := by
    have e1 : tnOf (upd f 8 (f 8 + 1)) = jr (f 8 + 1) (f 1) := rfl
    rw [e1]
    unfold tnOf
    rw [t2, p3, jr_nI (by omega) (by omega) (by omega), nI_1, nI_1, jr_nI (by have := Nat.mod_lt t (show 0 < nP f by omega); omega) (by omega) (by omega), jr_nI (by omega) (by omega) (by omega)]
    congr 1
    exact Nat.mod_add_mod t (nP f) 1
  show [Value.int (f 1), Value.int (f 2), Value.int (f 0), Value.int (f 5), Value.int (f 4), Value.int (f 3), Value.int (f 6), Value.int (f 7), Value.int (jr (tnOf f + 1) (f 1)), Value.ref (L 1), Value.ref (L 2), Value.ref (L 3)] = _
  rw [e]
  rfl
theorem paFs_ini (P E : Int32) : ∀ i, i < 4 → paFs (iniF P E) i = [.int 10, .int 10, .int 0, .int 0, .int 0, .int 0, .int 0, .int 0] := by
  intro i hi
  rcases (show i = 0 ∨ i = 1 ∨ i = 2 ∨ i = 3 by omega) with rfl | rfl | rfl | rfl <;> rfl
theorem enFs_ini (P E : Int32) : ∀ i, i < 8 → enFs (iniF P E) i = [.int 0, .int (-9), .int 0, .int 0] := by
  intro i hi
  rcases (show i = 0 ∨ i = 1 ∨ i = 2 ∨ i = 3 ∨ i = 4 ∨ i = 5 ∨ i = 6 ∨ i = 7 by omega) with rfl | rfl | rfl | rfl | rfl | rfl | rfl | rfl <;> rfl
theorem flFs_ini (P E : Int32) : ∀ i, i < 16 → flFs (iniF P E) i = [.int 0, .int 0, .int 0, .int (-9), .int (-9)] := by
  intro i hi
  rcases (show i = 0 ∨ i = 1 ∨ i = 2 ∨ i = 3 ∨ i = 4 ∨ i = 5 ∨ i = 6 ∨ i = 7 ∨ i = 8 ∨ i = 9 ∨ i = 10 ∨ i = 11 ∨ i = 12 ∨ i = 13 ∨ i = 14 ∨ i = 15 by omega) with rfl | rfl | rfl | rfl | rfl | rfl | rfl | rfl | rfl | rfl | rfl | rfl | rfl | rfl | rfl | rfl <;> rfl
theorem ini_v (P E : Int32) (i : Nat) (hi : i < 8) : iniF P E (41 + i) = 0 := by
  rcases (show i = 0 ∨ i = 1 ∨ i = 2 ∨ i = 3 ∨ i = 4 ∨ i = 5 ∨ i = 6 ∨ i = 7 by omega) with rfl | rfl | rfl | rfl | rfl | rfl | rfl | rfl <;> rfl
/-- an entry has grown older -/
theorem St.age {G : gG} {M0 M M' : HM} {L : Nat → Nat} {f : Nat → Int32} (h : St G M0 M L f) (i : Nat) (hi : i < 8) (ha : f (65 + i) = 0 ∨ f (65 + i) = 1)
    (hp : M' = (if ¬ f (41 + i) = 0 then (if f (65 + i) = 1 then mu M (L (8 + i)) (.inr (0, [.int 0, .int (f (49 + i)), .int (f (57 + i)), .int (f (65 + i))])) else mu M (L (8 + i)) (.inr (0, [.int (f (41 + i)), .int (f (49 + i)), .int (f (57 + i)), .int 1]))) else M)) :
    St G M0 M' L (if f (41 + i) = 1 then upd (upd f (41 + i) (1 - f (65 + i))) (65 + i) 1 else f) := by
  rcases h.1.2.2.2.2.2.2.2.2 i hi with hv | hv
  · rw [if_neg (by rw [hv]; decide)] at *
    rw [hp]
    exact h
  · rw [if_pos hv]
    rw [if_pos (by rw [hv]; decide)] at hp
    have e : ∀ k, k < 153 → ¬ isEn i k → upd (upd f (41 + i) (1 - f (65 + i))) (65 + i) 1 k = f k := fun k h1 h2 => by
      unfold isEn at h2
      rw [pk_un (by omega), pk_un (by omega)]
    have ev : upd (upd f (41 + i) (1 - f (65 + i))) (65 + i) 1 (41 + i) = 1 - f (65 + i) := by rw [pk_un (by omega), pk_us]
    rcases ha with ha | ha
    · rw [if_neg (by rw [ha]; decide)] at hp
      rw [hp]
      refine h.en i hi ?_ (by rw [ev, ha]; decide) e
      simp [enFs, upd, hv, ha]
    · rw [if_pos ha] at hp
      rw [hp]
      refine h.en i hi ?_ (by rw [ev, ha]; decide) e
      simp [enFs, upd, ha]
end
section
theorem z01n {z : Int32} (h : z = 0 ∨ z = 1) : narrow .boolean (.int z) = .int z := by rcases h with rfl | rfl <;> rfl
theorem z01f {z : Int32} (h : z = 0 ∨ z = 1) : fits .boolean (.int z) = true := by rcases h with rfl | rfl <;> rfl
theorem z01v {z : Int32} (h : z = 0 ∨ z = 1) : vp_nar .boolean z = z := by rcases h with rfl | rfl <;> rfl
section R4
variable {p : Program} {l : Launch} {e : Env} {R : Room} {s : State} {m : MethodId} {args : Array Value} {below : List Frame} {meth : Method} {c : Code} {H : Heap} {locs : List Loc} {cells slots : Nat} {Q : State → Prop}
variable {cc : ByteArray} {pc nL : Nat} {ls : Array Slot} {rest : List Value} {G : gG} {own : String}
theorem r_irem (hexec : p.tables.exec = Jvm.exec) (hb : c.code = cc) {x y : Int32} (hdg : decode cc pc = .ok (.irem, 1)) (hne : ¬ y = 0)
    (k : W p l e R s m args below meth c H locs cells slots Q (F0 m (pc + 1) ls (.int (jr x y) :: rest))) : W p l e R s m args below meth c H locs cells slots Q (F0 m pc ls (.int y :: .int x :: rest)) := lv_irem hexec hb hdg hne k
theorem r_mmax (cX : cx p s m c cc nL own G) (hs : ls.size = nL) {index : Nat} (hl : Cond.methodLink own index yJ9_max_7cf53 ∈ tbk) (hf : 1 ≤ R.frames) (hlo : (rest.map fun v => v.category).sum + 13 ≤ R.locals) (hc : cells ≤ R.cells) (hsl : slots ≤ R.slots) {x y : Int32} (hdg : decode cc pc = .ok (.invokestatic index, 3))
    (kk : W p l e R s m args below meth c H locs cells slots Q (F0 m (pc + 3) ls (.int (if x < y then y else x) :: rest))) : W p l e R s m args below meth c H locs cells slots Q (F0 m pc ls (.int y :: .int x :: rest)) :=
  va_mmax cX.1 cX.2.1 (cX.2.2.1.trans hs.symm) cX.2.2.2.1 (cX.2.2.2.2.ts _ hl) (cX.2.2.2.2.ts _ wT_J9_max_7cf53) (cX.2.2.2.2.ts _ wN_J9) (cX.2.2.2.2.ts _ wC_J9_max_7cf53) hf hlo hc hsl hdg kk
theorem r_mmin (cX : cx p s m c cc nL own G) (hs : ls.size = nL) {index : Nat} (hl : Cond.methodLink own index yJ9_min_7cf53 ∈ tbk) (hf : 1 ≤ R.frames) (hlo : (rest.map fun v => v.category).sum + 13 ≤ R.locals) (hc : cells ≤ R.cells) (hsl : slots ≤ R.slots) {x y : Int32} (hdg : decode cc pc = .ok (.invokestatic index, 3))
    (kk : W p l e R s m args below meth c H locs cells slots Q (F0 m (pc + 3) ls (.int (if y < x then y else x) :: rest))) : W p l e R s m args below meth c H locs cells slots Q (F0 m pc ls (.int y :: .int x :: rest)) :=
  va_mmin cX.1 cX.2.1 (cX.2.2.1.trans hs.symm) cX.2.2.2.1 (cX.2.2.2.2.ts _ hl) (cX.2.2.2.2.ts _ wT_J9_min_7cf53) (cX.2.2.2.2.ts _ wN_J9) (cX.2.2.2.2.ts _ wC_J9_min_7cf53) hf hlo hc hsl hdg kk
end R4

set_option maxHeartbeats 4000000 in
set_option maxRecDepth 100000 in
theorem c_X2_init (l : Launch) (G : gG) {M : HM} {a : Nat} : Cv l yX2_init cX2_init 1 (rd 1 0 0) G [.ref a] M (fun M' => M' = M) := by
  refine Cv.of (by decide) (Nat.le_of_ble_eq_true rfl) ?_
  intro p e s m args below meth c ls cX hw hlocks hr hnm hl
  have hx := cX.1
  have hb := cX.2.1
  have hl : lv_has ls 1 [(0, .ref a)] := hl
  refine lv_aload_n hx hb dX2_init_0 rfl (lv_at hl 0 rfl) ?_
  refine W.objInit hx hb cX.2.2.2.1 (cX.2.2.2.2.ts _ wM_X2_3) (cX.2.2.2.2.ts _ wI_obj) (cX.2.2.2.2.ts _ wC_obj) rfl (by rw [cX.2.2.1]; exact hl.1) rfl dX2_init_1 (Nat.le_of_ble_eq_true rfl) (Nat.le_of_ble_eq_true rfl) ?_
  refine W.eq (g2 := F0 m 4 ls []) rfl ?_
  exact r_vret cX hr hlocks hw rfl dX2_init_4

set_option maxHeartbeats 4000000 in
set_option maxRecDepth 100000 in
theorem c_X0_init (l : Launch) (G : gG) {M : HM} {a : Nat} : Cv l yX0_init cX0_init 1 (rd 1 0 0) G [.ref a] M (fun M' => M' = M) := by
  refine Cv.of (by decide) (Nat.le_of_ble_eq_true rfl) ?_
  intro p e s m args below meth c ls cX hw hlocks hr hnm hl
  have hx := cX.1
  have hb := cX.2.1
  have hl : lv_has ls 1 [(0, .ref a)] := hl
  refine lv_aload_n hx hb dX0_init_0 rfl (lv_at hl 0 rfl) ?_
  refine W.objInit hx hb cX.2.2.2.1 (cX.2.2.2.2.ts _ wM_X0_3) (cX.2.2.2.2.ts _ wI_obj) (cX.2.2.2.2.ts _ wC_obj) rfl (by rw [cX.2.2.1]; exact hl.1) rfl dX0_init_1 (Nat.le_of_ble_eq_true rfl) (Nat.le_of_ble_eq_true rfl) ?_
  refine W.eq (g2 := F0 m 4 ls []) rfl ?_
  exact r_vret cX hr hlocks hw rfl dX0_init_4

set_option maxHeartbeats 4000000 in
set_option maxRecDepth 100000 in
theorem c_X1_init (l : Launch) (G : gG) {M : HM} {a : Nat} : Cv l yX1_init cX1_init 1 (rd 1 0 0) G [.ref a] M (fun M' => M' = M) := by
  refine Cv.of (by decide) (Nat.le_of_ble_eq_true rfl) ?_
  intro p e s m args below meth c ls cX hw hlocks hr hnm hl
  have hx := cX.1
  have hb := cX.2.1
  have hl : lv_has ls 1 [(0, .ref a)] := hl
  refine lv_aload_n hx hb dX1_init_0 rfl (lv_at hl 0 rfl) ?_
  refine W.objInit hx hb cX.2.2.2.1 (cX.2.2.2.2.ts _ wM_X1_3) (cX.2.2.2.2.ts _ wI_obj) (cX.2.2.2.2.ts _ wC_obj) rfl (by rw [cX.2.2.1]; exact hl.1) rfl dX1_init_1 (Nat.le_of_ble_eq_true rfl) (Nat.le_of_ble_eq_true rfl) ?_
  refine W.eq (g2 := F0 m 4 ls []) rfl ?_
  exact r_vret cX hr hlocks hw rfl dX1_init_4

set_option maxHeartbeats 4000000 in
set_option maxRecDepth 100000 in
theorem c_X2_reset (l : Launch) (G : gG) {M : HM} {a : Nat} {x0 x1 x2 x3 x4 x5 x6 x7 : Int32} (hM : M a = some (.inr (2, [.int x0, .int x1, .int x2, .int x3, .int x4, .int x5, .int x6, .int x7]))) : Cv l yX2_reset cX2_reset 1 (rd 0 0 0) G [.ref a] M (fun M' => M' = mu M a (.inr (2, [.int 10, .int 10, .int 0, .int 0, .int 0, .int 0, .int 0, .int 0]))) := by
  refine Cv.of (by decide) (Nat.le_of_ble_eq_true rfl) ?_
  intro p e s m args below meth c ls cX hw hlocks hr hnm hl
  have hx := cX.1
  have hb := cX.2.1
  have hl : lv_has ls 1 [(0, .ref a)] := hl
  refine lv_aload_n hx hb dX2_reset_0 rfl (lv_at hl 0 rfl) ?_
  refine lv_bipush (v := 10) hx hb dX2_reset_1 (by decide) ?_
  refine r_put (fs' := [.int 10, .int x1, .int x2, .int x3, .int x4, .int x5, .int x6, .int x7]) cX inX2 tyX2 tyX2_ok nmX2 hw hM rfl 0 (by decide) wF_X2_9 rfl rfl rfl rfl (Nat.le_of_ble_eq_true rfl) dX2_reset_3 (fun H locs hw => ?_)
  refine lv_aload_n hx hb dX2_reset_6 rfl (lv_at hl 0 rfl) ?_
  refine lv_bipush (v := 10) hx hb dX2_reset_7 (by decide) ?_
  refine r_put (fs' := [.int 10, .int 10, .int x2, .int x3, .int x4, .int x5, .int x6, .int x7]) cX inX2 tyX2 tyX2_ok nmX2 hw (mu_at _ _ _) rfl 1 (by decide) wF_X2_15 rfl rfl rfl rfl (Nat.le_of_ble_eq_true rfl) dX2_reset_9 (fun H locs hw => ?_)
  rw [mu_mu] at hw
  refine lv_aload_n hx hb dX2_reset_12 rfl (lv_at hl 0 rfl) ?_
  refine lv_iconst (v := 0) hx hb dX2_reset_13 (by decide) ?_
  refine r_put (fs' := [.int 10, .int 10, .int 0, .int x3, .int x4, .int x5, .int x6, .int x7]) cX inX2 tyX2 tyX2_ok nmX2 hw (mu_at _ _ _) rfl 2 (by decide) wF_X2_18 rfl rfl rfl rfl (Nat.le_of_ble_eq_true rfl) dX2_reset_14 (fun H locs hw => ?_)
  rw [mu_mu] at hw
  refine lv_aload_n hx hb dX2_reset_17 rfl (lv_at hl 0 rfl) ?_
  refine lv_iconst (v := 0) hx hb dX2_reset_18 (by decide) ?_
  refine r_put (fs' := [.int 10, .int 10, .int 0, .int 0, .int x4, .int x5, .int x6, .int x7]) cX inX2 tyX2 tyX2_ok nmX2 hw (mu_at _ _ _) rfl 3 (by decide) wF_X2_21 rfl rfl rfl rfl (Nat.le_of_ble_eq_true rfl) dX2_reset_19 (fun H locs hw => ?_)
  rw [mu_mu] at hw
  refine lv_aload_n hx hb dX2_reset_22 rfl (lv_at hl 0 rfl) ?_
  refine lv_iconst (v := 0) hx hb dX2_reset_23 (by decide) ?_
  refine r_put (fs' := [.int 10, .int 10, .int 0, .int 0, .int 0, .int x5, .int x6, .int x7]) cX inX2 tyX2 tyX2_ok nmX2 hw (mu_at _ _ _) rfl 4 (by decide) wF_X2_24 rfl rfl rfl rfl (Nat.le_of_ble_eq_true rfl) dX2_reset_24 (fun H locs hw => ?_)
  rw [mu_mu] at hw
  refine lv_aload_n hx hb dX2_reset_27 rfl (lv_at hl 0 rfl) ?_
  refine lv_iconst (v := 0) hx hb dX2_reset_28 (by decide) ?_
  refine r_put (fs' := [.int 10, .int 10, .int 0, .int 0, .int 0, .int 0, .int x6, .int x7]) cX inX2 tyX2 tyX2_ok nmX2 hw (mu_at _ _ _) rfl 5 (by decide) wF_X2_27 rfl rfl rfl rfl (Nat.le_of_ble_eq_true rfl) dX2_reset_29 (fun H locs hw => ?_)
  rw [mu_mu] at hw
  refine lv_aload_n hx hb dX2_reset_32 rfl (lv_at hl 0 rfl) ?_
  refine lv_iconst (v := 0) hx hb dX2_reset_33 (by decide) ?_
  refine r_put (fs' := [.int 10, .int 10, .int 0, .int 0, .int 0, .int 0, .int 0, .int x7]) cX inX2 tyX2 tyX2_ok nmX2 hw (mu_at _ _ _) rfl 6 (by decide) wF_X2_30 rfl rfl rfl rfl (Nat.le_of_ble_eq_true rfl) dX2_reset_34 (fun H locs hw => ?_)
  rw [mu_mu] at hw
  refine lv_aload_n hx hb dX2_reset_37 rfl (lv_at hl 0 rfl) ?_
  refine lv_iconst (v := 0) hx hb dX2_reset_38 (by decide) ?_
  refine r_put (fs' := [.int 10, .int 10, .int 0, .int 0, .int 0, .int 0, .int 0, .int 0]) cX inX2 tyX2 tyX2_ok nmX2 hw (mu_at _ _ _) rfl 7 (by decide) wF_X2_33 rfl rfl rfl rfl (Nat.le_of_ble_eq_true rfl) dX2_reset_39 (fun H locs hw => ?_)
  rw [mu_mu] at hw
  exact r_vret cX hr hlocks hw rfl dX2_reset_42

set_option maxHeartbeats 4000000 in
set_option maxRecDepth 100000 in
theorem c_X2_copyFrom (l : Launch) (G : gG) {M : HM} {a : Nat} {x0 x1 x2 x3 x4 x5 x6 x7 : Int32} (hM : M a = some (.inr (2, [.int x0, .int x1, .int x2, .int x3, .int x4, .int x5, .int x6, .int x7]))) {b : Nat} {z0 z1 z2 z3 z4 z5 z6 z7 : Int32} (hB : M b = some (.inr (2, [.int z0, .int z1, .int z2, .int z3, .int z4, .int z5, .int z6, .int z7]))) (hba : b ≠ a) : Cv l yX2_copyFrom cX2_copyFrom 2 (rd 0 0 0) G [.ref a, .ref b] M (fun M' => M' = mu M a (.inr (2, [.int z0, .int z1, .int z2, .int z3, .int z4, .int z5, .int z6, .int z7]))) := by
  refine Cv.of (by decide) (Nat.le_of_ble_eq_true rfl) ?_
  intro p e s m args below meth c ls cX hw hlocks hr hnm hl
  have hx := cX.1
  have hb := cX.2.1
  have hl : lv_has ls 2 [(0, .ref a), (1, .ref b)] := hl
  refine lv_aload_n hx hb dX2_copyFrom_0 rfl (lv_at hl 0 rfl) ?_
  refine lv_aload_n hx hb dX2_copyFrom_1 rfl (lv_at hl 1 rfl) ?_
  refine r_get cX inX2 hw hB rfl 0 (by decide) wF_X2_9 rfl dX2_copyFrom_2 ?_
  refine r_put (fs' := [.int z0, .int x1, .int x2, .int x3, .int x4, .int x5, .int x6, .int x7]) cX inX2 tyX2 tyX2_ok nmX2 hw hM rfl 0 (by decide) wF_X2_9 rfl rfl rfl rfl (Nat.le_of_ble_eq_true rfl) dX2_copyFrom_5 (fun H locs hw => ?_)
  refine lv_aload_n hx hb dX2_copyFrom_8 rfl (lv_at hl 0 rfl) ?_
  refine lv_aload_n hx hb dX2_copyFrom_9 rfl (lv_at hl 1 rfl) ?_
  refine r_get cX inX2 hw ((mu_ne _ _ hba).trans hB) rfl 1 (by decide) wF_X2_15 rfl dX2_copyFrom_10 ?_
  refine r_put (fs' := [.int z0, .int z1, .int x2, .int x3, .int x4, .int x5, .int x6, .int x7]) cX inX2 tyX2 tyX2_ok nmX2 hw (mu_at _ _ _) rfl 1 (by decide) wF_X2_15 rfl rfl rfl rfl (Nat.le_of_ble_eq_true rfl) dX2_copyFrom_13 (fun H locs hw => ?_)
  rw [mu_mu] at hw
  refine lv_aload_n hx hb dX2_copyFrom_16 rfl (lv_at hl 0 rfl) ?_
  refine lv_aload_n hx hb dX2_copyFrom_17 rfl (lv_at hl 1 rfl) ?_
  refine r_get cX inX2 hw ((mu_ne _ _ hba).trans hB) rfl 2 (by decide) wF_X2_18 rfl dX2_copyFrom_18 ?_
  refine r_put (fs' := [.int z0, .int z1, .int z2, .int x3, .int x4, .int x5, .int x6, .int x7]) cX inX2 tyX2 tyX2_ok nmX2 hw (mu_at _ _ _) rfl 2 (by decide) wF_X2_18 rfl rfl rfl rfl (Nat.le_of_ble_eq_true rfl) dX2_copyFrom_21 (fun H locs hw => ?_)
  rw [mu_mu] at hw
  refine lv_aload_n hx hb dX2_copyFrom_24 rfl (lv_at hl 0 rfl) ?_
  refine lv_aload_n hx hb dX2_copyFrom_25 rfl (lv_at hl 1 rfl) ?_
  refine r_get cX inX2 hw ((mu_ne _ _ hba).trans hB) rfl 3 (by decide) wF_X2_21 rfl dX2_copyFrom_26 ?_
  refine r_put (fs' := [.int z0, .int z1, .int z2, .int z3, .int x4, .int x5, .int x6, .int x7]) cX inX2 tyX2 tyX2_ok nmX2 hw (mu_at _ _ _) rfl 3 (by decide) wF_X2_21 rfl rfl rfl rfl (Nat.le_of_ble_eq_true rfl) dX2_copyFrom_29 (fun H locs hw => ?_)
  rw [mu_mu] at hw
  refine lv_aload_n hx hb dX2_copyFrom_32 rfl (lv_at hl 0 rfl) ?_
  refine lv_aload_n hx hb dX2_copyFrom_33 rfl (lv_at hl 1 rfl) ?_
  refine r_get cX inX2 hw ((mu_ne _ _ hba).trans hB) rfl 4 (by decide) wF_X2_24 rfl dX2_copyFrom_34 ?_
  refine r_put (fs' := [.int z0, .int z1, .int z2, .int z3, .int z4, .int x5, .int x6, .int x7]) cX inX2 tyX2 tyX2_ok nmX2 hw (mu_at _ _ _) rfl 4 (by decide) wF_X2_24 rfl rfl rfl rfl (Nat.le_of_ble_eq_true rfl) dX2_copyFrom_37 (fun H locs hw => ?_)
  rw [mu_mu] at hw
  refine lv_aload_n hx hb dX2_copyFrom_40 rfl (lv_at hl 0 rfl) ?_
  refine lv_aload_n hx hb dX2_copyFrom_41 rfl (lv_at hl 1 rfl) ?_
  refine r_get cX inX2 hw ((mu_ne _ _ hba).trans hB) rfl 5 (by decide) wF_X2_27 rfl dX2_copyFrom_42 ?_
  refine r_put (fs' := [.int z0, .int z1, .int z2, .int z3, .int z4, .int z5, .int x6, .int x7]) cX inX2 tyX2 tyX2_ok nmX2 hw (mu_at _ _ _) rfl 5 (by decide) wF_X2_27 rfl rfl rfl rfl (Nat.le_of_ble_eq_true rfl) dX2_copyFrom_45 (fun H locs hw => ?_)
  rw [mu_mu] at hw
  refine lv_aload_n hx hb dX2_copyFrom_48 rfl (lv_at hl 0 rfl) ?_
  refine lv_aload_n hx hb dX2_copyFrom_49 rfl (lv_at hl 1 rfl) ?_
  refine r_get cX inX2 hw ((mu_ne _ _ hba).trans hB) rfl 6 (by decide) wF_X2_30 rfl dX2_copyFrom_50 ?_
  refine r_put (fs' := [.int z0, .int z1, .int z2, .int z3, .int z4, .int z5, .int z6, .int x7]) cX inX2 tyX2 tyX2_ok nmX2 hw (mu_at _ _ _) rfl 6 (by decide) wF_X2_30 rfl rfl rfl rfl (Nat.le_of_ble_eq_true rfl) dX2_copyFrom_53 (fun H locs hw => ?_)
  rw [mu_mu] at hw
  refine lv_aload_n hx hb dX2_copyFrom_56 rfl (lv_at hl 0 rfl) ?_
  refine lv_aload_n hx hb dX2_copyFrom_57 rfl (lv_at hl 1 rfl) ?_
  refine r_get cX inX2 hw ((mu_ne _ _ hba).trans hB) rfl 7 (by decide) wF_X2_33 rfl dX2_copyFrom_58 ?_
  refine r_put (fs' := [.int z0, .int z1, .int z2, .int z3, .int z4, .int z5, .int z6, .int z7]) cX inX2 tyX2 tyX2_ok nmX2 hw (mu_at _ _ _) rfl 7 (by decide) wF_X2_33 rfl rfl rfl rfl (Nat.le_of_ble_eq_true rfl) dX2_copyFrom_61 (fun H locs hw => ?_)
  rw [mu_mu] at hw
  exact r_vret cX hr hlocks hw rfl dX2_copyFrom_64

set_option maxHeartbeats 4000000 in
set_option maxRecDepth 100000 in
theorem c_X2_congestion (l : Launch) (G : gG) {M : HM} {a : Nat} {x0 x1 x2 x3 x4 x5 x6 x7 : Int32} (hM : M a = some (.inr (2, [.int x0, .int x1, .int x2, .int x3, .int x4, .int x5, .int x6, .int x7]))) : Ci l yX2_congestion cX2_congestion 2 .int (rd 1 0 0) G [.ref a] M (fun r M' => r = cg x3 x2 ∧ M' = M) := by
  refine Ci.of (by decide) (Nat.le_of_ble_eq_true rfl) ?_
  intro p e s m args below meth c ls cX hw hlocks hr hl
  have hx := cX.1
  have hb := cX.2.1
  have hl : lv_has ls 2 [(0, .ref a)] := hl
  refine lv_aload_n hx hb dX2_congestion_0 rfl (lv_at hl 0 rfl) ?_
  refine r_get cX inX2 hw hM rfl 3 (by decide) wF_X2_21 rfl dX2_congestion_1 ?_
  refine lv_bipush (v := 64) hx hb dX2_congestion_4 (by decide) ?_
  refine lv_idiv hx hb dX2_congestion_6 (by decide) ?_
  refine lv_bipush (v := 7) hx hb dX2_congestion_7 (by decide) ?_
  refine r_mmin (own := RX2) (index := 36) cX hl.1 wM_X2_36 (Nat.le_of_ble_eq_true rfl) (Nat.le_of_ble_eq_true rfl) (Nat.zero_le _) (Nat.zero_le _) dX2_congestion_9 ?_
  refine lv_istore_n (lv' := [(1, .int (if 7 < x3 / 64 then 7 else x3 / 64)), (0, .ref a)]) hx hb dX2_congestion_12 rfl hl (by decide) rfl (fun ls hl => ?_)
  refine lv_iload_n hx hb dX2_congestion_13 rfl (lv_at hl 0 rfl) ?_
  refine lv_aload_n hx hb dX2_congestion_14 rfl (lv_at hl 1 rfl) ?_
  refine r_get cX inX2 hw hM rfl 2 (by decide) wF_X2_18 rfl dX2_congestion_15 ?_
  refine r_mmax (own := RX2) (index := 42) cX hl.1 wM_X2_42 (Nat.le_of_ble_eq_true rfl) (Nat.le_of_ble_eq_true rfl) (Nat.zero_le _) (Nat.zero_le _) dX2_congestion_18 ?_
  exact r_iret cX hr hlocks hw ⟨rfl, rfl⟩ dX2_congestion_21

set_option maxHeartbeats 4000000 in
set_option maxRecDepth 100000 in
theorem c_X2_decay (l : Launch) (G : gG) {M : HM} {a : Nat} {x0 x1 x2 x3 x4 x5 x6 x7 : Int32} (hM : M a = some (.inr (2, [.int x0, .int x1, .int x2, .int x3, .int x4, .int x5, .int x6, .int x7]))) (sh : Int32) : Cv l yX2_decay cX2_decay 2 (rd 0 0 0) G [.ref a, .int sh] M (fun M' => M' = mu M a (.inr (2, [.int x0, .int x1, .int x2, .int (x3 - x3 >>> (sh &&& 31)), .int x4, .int x5, .int x6, .int x7]))) := by
  refine Cv.of (by decide) (Nat.le_of_ble_eq_true rfl) ?_
  intro p e s m args below meth c ls cX hw hlocks hr hnm hl
  have hx := cX.1
  have hb := cX.2.1
  have hl : lv_has ls 2 [(0, .ref a), (1, .int sh)] := hl
  refine lv_aload_n hx hb dX2_decay_0 rfl (lv_at hl 0 rfl) ?_
  refine lv_dup hx hb dX2_decay_1 rfl ?_
  refine r_get cX inX2 hw hM rfl 3 (by decide) wF_X2_21 rfl dX2_decay_2 ?_
  refine lv_aload_n hx hb dX2_decay_5 rfl (lv_at hl 0 rfl) ?_
  refine r_get cX inX2 hw hM rfl 3 (by decide) wF_X2_21 rfl dX2_decay_6 ?_
  refine lv_iload_n hx hb dX2_decay_9 rfl (lv_at hl 1 rfl) ?_
  refine lv_ishr hx hb dX2_decay_10 ?_
  refine lv_isub hx hb dX2_decay_11 ?_
  refine r_put (fs' := [.int x0, .int x1, .int x2, .int (x3 - (x3 >>> (sh &&& 31))), .int x4, .int x5, .int x6, .int x7]) cX inX2 tyX2 tyX2_ok nmX2 hw hM rfl 3 (by decide) wF_X2_21 rfl rfl rfl rfl (Nat.le_of_ble_eq_true rfl) dX2_decay_12 (fun H locs hw => ?_)
  exact r_vret cX hr hlocks hw rfl dX2_decay_15

set_option maxHeartbeats 4000000 in
set_option maxRecDepth 100000 in
theorem c_X2_waitAt (l : Launch) (G : gG) {M : HM} {a : Nat} {x0 x1 x2 x3 x4 x5 x6 x7 : Int32} (hM : M a = some (.inr (2, [.int x0, .int x1, .int x2, .int x3, .int x4, .int x5, .int x6, .int x7]))) (t : Int32) : Ci l yX2_waitAt cX2_waitAt 2 .int (rd 1 0 0) G [.ref a, .int t] M (fun r M' => r = wt x4 t ∧ M' = M) := by
  refine Ci.of (by decide) (Nat.le_of_ble_eq_true rfl) ?_
  intro p e s m args below meth c ls cX hw hlocks hr hl
  have hx := cX.1
  have hb := cX.2.1
  have hl : lv_has ls 2 [(0, .ref a), (1, .int t)] := hl
  refine lv_aload_n hx hb dX2_waitAt_0 rfl (lv_at hl 0 rfl) ?_
  refine r_get cX inX2 hw hM rfl 4 (by decide) wF_X2_24 rfl dX2_waitAt_1 ?_
  refine lv_iload_n hx hb dX2_waitAt_4 rfl (lv_at hl 1 rfl) ?_
  refine lv_isub hx hb dX2_waitAt_5 ?_
  refine lv_iconst (v := 0) hx hb dX2_waitAt_6 (by decide) ?_
  refine r_mmax (own := RX2) (index := 42) cX hl.1 wM_X2_42 (Nat.le_of_ble_eq_true rfl) (Nat.le_of_ble_eq_true rfl) (Nat.zero_le _) (Nat.zero_le _) dX2_waitAt_7 ?_
  exact r_iret cX hr hlocks hw ⟨rfl, rfl⟩ dX2_waitAt_10

set_option maxHeartbeats 4000000 in
set_option maxRecDepth 100000 in
theorem c_X2_dropsAt (l : Launch) (G : gG) {M : HM} {a : Nat} {x0 x1 x2 x3 x4 x5 x6 x7 : Int32} (hM : M a = some (.inr (2, [.int x0, .int x1, .int x2, .int x3, .int x4, .int x5, .int x6, .int x7]))) (t : Int32) : Ci l yX2_dropsAt cX2_dropsAt 2 .boolean (rd 2 0 0) G [.ref a, .int t] M (fun r M' => r = (if 200 < wt x4 t then 1 else 0) ∧ M' = M) := by
  refine Ci.of (by decide) (Nat.le_of_ble_eq_true rfl) ?_
  intro p e s m args below meth c ls cX hw hlocks hr hl
  have hx := cX.1
  have hb := cX.2.1
  have hl : lv_has ls 2 [(0, .ref a), (1, .int t)] := hl
  refine lv_aload_n hx hb dX2_dropsAt_0 rfl (lv_at hl 0 rfl) ?_
  refine lv_iload_n hx hb dX2_dropsAt_1 rfl (lv_at hl 1 rfl) ?_
  refine r_Vi cX hw hM rfl [.int t] (c_X2_waitAt l G hM t) wM_X2_45 mw_X2_waitAt ⟨Nat.le_of_ble_eq_true rfl, Nat.le_of_ble_eq_true rfl⟩ rfl rfl hl.1 (Nat.le_of_ble_eq_true rfl) dX2_dropsAt_2 ⟨Nat.le_of_ble_eq_true rfl, Nat.le_of_ble_eq_true rfl⟩ (fun r M1 H locs hp hw => ?_)
  obtain ⟨rfl, rfl⟩ := hp
  refine lv_sipush (v := 200) hx hb dX2_dropsAt_5 (by decide) ?_
  refine lv_icmp_le (tgt := 15) hx hb dX2_dropsAt_8 (by decide) (fun c8 => ?_) (fun c8 => ?_)
  · refine lv_iconst (v := 0) hx hb dX2_dropsAt_15 (by decide) ?_
    exact r_zret cX hr hlocks rfl hw ⟨by first | exact (if_pos (by first | exact c8 | exact Int32.not_le.mp c8)).symm | exact (if_neg (by first | exact c8 | exact Int32.not_lt.mpr c8)).symm, rfl⟩ dX2_dropsAt_16
  · refine lv_iconst (v := 1) hx hb dX2_dropsAt_11 (by decide) ?_
    refine lv_goto (tgt := 16) hx hb dX2_dropsAt_12 (by decide) ?_
    exact r_zret cX hr hlocks rfl hw ⟨by first | exact (if_pos (by first | exact c8 | exact Int32.not_le.mp c8)).symm | exact (if_neg (by first | exact c8 | exact Int32.not_lt.mpr c8)).symm, rfl⟩ dX2_dropsAt_16

set_option maxHeartbeats 4000000 in
set_option maxRecDepth 100000 in
theorem c_X2_ticksToTransmit (l : Launch) (G : gG) {M : HM} {a : Nat} {x0 x1 x2 x3 x4 x5 x6 x7 : Int32} (hM : M a = some (.inr (2, [.int x0, .int x1, .int x2, .int x3, .int x4, .int x5, .int x6, .int x7]))) (size : Int32) (hx1 : ¬ x1 = 0) : Ci l yX2_ticksToTransmit cX2_ticksToTransmit 2 .int (rd 0 0 0) G [.ref a, .int size] M (fun r M' => r = tk size x1 ∧ M' = M) := by
  refine Ci.of (by decide) (Nat.le_of_ble_eq_true rfl) ?_
  intro p e s m args below meth c ls cX hw hlocks hr hl
  have hx := cX.1
  have hb := cX.2.1
  have hl : lv_has ls 2 [(0, .ref a), (1, .int size)] := hl
  refine lv_iload_n hx hb dX2_ticksToTransmit_0 rfl (lv_at hl 1 rfl) ?_
  refine lv_aload_n hx hb dX2_ticksToTransmit_1 rfl (lv_at hl 0 rfl) ?_
  refine r_get cX inX2 hw hM rfl 1 (by decide) wF_X2_15 rfl dX2_ticksToTransmit_2 ?_
  refine lv_iadd hx hb dX2_ticksToTransmit_5 ?_
  refine lv_iconst (v := 1) hx hb dX2_ticksToTransmit_6 (by decide) ?_
  refine lv_isub hx hb dX2_ticksToTransmit_7 ?_
  refine lv_aload_n hx hb dX2_ticksToTransmit_8 rfl (lv_at hl 0 rfl) ?_
  refine r_get cX inX2 hw hM rfl 1 (by decide) wF_X2_15 rfl dX2_ticksToTransmit_9 ?_
  refine lv_idiv hx hb dX2_ticksToTransmit_12 hx1 ?_
  exact r_iret cX hr hlocks hw ⟨rfl, rfl⟩ dX2_ticksToTransmit_13

set_option maxHeartbeats 4000000 in
set_option maxRecDepth 100000 in
theorem c_X2_ticksToArrive (l : Launch) (G : gG) {M : HM} {a : Nat} {x0 x1 x2 x3 x4 x5 x6 x7 : Int32} (hM : M a = some (.inr (2, [.int x0, .int x1, .int x2, .int x3, .int x4, .int x5, .int x6, .int x7]))) (t size : Int32) (hx1 : ¬ x1 = 0) : Ci l yX2_ticksToArrive cX2_ticksToArrive 3 .int (rd 2 0 0) G [.ref a, .int t, .int size] M (fun r M' => r = wt x4 t + tk size x1 + x0 ∧ M' = M) := by
  refine Ci.of (by decide) (Nat.le_of_ble_eq_true rfl) ?_
  intro p e s m args below meth c ls cX hw hlocks hr hl
  have hx := cX.1
  have hb := cX.2.1
  have hl : lv_has ls 3 [(0, .ref a), (1, .int t), (2, .int size)] := hl
  refine lv_aload_n hx hb dX2_ticksToArrive_0 rfl (lv_at hl 0 rfl) ?_
  refine lv_iload_n hx hb dX2_ticksToArrive_1 rfl (lv_at hl 1 rfl) ?_
  refine r_Vi cX hw hM rfl [.int t] (c_X2_waitAt l G hM t) wM_X2_45 mw_X2_waitAt ⟨Nat.le_of_ble_eq_true rfl, Nat.le_of_ble_eq_true rfl⟩ rfl rfl hl.1 (Nat.le_of_ble_eq_true rfl) dX2_ticksToArrive_2 ⟨Nat.le_of_ble_eq_true rfl, Nat.le_of_ble_eq_true rfl⟩ (fun r M1 H locs hp hw => ?_)
  obtain ⟨rfl, rfl⟩ := hp
  refine lv_aload_n hx hb dX2_ticksToArrive_5 rfl (lv_at hl 0 rfl) ?_
  refine lv_iload_n hx hb dX2_ticksToArrive_6 rfl (lv_at hl 2 rfl) ?_
  refine r_Vi cX hw hM rfl [.int size] (c_X2_ticksToTransmit l G hM size hx1) wM_X2_49 mw_X2_ticksToTransmit ⟨Nat.le_of_ble_eq_true rfl, Nat.le_of_ble_eq_true rfl⟩ rfl rfl hl.1 (Nat.le_of_ble_eq_true rfl) dX2_ticksToArrive_7 ⟨Nat.le_of_ble_eq_true rfl, Nat.le_of_ble_eq_true rfl⟩ (fun r M1 H locs hp hw => ?_)
  obtain ⟨rfl, rfl⟩ := hp
  refine lv_iadd hx hb dX2_ticksToArrive_10 ?_
  refine lv_aload_n hx hb dX2_ticksToArrive_11 rfl (lv_at hl 0 rfl) ?_
  refine r_get cX inX2 hw hM rfl 0 (by decide) wF_X2_9 rfl dX2_ticksToArrive_12 ?_
  refine lv_iadd hx hb dX2_ticksToArrive_15 ?_
  exact r_iret cX hr hlocks hw ⟨rfl, rfl⟩ dX2_ticksToArrive_16

set_option maxHeartbeats 4000000 in
set_option maxRecDepth 100000 in
theorem c_X2_transmit (l : Launch) (G : gG) {M : HM} {a : Nat} {x0 x1 x2 x3 x4 x5 x6 x7 : Int32} (hM : M a = some (.inr (2, [.int x0, .int x1, .int x2, .int x3, .int x4, .int x5, .int x6, .int x7]))) (t size : Int32) (hx1 : ¬ x1 = 0) : Cv l yX2_transmit cX2_transmit 3 (rd 2 0 0) G [.ref a, .int t, .int size] M (fun M' => M' = mu M a (.inr (2, [.int x0, .int x1, .int x2, .int (x3 + size), .int (t + wt x4 t + tk size x1), .int (x5 + 1), .int (x6 + size), .int x7]))) := by
  refine Cv.of (by decide) (Nat.le_of_ble_eq_true rfl) ?_
  intro p e s m args below meth c ls cX hw hlocks hr hnm hl
  have hx := cX.1
  have hb := cX.2.1
  have hl : lv_has ls 3 [(0, .ref a), (1, .int t), (2, .int size)] := hl
  refine lv_aload_n hx hb dX2_transmit_0 rfl (lv_at hl 0 rfl) ?_
  refine lv_iload_n hx hb dX2_transmit_1 rfl (lv_at hl 1 rfl) ?_
  refine lv_aload_n hx hb dX2_transmit_2 rfl (lv_at hl 0 rfl) ?_
  refine lv_iload_n hx hb dX2_transmit_3 rfl (lv_at hl 1 rfl) ?_
  refine r_Vi cX hw hM rfl [.int t] (c_X2_waitAt l G hM t) wM_X2_45 mw_X2_waitAt ⟨Nat.le_of_ble_eq_true rfl, Nat.le_of_ble_eq_true rfl⟩ rfl rfl hl.1 (Nat.le_of_ble_eq_true rfl) dX2_transmit_4 ⟨Nat.le_of_ble_eq_true rfl, Nat.le_of_ble_eq_true rfl⟩ (fun r M1 H locs hp hw => ?_)
  obtain ⟨rfl, rfl⟩ := hp
  refine lv_iadd hx hb dX2_transmit_7 ?_
  refine lv_aload_n hx hb dX2_transmit_8 rfl (lv_at hl 0 rfl) ?_
  refine lv_iload_n hx hb dX2_transmit_9 rfl (lv_at hl 2 rfl) ?_
  refine r_Vi cX hw hM rfl [.int size] (c_X2_ticksToTransmit l G hM size hx1) wM_X2_49 mw_X2_ticksToTransmit ⟨Nat.le_of_ble_eq_true rfl, Nat.le_of_ble_eq_true rfl⟩ rfl rfl hl.1 (Nat.le_of_ble_eq_true rfl) dX2_transmit_10 ⟨Nat.le_of_ble_eq_true rfl, Nat.le_of_ble_eq_true rfl⟩ (fun r M1 H locs hp hw => ?_)
  obtain ⟨rfl, rfl⟩ := hp
  refine lv_iadd hx hb dX2_transmit_13 ?_
  refine r_put (fs' := [.int x0, .int x1, .int x2, .int x3, .int ((t + (wt x4 t)) + (tk size x1)), .int x5, .int x6, .int x7]) cX inX2 tyX2 tyX2_ok nmX2 hw hM rfl 4 (by decide) wF_X2_24 rfl rfl rfl rfl (Nat.le_of_ble_eq_true rfl) dX2_transmit_14 (fun H locs hw => ?_)
  refine lv_aload_n hx hb dX2_transmit_17 rfl (lv_at hl 0 rfl) ?_
  refine lv_dup hx hb dX2_transmit_18 rfl ?_
  refine r_get cX inX2 hw (mu_at _ _ _) rfl 3 (by decide) wF_X2_21 rfl dX2_transmit_19 ?_
  refine lv_iload_n hx hb dX2_transmit_22 rfl (lv_at hl 2 rfl) ?_
  refine lv_iadd hx hb dX2_transmit_23 ?_
  refine r_put (fs' := [.int x0, .int x1, .int x2, .int (x3 + size), .int ((t + (wt x4 t)) + (tk size x1)), .int x5, .int x6, .int x7]) cX inX2 tyX2 tyX2_ok nmX2 hw (mu_at _ _ _) rfl 3 (by decide) wF_X2_21 rfl rfl rfl rfl (Nat.le_of_ble_eq_true rfl) dX2_transmit_24 (fun H locs hw => ?_)
  rw [mu_mu] at hw
  refine lv_aload_n hx hb dX2_transmit_27 rfl (lv_at hl 0 rfl) ?_
  refine lv_dup hx hb dX2_transmit_28 rfl ?_
  refine r_get cX inX2 hw (mu_at _ _ _) rfl 5 (by decide) wF_X2_27 rfl dX2_transmit_29 ?_
  refine lv_iconst (v := 1) hx hb dX2_transmit_32 (by decide) ?_
  refine lv_iadd hx hb dX2_transmit_33 ?_
  refine r_put (fs' := [.int x0, .int x1, .int x2, .int (x3 + size), .int ((t + (wt x4 t)) + (tk size x1)), .int (x5 + 1), .int x6, .int x7]) cX inX2 tyX2 tyX2_ok nmX2 hw (mu_at _ _ _) rfl 5 (by decide) wF_X2_27 rfl rfl rfl rfl (Nat.le_of_ble_eq_true rfl) dX2_transmit_34 (fun H locs hw => ?_)
  rw [mu_mu] at hw
  refine lv_aload_n hx hb dX2_transmit_37 rfl (lv_at hl 0 rfl) ?_
  refine lv_dup hx hb dX2_transmit_38 rfl ?_
  refine r_get cX inX2 hw (mu_at _ _ _) rfl 6 (by decide) wF_X2_30 rfl dX2_transmit_39 ?_
  refine lv_iload_n hx hb dX2_transmit_42 rfl (lv_at hl 2 rfl) ?_
  refine lv_iadd hx hb dX2_transmit_43 ?_
  refine r_put (fs' := [.int x0, .int x1, .int x2, .int (x3 + size), .int ((t + (wt x4 t)) + (tk size x1)), .int (x5 + 1), .int (x6 + size), .int x7]) cX inX2 tyX2 tyX2_ok nmX2 hw (mu_at _ _ _) rfl 6 (by decide) wF_X2_30 rfl rfl rfl rfl (Nat.le_of_ble_eq_true rfl) dX2_transmit_44 (fun H locs hw => ?_)
  rw [mu_mu] at hw
  exact r_vret cX hr hlocks hw rfl dX2_transmit_47

set_option maxHeartbeats 4000000 in
set_option maxRecDepth 100000 in
theorem c_X0_reset (l : Launch) (G : gG) {M : HM} {a : Nat} {y0 y1 y2 y3 : Int32} (hM : M a = some (.inr (0, [.int y0, .int y1, .int y2, .int y3]))) : Cv l yX0_reset cX0_reset 1 (rd 0 0 0) G [.ref a] M (fun M' => M' = mu M a (.inr (0, [.int 0, .int (-9), .int 0, .int 0]))) := by
  refine Cv.of (by decide) (Nat.le_of_ble_eq_true rfl) ?_
  intro p e s m args below meth c ls cX hw hlocks hr hnm hl
  have hx := cX.1
  have hb := cX.2.1
  have hl : lv_has ls 1 [(0, .ref a)] := hl
  refine lv_aload_n hx hb dX0_reset_0 rfl (lv_at hl 0 rfl) ?_
  refine lv_iconst (v := 0) hx hb dX0_reset_1 (by decide) ?_
  refine r_put (fs' := [.int 0, .int y1, .int y2, .int y3]) cX inX0 tyX0 tyX0_ok nmX0 hw hM rfl 0 (by decide) wF_X0_9 rfl rfl rfl rfl (Nat.le_of_ble_eq_true rfl) dX0_reset_2 (fun H locs hw => ?_)
  refine lv_aload_n hx hb dX0_reset_5 rfl (lv_at hl 0 rfl) ?_
  refine lv_bipush (v := (-9)) hx hb dX0_reset_6 (by decide) ?_
  refine r_put (fs' := [.int 0, .int (-9), .int y2, .int y3]) cX inX0 tyX0 tyX0_ok nmX0 hw (mu_at _ _ _) rfl 1 (by decide) wF_X0_15 rfl rfl rfl rfl (Nat.le_of_ble_eq_true rfl) dX0_reset_8 (fun H locs hw => ?_)
  rw [mu_mu] at hw
  refine lv_aload_n hx hb dX0_reset_11 rfl (lv_at hl 0 rfl) ?_
  refine lv_iconst (v := 0) hx hb dX0_reset_12 (by decide) ?_
  refine r_put (fs' := [.int 0, .int (-9), .int 0, .int y3]) cX inX0 tyX0 tyX0_ok nmX0 hw (mu_at _ _ _) rfl 2 (by decide) wF_X0_19 rfl rfl rfl rfl (Nat.le_of_ble_eq_true rfl) dX0_reset_13 (fun H locs hw => ?_)
  rw [mu_mu] at hw
  refine lv_aload_n hx hb dX0_reset_16 rfl (lv_at hl 0 rfl) ?_
  refine lv_iconst (v := 0) hx hb dX0_reset_17 (by decide) ?_
  refine r_put (fs' := [.int 0, .int (-9), .int 0, .int 0]) cX inX0 tyX0 tyX0_ok nmX0 hw (mu_at _ _ _) rfl 3 (by decide) wF_X0_22 rfl rfl rfl rfl (Nat.le_of_ble_eq_true rfl) dX0_reset_18 (fun H locs hw => ?_)
  rw [mu_mu] at hw
  exact r_vret cX hr hlocks hw rfl dX0_reset_21

set_option maxHeartbeats 4000000 in
set_option maxRecDepth 100000 in
theorem c_X0_copyFrom (l : Launch) (G : gG) {M : HM} {a : Nat} {y0 y1 y2 y3 : Int32} (hM : M a = some (.inr (0, [.int y0, .int y1, .int y2, .int y3]))) {b : Nat} {z0 z1 z2 z3 : Int32} (hB : M b = some (.inr (0, [.int z0, .int z1, .int z2, .int z3]))) (hba : b ≠ a) (hz : z0 = 0 ∨ z0 = 1) : Cv l yX0_copyFrom cX0_copyFrom 2 (rd 0 0 0) G [.ref a, .ref b] M (fun M' => M' = mu M a (.inr (0, [.int z0, .int z1, .int z2, .int z3]))) := by
  refine Cv.of (by decide) (Nat.le_of_ble_eq_true rfl) ?_
  intro p e s m args below meth c ls cX hw hlocks hr hnm hl
  have hx := cX.1
  have hb := cX.2.1
  have hl : lv_has ls 2 [(0, .ref a), (1, .ref b)] := hl
  refine lv_aload_n hx hb dX0_copyFrom_0 rfl (lv_at hl 0 rfl) ?_
  refine lv_aload_n hx hb dX0_copyFrom_1 rfl (lv_at hl 1 rfl) ?_
  refine r_get cX inX0 hw hB rfl 0 (by decide) wF_X0_9 rfl dX0_copyFrom_2 ?_
  refine r_put (fs' := [.int z0, .int y1, .int y2, .int y3]) cX inX0 tyX0 tyX0_ok nmX0 hw hM rfl 0 (by decide) wF_X0_9 rfl (z01n hz) (z01f hz) rfl (Nat.le_of_ble_eq_true rfl) dX0_copyFrom_5 (fun H locs hw => ?_)
  refine lv_aload_n hx hb dX0_copyFrom_8 rfl (lv_at hl 0 rfl) ?_
  refine lv_aload_n hx hb dX0_copyFrom_9 rfl (lv_at hl 1 rfl) ?_
  refine r_get cX inX0 hw ((mu_ne _ _ hba).trans hB) rfl 1 (by decide) wF_X0_15 rfl dX0_copyFrom_10 ?_
  refine r_put (fs' := [.int z0, .int z1, .int y2, .int y3]) cX inX0 tyX0 tyX0_ok nmX0 hw (mu_at _ _ _) rfl 1 (by decide) wF_X0_15 rfl rfl rfl rfl (Nat.le_of_ble_eq_true rfl) dX0_copyFrom_13 (fun H locs hw => ?_)
  rw [mu_mu] at hw
  refine lv_aload_n hx hb dX0_copyFrom_16 rfl (lv_at hl 0 rfl) ?_
  refine lv_aload_n hx hb dX0_copyFrom_17 rfl (lv_at hl 1 rfl) ?_
  refine r_get cX inX0 hw ((mu_ne _ _ hba).trans hB) rfl 2 (by decide) wF_X0_19 rfl dX0_copyFrom_18 ?_
  refine r_put (fs' := [.int z0, .int z1, .int z2, .int y3]) cX inX0 tyX0 tyX0_ok nmX0 hw (mu_at _ _ _) rfl 2 (by decide) wF_X0_19 rfl rfl rfl rfl (Nat.le_of_ble_eq_true rfl) dX0_copyFrom_21 (fun H locs hw => ?_)
  rw [mu_mu] at hw
  refine lv_aload_n hx hb dX0_copyFrom_24 rfl (lv_at hl 0 rfl) ?_
  refine lv_aload_n hx hb dX0_copyFrom_25 rfl (lv_at hl 1 rfl) ?_
  refine r_get cX inX0 hw ((mu_ne _ _ hba).trans hB) rfl 3 (by decide) wF_X0_22 rfl dX0_copyFrom_26 ?_
  refine r_put (fs' := [.int z0, .int z1, .int z2, .int z3]) cX inX0 tyX0 tyX0_ok nmX0 hw (mu_at _ _ _) rfl 3 (by decide) wF_X0_22 rfl rfl rfl rfl (Nat.le_of_ble_eq_true rfl) dX0_copyFrom_29 (fun H locs hw => ?_)
  rw [mu_mu] at hw
  exact r_vret cX hr hlocks hw rfl dX0_copyFrom_32

set_option maxHeartbeats 4000000 in
set_option maxRecDepth 100000 in
theorem c_X0_isUnused (l : Launch) (G : gG) {M : HM} {a : Nat} {y0 y1 y2 y3 : Int32} (hM : M a = some (.inr (0, [.int y0, .int y1, .int y2, .int y3]))) : Ci l yX0_isUnused cX0_isUnused 1 .boolean (rd 0 0 0) G [.ref a] M (fun r M' => r = (if y1 = -9 then 1 else 0) ∧ M' = M) := by
  refine Ci.of (by decide) (Nat.le_of_ble_eq_true rfl) ?_
  intro p e s m args below meth c ls cX hw hlocks hr hl
  have hx := cX.1
  have hb := cX.2.1
  have hl : lv_has ls 1 [(0, .ref a)] := hl
  refine lv_aload_n hx hb dX0_isUnused_0 rfl (lv_at hl 0 rfl) ?_
  refine r_get cX inX0 hw hM rfl 1 (by decide) wF_X0_15 rfl dX0_isUnused_1 ?_
  refine lv_bipush (v := (-9)) hx hb dX0_isUnused_4 (by decide) ?_
  refine lv_icmp_ne (tgt := 13) hx hb dX0_isUnused_6 (by decide) (fun c6 => ?_) (fun c6 => ?_)
  · refine lv_iconst (v := 0) hx hb dX0_isUnused_13 (by decide) ?_
    exact r_zret cX hr hlocks rfl hw ⟨by simp [c6], rfl⟩ dX0_isUnused_14
  · refine lv_iconst (v := 1) hx hb dX0_isUnused_9 (by decide) ?_
    refine lv_goto (tgt := 14) hx hb dX0_isUnused_10 (by decide) ?_
    exact r_zret cX hr hlocks rfl hw ⟨by simp [c6], rfl⟩ dX0_isUnused_14

set_option maxHeartbeats 4000000 in
set_option maxRecDepth 100000 in
theorem c_X0_take (l : Launch) (G : gG) {M : HM} {a : Nat} {y0 y1 y2 y3 : Int32} (hM : M a = some (.inr (0, [.int y0, .int y1, .int y2, .int y3]))) (np t : Int32) : Cv l yX0_take cX0_take 3 (rd 0 0 0) G [.ref a, .int np, .int t] M (fun M' => M' = mu M a (.inr (0, [.int 1, .int np, .int t, .int 0]))) := by
  refine Cv.of (by decide) (Nat.le_of_ble_eq_true rfl) ?_
  intro p e s m args below meth c ls cX hw hlocks hr hnm hl
  have hx := cX.1
  have hb := cX.2.1
  have hl : lv_has ls 3 [(0, .ref a), (1, .int np), (2, .int t)] := hl
  refine lv_aload_n hx hb dX0_take_0 rfl (lv_at hl 0 rfl) ?_
  refine lv_iconst (v := 1) hx hb dX0_take_1 (by decide) ?_
  refine r_put (fs' := [.int 1, .int y1, .int y2, .int y3]) cX inX0 tyX0 tyX0_ok nmX0 hw hM rfl 0 (by decide) wF_X0_9 rfl rfl rfl rfl (Nat.le_of_ble_eq_true rfl) dX0_take_2 (fun H locs hw => ?_)
  refine lv_aload_n hx hb dX0_take_5 rfl (lv_at hl 0 rfl) ?_
  refine lv_iload_n hx hb dX0_take_6 rfl (lv_at hl 1 rfl) ?_
  refine r_put (fs' := [.int 1, .int np, .int y2, .int y3]) cX inX0 tyX0 tyX0_ok nmX0 hw (mu_at _ _ _) rfl 1 (by decide) wF_X0_15 rfl rfl rfl rfl (Nat.le_of_ble_eq_true rfl) dX0_take_7 (fun H locs hw => ?_)
  rw [mu_mu] at hw
  refine lv_aload_n hx hb dX0_take_10 rfl (lv_at hl 0 rfl) ?_
  refine lv_iload_n hx hb dX0_take_11 rfl (lv_at hl 2 rfl) ?_
  refine r_put (fs' := [.int 1, .int np, .int t, .int y3]) cX inX0 tyX0 tyX0_ok nmX0 hw (mu_at _ _ _) rfl 2 (by decide) wF_X0_19 rfl rfl rfl rfl (Nat.le_of_ble_eq_true rfl) dX0_take_12 (fun H locs hw => ?_)
  rw [mu_mu] at hw
  refine lv_aload_n hx hb dX0_take_15 rfl (lv_at hl 0 rfl) ?_
  refine lv_iconst (v := 0) hx hb dX0_take_16 (by decide) ?_
  refine r_put (fs' := [.int 1, .int np, .int t, .int 0]) cX inX0 tyX0 tyX0_ok nmX0 hw (mu_at _ _ _) rfl 3 (by decide) wF_X0_22 rfl rfl rfl rfl (Nat.le_of_ble_eq_true rfl) dX0_take_17 (fun H locs hw => ?_)
  rw [mu_mu] at hw
  exact r_vret cX hr hlocks hw rfl dX0_take_20

set_option maxHeartbeats 4000000 in
set_option maxRecDepth 100000 in
theorem c_X0_growOlder (l : Launch) (G : gG) {M : HM} {a : Nat} {y0 y1 y2 y3 : Int32} (hM : M a = some (.inr (0, [.int y0, .int y1, .int y2, .int y3]))) : Cv l yX0_growOlder cX0_growOlder 1 (rd 0 0 0) G [.ref a] M (fun M' => M' = (if ¬ y0 = 0 then (if y3 = 1 then mu M a (.inr (0, [.int 0, .int y1, .int y2, .int y3])) else mu M a (.inr (0, [.int y0, .int y1, .int y2, .int 1]))) else M)) := by
  refine Cv.of (by decide) (Nat.le_of_ble_eq_true rfl) ?_
  intro p e s m args below meth c ls cX hw hlocks hr hnm hl
  have hx := cX.1
  have hb := cX.2.1
  have hl : lv_has ls 1 [(0, .ref a)] := hl
  refine lv_aload_n hx hb dX0_growOlder_0 rfl (lv_at hl 0 rfl) ?_
  refine r_get cX inX0 hw hM rfl 0 (by decide) wF_X0_9 rfl dX0_growOlder_1 ?_
  refine lv_if_eq (tgt := 23) hx hb dX0_growOlder_4 (by decide) (fun c4 => ?_) (fun c4 => ?_)
  · refine lv_aload_n hx hb dX0_growOlder_23 rfl (lv_at hl 0 rfl) ?_
    refine r_get cX inX0 hw hM rfl 0 (by decide) wF_X0_9 rfl dX0_growOlder_24 ?_
    refine lv_if_eq (tgt := 35) hx hb dX0_growOlder_27 (by decide) (fun c27 => ?_) (fun c27 => ?_)
    · exact r_vret cX hr hlocks hw (by simp_all) dX0_growOlder_35
    · refine lv_aload_n hx hb dX0_growOlder_30 rfl (lv_at hl 0 rfl) ?_
      refine lv_iconst (v := 1) hx hb dX0_growOlder_31 (by decide) ?_
      refine r_put (fs' := [.int y0, .int y1, .int y2, .int 1]) cX inX0 tyX0 tyX0_ok nmX0 hw hM rfl 3 (by decide) wF_X0_22 rfl rfl rfl rfl (Nat.le_of_ble_eq_true rfl) dX0_growOlder_32 (fun H locs hw => ?_)
      exact r_vret cX hr hlocks hw (by simp_all) dX0_growOlder_35
  · refine lv_aload_n hx hb dX0_growOlder_7 rfl (lv_at hl 0 rfl) ?_
    refine r_get cX inX0 hw hM rfl 3 (by decide) wF_X0_22 rfl dX0_growOlder_8 ?_
    refine lv_iconst (v := 1) hx hb dX0_growOlder_11 (by decide) ?_
    refine lv_icmp_ne (tgt := 23) hx hb dX0_growOlder_12 (by decide) (fun c12 => ?_) (fun c12 => ?_)
    · refine lv_aload_n hx hb dX0_growOlder_23 rfl (lv_at hl 0 rfl) ?_
      refine r_get cX inX0 hw hM rfl 0 (by decide) wF_X0_9 rfl dX0_growOlder_24 ?_
      refine lv_if_eq (tgt := 35) hx hb dX0_growOlder_27 (by decide) (fun c27 => ?_) (fun c27 => ?_)
      · exact r_vret cX hr hlocks hw (by simp_all) dX0_growOlder_35
      · refine lv_aload_n hx hb dX0_growOlder_30 rfl (lv_at hl 0 rfl) ?_
        refine lv_iconst (v := 1) hx hb dX0_growOlder_31 (by decide) ?_
        refine r_put (fs' := [.int y0, .int y1, .int y2, .int 1]) cX inX0 tyX0 tyX0_ok nmX0 hw hM rfl 3 (by decide) wF_X0_22 rfl rfl rfl rfl (Nat.le_of_ble_eq_true rfl) dX0_growOlder_32 (fun H locs hw => ?_)
        exact r_vret cX hr hlocks hw (by simp_all) dX0_growOlder_35
    · refine lv_aload_n hx hb dX0_growOlder_15 rfl (lv_at hl 0 rfl) ?_
      refine lv_iconst (v := 0) hx hb dX0_growOlder_16 (by decide) ?_
      refine r_put (fs' := [.int 0, .int y1, .int y2, .int y3]) cX inX0 tyX0 tyX0_ok nmX0 hw hM rfl 0 (by decide) wF_X0_9 rfl rfl rfl rfl (Nat.le_of_ble_eq_true rfl) dX0_growOlder_17 (fun H locs hw => ?_)
      refine lv_goto (tgt := 35) hx hb dX0_growOlder_20 (by decide) ?_
      exact r_vret cX hr hlocks hw (by simp_all) dX0_growOlder_35

set_option maxHeartbeats 4000000 in
set_option maxRecDepth 100000 in
theorem c_X1_reset (l : Launch) (G : gG) {M : HM} {a : Nat} {y0 y1 y2 y3 y4 : Int32} (hM : M a = some (.inr (1, [.int y0, .int y1, .int y2, .int y3, .int y4]))) : Cv l yX1_reset cX1_reset 1 (rd 0 0 0) G [.ref a] M (fun M' => M' = mu M a (.inr (1, [.int 0, .int 0, .int 0, .int (-9), .int (-9)]))) := by
  refine Cv.of (by decide) (Nat.le_of_ble_eq_true rfl) ?_
  intro p e s m args below meth c ls cX hw hlocks hr hnm hl
  have hx := cX.1
  have hb := cX.2.1
  have hl : lv_has ls 1 [(0, .ref a)] := hl
  refine lv_aload_n hx hb dX1_reset_0 rfl (lv_at hl 0 rfl) ?_
  refine lv_iconst (v := 0) hx hb dX1_reset_1 (by decide) ?_
  refine r_put (fs' := [.int 0, .int y1, .int y2, .int y3, .int y4]) cX inX1 tyX1 tyX1_ok nmX1 hw hM rfl 0 (by decide) wF_X1_9 rfl rfl rfl rfl (Nat.le_of_ble_eq_true rfl) dX1_reset_2 (fun H locs hw => ?_)
  refine lv_aload_n hx hb dX1_reset_5 rfl (lv_at hl 0 rfl) ?_
  refine lv_iconst (v := 0) hx hb dX1_reset_6 (by decide) ?_
  refine r_put (fs' := [.int 0, .int 0, .int y2, .int y3, .int y4]) cX inX1 tyX1 tyX1_ok nmX1 hw (mu_at _ _ _) rfl 1 (by decide) wF_X1_15 rfl rfl rfl rfl (Nat.le_of_ble_eq_true rfl) dX1_reset_7 (fun H locs hw => ?_)
  rw [mu_mu] at hw
  refine lv_aload_n hx hb dX1_reset_10 rfl (lv_at hl 0 rfl) ?_
  refine lv_iconst (v := 0) hx hb dX1_reset_11 (by decide) ?_
  refine r_put (fs' := [.int 0, .int 0, .int 0, .int y3, .int y4]) cX inX1 tyX1 tyX1_ok nmX1 hw (mu_at _ _ _) rfl 2 (by decide) wF_X1_18 rfl rfl rfl rfl (Nat.le_of_ble_eq_true rfl) dX1_reset_12 (fun H locs hw => ?_)
  rw [mu_mu] at hw
  refine lv_aload_n hx hb dX1_reset_15 rfl (lv_at hl 0 rfl) ?_
  refine lv_bipush (v := (-9)) hx hb dX1_reset_16 (by decide) ?_
  refine r_put (fs' := [.int 0, .int 0, .int 0, .int (-9), .int y4]) cX inX1 tyX1 tyX1_ok nmX1 hw (mu_at _ _ _) rfl 3 (by decide) wF_X1_21 rfl rfl rfl rfl (Nat.le_of_ble_eq_true rfl) dX1_reset_18 (fun H locs hw => ?_)
  rw [mu_mu] at hw
  refine lv_aload_n hx hb dX1_reset_21 rfl (lv_at hl 0 rfl) ?_
  refine lv_bipush (v := (-9)) hx hb dX1_reset_22 (by decide) ?_
  refine r_put (fs' := [.int 0, .int 0, .int 0, .int (-9), .int (-9)]) cX inX1 tyX1 tyX1_ok nmX1 hw (mu_at _ _ _) rfl 4 (by decide) wF_X1_24 rfl rfl rfl rfl (Nat.le_of_ble_eq_true rfl) dX1_reset_24 (fun H locs hw => ?_)
  rw [mu_mu] at hw
  exact r_vret cX hr hlocks hw rfl dX1_reset_27

set_option maxHeartbeats 4000000 in
set_option maxRecDepth 100000 in
theorem c_X1_copyFrom (l : Launch) (G : gG) {M : HM} {a : Nat} {y0 y1 y2 y3 y4 : Int32} (hM : M a = some (.inr (1, [.int y0, .int y1, .int y2, .int y3, .int y4]))) {b : Nat} {z0 z1 z2 z3 z4 : Int32} (hB : M b = some (.inr (1, [.int z0, .int z1, .int z2, .int z3, .int z4]))) (hba : b ≠ a) : Cv l yX1_copyFrom cX1_copyFrom 2 (rd 0 0 0) G [.ref a, .ref b] M (fun M' => M' = mu M a (.inr (1, [.int z0, .int z1, .int z2, .int z3, .int z4]))) := by
  refine Cv.of (by decide) (Nat.le_of_ble_eq_true rfl) ?_
  intro p e s m args below meth c ls cX hw hlocks hr hnm hl
  have hx := cX.1
  have hb := cX.2.1
  have hl : lv_has ls 2 [(0, .ref a), (1, .ref b)] := hl
  refine lv_aload_n hx hb dX1_copyFrom_0 rfl (lv_at hl 0 rfl) ?_
  refine lv_aload_n hx hb dX1_copyFrom_1 rfl (lv_at hl 1 rfl) ?_
  refine r_get cX inX1 hw hB rfl 0 (by decide) wF_X1_9 rfl dX1_copyFrom_2 ?_
  refine r_put (fs' := [.int z0, .int y1, .int y2, .int y3, .int y4]) cX inX1 tyX1 tyX1_ok nmX1 hw hM rfl 0 (by decide) wF_X1_9 rfl rfl rfl rfl (Nat.le_of_ble_eq_true rfl) dX1_copyFrom_5 (fun H locs hw => ?_)
  refine lv_aload_n hx hb dX1_copyFrom_8 rfl (lv_at hl 0 rfl) ?_
  refine lv_aload_n hx hb dX1_copyFrom_9 rfl (lv_at hl 1 rfl) ?_
  refine r_get cX inX1 hw ((mu_ne _ _ hba).trans hB) rfl 1 (by decide) wF_X1_15 rfl dX1_copyFrom_10 ?_
  refine r_put (fs' := [.int z0, .int z1, .int y2, .int y3, .int y4]) cX inX1 tyX1 tyX1_ok nmX1 hw (mu_at _ _ _) rfl 1 (by decide) wF_X1_15 rfl rfl rfl rfl (Nat.le_of_ble_eq_true rfl) dX1_copyFrom_13 (fun H locs hw => ?_)
  rw [mu_mu] at hw
  refine lv_aload_n hx hb dX1_copyFrom_16 rfl (lv_at hl 0 rfl) ?_
  refine lv_aload_n hx hb dX1_copyFrom_17 rfl (lv_at hl 1 rfl) ?_
  refine r_get cX inX1 hw ((mu_ne _ _ hba).trans hB) rfl 2 (by decide) wF_X1_18 rfl dX1_copyFrom_18 ?_
  refine r_put (fs' := [.int z0, .int z1, .int z2, .int y3, .int y4]) cX inX1 tyX1 tyX1_ok nmX1 hw (mu_at _ _ _) rfl 2 (by decide) wF_X1_18 rfl rfl rfl rfl (Nat.le_of_ble_eq_true rfl) dX1_copyFrom_21 (fun H locs hw => ?_)
  rw [mu_mu] at hw
  refine lv_aload_n hx hb dX1_copyFrom_24 rfl (lv_at hl 0 rfl) ?_
  refine lv_aload_n hx hb dX1_copyFrom_25 rfl (lv_at hl 1 rfl) ?_
  refine r_get cX inX1 hw ((mu_ne _ _ hba).trans hB) rfl 3 (by decide) wF_X1_21 rfl dX1_copyFrom_26 ?_
  refine r_put (fs' := [.int z0, .int z1, .int z2, .int z3, .int y4]) cX inX1 tyX1 tyX1_ok nmX1 hw (mu_at _ _ _) rfl 3 (by decide) wF_X1_21 rfl rfl rfl rfl (Nat.le_of_ble_eq_true rfl) dX1_copyFrom_29 (fun H locs hw => ?_)
  rw [mu_mu] at hw
  refine lv_aload_n hx hb dX1_copyFrom_32 rfl (lv_at hl 0 rfl) ?_
  refine lv_aload_n hx hb dX1_copyFrom_33 rfl (lv_at hl 1 rfl) ?_
  refine r_get cX inX1 hw ((mu_ne _ _ hba).trans hB) rfl 4 (by decide) wF_X1_24 rfl dX1_copyFrom_34 ?_
  refine r_put (fs' := [.int z0, .int z1, .int z2, .int z3, .int z4]) cX inX1 tyX1 tyX1_ok nmX1 hw (mu_at _ _ _) rfl 4 (by decide) wF_X1_24 rfl rfl rfl rfl (Nat.le_of_ble_eq_true rfl) dX1_copyFrom_37 (fun H locs hw => ?_)
  rw [mu_mu] at hw
  exact r_vret cX hr hlocks hw rfl dX1_copyFrom_40

set_option maxHeartbeats 4000000 in
set_option maxRecDepth 100000 in
theorem c_X1_isOvertakenBy (l : Launch) (G : gG) {M : HM} {a : Nat} {y0 y1 y2 y3 y4 : Int32} (hM : M a = some (.inr (1, [.int y0, .int y1, .int y2, .int y3, .int y4]))) (ar : Int32) : Ci l yX1_isOvertakenBy cX1_isOvertakenBy 2 .boolean (rd 0 0 0) G [.ref a, .int ar] M (fun r M' => r = (if ar < y4 then 1 else 0) ∧ M' = M) := by
  refine Ci.of (by decide) (Nat.le_of_ble_eq_true rfl) ?_
  intro p e s m args below meth c ls cX hw hlocks hr hl
  have hx := cX.1
  have hb := cX.2.1
  have hl : lv_has ls 2 [(0, .ref a), (1, .int ar)] := hl
  refine lv_iload_n hx hb dX1_isOvertakenBy_0 rfl (lv_at hl 1 rfl) ?_
  refine lv_aload_n hx hb dX1_isOvertakenBy_1 rfl (lv_at hl 0 rfl) ?_
  refine r_get cX inX1 hw hM rfl 4 (by decide) wF_X1_24 rfl dX1_isOvertakenBy_2 ?_
  refine lv_icmp_ge (tgt := 12) hx hb dX1_isOvertakenBy_5 (by decide) (fun c5 => ?_) (fun c5 => ?_)
  · refine lv_iconst (v := 0) hx hb dX1_isOvertakenBy_12 (by decide) ?_
    exact r_zret cX hr hlocks rfl hw ⟨by first | exact (if_pos (by first | exact c5 | exact Int32.not_le.mp c5)).symm | exact (if_neg (by first | exact c5 | exact Int32.not_lt.mpr c5)).symm, rfl⟩ dX1_isOvertakenBy_13
  · refine lv_iconst (v := 1) hx hb dX1_isOvertakenBy_8 (by decide) ?_
    refine lv_goto (tgt := 13) hx hb dX1_isOvertakenBy_9 (by decide) ?_
    exact r_zret cX hr hlocks rfl hw ⟨by first | exact (if_pos (by first | exact c5 | exact Int32.not_le.mp c5)).symm | exact (if_neg (by first | exact c5 | exact Int32.not_lt.mpr c5)).symm, rfl⟩ dX1_isOvertakenBy_13

set_option maxHeartbeats 4000000 in
set_option maxRecDepth 100000 in
theorem c_X1_deliver (l : Launch) (G : gG) {M : HM} {a : Nat} {y0 y1 y2 y3 y4 : Int32} (hM : M a = some (.inr (1, [.int y0, .int y1, .int y2, .int y3, .int y4]))) (np ar : Int32) : Cv l yX1_deliver cX1_deliver 3 (rd 1 0 0) G [.ref a, .int np, .int ar] M (fun M' => M' = mu M a (.inr (1, [.int y0, .int (y1 + (if ¬ y3 = -9 ∧ ¬ y3 = np then 1 else 0)), .int (y2 + (if ar < y4 then 1 else 0)), .int np, .int (if y4 < ar then ar else y4)]))) := by
  refine Cv.of (by decide) (Nat.le_of_ble_eq_true rfl) ?_
  intro p e s m args below meth c ls cX hw hlocks hr hnm hl
  have hx := cX.1
  have hb := cX.2.1
  have hl : lv_has ls 3 [(0, .ref a), (1, .int np), (2, .int ar)] := hl
  refine lv_aload_n hx hb dX1_deliver_0 rfl (lv_at hl 0 rfl) ?_
  refine r_get cX inX1 hw hM rfl 3 (by decide) wF_X1_21 rfl dX1_deliver_1 ?_
  refine lv_bipush (v := (-9)) hx hb dX1_deliver_4 (by decide) ?_
  refine lv_icmp_eq (tgt := 27) hx hb dX1_deliver_6 (by decide) (fun c6 => ?_) (fun c6 => ?_)
  · refine lv_aload_n hx hb dX1_deliver_27 rfl (lv_at hl 0 rfl) ?_
    refine lv_iload_n hx hb dX1_deliver_28 rfl (lv_at hl 2 rfl) ?_
    refine r_Vi cX hw hM rfl [.int ar] (c_X1_isOvertakenBy l G hM ar) wM_X1_27 mw_X1_isOvertakenBy ⟨Nat.le_of_ble_eq_true rfl, Nat.le_of_ble_eq_true rfl⟩ rfl rfl hl.1 (Nat.le_of_ble_eq_true rfl) dX1_deliver_29 ⟨Nat.le_of_ble_eq_true rfl, Nat.le_of_ble_eq_true rfl⟩ (fun r M1 H locs hp hw => ?_)
    obtain ⟨rfl, rfl⟩ := hp
    refine lv_if_eq (tgt := 45) hx hb dX1_deliver_32 (by decide) (fun c32 => ?_) (fun c32 => ?_)
    · refine lv_aload_n hx hb dX1_deliver_45 rfl (lv_at hl 0 rfl) ?_
      refine lv_iload_n hx hb dX1_deliver_46 rfl (lv_at hl 1 rfl) ?_
      refine r_put (fs' := [.int y0, .int y1, .int y2, .int np, .int y4]) cX inX1 tyX1 tyX1_ok nmX1 hw hM rfl 3 (by decide) wF_X1_21 rfl rfl rfl rfl (Nat.le_of_ble_eq_true rfl) dX1_deliver_47 (fun H locs hw => ?_)
      refine lv_aload_n hx hb dX1_deliver_50 rfl (lv_at hl 0 rfl) ?_
      refine lv_aload_n hx hb dX1_deliver_51 rfl (lv_at hl 0 rfl) ?_
      refine r_get cX inX1 hw (mu_at _ _ _) rfl 4 (by decide) wF_X1_24 rfl dX1_deliver_52 ?_
      refine lv_iload_n hx hb dX1_deliver_55 rfl (lv_at hl 2 rfl) ?_
      refine r_mmax (own := RX1) (index := 31) cX hl.1 wM_X1_31 (Nat.le_of_ble_eq_true rfl) (Nat.le_of_ble_eq_true rfl) (Nat.zero_le _) (Nat.zero_le _) dX1_deliver_56 ?_
      refine r_put (fs' := [.int y0, .int y1, .int y2, .int np, .int (if y4 < ar then ar else y4)]) cX inX1 tyX1 tyX1_ok nmX1 hw (mu_at _ _ _) rfl 4 (by decide) wF_X1_24 rfl rfl rfl rfl (Nat.le_of_ble_eq_true rfl) dX1_deliver_59 (fun H locs hw => ?_)
      rw [mu_mu] at hw
      exact r_vret cX hr hlocks hw (by by_cases hq : ar < y4 <;> simp only [hq, if_true, if_false] at * <;> simp_all) dX1_deliver_62
    · refine lv_aload_n hx hb dX1_deliver_35 rfl (lv_at hl 0 rfl) ?_
      refine lv_dup hx hb dX1_deliver_36 rfl ?_
      refine r_get cX inX1 hw hM rfl 2 (by decide) wF_X1_18 rfl dX1_deliver_37 ?_
      refine lv_iconst (v := 1) hx hb dX1_deliver_40 (by decide) ?_
      refine lv_iadd hx hb dX1_deliver_41 ?_
      refine r_put (fs' := [.int y0, .int y1, .int (y2 + 1), .int y3, .int y4]) cX inX1 tyX1 tyX1_ok nmX1 hw hM rfl 2 (by decide) wF_X1_18 rfl rfl rfl rfl (Nat.le_of_ble_eq_true rfl) dX1_deliver_42 (fun H locs hw => ?_)
      refine lv_aload_n hx hb dX1_deliver_45 rfl (lv_at hl 0 rfl) ?_
      refine lv_iload_n hx hb dX1_deliver_46 rfl (lv_at hl 1 rfl) ?_
      refine r_put (fs' := [.int y0, .int y1, .int (y2 + 1), .int np, .int y4]) cX inX1 tyX1 tyX1_ok nmX1 hw (mu_at _ _ _) rfl 3 (by decide) wF_X1_21 rfl rfl rfl rfl (Nat.le_of_ble_eq_true rfl) dX1_deliver_47 (fun H locs hw => ?_)
      rw [mu_mu] at hw
      refine lv_aload_n hx hb dX1_deliver_50 rfl (lv_at hl 0 rfl) ?_
      refine lv_aload_n hx hb dX1_deliver_51 rfl (lv_at hl 0 rfl) ?_
      refine r_get cX inX1 hw (mu_at _ _ _) rfl 4 (by decide) wF_X1_24 rfl dX1_deliver_52 ?_
      refine lv_iload_n hx hb dX1_deliver_55 rfl (lv_at hl 2 rfl) ?_
      refine r_mmax (own := RX1) (index := 31) cX hl.1 wM_X1_31 (Nat.le_of_ble_eq_true rfl) (Nat.le_of_ble_eq_true rfl) (Nat.zero_le _) (Nat.zero_le _) dX1_deliver_56 ?_
      refine r_put (fs' := [.int y0, .int y1, .int (y2 + 1), .int np, .int (if y4 < ar then ar else y4)]) cX inX1 tyX1 tyX1_ok nmX1 hw (mu_at _ _ _) rfl 4 (by decide) wF_X1_24 rfl rfl rfl rfl (Nat.le_of_ble_eq_true rfl) dX1_deliver_59 (fun H locs hw => ?_)
      rw [mu_mu] at hw
      exact r_vret cX hr hlocks hw (by by_cases hq : ar < y4 <;> simp only [hq, if_true, if_false] at * <;> simp_all) dX1_deliver_62
  · refine lv_aload_n hx hb dX1_deliver_9 rfl (lv_at hl 0 rfl) ?_
    refine r_get cX inX1 hw hM rfl 3 (by decide) wF_X1_21 rfl dX1_deliver_10 ?_
    refine lv_iload_n hx hb dX1_deliver_13 rfl (lv_at hl 1 rfl) ?_
    refine lv_icmp_eq (tgt := 27) hx hb dX1_deliver_14 (by decide) (fun c14 => ?_) (fun c14 => ?_)
    · refine lv_aload_n hx hb dX1_deliver_27 rfl (lv_at hl 0 rfl) ?_
      refine lv_iload_n hx hb dX1_deliver_28 rfl (lv_at hl 2 rfl) ?_
      refine r_Vi cX hw hM rfl [.int ar] (c_X1_isOvertakenBy l G hM ar) wM_X1_27 mw_X1_isOvertakenBy ⟨Nat.le_of_ble_eq_true rfl, Nat.le_of_ble_eq_true rfl⟩ rfl rfl hl.1 (Nat.le_of_ble_eq_true rfl) dX1_deliver_29 ⟨Nat.le_of_ble_eq_true rfl, Nat.le_of_ble_eq_true rfl⟩ (fun r M1 H locs hp hw => ?_)
      obtain ⟨rfl, rfl⟩ := hp
      refine lv_if_eq (tgt := 45) hx hb dX1_deliver_32 (by decide) (fun c32 => ?_) (fun c32 => ?_)
      · refine lv_aload_n hx hb dX1_deliver_45 rfl (lv_at hl 0 rfl) ?_
        refine lv_iload_n hx hb dX1_deliver_46 rfl (lv_at hl 1 rfl) ?_
        refine r_put (fs' := [.int y0, .int y1, .int y2, .int np, .int y4]) cX inX1 tyX1 tyX1_ok nmX1 hw hM rfl 3 (by decide) wF_X1_21 rfl rfl rfl rfl (Nat.le_of_ble_eq_true rfl) dX1_deliver_47 (fun H locs hw => ?_)
        refine lv_aload_n hx hb dX1_deliver_50 rfl (lv_at hl 0 rfl) ?_
        refine lv_aload_n hx hb dX1_deliver_51 rfl (lv_at hl 0 rfl) ?_
        refine r_get cX inX1 hw (mu_at _ _ _) rfl 4 (by decide) wF_X1_24 rfl dX1_deliver_52 ?_
        refine lv_iload_n hx hb dX1_deliver_55 rfl (lv_at hl 2 rfl) ?_
        refine r_mmax (own := RX1) (index := 31) cX hl.1 wM_X1_31 (Nat.le_of_ble_eq_true rfl) (Nat.le_of_ble_eq_true rfl) (Nat.zero_le _) (Nat.zero_le _) dX1_deliver_56 ?_
        refine r_put (fs' := [.int y0, .int y1, .int y2, .int np, .int (if y4 < ar then ar else y4)]) cX inX1 tyX1 tyX1_ok nmX1 hw (mu_at _ _ _) rfl 4 (by decide) wF_X1_24 rfl rfl rfl rfl (Nat.le_of_ble_eq_true rfl) dX1_deliver_59 (fun H locs hw => ?_)
        rw [mu_mu] at hw
        exact r_vret cX hr hlocks hw (by by_cases hq : ar < y4 <;> simp only [hq, if_true, if_false] at * <;> simp_all) dX1_deliver_62
      · refine lv_aload_n hx hb dX1_deliver_35 rfl (lv_at hl 0 rfl) ?_
        refine lv_dup hx hb dX1_deliver_36 rfl ?_
        refine r_get cX inX1 hw hM rfl 2 (by decide) wF_X1_18 rfl dX1_deliver_37 ?_
        refine lv_iconst (v := 1) hx hb dX1_deliver_40 (by decide) ?_
        refine lv_iadd hx hb dX1_deliver_41 ?_
        refine r_put (fs' := [.int y0, .int y1, .int (y2 + 1), .int y3, .int y4]) cX inX1 tyX1 tyX1_ok nmX1 hw hM rfl 2 (by decide) wF_X1_18 rfl rfl rfl rfl (Nat.le_of_ble_eq_true rfl) dX1_deliver_42 (fun H locs hw => ?_)
        refine lv_aload_n hx hb dX1_deliver_45 rfl (lv_at hl 0 rfl) ?_
        refine lv_iload_n hx hb dX1_deliver_46 rfl (lv_at hl 1 rfl) ?_
        refine r_put (fs' := [.int y0, .int y1, .int (y2 + 1), .int np, .int y4]) cX inX1 tyX1 tyX1_ok nmX1 hw (mu_at _ _ _) rfl 3 (by decide) wF_X1_21 rfl rfl rfl rfl (Nat.le_of_ble_eq_true rfl) dX1_deliver_47 (fun H locs hw => ?_)
        rw [mu_mu] at hw
        refine lv_aload_n hx hb dX1_deliver_50 rfl (lv_at hl 0 rfl) ?_
        refine lv_aload_n hx hb dX1_deliver_51 rfl (lv_at hl 0 rfl) ?_
        refine r_get cX inX1 hw (mu_at _ _ _) rfl 4 (by decide) wF_X1_24 rfl dX1_deliver_52 ?_
        refine lv_iload_n hx hb dX1_deliver_55 rfl (lv_at hl 2 rfl) ?_
        refine r_mmax (own := RX1) (index := 31) cX hl.1 wM_X1_31 (Nat.le_of_ble_eq_true rfl) (Nat.le_of_ble_eq_true rfl) (Nat.zero_le _) (Nat.zero_le _) dX1_deliver_56 ?_
        refine r_put (fs' := [.int y0, .int y1, .int (y2 + 1), .int np, .int (if y4 < ar then ar else y4)]) cX inX1 tyX1 tyX1_ok nmX1 hw (mu_at _ _ _) rfl 4 (by decide) wF_X1_24 rfl rfl rfl rfl (Nat.le_of_ble_eq_true rfl) dX1_deliver_59 (fun H locs hw => ?_)
        rw [mu_mu] at hw
        exact r_vret cX hr hlocks hw (by by_cases hq : ar < y4 <;> simp only [hq, if_true, if_false] at * <;> simp_all) dX1_deliver_62
    · refine lv_aload_n hx hb dX1_deliver_17 rfl (lv_at hl 0 rfl) ?_
      refine lv_dup hx hb dX1_deliver_18 rfl ?_
      refine r_get cX inX1 hw hM rfl 1 (by decide) wF_X1_15 rfl dX1_deliver_19 ?_
      refine lv_iconst (v := 1) hx hb dX1_deliver_22 (by decide) ?_
      refine lv_iadd hx hb dX1_deliver_23 ?_
      refine r_put (fs' := [.int y0, .int (y1 + 1), .int y2, .int y3, .int y4]) cX inX1 tyX1 tyX1_ok nmX1 hw hM rfl 1 (by decide) wF_X1_15 rfl rfl rfl rfl (Nat.le_of_ble_eq_true rfl) dX1_deliver_24 (fun H locs hw => ?_)
      refine lv_aload_n hx hb dX1_deliver_27 rfl (lv_at hl 0 rfl) ?_
      refine lv_iload_n hx hb dX1_deliver_28 rfl (lv_at hl 2 rfl) ?_
      refine r_Vi cX hw (mu_at _ _ _) rfl [.int ar] (c_X1_isOvertakenBy l G (mu_at _ _ _) ar) wM_X1_27 mw_X1_isOvertakenBy ⟨Nat.le_of_ble_eq_true rfl, Nat.le_of_ble_eq_true rfl⟩ rfl rfl hl.1 (Nat.le_of_ble_eq_true rfl) dX1_deliver_29 ⟨Nat.le_of_ble_eq_true rfl, Nat.le_of_ble_eq_true rfl⟩ (fun r M1 H locs hp hw => ?_)
      obtain ⟨rfl, rfl⟩ := hp
      refine lv_if_eq (tgt := 45) hx hb dX1_deliver_32 (by decide) (fun c32 => ?_) (fun c32 => ?_)
      · refine lv_aload_n hx hb dX1_deliver_45 rfl (lv_at hl 0 rfl) ?_
        refine lv_iload_n hx hb dX1_deliver_46 rfl (lv_at hl 1 rfl) ?_
        refine r_put (fs' := [.int y0, .int (y1 + 1), .int y2, .int np, .int y4]) cX inX1 tyX1 tyX1_ok nmX1 hw (mu_at _ _ _) rfl 3 (by decide) wF_X1_21 rfl rfl rfl rfl (Nat.le_of_ble_eq_true rfl) dX1_deliver_47 (fun H locs hw => ?_)
        rw [mu_mu] at hw
        refine lv_aload_n hx hb dX1_deliver_50 rfl (lv_at hl 0 rfl) ?_
        refine lv_aload_n hx hb dX1_deliver_51 rfl (lv_at hl 0 rfl) ?_
        refine r_get cX inX1 hw (mu_at _ _ _) rfl 4 (by decide) wF_X1_24 rfl dX1_deliver_52 ?_
        refine lv_iload_n hx hb dX1_deliver_55 rfl (lv_at hl 2 rfl) ?_
        refine r_mmax (own := RX1) (index := 31) cX hl.1 wM_X1_31 (Nat.le_of_ble_eq_true rfl) (Nat.le_of_ble_eq_true rfl) (Nat.zero_le _) (Nat.zero_le _) dX1_deliver_56 ?_
        refine r_put (fs' := [.int y0, .int (y1 + 1), .int y2, .int np, .int (if y4 < ar then ar else y4)]) cX inX1 tyX1 tyX1_ok nmX1 hw (mu_at _ _ _) rfl 4 (by decide) wF_X1_24 rfl rfl rfl rfl (Nat.le_of_ble_eq_true rfl) dX1_deliver_59 (fun H locs hw => ?_)
        rw [mu_mu] at hw
        exact r_vret cX hr hlocks hw (by by_cases hq : ar < y4 <;> simp only [hq, if_true, if_false] at * <;> simp_all) dX1_deliver_62
      · refine lv_aload_n hx hb dX1_deliver_35 rfl (lv_at hl 0 rfl) ?_
        refine lv_dup hx hb dX1_deliver_36 rfl ?_
        refine r_get cX inX1 hw (mu_at _ _ _) rfl 2 (by decide) wF_X1_18 rfl dX1_deliver_37 ?_
        refine lv_iconst (v := 1) hx hb dX1_deliver_40 (by decide) ?_
        refine lv_iadd hx hb dX1_deliver_41 ?_
        refine r_put (fs' := [.int y0, .int (y1 + 1), .int (y2 + 1), .int y3, .int y4]) cX inX1 tyX1 tyX1_ok nmX1 hw (mu_at _ _ _) rfl 2 (by decide) wF_X1_18 rfl rfl rfl rfl (Nat.le_of_ble_eq_true rfl) dX1_deliver_42 (fun H locs hw => ?_)
        rw [mu_mu] at hw
        refine lv_aload_n hx hb dX1_deliver_45 rfl (lv_at hl 0 rfl) ?_
        refine lv_iload_n hx hb dX1_deliver_46 rfl (lv_at hl 1 rfl) ?_
        refine r_put (fs' := [.int y0, .int (y1 + 1), .int (y2 + 1), .int np, .int y4]) cX inX1 tyX1 tyX1_ok nmX1 hw (mu_at _ _ _) rfl 3 (by decide) wF_X1_21 rfl rfl rfl rfl (Nat.le_of_ble_eq_true rfl) dX1_deliver_47 (fun H locs hw => ?_)
        rw [mu_mu] at hw
        refine lv_aload_n hx hb dX1_deliver_50 rfl (lv_at hl 0 rfl) ?_
        refine lv_aload_n hx hb dX1_deliver_51 rfl (lv_at hl 0 rfl) ?_
        refine r_get cX inX1 hw (mu_at _ _ _) rfl 4 (by decide) wF_X1_24 rfl dX1_deliver_52 ?_
        refine lv_iload_n hx hb dX1_deliver_55 rfl (lv_at hl 2 rfl) ?_
        refine r_mmax (own := RX1) (index := 31) cX hl.1 wM_X1_31 (Nat.le_of_ble_eq_true rfl) (Nat.le_of_ble_eq_true rfl) (Nat.zero_le _) (Nat.zero_le _) dX1_deliver_56 ?_
        refine r_put (fs' := [.int y0, .int (y1 + 1), .int (y2 + 1), .int np, .int (if y4 < ar then ar else y4)]) cX inX1 tyX1 tyX1_ok nmX1 hw (mu_at _ _ _) rfl 4 (by decide) wF_X1_24 rfl rfl rfl rfl (Nat.le_of_ble_eq_true rfl) dX1_deliver_59 (fun H locs hw => ?_)
        rw [mu_mu] at hw
        exact r_vret cX hr hlocks hw (by by_cases hq : ar < y4 <;> simp only [hq, if_true, if_false] at * <;> simp_all) dX1_deliver_62
end
section
theorem if01 (c : Prop) [Decidable c] : (if c then (1 : Int32) else 0) = 0 ∨ (if c then (1 : Int32) else 0) = 1 := by split <;> simp
set_option maxHeartbeats 4000000 in
set_option maxRecDepth 100000 in
theorem c_X6_isBetween (l : Launch) (G : gG) {M : HM} (v lo hi : Int32) : Ci l yX6_isBetween cX6_isBetween 3 .boolean (rd 0 0 0) G [.int v, .int lo, .int hi] M (fun r M' => r = (if lo ≤ v ∧ v ≤ hi then 1 else 0) ∧ M' = M) := by
  refine Ci.of (by decide) (Nat.le_of_ble_eq_true rfl) ?_
  intro p e s m args below meth c ls cX hw hlocks hr hl
  have hx := cX.1
  have hb := cX.2.1
  have hl : lv_has ls 3 [(0, .int v), (1, .int lo), (2, .int hi)] := hl
  refine lv_iload_n hx hb dX6_isBetween_0 rfl (lv_at hl 1 rfl) ?_
  refine lv_iload_n hx hb dX6_isBetween_1 rfl (lv_at hl 0 rfl) ?_
  refine lv_icmp_gt (tgt := 14) hx hb dX6_isBetween_2 (by decide) (fun c2 => ?_) (fun c2 => ?_)
  · refine lv_iconst (v := 0) hx hb dX6_isBetween_14 (by decide) ?_
    exact r_zret cX hr hlocks rfl hw ⟨(if_neg (fun h => Int32.not_le.mpr c2 h.1)).symm, rfl⟩ dX6_isBetween_15
  · refine lv_iload_n hx hb dX6_isBetween_5 rfl (lv_at hl 0 rfl) ?_
    refine lv_iload_n hx hb dX6_isBetween_6 rfl (lv_at hl 2 rfl) ?_
    refine lv_icmp_gt (tgt := 14) hx hb dX6_isBetween_7 (by decide) (fun c7 => ?_) (fun c7 => ?_)
    · refine lv_iconst (v := 0) hx hb dX6_isBetween_14 (by decide) ?_
      exact r_zret cX hr hlocks rfl hw ⟨(if_neg (fun h => Int32.not_le.mpr c7 h.2)).symm, rfl⟩ dX6_isBetween_15
    · refine lv_iconst (v := 1) hx hb dX6_isBetween_10 (by decide) ?_
      refine lv_goto (tgt := 15) hx hb dX6_isBetween_11 (by decide) ?_
      exact r_zret cX hr hlocks rfl hw ⟨(if_pos ⟨Int32.not_lt.mp c2, Int32.not_lt.mp c7⟩).symm, rfl⟩ dX6_isBetween_15

set_option maxHeartbeats 4000000 in
set_option maxRecDepth 100000 in
theorem c_X6_isFlow (l : Launch) (G : gG) {M : HM} (v : Int32) : Ci l yX6_isFlow cX6_isFlow 1 .boolean (rd 1 0 0) G [.int v] M (fun r M' => r = (if 0 ≤ v ∧ v ≤ 15 then 1 else 0) ∧ M' = M) := by
  refine Ci.of (by decide) (Nat.le_of_ble_eq_true rfl) ?_
  intro p e s m args below meth c ls cX hw hlocks hr hl
  have hx := cX.1
  have hb := cX.2.1
  have hl : lv_has ls 1 [(0, .int v)] := hl
  refine lv_iload_n hx hb dX6_isFlow_0 rfl (lv_at hl 0 rfl) ?_
  refine lv_iconst (v := 0) hx hb dX6_isFlow_1 (by decide) ?_
  refine lv_bipush (v := 15) hx hb dX6_isFlow_2 (by decide) ?_
  refine r_Si cX hw [.int v, .int 0, .int 15] (c_X6_isBetween l G v 0 15) wM_X6_38 mw_X6_isBetween ⟨Nat.le_of_ble_eq_true rfl, Nat.le_of_ble_eq_true rfl⟩ rfl rfl hl.1 (Nat.le_of_ble_eq_true rfl) dX6_isFlow_4 ⟨Nat.le_of_ble_eq_true rfl, Nat.le_of_ble_eq_true rfl⟩ (fun r M1 H locs hp hw => ?_)
  obtain ⟨rfl, hq⟩ := hp
  rw [hq] at hw
  exact r_zret cX hr hlocks (z01n (if01 _)) hw ⟨rfl, rfl⟩ dX6_isFlow_7

set_option maxHeartbeats 4000000 in
set_option maxRecDepth 100000 in
theorem c_X6_isSize (l : Launch) (G : gG) {M : HM} (v : Int32) : Ci l yX6_isSize cX6_isSize 1 .boolean (rd 1 0 0) G [.int v] M (fun r M' => r = (if 1 ≤ v ∧ v ≤ 1000 then 1 else 0) ∧ M' = M) := by
  refine Ci.of (by decide) (Nat.le_of_ble_eq_true rfl) ?_
  intro p e s m args below meth c ls cX hw hlocks hr hl
  have hx := cX.1
  have hb := cX.2.1
  have hl : lv_has ls 1 [(0, .int v)] := hl
  refine lv_iload_n hx hb dX6_isSize_0 rfl (lv_at hl 0 rfl) ?_
  refine lv_iconst (v := 1) hx hb dX6_isSize_1 (by decide) ?_
  refine lv_sipush (v := 1000) hx hb dX6_isSize_2 (by decide) ?_
  refine r_Si cX hw [.int v, .int 1, .int 1000] (c_X6_isBetween l G v 1 1000) wM_X6_38 mw_X6_isBetween ⟨Nat.le_of_ble_eq_true rfl, Nat.le_of_ble_eq_true rfl⟩ rfl rfl hl.1 (Nat.le_of_ble_eq_true rfl) dX6_isSize_5 ⟨Nat.le_of_ble_eq_true rfl, Nat.le_of_ble_eq_true rfl⟩ (fun r M1 H locs hp hw => ?_)
  obtain ⟨rfl, hq⟩ := hp
  rw [hq] at hw
  exact r_zret cX hr hlocks (z01n (if01 _)) hw ⟨rfl, rfl⟩ dX6_isSize_8

set_option maxHeartbeats 4000000 in
set_option maxRecDepth 100000 in
theorem c_X4_hasPath (l : Launch) (G : gG) {M : HM} {L : Nat → Nat} {f : Nat → Int32} (hI0 : IsSt G M L f) (v : Int32) : Ci l yX4_hasPath cX4_hasPath 2 .boolean (rd 1 0 0) G [.ref (L 0), .int v] M (fun r M' => r = (if 0 ≤ v ∧ v ≤ f 1 - 1 then 1 else 0) ∧ M' = M) := by
  refine Ci.of (by decide) (Nat.le_of_ble_eq_true rfl) ?_
  intro p e s m args below meth c ls cX hw hlocks hr hl
  have hx := cX.1
  have hb := cX.2.1
  have hl : lv_has ls 2 [(0, .ref (L 0)), (1, .int v)] := hl
  have hI := hI0.st
  refine lv_iload_n hx hb dX4_hasPath_0 rfl (lv_at hl 1 rfl) ?_
  refine lv_iconst (v := 0) hx hb dX4_hasPath_1 (by decide) ?_
  refine lv_aload_n hx hb dX4_hasPath_2 rfl (lv_at hl 0 rfl) ?_
  refine r_get cX inX4 hw hI.1.1 rfl 0 (by decide) wF_X4_36 rfl dX4_hasPath_3 ?_
  refine lv_iconst (v := 1) hx hb dX4_hasPath_6 (by decide) ?_
  refine lv_isub hx hb dX4_hasPath_7 ?_
  refine r_SNi cX hw [.int v, .int 0, .int ((f 1) - 1)] (c_X6_isBetween l G v 0 ((f 1) - 1)) wM_X4_78 mw_X6_isBetween ⟨Nat.le_of_ble_eq_true rfl, Nat.le_of_ble_eq_true rfl⟩ rfl rfl hl.1 (Nat.le_of_ble_eq_true rfl) dX4_hasPath_8 ⟨Nat.le_of_ble_eq_true rfl, Nat.le_of_ble_eq_true rfl⟩ (fun r M1 H locs hp hw => ?_)
  obtain ⟨rfl, hq⟩ := hp
  rw [hq] at hw
  exact r_zret cX hr hlocks (z01n (if01 _)) hw ⟨rfl, rfl⟩ dX4_hasPath_11

set_option maxHeartbeats 4000000 in
set_option maxRecDepth 100000 in
theorem c_X4_hasEntry (l : Launch) (G : gG) {M : HM} {L : Nat → Nat} {f : Nat → Int32} (hI0 : IsSt G M L f) (v : Int32) : Ci l yX4_hasEntry cX4_hasEntry 2 .boolean (rd 1 0 0) G [.ref (L 0), .int v] M (fun r M' => r = (if 0 ≤ v ∧ v ≤ f 2 - 1 then 1 else 0) ∧ M' = M) := by
  refine Ci.of (by decide) (Nat.le_of_ble_eq_true rfl) ?_
  intro p e s m args below meth c ls cX hw hlocks hr hl
  have hx := cX.1
  have hb := cX.2.1
  have hl : lv_has ls 2 [(0, .ref (L 0)), (1, .int v)] := hl
  have hI := hI0.st
  refine lv_iload_n hx hb dX4_hasEntry_0 rfl (lv_at hl 1 rfl) ?_
  refine lv_iconst (v := 0) hx hb dX4_hasEntry_1 (by decide) ?_
  refine lv_aload_n hx hb dX4_hasEntry_2 rfl (lv_at hl 0 rfl) ?_
  refine r_get cX inX4 hw hI.1.1 rfl 1 (by decide) wF_X4_40 rfl dX4_hasEntry_3 ?_
  refine lv_iconst (v := 1) hx hb dX4_hasEntry_6 (by decide) ?_
  refine lv_isub hx hb dX4_hasEntry_7 ?_
  refine r_SNi cX hw [.int v, .int 0, .int ((f 2) - 1)] (c_X6_isBetween l G v 0 ((f 2) - 1)) wM_X4_78 mw_X6_isBetween ⟨Nat.le_of_ble_eq_true rfl, Nat.le_of_ble_eq_true rfl⟩ rfl rfl hl.1 (Nat.le_of_ble_eq_true rfl) dX4_hasEntry_8 ⟨Nat.le_of_ble_eq_true rfl, Nat.le_of_ble_eq_true rfl⟩ (fun r M1 H locs hp hw => ?_)
  obtain ⟨rfl, hq⟩ := hp
  rw [hq] at hw
  exact r_zret cX hr hlocks (z01n (if01 _)) hw ⟨rfl, rfl⟩ dX4_hasEntry_11

set_option maxHeartbeats 4000000 in
set_option maxRecDepth 100000 in
theorem c_X4_hasTimeFor (l : Launch) (G : gG) {M : HM} {L : Nat → Nat} {f : Nat → Int32} (hI0 : IsSt G M L f) (t : Int32) : Ci l yX4_hasTimeFor cX4_hasTimeFor 2 .boolean (rd 0 0 0) G [.ref (L 0), .int t] M (fun r M' => r = (if t ≤ 1000000 - f 0 then 1 else 0) ∧ M' = M) := by
  refine Ci.of (by decide) (Nat.le_of_ble_eq_true rfl) ?_
  intro p e s m args below meth c ls cX hw hlocks hr hl
  have hx := cX.1
  have hb := cX.2.1
  have hl : lv_has ls 2 [(0, .ref (L 0)), (1, .int t)] := hl
  have hI := hI0.st
  refine lv_iload_n hx hb dX4_hasTimeFor_0 rfl (lv_at hl 1 rfl) ?_
  refine lv_ldc (v := 1000000) hx hb cX.2.2.2.1 (cX.2.2.2.2.ts _ wK_X4_82) dX4_hasTimeFor_1 ?_
  refine lv_aload_n hx hb dX4_hasTimeFor_3 rfl (lv_at hl 0 rfl) ?_
  refine r_get cX inX4 hw hI.1.1 rfl 2 (by decide) wF_X4_43 rfl dX4_hasTimeFor_4 ?_
  refine lv_isub hx hb dX4_hasTimeFor_7 ?_
  refine lv_icmp_gt (tgt := 15) hx hb dX4_hasTimeFor_8 (by decide) (fun c8 => ?_) (fun c8 => ?_)
  · refine lv_iconst (v := 0) hx hb dX4_hasTimeFor_15 (by decide) ?_
    exact r_zret cX hr hlocks rfl hw ⟨(if_neg (Int32.not_le.mpr c8)).symm, rfl⟩ dX4_hasTimeFor_16
  · refine lv_iconst (v := 1) hx hb dX4_hasTimeFor_11 (by decide) ?_
    refine lv_goto (tgt := 16) hx hb dX4_hasTimeFor_12 (by decide) ?_
    exact r_zret cX hr hlocks rfl hw ⟨(if_pos (Int32.not_lt.mp c8)).symm, rfl⟩ dX4_hasTimeFor_16

set_option maxHeartbeats 4000000 in
set_option maxRecDepth 100000 in
theorem c_X4_entryNumber (l : Launch) (G : gG) {M : HM} {L : Nat → Nat} {f : Nat → Int32} (hI0 : IsSt G M L f) (x : Int32) (h2 : ¬ f 2 = 0) : Ci l yX4_entryNumber cX4_entryNumber 2 .int (rd 0 0 0) G [.ref (L 0), .int x] M (fun r M' => r = jr (7 * x + 3) (f 2) ∧ M' = M) := by
  refine Ci.of (by decide) (Nat.le_of_ble_eq_true rfl) ?_
  intro p e s m args below meth c ls cX hw hlocks hr hl
  have hx := cX.1
  have hb := cX.2.1
  have hl : lv_has ls 2 [(0, .ref (L 0)), (1, .int x)] := hl
  have hI := hI0.st
  refine lv_bipush (v := 7) hx hb dX4_entryNumber_0 (by decide) ?_
  refine lv_iload_n hx hb dX4_entryNumber_2 rfl (lv_at hl 1 rfl) ?_
  refine lv_imul hx hb dX4_entryNumber_3 ?_
  refine lv_iconst (v := 3) hx hb dX4_entryNumber_4 (by decide) ?_
  refine lv_iadd hx hb dX4_entryNumber_5 ?_
  refine lv_aload_n hx hb dX4_entryNumber_6 rfl (lv_at hl 0 rfl) ?_
  refine r_get cX inX4 hw hI.1.1 rfl 1 (by decide) wF_X4_40 rfl dX4_entryNumber_7 ?_
  refine r_irem hx hb dX4_entryNumber_10 h2 ?_
  exact r_iret cX hr hlocks hw ⟨rfl, rfl⟩ dX4_entryNumber_11

set_option maxHeartbeats 4000000 in
set_option maxRecDepth 100000 in
theorem c_X4_countFlowsOfEntry (l : Launch) (G : gG) {M : HM} {L : Nat → Nat} {f : Nat → Int32} (hI0 : IsSt G M L f) (e0 : Int32) (h2 : ¬ f 2 = 0) : Ci l yX4_countFlowsOfEntry cX4_countFlowsOfEntry 4 .int (rd 1 0 0) G [.ref (L 0), .int e0] M (fun r M' => r = cnF f e0 16 ∧ M' = M) := by
  refine Ci.of (by decide) (Nat.le_of_ble_eq_true rfl) ?_
  intro p e s m args below meth c ls cX hw hlocks hr hl
  have hx := cX.1
  have hb := cX.2.1
  have hl : lv_has ls 4 [(0, .ref (L 0)), (1, .int e0)] := hl
  have hI := hI0.st
  refine lv_iconst (v := 0) hx hb dX4_countFlowsOfEntry_0 (by decide) ?_
  refine lv_istore_n (lv' := [(2, .int 0), (0, .ref (L 0)), (1, .int e0)]) hx hb dX4_countFlowsOfEntry_1 rfl hl (by decide) rfl (fun ls hl => ?_)
  refine lv_iconst (v := 0) hx hb dX4_countFlowsOfEntry_2 (by decide) ?_
  refine lv_istore_n (lv' := [(3, .int 0), (2, .int 0), (0, .ref (L 0)), (1, .int e0)]) hx hb dX4_countFlowsOfEntry_3 rfl hl (by decide) rfl (fun ls hl => ?_)
  have lp4 : ∀ (nn i : Nat), i ≤ 16 → 16 < i + nn → ∀ (x2 : Int32) (H : Heap) (locs : List Loc) (ls : Array Slot), Wd G (dm M s.heap.size) s.heap M H locs → x2 = cnF f e0 i → lv_has ls 4 [(3, .int (nI i)), (2, .int x2), (1, .int e0), (0, .ref (L 0))] → W p l e (rd 1 0 0) s m args below meth c H locs 0 0 (MQ below (QI G M s.heap.size (fun r M' => r = cnF f e0 16 ∧ M' = M)) args s 0 0 (dm M s.heap.size)) (F0 m 4 ls []) := by
    intro nn
    induction nn with
    | zero =>
      intro i h1 h2
      exact absurd h2 (by omega)
    | succ nn ih =>
      intro i hi hin x2 H locs ls hw hx2 hl
      refine lv_iload_n hx hb dX4_countFlowsOfEntry_4 rfl (lv_at hl 0 rfl) ?_
      refine lv_bipush (v := 16) hx hb dX4_countFlowsOfEntry_5 (by decide) ?_
      refine lv_icmp_ge (tgt := 28) hx hb dX4_countFlowsOfEntry_7 (by decide) (fun c7 => ?_) (fun c7 => ?_)
      · obtain rfl : i = 16 := Nat.le_antisymm hi (ix_ge (b := 16) (by omega) (by decide) c7)
        refine lv_iload_n hx hb dX4_countFlowsOfEntry_28 rfl (lv_at hl 1 rfl) ?_
        exact r_iret cX hr hlocks hw ⟨hx2, rfl⟩ dX4_countFlowsOfEntry_29
      · have hlt : i < 16 := ix_lt (b := 16) (by omega) c7
        refine lv_aload_n hx hb dX4_countFlowsOfEntry_10 rfl (lv_at hl 3 rfl) ?_
        refine lv_iload_n hx hb dX4_countFlowsOfEntry_11 rfl (lv_at hl 0 rfl) ?_
        refine r_Vi cX hw hI.1.1 rfl [.int (nI i)] (c_X4_entryNumber l G hI.1 (nI i) h2) wM_X4_83 mw_X4_entryNumber ⟨Nat.le_of_ble_eq_true rfl, Nat.le_of_ble_eq_true rfl⟩ rfl rfl hl.1 (Nat.le_of_ble_eq_true rfl) dX4_countFlowsOfEntry_12 ⟨Nat.le_of_ble_eq_true rfl, Nat.le_of_ble_eq_true rfl⟩ (fun r M1 H locs hp hw => ?_)
        obtain ⟨rfl, hq⟩ := hp
        rw [hq] at hw
        refine lv_iload_n hx hb dX4_countFlowsOfEntry_15 rfl (lv_at hl 2 rfl) ?_
        refine lv_icmp_ne (tgt := 22) hx hb dX4_countFlowsOfEntry_16 (by decide) (fun c16 => ?_) (fun c16 => ?_)
        · refine lv_iinc (v := (nI (i + 1))) (lv' := [(3, .int (nI (i + 1))), (2, .int x2), (1, .int e0), (0, .ref (L 0))]) hx hb dX4_countFlowsOfEntry_22 hl (k := 0) rfl (nI_1 i) (by decide) rfl (fun ls hl => ?_)
          refine lv_goto (tgt := 4) hx hb dX4_countFlowsOfEntry_25 (by decide) ?_
          exact ih (i + 1) (by omega) (by omega) x2 _ _ _ hw (by rw [hx2]; show _ = (if _ then _ else _); rw [if_neg c16]) (lv_sub hl [0, 1, 2, 3] rfl)
        · refine lv_iinc (v := (x2 + 1)) (lv' := [(2, .int (x2 + 1)), (3, .int (nI i)), (1, .int e0), (0, .ref (L 0))]) hx hb dX4_countFlowsOfEntry_19 hl (k := 1) rfl rfl (by decide) rfl (fun ls hl => ?_)
          refine lv_iinc (v := (nI (i + 1))) (lv' := [(3, .int (nI (i + 1))), (2, .int (x2 + 1)), (1, .int e0), (0, .ref (L 0))]) hx hb dX4_countFlowsOfEntry_22 hl (k := 1) rfl (nI_1 i) (by decide) rfl (fun ls hl => ?_)
          refine lv_goto (tgt := 4) hx hb dX4_countFlowsOfEntry_25 (by decide) ?_
          exact ih (i + 1) (by omega) (by omega) (x2 + 1) _ _ _ hw (by rw [hx2]; show _ = (if _ then _ else _); rw [if_pos c16]) (lv_sub hl [0, 1, 2, 3] rfl)
  exact lp4 (16 + 1) 0 (by omega) (by omega) 0 _ _ _ hw rfl (lv_sub hl [0, 1, 3, 2] rfl)

set_option maxHeartbeats 4000000 in
set_option maxRecDepth 100000 in
theorem c_X4_isInUse (l : Launch) (G : gG) {M : HM} {L : Nat → Nat} {f : Nat → Int32} (hI0 : IsSt G M L f) (i : Nat) (hi : i < 8) : Ci l yX4_isInUse cX4_isInUse 2 .boolean (rd 0 0 0) G [.ref (L 0), .ref (L (8 + i))] M (fun r M' => r = (if lvE f i = true then 1 else 0) ∧ M' = M) := by
  refine Ci.of (by decide) (Nat.le_of_ble_eq_true rfl) ?_
  intro p e s m args below meth c ls cX hw hlocks hr hl
  have hx := cX.1
  have hb := cX.2.1
  have hl : lv_has ls 2 [(0, .ref (L 0)), (1, .ref (L (8 + i)))] := hl
  have hI := hI0.st
  refine lv_aload_n hx hb dX4_isInUse_0 rfl (lv_at hl 1 rfl) ?_
  refine r_get cX inX0 hw (hI.1.2.2.2.2.2.1 i hi) rfl 0 (by decide) wF_X4_87 rfl dX4_isInUse_1 ?_
  refine lv_if_eq (tgt := 35) hx hb dX4_isInUse_4 (by decide) (fun c4 => ?_) (fun c4 => ?_)
  · refine lv_iconst (v := 0) hx hb dX4_isInUse_35 (by decide) ?_
    exact r_zret cX hr hlocks rfl hw ⟨by rw [show lvE f i = false from (by simp only [lvE, decide_eq_false_iff_not]; intro h; rw [h.1] at c4; exact absurd c4 (by decide))]; rfl, rfl⟩ dX4_isInUse_36
  · refine lv_aload_n hx hb dX4_isInUse_7 rfl (lv_at hl 0 rfl) ?_
    refine r_get cX inX4 hw hI.1.1 rfl 4 (by decide) wF_X4_49 rfl dX4_isInUse_8 ?_
    refine lv_iconst (v := 1) hx hb dX4_isInUse_11 (by decide) ?_
    refine lv_icmp_eq (tgt := 31) hx hb dX4_isInUse_12 (by decide) (fun c12 => ?_) (fun c12 => ?_)
    · refine lv_iconst (v := 1) hx hb dX4_isInUse_31 (by decide) ?_
      refine lv_goto (tgt := 36) hx hb dX4_isInUse_32 (by decide) ?_
      exact r_zret cX hr hlocks rfl hw ⟨by have hz := hI.1.2.2.2.2.2.2.2.2 i hi; rw [show lvE f i = true from (by simp only [lvE, decide_eq_true_eq]; exact ⟨(hz.resolve_left c4), Or.inl c12⟩)]; rfl, rfl⟩ dX4_isInUse_36
    · refine lv_aload_n hx hb dX4_isInUse_15 rfl (lv_at hl 0 rfl) ?_
      refine r_get cX inX4 hw hI.1.1 rfl 2 (by decide) wF_X4_43 rfl dX4_isInUse_16 ?_
      refine lv_aload_n hx hb dX4_isInUse_19 rfl (lv_at hl 1 rfl) ?_
      refine r_get cX inX0 hw (hI.1.2.2.2.2.2.1 i hi) rfl 2 (by decide) wF_X4_91 rfl dX4_isInUse_20 ?_
      refine lv_isub hx hb dX4_isInUse_23 ?_
      refine lv_aload_n hx hb dX4_isInUse_24 rfl (lv_at hl 0 rfl) ?_
      refine r_get cX inX4 hw hI.1.1 rfl 5 (by decide) wF_X4_52 rfl dX4_isInUse_25 ?_
      refine lv_icmp_gt (tgt := 35) hx hb dX4_isInUse_28 (by decide) (fun c28 => ?_) (fun c28 => ?_)
      · refine lv_iconst (v := 0) hx hb dX4_isInUse_35 (by decide) ?_
        exact r_zret cX hr hlocks rfl hw ⟨by rw [show lvE f i = false from (by simp only [lvE, decide_eq_false_iff_not]; exact fun h => h.2.elim c12 (fun h3 => Int32.not_le.mpr c28 h3))]; rfl, rfl⟩ dX4_isInUse_36
      · refine lv_iconst (v := 1) hx hb dX4_isInUse_31 (by decide) ?_
        refine lv_goto (tgt := 36) hx hb dX4_isInUse_32 (by decide) ?_
        exact r_zret cX hr hlocks rfl hw ⟨by have hz := hI.1.2.2.2.2.2.2.2.2 i hi; rw [show lvE f i = true from (by simp only [lvE, decide_eq_true_eq]; exact ⟨(hz.resolve_left c4), Or.inr (Int32.not_lt.mp c28)⟩)]; rfl, rfl⟩ dX4_isInUse_36

set_option maxHeartbeats 4000000 in
set_option maxRecDepth 100000 in
theorem c_X4_countEntriesInUse (l : Launch) (G : gG) {M : HM} {L : Nat → Nat} {f : Nat → Int32} (hI0 : IsSt G M L f) {B : Nat} (hv : Inv B f) : Ci l yX4_countEntriesInUse cX4_countEntriesInUse 3 .int (rd 1 0 0) G [.ref (L 0)] M (fun r M' => r = acN f (nE f) ∧ M' = M) := by
  obtain ⟨e1, e2, e3⟩ := hv.E
  refine Ci.of (by decide) (Nat.le_of_ble_eq_true rfl) ?_
  intro p e s m args below meth c ls cX hw hlocks hr hl
  have hx := cX.1
  have hb := cX.2.1
  have hl : lv_has ls 3 [(0, .ref (L 0))] := hl
  have hI := hI0.st
  refine lv_iconst (v := 0) hx hb dX4_countEntriesInUse_0 (by decide) ?_
  refine lv_istore_n (lv' := [(1, .int 0), (0, .ref (L 0))]) hx hb dX4_countEntriesInUse_1 rfl hl (by decide) rfl (fun ls hl => ?_)
  refine lv_iconst (v := 0) hx hb dX4_countEntriesInUse_2 (by decide) ?_
  refine lv_istore_n (lv' := [(2, .int 0), (1, .int 0), (0, .ref (L 0))]) hx hb dX4_countEntriesInUse_3 rfl hl (by decide) rfl (fun ls hl => ?_)
  have lp4 : ∀ (nn i : Nat), i ≤ nE f → nE f < i + nn → ∀ (x1 : Int32) (H : Heap) (locs : List Loc) (ls : Array Slot), Wd G (dm M s.heap.size) s.heap M H locs → x1 = acN f i → lv_has ls 3 [(2, .int (nI i)), (1, .int x1), (0, .ref (L 0))] → W p l e (rd 1 0 0) s m args below meth c H locs 0 0 (MQ below (QI G M s.heap.size (fun r M' => r = acN f (nE f) ∧ M' = M)) args s 0 0 (dm M s.heap.size)) (F0 m 4 ls []) := by
    intro nn
    induction nn with
    | zero =>
      intro i h1 h2
      exact absurd h2 (by omega)
    | succ nn ih =>
      intro i hi hin x1 H locs ls hw hx1 hl
      refine lv_iload_n hx hb dX4_countEntriesInUse_4 rfl (lv_at hl 0 rfl) ?_
      refine lv_aload_n hx hb dX4_countEntriesInUse_5 rfl (lv_at hl 2 rfl) ?_
      refine r_get cX inX4 hw hI.1.1 rfl 1 (by decide) wF_X4_40 rfl dX4_countEntriesInUse_6 ?_
      refine lv_icmp_ge (tgt := 34) hx hb dX4_countEntriesInUse_9 (by decide) (fun c9 => ?_) (fun c9 => ?_)
      · obtain rfl : i = nE f := Nat.le_antisymm hi (ix_ge (b := nE f) (by omega) (by omega) (by rw [← e3]; exact c9))
        refine lv_iload_n hx hb dX4_countEntriesInUse_34 rfl (lv_at hl 1 rfl) ?_
        exact r_iret cX hr hlocks hw ⟨hx1, rfl⟩ dX4_countEntriesInUse_35
      · have hlt : i < nE f := ix_lt (b := nE f) (by omega) (by rw [← e3]; exact c9)
        refine lv_aload_n hx hb dX4_countEntriesInUse_12 rfl (lv_at hl 2 rfl) ?_
        refine lv_aload_n hx hb dX4_countEntriesInUse_13 rfl (lv_at hl 2 rfl) ?_
        refine r_get cX inX4 hw hI.1.1 rfl 10 (by decide) wF_X4_19 rfl dX4_countEntriesInUse_14 ?_
        refine lv_iload_n hx hb dX4_countEntriesInUse_17 rfl (lv_at hl 0 rfl) ?_
        obtain ⟨g_1, hg_1, hg_1_⟩ := hI.1.2.2.1
        refine r_aald cX hw 2 rfl hg_1 i rfl (by omega) (by decide) (hg_1_ i (by omega)) dX4_countEntriesInUse_18 ?_
        refine r_Vi cX hw hI.1.1 rfl [.ref (L (8 + i))] (c_X4_isInUse l G hI.1 i (by omega)) wM_X4_94 mw_X4_isInUse ⟨Nat.le_of_ble_eq_true rfl, Nat.le_of_ble_eq_true rfl⟩ rfl rfl hl.1 (Nat.le_of_ble_eq_true rfl) dX4_countEntriesInUse_19 ⟨Nat.le_of_ble_eq_true rfl, Nat.le_of_ble_eq_true rfl⟩ (fun r M1 H locs hp hw => ?_)
        obtain ⟨rfl, hq⟩ := hp
        rw [hq] at hw
        refine lv_if_eq (tgt := 28) hx hb dX4_countEntriesInUse_22 (by decide) (fun c22 => ?_) (fun c22 => ?_)
        · refine lv_iinc (v := (nI (i + 1))) (lv' := [(2, .int (nI (i + 1))), (1, .int x1), (0, .ref (L 0))]) hx hb dX4_countEntriesInUse_28 hl (k := 0) rfl (nI_1 i) (by decide) rfl (fun ls hl => ?_)
          refine lv_goto (tgt := 4) hx hb dX4_countEntriesInUse_31 (by decide) ?_
          exact ih (i + 1) (by omega) (by omega) x1 _ _ _ hw (by rw [hx1]; show _ = (if _ then _ else _); rw [if_neg (by simpa using c22)]) (lv_sub hl [0, 1, 2] rfl)
        · refine lv_iinc (v := (x1 + 1)) (lv' := [(1, .int (x1 + 1)), (2, .int (nI i)), (0, .ref (L 0))]) hx hb dX4_countEntriesInUse_25 hl (k := 1) rfl rfl (by decide) rfl (fun ls hl => ?_)
          refine lv_iinc (v := (nI (i + 1))) (lv' := [(2, .int (nI (i + 1))), (1, .int (x1 + 1)), (0, .ref (L 0))]) hx hb dX4_countEntriesInUse_28 hl (k := 1) rfl (nI_1 i) (by decide) rfl (fun ls hl => ?_)
          refine lv_goto (tgt := 4) hx hb dX4_countEntriesInUse_31 (by decide) ?_
          exact ih (i + 1) (by omega) (by omega) (x1 + 1) _ _ _ hw (by rw [hx1]; show _ = (if _ then _ else _); rw [if_pos (by simpa using c22)]) (lv_sub hl [0, 1, 2] rfl)
  exact lp4 (nE f + 1) 0 (by omega) (by omega) 0 _ _ _ hw rfl (lv_sub hl [0, 1, 2] rfl)

set_option maxHeartbeats 4000000 in
set_option maxRecDepth 100000 in
theorem c_X4_spreadOfLatencies (l : Launch) (G : gG) {M : HM} {L : Nat → Nat} {f : Nat → Int32} (hI0 : IsSt G M L f) (size : Int32) {B : Nat} (hv : Inv B f) : Ci l yX4_spreadOfLatencies cX4_spreadOfLatencies 6 .int (rd 3 0 0) G [.ref (L 0), .int size] M (fun r M' => r = mxN (laF f size) (nP f - 1) - mnN (laF f size) (nP f - 1) ∧ M' = M) := by
  obtain ⟨e1, e2, e3⟩ := hv.P
  refine Ci.of (by decide) (Nat.le_of_ble_eq_true rfl) ?_
  intro p e s m args below meth c ls cX hw hlocks hr hl
  have hx := cX.1
  have hb := cX.2.1
  have hl : lv_has ls 6 [(0, .ref (L 0)), (1, .int size)] := hl
  have hI := hI0.st
  refine lv_aload_n hx hb dX4_spreadOfLatencies_0 rfl (lv_at hl 0 rfl) ?_
  refine r_get cX inX4 hw hI.1.1 rfl 9 (by decide) wF_X4_11 rfl dX4_spreadOfLatencies_1 ?_
  refine lv_iconst (v := 0) hx hb dX4_spreadOfLatencies_4 (by decide) ?_
  obtain ⟨g_2, hg_2, hg_2_⟩ := hI.1.2.1
  refine r_aald cX hw 4 rfl hg_2 0 rfl (by decide) (by decide) (hg_2_ 0 (by decide)) dX4_spreadOfLatencies_5 ?_
  refine lv_aload_n hx hb dX4_spreadOfLatencies_6 rfl (lv_at hl 0 rfl) ?_
  refine r_get cX inX4 hw hI.1.1 rfl 2 (by decide) wF_X4_43 rfl dX4_spreadOfLatencies_7 ?_
  refine lv_iload_n hx hb dX4_spreadOfLatencies_10 rfl (lv_at hl 1 rfl) ?_
  refine r_Vi cX hw (hI.1.2.2.2.2.1 0 (by decide)) rfl [.int (f 0), .int size] (c_X2_ticksToArrive l G (hI.1.2.2.2.2.1 0 (by decide)) (f 0) size (hv.nzr 0 (by decide))) wM_X4_98 mw_X2_ticksToArrive ⟨Nat.le_of_ble_eq_true rfl, Nat.le_of_ble_eq_true rfl⟩ rfl rfl hl.1 (Nat.le_of_ble_eq_true rfl) dX4_spreadOfLatencies_11 ⟨Nat.le_of_ble_eq_true rfl, Nat.le_of_ble_eq_true rfl⟩ (fun r M1 H locs hp hw => ?_)
  obtain ⟨rfl, hq⟩ := hp
  rw [hq] at hw
  refine lv_istore_n (lv' := [(2, .int (laF f size 0)), (0, .ref (L 0)), (1, .int size)]) hx hb dX4_spreadOfLatencies_14 rfl hl (by decide) rfl (fun ls hl => ?_)
  refine lv_iload_n hx hb dX4_spreadOfLatencies_15 rfl (lv_at hl 0 rfl) ?_
  refine lv_istore_n (lv' := [(3, .int (laF f size 0)), (2, .int (laF f size 0)), (0, .ref (L 0)), (1, .int size)]) hx hb dX4_spreadOfLatencies_16 rfl hl (by decide) rfl (fun ls hl => ?_)
  refine lv_iconst (v := 1) hx hb dX4_spreadOfLatencies_17 (by decide) ?_
  refine lv_istore (lv' := [(4, .int 1), (3, .int (laF f size 0)), (2, .int (laF f size 0)), (0, .ref (L 0)), (1, .int size)]) hx hb dX4_spreadOfLatencies_18 hl (by decide) rfl (fun ls hl => ?_)
  have lp20 : ∀ (nn i : Nat), i ≤ nP f - 1 → nP f - 1 < i + nn → ∀ (mn : Int32) (mx : Int32) (H : Heap) (locs : List Loc) (ls : Array Slot), Wd G (dm M s.heap.size) s.heap M H locs → mn = mnN (laF f size) i → mx = mxN (laF f size) i → lv_has ls 6 [(4, .int (nI (i + 1))), (2, .int mn), (3, .int mx), (1, .int size), (0, .ref (L 0))] → W p l e (rd 3 0 0) s m args below meth c H locs 0 0 (MQ below (QI G M s.heap.size (fun r M' => r = mxN (laF f size) (nP f - 1) - mnN (laF f size) (nP f - 1) ∧ M' = M)) args s 0 0 (dm M s.heap.size)) (F0 m 20 ls []) := by
    intro nn
    induction nn with
    | zero =>
      intro i h1 h2
      exact absurd h2 (by omega)
    | succ nn ih =>
      intro i hi hin mn mx H locs ls hw hmn hmx hl
      refine lv_iload hx hb dX4_spreadOfLatencies_20 (lv_at hl 0 rfl) ?_
      refine lv_aload_n hx hb dX4_spreadOfLatencies_22 rfl (lv_at hl 4 rfl) ?_
      refine r_get cX inX4 hw hI.1.1 rfl 0 (by decide) wF_X4_36 rfl dX4_spreadOfLatencies_23 ?_
      refine lv_icmp_ge (tgt := 66) hx hb dX4_spreadOfLatencies_26 (by decide) (fun c26 => ?_) (fun c26 => ?_)
      · obtain rfl : i = nP f - 1 := Nat.le_antisymm hi (by have := ix_ge (a := i + 1) (b := nP f) (by omega) (by omega) (by rw [← e3]; exact c26); omega)
        refine lv_iload_n hx hb dX4_spreadOfLatencies_66 rfl (lv_at hl 2 rfl) ?_
        refine lv_iload_n hx hb dX4_spreadOfLatencies_67 rfl (lv_at hl 1 rfl) ?_
        refine lv_isub hx hb dX4_spreadOfLatencies_68 ?_
        exact r_iret cX hr hlocks hw ⟨by rw [hmn, hmx], rfl⟩ dX4_spreadOfLatencies_69
      · have hlt : i + 1 < nP f := ix_lt (by omega) (by rw [← e3]; exact c26)
        refine lv_aload_n hx hb dX4_spreadOfLatencies_29 rfl (lv_at hl 4 rfl) ?_
        refine r_get cX inX4 hw hI.1.1 rfl 9 (by decide) wF_X4_11 rfl dX4_spreadOfLatencies_30 ?_
        refine lv_iload hx hb dX4_spreadOfLatencies_33 (lv_at hl 0 rfl) ?_
        obtain ⟨g_3, hg_3, hg_3_⟩ := hI.1.2.1
        refine r_aald cX hw 4 rfl hg_3 (i + 1) rfl (by omega) (by decide) (hg_3_ (i + 1) (by omega)) dX4_spreadOfLatencies_35 ?_
        refine lv_aload_n hx hb dX4_spreadOfLatencies_36 rfl (lv_at hl 4 rfl) ?_
        refine r_get cX inX4 hw hI.1.1 rfl 2 (by decide) wF_X4_43 rfl dX4_spreadOfLatencies_37 ?_
        refine lv_iload_n hx hb dX4_spreadOfLatencies_40 rfl (lv_at hl 3 rfl) ?_
        refine r_Vi cX hw (hI.1.2.2.2.2.1 (i + 1) (by omega)) rfl [.int (f 0), .int size] (c_X2_ticksToArrive l G (hI.1.2.2.2.2.1 (i + 1) (by omega)) (f 0) size (hv.nzr (i + 1) (by omega))) wM_X4_98 mw_X2_ticksToArrive ⟨Nat.le_of_ble_eq_true rfl, Nat.le_of_ble_eq_true rfl⟩ rfl rfl hl.1 (Nat.le_of_ble_eq_true rfl) dX4_spreadOfLatencies_41 ⟨Nat.le_of_ble_eq_true rfl, Nat.le_of_ble_eq_true rfl⟩ (fun r M1 H locs hp hw => ?_)
        obtain ⟨rfl, hq⟩ := hp
        rw [hq] at hw
        refine lv_istore (lv' := [(5, .int (laF f size (i + 1))), (4, .int (nI (i + 1))), (2, .int mn), (3, .int mx), (1, .int size), (0, .ref (L 0))]) hx hb dX4_spreadOfLatencies_44 hl (by decide) rfl (fun ls hl => ?_)
        refine lv_iload_n hx hb dX4_spreadOfLatencies_46 rfl (lv_at hl 2 rfl) ?_
        refine lv_iload hx hb dX4_spreadOfLatencies_47 (lv_at hl 0 rfl) ?_
        refine r_mmin (own := RX4) (index := 102) cX hl.1 wM_X4_102 (Nat.le_of_ble_eq_true rfl) (Nat.le_of_ble_eq_true rfl) (Nat.zero_le _) (Nat.zero_le _) dX4_spreadOfLatencies_49 ?_
        refine lv_istore_n (lv' := [(2, .int (if laF f size (i + 1) < mn then laF f size (i + 1) else mn)), (5, .int (laF f size (i + 1))), (4, .int (nI (i + 1))), (3, .int mx), (1, .int size), (0, .ref (L 0))]) hx hb dX4_spreadOfLatencies_52 rfl hl (by decide) rfl (fun ls hl => ?_)
        refine lv_iload_n hx hb dX4_spreadOfLatencies_53 rfl (lv_at hl 3 rfl) ?_
        refine lv_iload hx hb dX4_spreadOfLatencies_54 (lv_at hl 1 rfl) ?_
        refine r_mmax (own := RX4) (index := 107) cX hl.1 wM_X4_107 (Nat.le_of_ble_eq_true rfl) (Nat.le_of_ble_eq_true rfl) (Nat.zero_le _) (Nat.zero_le _) dX4_spreadOfLatencies_56 ?_
        refine lv_istore_n (lv' := [(3, .int (if mx < laF f size (i + 1) then laF f size (i + 1) else mx)), (2, .int (if laF f size (i + 1) < mn then laF f size (i + 1) else mn)), (5, .int (laF f size (i + 1))), (4, .int (nI (i + 1))), (1, .int size), (0, .ref (L 0))]) hx hb dX4_spreadOfLatencies_59 rfl hl (by decide) rfl (fun ls hl => ?_)
        refine lv_iinc (v := (nI ((i + 1) + 1))) (lv' := [(4, .int (nI ((i + 1) + 1))), (3, .int (if mx < laF f size (i + 1) then laF f size (i + 1) else mx)), (2, .int (if laF f size (i + 1) < mn then laF f size (i + 1) else mn)), (5, .int (laF f size (i + 1))), (1, .int size), (0, .ref (L 0))]) hx hb dX4_spreadOfLatencies_60 hl (k := 3) rfl (nI_1 (i + 1)) (by decide) rfl (fun ls hl => ?_)
        refine lv_goto (tgt := 20) hx hb dX4_spreadOfLatencies_63 (by decide) ?_
        exact ih (i + 1) (by omega) (by omega) (if laF f size (i + 1) < mn then laF f size (i + 1) else mn) (if mx < laF f size (i + 1) then laF f size (i + 1) else mx) _ _ _ hw (by rw [hmn]; rfl) (by rw [hmx]; rfl) (lv_sub hl [0, 2, 1, 4, 5] rfl)
  exact lp20 (nP f - 1 + 1) 0 (by omega) (by omega) (laF f size 0) (laF f size 0) _ _ _ hw rfl rfl (lv_sub hl [0, 2, 1, 4, 3] rfl)

set_option maxHeartbeats 4000000 in
set_option maxRecDepth 100000 in
theorem c_X4_spreadOfBytes (l : Launch) (G : gG) {M : HM} {L : Nat → Nat} {f : Nat → Int32} (hI0 : IsSt G M L f) {B : Nat} (hv : Inv B f) : Ci l yX4_spreadOfBytes cX4_spreadOfBytes 4 .int (rd 1 0 0) G [.ref (L 0)] M (fun r M' => r = mxN (fun j => f (33 + j)) (nP f - 1) - mnN (fun j => f (33 + j)) (nP f - 1) ∧ M' = M) := by
  obtain ⟨e1, e2, e3⟩ := hv.P
  refine Ci.of (by decide) (Nat.le_of_ble_eq_true rfl) ?_
  intro p e s m args below meth c ls cX hw hlocks hr hl
  have hx := cX.1
  have hb := cX.2.1
  have hl : lv_has ls 4 [(0, .ref (L 0))] := hl
  have hI := hI0.st
  refine lv_aload_n hx hb dX4_spreadOfBytes_0 rfl (lv_at hl 0 rfl) ?_
  refine r_get cX inX4 hw hI.1.1 rfl 9 (by decide) wF_X4_11 rfl dX4_spreadOfBytes_1 ?_
  refine lv_iconst (v := 0) hx hb dX4_spreadOfBytes_4 (by decide) ?_
  obtain ⟨g_4, hg_4, hg_4_⟩ := hI.1.2.1
  refine r_aald cX hw 4 rfl hg_4 0 rfl (by decide) (by decide) (hg_4_ 0 (by decide)) dX4_spreadOfBytes_5 ?_
  refine r_get cX inX2 hw (hI.1.2.2.2.2.1 0 (by decide)) rfl 6 (by decide) wF_X4_110 rfl dX4_spreadOfBytes_6 ?_
  refine lv_istore_n (lv' := [(1, .int (f (33 + 0))), (0, .ref (L 0))]) hx hb dX4_spreadOfBytes_9 rfl hl (by decide) rfl (fun ls hl => ?_)
  refine lv_iload_n hx hb dX4_spreadOfBytes_10 rfl (lv_at hl 0 rfl) ?_
  refine lv_istore_n (lv' := [(2, .int (f (33 + 0))), (1, .int (f (33 + 0))), (0, .ref (L 0))]) hx hb dX4_spreadOfBytes_11 rfl hl (by decide) rfl (fun ls hl => ?_)
  refine lv_iconst (v := 1) hx hb dX4_spreadOfBytes_12 (by decide) ?_
  refine lv_istore_n (lv' := [(3, .int 1), (2, .int (f (33 + 0))), (1, .int (f (33 + 0))), (0, .ref (L 0))]) hx hb dX4_spreadOfBytes_13 rfl hl (by decide) rfl (fun ls hl => ?_)
  have lp14 : ∀ (nn i : Nat), i ≤ nP f - 1 → nP f - 1 < i + nn → ∀ (mn : Int32) (mx : Int32) (H : Heap) (locs : List Loc) (ls : Array Slot), Wd G (dm M s.heap.size) s.heap M H locs → mn = mnN (fun j => f (33 + j)) i → mx = mxN (fun j => f (33 + j)) i → lv_has ls 4 [(3, .int (nI (i + 1))), (1, .int mn), (2, .int mx), (0, .ref (L 0))] → W p l e (rd 1 0 0) s m args below meth c H locs 0 0 (MQ below (QI G M s.heap.size (fun r M' => r = mxN (fun j => f (33 + j)) (nP f - 1) - mnN (fun j => f (33 + j)) (nP f - 1) ∧ M' = M)) args s 0 0 (dm M s.heap.size)) (F0 m 14 ls []) := by
    intro nn
    induction nn with
    | zero =>
      intro i h1 h2
      exact absurd h2 (by omega)
    | succ nn ih =>
      intro i hi hin mn mx H locs ls hw hmn hmx hl
      refine lv_iload_n hx hb dX4_spreadOfBytes_14 rfl (lv_at hl 0 rfl) ?_
      refine lv_aload_n hx hb dX4_spreadOfBytes_15 rfl (lv_at hl 3 rfl) ?_
      refine r_get cX inX4 hw hI.1.1 rfl 0 (by decide) wF_X4_36 rfl dX4_spreadOfBytes_16 ?_
      refine lv_icmp_ge (tgt := 56) hx hb dX4_spreadOfBytes_19 (by decide) (fun c19 => ?_) (fun c19 => ?_)
      · obtain rfl : i = nP f - 1 := Nat.le_antisymm hi (by have := ix_ge (a := i + 1) (b := nP f) (by omega) (by omega) (by rw [← e3]; exact c19); omega)
        refine lv_iload_n hx hb dX4_spreadOfBytes_56 rfl (lv_at hl 2 rfl) ?_
        refine lv_iload_n hx hb dX4_spreadOfBytes_57 rfl (lv_at hl 1 rfl) ?_
        refine lv_isub hx hb dX4_spreadOfBytes_58 ?_
        exact r_iret cX hr hlocks hw ⟨by rw [hmn, hmx], rfl⟩ dX4_spreadOfBytes_59
      · have hlt : i + 1 < nP f := ix_lt (by omega) (by rw [← e3]; exact c19)
        refine lv_iload_n hx hb dX4_spreadOfBytes_22 rfl (lv_at hl 1 rfl) ?_
        refine lv_aload_n hx hb dX4_spreadOfBytes_23 rfl (lv_at hl 3 rfl) ?_
        refine r_get cX inX4 hw hI.1.1 rfl 9 (by decide) wF_X4_11 rfl dX4_spreadOfBytes_24 ?_
        refine lv_iload_n hx hb dX4_spreadOfBytes_27 rfl (lv_at hl 0 rfl) ?_
        obtain ⟨g_5, hg_5, hg_5_⟩ := hI.1.2.1
        refine r_aald cX hw 4 rfl hg_5 (i + 1) rfl (by omega) (by decide) (hg_5_ (i + 1) (by omega)) dX4_spreadOfBytes_28 ?_
        refine r_get cX inX2 hw (hI.1.2.2.2.2.1 (i + 1) (by omega)) rfl 6 (by decide) wF_X4_110 rfl dX4_spreadOfBytes_29 ?_
        refine r_mmin (own := RX4) (index := 102) cX hl.1 wM_X4_102 (Nat.le_of_ble_eq_true rfl) (Nat.le_of_ble_eq_true rfl) (Nat.zero_le _) (Nat.zero_le _) dX4_spreadOfBytes_32 ?_
        refine lv_istore_n (lv' := [(1, .int (if f (33 + (i + 1)) < mn then f (33 + (i + 1)) else mn)), (3, .int (nI (i + 1))), (2, .int mx), (0, .ref (L 0))]) hx hb dX4_spreadOfBytes_35 rfl hl (by decide) rfl (fun ls hl => ?_)
        refine lv_iload_n hx hb dX4_spreadOfBytes_36 rfl (lv_at hl 2 rfl) ?_
        refine lv_aload_n hx hb dX4_spreadOfBytes_37 rfl (lv_at hl 3 rfl) ?_
        refine r_get cX inX4 hw hI.1.1 rfl 9 (by decide) wF_X4_11 rfl dX4_spreadOfBytes_38 ?_
        refine lv_iload_n hx hb dX4_spreadOfBytes_41 rfl (lv_at hl 1 rfl) ?_
        obtain ⟨g_6, hg_6, hg_6_⟩ := hI.1.2.1
        refine r_aald cX hw 4 rfl hg_6 (i + 1) rfl (by omega) (by decide) (hg_6_ (i + 1) (by omega)) dX4_spreadOfBytes_42 ?_
        refine r_get cX inX2 hw (hI.1.2.2.2.2.1 (i + 1) (by omega)) rfl 6 (by decide) wF_X4_110 rfl dX4_spreadOfBytes_43 ?_
        refine r_mmax (own := RX4) (index := 107) cX hl.1 wM_X4_107 (Nat.le_of_ble_eq_true rfl) (Nat.le_of_ble_eq_true rfl) (Nat.zero_le _) (Nat.zero_le _) dX4_spreadOfBytes_46 ?_
        refine lv_istore_n (lv' := [(2, .int (if mx < f (33 + (i + 1)) then f (33 + (i + 1)) else mx)), (1, .int (if f (33 + (i + 1)) < mn then f (33 + (i + 1)) else mn)), (3, .int (nI (i + 1))), (0, .ref (L 0))]) hx hb dX4_spreadOfBytes_49 rfl hl (by decide) rfl (fun ls hl => ?_)
        refine lv_iinc (v := (nI ((i + 1) + 1))) (lv' := [(3, .int (nI ((i + 1) + 1))), (2, .int (if mx < f (33 + (i + 1)) then f (33 + (i + 1)) else mx)), (1, .int (if f (33 + (i + 1)) < mn then f (33 + (i + 1)) else mn)), (0, .ref (L 0))]) hx hb dX4_spreadOfBytes_50 hl (k := 2) rfl (nI_1 (i + 1)) (by decide) rfl (fun ls hl => ?_)
        refine lv_goto (tgt := 14) hx hb dX4_spreadOfBytes_53 (by decide) ?_
        exact ih (i + 1) (by omega) (by omega) (if f (33 + (i + 1)) < mn then f (33 + (i + 1)) else mn) (if mx < f (33 + (i + 1)) then f (33 + (i + 1)) else mx) _ _ _ hw (by rw [hmn]; rfl) (by rw [hmx]; rfl) (lv_sub hl [0, 2, 1, 3] rfl)
  exact lp14 (nP f - 1 + 1) 0 (by omega) (by omega) (f (33 + 0)) (f (33 + 0)) _ _ _ hw rfl rfl (lv_sub hl [0, 2, 1, 3] rfl)
end
section
theorem if01n {c : Prop} [Decidable c] (h : ¬ (if c then (1 : Int32) else 0) = 0) : c := by
  by_cases q : c
  · exact q
  · rw [if_neg q] at h
    exact absurd rfl h
theorem if01e {c : Prop} [Decidable c] (h : (if c then (1 : Int32) else 0) = 0) : ¬ c := by
  intro q
  rw [if_pos q] at h
  exact absurd h (by decide)
theorem St.re {G : gG} {M0 M : HM} {L : Nat → Nat} {f g : Nat → Int32} (h : St G M0 M L f) (e : f = g) : St G M0 M L g := e ▸ h
theorem St.paE {G : gG} {M0 M M' : HM} {L : Nat → Nat} {f f' : Nat → Int32} {fs : List Value} (h : St G M0 M L f) (j : Nat) (hj : j < 4) (hp : M' = mu M (L (4 + j)) (.inr (2, fs))) (hfs : fs = paFs f' j) (e : ∀ k, k < 153 → ¬ isPa j k → f' k = f k) : St G M0 M' L f' := hp ▸ h.pa j hj hfs e
theorem St.enE {G : gG} {M0 M M' : HM} {L : Nat → Nat} {f f' : Nat → Int32} {fs : List Value} (h : St G M0 M L f) (j : Nat) (hj : j < 8) (hp : M' = mu M (L (8 + j)) (.inr (0, fs))) (hfs : fs = enFs f' j) (hz : f' (41 + j) = 0 ∨ f' (41 + j) = 1) (e : ∀ k, k < 153 → ¬ isEn j k → f' k = f k) : St G M0 M' L f' := hp ▸ h.en j hj hfs hz e
theorem St.flE {G : gG} {M0 M M' : HM} {L : Nat → Nat} {f f' : Nat → Int32} {fs : List Value} (h : St G M0 M L f) (j : Nat) (hj : j < 16) (hp : M' = mu M (L (16 + j)) (.inr (1, fs))) (hfs : fs = flFs f' j) (e : ∀ k, k < 153 → ¬ isFl j k → f' k = f k) : St G M0 M' L f' := hp ▸ h.fl j hj hfs e
theorem nI_lep {k P : Nat} (h : k < P) (hP : P < 2 ^ 31) : nI k ≤ nI P - 1 := by
  rw [show (1 : Int32) = nI 1 from rfl, pk_sub (by omega)]
  exact nI_le (by omega) (by omega)
def woF (f : Nat → Int32) (k : Nat) (size : Int32) : Int32 := if ¬ 200 < f (25 + (chF f k).toNatClampNeg) - f 0 ∧ enF f (chF f k).toNatClampNeg size + f (9 + (chF f k).toNatClampNeg) < f (137 + k) then 1 else 0
set_option maxHeartbeats 4000000 in
set_option maxRecDepth 100000 in
theorem c_X4_decayLoads (l : Launch) (G : gG) {M : HM} {L : Nat → Nat} {f : Nat → Int32} (hI0 : IsSt G M L f) {B : Nat} (hv : Inv B f) : Cv l yX4_decayLoads cX4_decayLoads 2 (rd 1 0 0) G [.ref (L 0)] M (fun M' => St G M M' L (dcN f (nP f))) := by
  obtain ⟨e1, e2, e3⟩ := hv.P
  refine Cv.of (by decide) (Nat.le_of_ble_eq_true rfl) ?_
  intro p e s m args below meth c ls cX hw hlocks hr hnm hl
  have hx := cX.1
  have hb := cX.2.1
  have hl : lv_has ls 2 [(0, .ref (L 0))] := hl
  have hI := hI0.st
  refine lv_iconst (v := 0) hx hb dX4_decayLoads_0 (by decide) ?_
  refine lv_istore_n (lv' := [(1, .int 0), (0, .ref (L 0))]) hx hb dX4_decayLoads_1 rfl hl (by decide) rfl (fun ls hl => ?_)
  have lp2 : ∀ (nn i : Nat), i ≤ nP f → nP f < i + nn → ∀ (M1 : HM) (H : Heap) (locs : List Loc) (ls : Array Slot), Wd G (dm M s.heap.size) s.heap M1 H locs → St G M M1 L (dcN f i) → lv_has ls 2 [(1, .int (nI i)), (0, .ref (L 0))] → W p l e (rd 1 0 0) s m args below meth c H locs 0 0 (MQ below (QV G M s.heap.size (fun M' => St G M M' L (dcN f (nP f)))) args s 0 0 (dm M s.heap.size)) (F0 m 2 ls []) := by
    intro nn
    induction nn with
    | zero =>
      intro i h1 h2
      exact absurd h2 (by omega)
    | succ nn ih =>
      intro i hi hin M1 H locs ls hw hI hl
      refine lv_iload_n hx hb dX4_decayLoads_2 rfl (lv_at hl 0 rfl) ?_
      refine lv_aload_n hx hb dX4_decayLoads_3 rfl (lv_at hl 1 rfl) ?_
      refine r_get cX inX4 hw hI.1.1 rfl 0 (by decide) wF_X4_36 rfl dX4_decayLoads_4 ?_
      refine lv_icmp_ge (tgt := 29) hx hb dX4_decayLoads_7 (by decide) (fun c7 => ?_) (fun c7 => ?_)
      · obtain rfl : i = nP f := Nat.le_antisymm hi (ix_ge (b := nP f) (by omega) (by omega) (by rw [← ((dcN_o f i 1 (by omega)).trans e3)]; exact c7))
        exact r_vret cX hr hlocks hw hI dX4_decayLoads_29
      · have hlt : i < nP f := ix_lt (b := nP f) (by omega) (by rw [← ((dcN_o f i 1 (by omega)).trans e3)]; exact c7)
        refine lv_aload_n hx hb dX4_decayLoads_10 rfl (lv_at hl 1 rfl) ?_
        refine r_get cX inX4 hw hI.1.1 rfl 9 (by decide) wF_X4_11 rfl dX4_decayLoads_11 ?_
        refine lv_iload_n hx hb dX4_decayLoads_14 rfl (lv_at hl 0 rfl) ?_
        obtain ⟨g_7, hg_7, hg_7_⟩ := hI.1.2.1
        refine r_aald cX hw 4 rfl hg_7 i rfl (by omega) (by decide) (hg_7_ i (by omega)) dX4_decayLoads_15 ?_
        refine lv_aload_n hx hb dX4_decayLoads_16 rfl (lv_at hl 1 rfl) ?_
        refine r_get cX inX4 hw hI.1.1 rfl 6 (by decide) wF_X4_55 rfl dX4_decayLoads_17 ?_
        refine r_Vv cX hw (hI.1.2.2.2.2.1 i (by omega)) rfl [.int ((dcN f i) 6)] (c_X2_decay l G (hI.1.2.2.2.2.1 i (by omega)) ((dcN f i) 6)) wM_X4_119 mw_X2_decay ⟨Nat.le_of_ble_eq_true rfl, Nat.le_of_ble_eq_true rfl⟩ rfl rfl hl.1 (Nat.le_of_ble_eq_true rfl) dX4_decayLoads_20 ⟨Nat.le_of_ble_eq_true rfl, Nat.le_of_ble_eq_true rfl⟩ (fun M1 H locs hp hw => ?_)
        rw [dcN_o f i 6 (by omega)] at hp
        have hI := hI.paE (f' := dcN f (i + 1)) i (by omega) hp (by simp [paFs, dcN, upd]) (fun k h1 h2 => by show upd _ _ _ k = _; exact pk_un (by unfold isPa at h2; omega))
        refine lv_iinc (v := (nI (i + 1))) (lv' := [(1, .int (nI (i + 1))), (0, .ref (L 0))]) hx hb dX4_decayLoads_23 hl (k := 0) rfl (nI_1 i) (by decide) rfl (fun ls hl => ?_)
        refine lv_goto (tgt := 2) hx hb dX4_decayLoads_26 (by decide) ?_
        exact ih (i + 1) (by omega) (by omega) _ _ _ _ hw hI (lv_sub hl [0, 1] rfl)
  exact lp2 (nP f + 1) 0 (by omega) (by omega) _ _ _ _ hw hI (lv_sub hl [0, 1] rfl)

set_option maxHeartbeats 4000000 in
set_option maxRecDepth 100000 in
theorem c_X4_ageEntries (l : Launch) (G : gG) {M : HM} {L : Nat → Nat} {f : Nat → Int32} (hI0 : IsSt G M L f) {B : Nat} (hv : Inv B f) : Cv l yX4_ageEntries cX4_ageEntries 2 (rd 1 0 0) G [.ref (L 0)] M (fun M' => St G M M' L (agN f (nE f))) := by
  obtain ⟨e1, e2, e3⟩ := hv.E
  refine Cv.of (by decide) (Nat.le_of_ble_eq_true rfl) ?_
  intro p e s m args below meth c ls cX hw hlocks hr hnm hl
  have hx := cX.1
  have hb := cX.2.1
  have hl : lv_has ls 2 [(0, .ref (L 0))] := hl
  have hI := hI0.st
  refine lv_iconst (v := 0) hx hb dX4_ageEntries_0 (by decide) ?_
  refine lv_istore_n (lv' := [(1, .int 0), (0, .ref (L 0))]) hx hb dX4_ageEntries_1 rfl hl (by decide) rfl (fun ls hl => ?_)
  have lp2 : ∀ (nn i : Nat), i ≤ nE f → nE f < i + nn → ∀ (M1 : HM) (H : Heap) (locs : List Loc) (ls : Array Slot), Wd G (dm M s.heap.size) s.heap M1 H locs → St G M M1 L (agN f i) → lv_has ls 2 [(1, .int (nI i)), (0, .ref (L 0))] → W p l e (rd 1 0 0) s m args below meth c H locs 0 0 (MQ below (QV G M s.heap.size (fun M' => St G M M' L (agN f (nE f)))) args s 0 0 (dm M s.heap.size)) (F0 m 2 ls []) := by
    intro nn
    induction nn with
    | zero =>
      intro i h1 h2
      exact absurd h2 (by omega)
    | succ nn ih =>
      intro i hi hin M1 H locs ls hw hI hl
      refine lv_iload_n hx hb dX4_ageEntries_2 rfl (lv_at hl 0 rfl) ?_
      refine lv_aload_n hx hb dX4_ageEntries_3 rfl (lv_at hl 1 rfl) ?_
      refine r_get cX inX4 hw hI.1.1 rfl 1 (by decide) wF_X4_40 rfl dX4_ageEntries_4 ?_
      refine lv_icmp_ge (tgt := 25) hx hb dX4_ageEntries_7 (by decide) (fun c7 => ?_) (fun c7 => ?_)
      · obtain rfl : i = nE f := Nat.le_antisymm hi (ix_ge (b := nE f) (by omega) (by omega) (by rw [← ((agN_o f i 2 (by omega)).trans e3)]; exact c7))
        exact r_vret cX hr hlocks hw hI dX4_ageEntries_25
      · have hlt : i < nE f := ix_lt (b := nE f) (by omega) (by rw [← ((agN_o f i 2 (by omega)).trans e3)]; exact c7)
        refine lv_aload_n hx hb dX4_ageEntries_10 rfl (lv_at hl 1 rfl) ?_
        refine r_get cX inX4 hw hI.1.1 rfl 10 (by decide) wF_X4_19 rfl dX4_ageEntries_11 ?_
        refine lv_iload_n hx hb dX4_ageEntries_14 rfl (lv_at hl 0 rfl) ?_
        obtain ⟨g_8, hg_8, hg_8_⟩ := hI.1.2.2.1
        refine r_aald cX hw 2 rfl hg_8 i rfl (by omega) (by decide) (hg_8_ i (by omega)) dX4_ageEntries_15 ?_
        refine r_Vv cX hw (hI.1.2.2.2.2.2.1 i (by omega)) rfl [] (c_X0_growOlder l G (hI.1.2.2.2.2.2.1 i (by omega))) wM_X4_123 mw_X0_growOlder ⟨Nat.le_of_ble_eq_true rfl, Nat.le_of_ble_eq_true rfl⟩ rfl rfl hl.1 (Nat.le_of_ble_eq_true rfl) dX4_ageEntries_16 ⟨Nat.le_of_ble_eq_true rfl, Nat.le_of_ble_eq_true rfl⟩ (fun M1 H locs hp hw => ?_)
        have hI := hI.age i (by omega) (by rw [agN_o f i (65 + i) (by omega)]; exact (hv.2.2.2.2.2.2.2.2 i (by omega)).2.2.2) hp
        have hI : St G M M1 L (agN f (i + 1)) := hI
        refine lv_iinc (v := (nI (i + 1))) (lv' := [(1, .int (nI (i + 1))), (0, .ref (L 0))]) hx hb dX4_ageEntries_19 hl (k := 0) rfl (nI_1 i) (by decide) rfl (fun ls hl => ?_)
        refine lv_goto (tgt := 2) hx hb dX4_ageEntries_22 (by decide) ?_
        exact ih (i + 1) (by omega) (by omega) _ _ _ _ hw hI (lv_sub hl [0, 1] rfl)
  exact lp2 (nE f + 1) 0 (by omega) (by omega) _ _ _ _ hw hI (lv_sub hl [0, 1] rfl)

set_option maxHeartbeats 4000000 in
set_option maxRecDepth 100000 in
theorem c_X4_letTimePass (l : Launch) (G : gG) {M : HM} {L : Nat → Nat} {f : Nat → Int32} (hI0 : IsSt G M L f) {B T n : Nat} (hv : Inv B f) (hT : f 0 = nI T) (hTn : T + n ≤ 1000000) : Cv l yX4_letTimePass cX4_letTimePass 3 (rd 2 0 0) G [.ref (L 0), .int (nI n)] M (fun M' => St G M M' L (psN f n)) := by
  refine Cv.of (by decide) (Nat.le_of_ble_eq_true rfl) ?_
  intro p e s m args below meth c ls cX hw hlocks hr hnm hl
  have hx := cX.1
  have hb := cX.2.1
  have hl : lv_has ls 3 [(0, .ref (L 0)), (1, .int (nI n))] := hl
  have hI := hI0.st
  refine lv_iconst (v := 0) hx hb dX4_letTimePass_0 (by decide) ?_
  refine lv_istore_n (lv' := [(2, .int 0), (0, .ref (L 0)), (1, .int (nI n))]) hx hb dX4_letTimePass_1 rfl hl (by decide) rfl (fun ls hl => ?_)
  have lp2 : ∀ (nn i : Nat), i ≤ n → n < i + nn → ∀ (M1 : HM) (H : Heap) (locs : List Loc) (ls : Array Slot), Wd G (dm M s.heap.size) s.heap M1 H locs → St G M M1 L (psN f i) → lv_has ls 3 [(2, .int (nI i)), (1, .int (nI n)), (0, .ref (L 0))] → W p l e (rd 2 0 0) s m args below meth c H locs 0 0 (MQ below (QV G M s.heap.size (fun M' => St G M M' L (psN f n))) args s 0 0 (dm M s.heap.size)) (F0 m 2 ls []) := by
    intro nn
    induction nn with
    | zero =>
      intro i h1 h2
      exact absurd h2 (by omega)
    | succ nn ih =>
      intro i hi hin M1 H locs ls hw hI hl
      refine lv_iload_n hx hb dX4_letTimePass_2 rfl (lv_at hl 0 rfl) ?_
      refine lv_iload_n hx hb dX4_letTimePass_3 rfl (lv_at hl 1 rfl) ?_
      refine lv_icmp_ge (tgt := 61) hx hb dX4_letTimePass_4 (by decide) (fun c4 => ?_) (fun c4 => ?_)
      · obtain rfl : i = n := Nat.le_antisymm hi (ix_ge (by omega) (by omega) c4)
        exact r_vret cX hr hlocks hw hI dX4_letTimePass_61
      · have hlt : i < n := ix_lt (by omega) c4
        obtain ⟨hvi, hTi⟩ := hv.ps hT hTn i (by omega)
        refine lv_aload_n hx hb dX4_letTimePass_7 rfl (lv_at hl 2 rfl) ?_
        refine lv_dup hx hb dX4_letTimePass_8 rfl ?_
        refine r_get cX inX4 hw hI.1.1 rfl 2 (by decide) wF_X4_43 rfl dX4_letTimePass_9 ?_
        refine lv_iconst (v := 1) hx hb dX4_letTimePass_12 (by decide) ?_
        refine lv_iadd hx hb dX4_letTimePass_13 ?_
        refine r_put (fs' := stFs L (t1F (psN f i))) cX inX4 tyX4 tyX4_ok nmX4 hw hI.1.1 rfl 2 (by decide) wF_X4_43 rfl rfl rfl rfl (Nat.le_of_ble_eq_true rfl) dX4_letTimePass_14 (fun H locs hw => ?_)
        have hI := hI.sc (f' := t1F (psN f i)) (fun k h1 _ => pk_un (by omega))
        have hv1 := (hvi.t1 hTi (by omega)).1
        refine lv_aload_n hx hb dX4_letTimePass_17 rfl (lv_at hl 2 rfl) ?_
        refine r_get cX inX4 hw hI.1.1 rfl 2 (by decide) wF_X4_43 rfl dX4_letTimePass_18 ?_
        refine lv_bipush (v := 10) hx hb dX4_letTimePass_21 (by decide) ?_
        refine r_irem hx hb dX4_letTimePass_23 (by decide) ?_
        refine lv_if_ne (tgt := 31) hx hb dX4_letTimePass_24 (by decide) (fun c24 => ?_) (fun c24 => ?_)
        · have hI := hI.re (g := t2F (t1F (psN f i))) (by unfold t2F; rw [if_neg c24])
          have hv2 := hv1.t2.1
          refine lv_aload_n hx hb dX4_letTimePass_31 rfl (lv_at hl 2 rfl) ?_
          refine r_get cX inX4 hw hI.1.1 rfl 4 (by decide) wF_X4_49 rfl dX4_letTimePass_32 ?_
          refine lv_iconst (v := 1) hx hb dX4_letTimePass_35 (by decide) ?_
          refine lv_icmp_ne (tgt := 55) hx hb dX4_letTimePass_36 (by decide) (fun c36 => ?_) (fun c36 => ?_)
          · have hI := hI.re (g := psN f (i + 1)) (by show _ = t3F (t2F (t1F (psN f i))); unfold t3F; rw [if_neg (fun h => c36 h.1)])
            refine lv_iinc (v := (nI (i + 1))) (lv' := [(2, .int (nI (i + 1))), (1, .int (nI n)), (0, .ref (L 0))]) hx hb dX4_letTimePass_55 hl (k := 0) rfl (nI_1 i) (by decide) rfl (fun ls hl => ?_)
            refine lv_goto (tgt := 2) hx hb dX4_letTimePass_58 (by decide) ?_
            exact ih (i + 1) (by omega) (by omega) _ _ _ _ hw hI (lv_sub hl [0, 1, 2] rfl)
          · refine lv_aload_n hx hb dX4_letTimePass_39 rfl (lv_at hl 2 rfl) ?_
            refine r_get cX inX4 hw hI.1.1 rfl 2 (by decide) wF_X4_43 rfl dX4_letTimePass_40 ?_
            refine lv_aload_n hx hb dX4_letTimePass_43 rfl (lv_at hl 2 rfl) ?_
            refine r_get cX inX4 hw hI.1.1 rfl 5 (by decide) wF_X4_52 rfl dX4_letTimePass_44 ?_
            refine r_irem hx hb dX4_letTimePass_47 hv2.nz3 ?_
            refine lv_if_ne (tgt := 55) hx hb dX4_letTimePass_48 (by decide) (fun c48 => ?_) (fun c48 => ?_)
            · have hI := hI.re (g := psN f (i + 1)) (by show _ = t3F (t2F (t1F (psN f i))); unfold t3F; rw [if_neg (fun h => c48 h.2)])
              refine lv_iinc (v := (nI (i + 1))) (lv' := [(2, .int (nI (i + 1))), (1, .int (nI n)), (0, .ref (L 0))]) hx hb dX4_letTimePass_55 hl (k := 0) rfl (nI_1 i) (by decide) rfl (fun ls hl => ?_)
              refine lv_goto (tgt := 2) hx hb dX4_letTimePass_58 (by decide) ?_
              exact ih (i + 1) (by omega) (by omega) _ _ _ _ hw hI (lv_sub hl [0, 1, 2] rfl)
            · refine lv_aload_n hx hb dX4_letTimePass_51 rfl (lv_at hl 2 rfl) ?_
              refine r_Vv cX hw hI.1.1 rfl [] (c_X4_ageEntries l G hI.1 hv2) wM_X4_116 mw_X4_ageEntries ⟨Nat.le_of_ble_eq_true rfl, Nat.le_of_ble_eq_true rfl⟩ rfl rfl hl.1 (Nat.le_of_ble_eq_true rfl) dX4_letTimePass_52 ⟨Nat.le_of_ble_eq_true rfl, Nat.le_of_ble_eq_true rfl⟩ (fun M1 H locs hp hw => ?_)
              have hI := hI.trans hp
              have hI := hI.re (g := psN f (i + 1)) (by show _ = t3F (t2F (t1F (psN f i))); unfold t3F; rw [if_pos ⟨c36, c48⟩])
              refine lv_iinc (v := (nI (i + 1))) (lv' := [(2, .int (nI (i + 1))), (1, .int (nI n)), (0, .ref (L 0))]) hx hb dX4_letTimePass_55 hl (k := 0) rfl (nI_1 i) (by decide) rfl (fun ls hl => ?_)
              refine lv_goto (tgt := 2) hx hb dX4_letTimePass_58 (by decide) ?_
              exact ih (i + 1) (by omega) (by omega) _ _ _ _ hw hI (lv_sub hl [0, 1, 2] rfl)
        · refine lv_aload_n hx hb dX4_letTimePass_27 rfl (lv_at hl 2 rfl) ?_
          refine r_Vv cX hw hI.1.1 rfl [] (c_X4_decayLoads l G hI.1 hv1) wM_X4_113 mw_X4_decayLoads ⟨Nat.le_of_ble_eq_true rfl, Nat.le_of_ble_eq_true rfl⟩ rfl rfl hl.1 (Nat.le_of_ble_eq_true rfl) dX4_letTimePass_28 ⟨Nat.le_of_ble_eq_true rfl, Nat.le_of_ble_eq_true rfl⟩ (fun M1 H locs hp hw => ?_)
          have hI := hI.trans hp
          have hI := hI.re (g := t2F (t1F (psN f i))) (by unfold t2F; rw [if_pos c24])
          have hv2 := hv1.t2.1
          refine lv_aload_n hx hb dX4_letTimePass_31 rfl (lv_at hl 2 rfl) ?_
          refine r_get cX inX4 hw hI.1.1 rfl 4 (by decide) wF_X4_49 rfl dX4_letTimePass_32 ?_
          refine lv_iconst (v := 1) hx hb dX4_letTimePass_35 (by decide) ?_
          refine lv_icmp_ne (tgt := 55) hx hb dX4_letTimePass_36 (by decide) (fun c36 => ?_) (fun c36 => ?_)
          · have hI := hI.re (g := psN f (i + 1)) (by show _ = t3F (t2F (t1F (psN f i))); unfold t3F; rw [if_neg (fun h => c36 h.1)])
            refine lv_iinc (v := (nI (i + 1))) (lv' := [(2, .int (nI (i + 1))), (1, .int (nI n)), (0, .ref (L 0))]) hx hb dX4_letTimePass_55 hl (k := 0) rfl (nI_1 i) (by decide) rfl (fun ls hl => ?_)
            refine lv_goto (tgt := 2) hx hb dX4_letTimePass_58 (by decide) ?_
            exact ih (i + 1) (by omega) (by omega) _ _ _ _ hw hI (lv_sub hl [0, 1, 2] rfl)
          · refine lv_aload_n hx hb dX4_letTimePass_39 rfl (lv_at hl 2 rfl) ?_
            refine r_get cX inX4 hw hI.1.1 rfl 2 (by decide) wF_X4_43 rfl dX4_letTimePass_40 ?_
            refine lv_aload_n hx hb dX4_letTimePass_43 rfl (lv_at hl 2 rfl) ?_
            refine r_get cX inX4 hw hI.1.1 rfl 5 (by decide) wF_X4_52 rfl dX4_letTimePass_44 ?_
            refine r_irem hx hb dX4_letTimePass_47 hv2.nz3 ?_
            refine lv_if_ne (tgt := 55) hx hb dX4_letTimePass_48 (by decide) (fun c48 => ?_) (fun c48 => ?_)
            · have hI := hI.re (g := psN f (i + 1)) (by show _ = t3F (t2F (t1F (psN f i))); unfold t3F; rw [if_neg (fun h => c48 h.2)])
              refine lv_iinc (v := (nI (i + 1))) (lv' := [(2, .int (nI (i + 1))), (1, .int (nI n)), (0, .ref (L 0))]) hx hb dX4_letTimePass_55 hl (k := 0) rfl (nI_1 i) (by decide) rfl (fun ls hl => ?_)
              refine lv_goto (tgt := 2) hx hb dX4_letTimePass_58 (by decide) ?_
              exact ih (i + 1) (by omega) (by omega) _ _ _ _ hw hI (lv_sub hl [0, 1, 2] rfl)
            · refine lv_aload_n hx hb dX4_letTimePass_51 rfl (lv_at hl 2 rfl) ?_
              refine r_Vv cX hw hI.1.1 rfl [] (c_X4_ageEntries l G hI.1 hv2) wM_X4_116 mw_X4_ageEntries ⟨Nat.le_of_ble_eq_true rfl, Nat.le_of_ble_eq_true rfl⟩ rfl rfl hl.1 (Nat.le_of_ble_eq_true rfl) dX4_letTimePass_52 ⟨Nat.le_of_ble_eq_true rfl, Nat.le_of_ble_eq_true rfl⟩ (fun M1 H locs hp hw => ?_)
              have hI := hI.trans hp
              have hI := hI.re (g := psN f (i + 1)) (by show _ = t3F (t2F (t1F (psN f i))); unfold t3F; rw [if_pos ⟨c36, c48⟩])
              refine lv_iinc (v := (nI (i + 1))) (lv' := [(2, .int (nI (i + 1))), (1, .int (nI n)), (0, .ref (L 0))]) hx hb dX4_letTimePass_55 hl (k := 0) rfl (nI_1 i) (by decide) rfl (fun ls hl => ?_)
              refine lv_goto (tgt := 2) hx hb dX4_letTimePass_58 (by decide) ?_
              exact ih (i + 1) (by omega) (by omega) _ _ _ _ hw hI (lv_sub hl [0, 1, 2] rfl)
  exact lp2 (n + 1) 0 (by omega) (by omega) _ _ _ _ hw hI (lv_sub hl [0, 2, 1] rfl)

set_option maxHeartbeats 4000000 in
set_option maxRecDepth 100000 in
theorem c_X4_usesTable (l : Launch) (G : gG) {M : HM} {L : Nat → Nat} {f : Nat → Int32} (hI0 : IsSt G M L f) : Ci l yX4_usesTable cX4_usesTable 1 .boolean (rd 0 0 0) G [.ref (L 0)] M (fun r M' => r = (if f 5 = 1 ∨ f 5 = 3 then 1 else 0) ∧ M' = M) := by
  refine Ci.of (by decide) (Nat.le_of_ble_eq_true rfl) ?_
  intro p e s m args below meth c ls cX hw hlocks hr hl
  have hx := cX.1
  have hb := cX.2.1
  have hl : lv_has ls 1 [(0, .ref (L 0))] := hl
  have hI := hI0.st
  refine lv_aload_n hx hb dX4_usesTable_0 rfl (lv_at hl 0 rfl) ?_
  refine r_get cX inX4 hw hI.1.1 rfl 3 (by decide) wF_X4_46 rfl dX4_usesTable_1 ?_
  refine lv_iconst (v := 1) hx hb dX4_usesTable_4 (by decide) ?_
  refine lv_icmp_eq (tgt := 16) hx hb dX4_usesTable_5 (by decide) (fun c5 => ?_) (fun c5 => ?_)
  · refine lv_iconst (v := 1) hx hb dX4_usesTable_16 (by decide) ?_
    refine lv_goto (tgt := 21) hx hb dX4_usesTable_17 (by decide) ?_
    exact r_zret cX hr hlocks rfl hw ⟨(if_pos (Or.inl c5)).symm, rfl⟩ dX4_usesTable_21
  · refine lv_aload_n hx hb dX4_usesTable_8 rfl (lv_at hl 0 rfl) ?_
    refine r_get cX inX4 hw hI.1.1 rfl 3 (by decide) wF_X4_46 rfl dX4_usesTable_9 ?_
    refine lv_iconst (v := 3) hx hb dX4_usesTable_12 (by decide) ?_
    refine lv_icmp_ne (tgt := 20) hx hb dX4_usesTable_13 (by decide) (fun c13 => ?_) (fun c13 => ?_)
    · refine lv_iconst (v := 0) hx hb dX4_usesTable_20 (by decide) ?_
      exact r_zret cX hr hlocks rfl hw ⟨(if_neg (fun h => h.elim c5 c13)).symm, rfl⟩ dX4_usesTable_21
    · refine lv_iconst (v := 1) hx hb dX4_usesTable_16 (by decide) ?_
      refine lv_goto (tgt := 21) hx hb dX4_usesTable_17 (by decide) ?_
      exact r_zret cX hr hlocks rfl hw ⟨(if_pos (Or.inr c13)).symm, rfl⟩ dX4_usesTable_21

set_option maxHeartbeats 4000000 in
set_option maxRecDepth 100000 in
theorem c_X4_nextGenerator (l : Launch) (G : gG) {M : HM} {L : Nat → Nat} {f : Nat → Int32} (hI0 : IsSt G M L f) : Ci l yX4_nextGenerator cX4_nextGenerator 1 .int (rd 0 0 0) G [.ref (L 0)] M (fun r M' => r = nx (f 7) ∧ M' = M) := by
  refine Ci.of (by decide) (Nat.le_of_ble_eq_true rfl) ?_
  intro p e s m args below meth c ls cX hw hlocks hr hl
  have hx := cX.1
  have hb := cX.2.1
  have hl : lv_has ls 1 [(0, .ref (L 0))] := hl
  have hI := hI0.st
  refine lv_ldc (v := 1103515245) hx hb cX.2.2.2.1 (cX.2.2.2.2.ts _ wK_X4_147) dX4_nextGenerator_0 ?_
  refine lv_aload_n hx hb dX4_nextGenerator_2 rfl (lv_at hl 0 rfl) ?_
  refine r_get cX inX4 hw hI.1.1 rfl 7 (by decide) wF_X4_58 rfl dX4_nextGenerator_3 ?_
  refine lv_imul hx hb dX4_nextGenerator_6 ?_
  refine lv_sipush (v := 12345) hx hb dX4_nextGenerator_7 (by decide) ?_
  refine lv_iadd hx hb dX4_nextGenerator_10 ?_
  refine lv_ldc (v := 2147483647) hx hb cX.2.2.2.1 (cX.2.2.2.2.ts _ wK_X4_148) dX4_nextGenerator_11 ?_
  refine lv_iand hx hb dX4_nextGenerator_13 ?_
  exact r_iret cX hr hlocks hw ⟨rfl, rfl⟩ dX4_nextGenerator_14

set_option maxHeartbeats 4000000 in
set_option maxRecDepth 100000 in
theorem c_X4_randomPath (l : Launch) (G : gG) {M : HM} {L : Nat → Nat} {f : Nat → Int32} (hI0 : IsSt G M L f) (h1 : ¬ f 1 = 0) : Ci l yX4_randomPath cX4_randomPath 1 .int (rd 1 0 0) G [.ref (L 0)] M (fun r M' => r = jr (nx (f 7) / 65536) (f 1) ∧ M' = M) := by
  refine Ci.of (by decide) (Nat.le_of_ble_eq_true rfl) ?_
  intro p e s m args below meth c ls cX hw hlocks hr hl
  have hx := cX.1
  have hb := cX.2.1
  have hl : lv_has ls 1 [(0, .ref (L 0))] := hl
  have hI := hI0.st
  refine lv_aload_n hx hb dX4_randomPath_0 rfl (lv_at hl 0 rfl) ?_
  refine r_Vi cX hw hI.1.1 rfl [] (c_X4_nextGenerator l G hI.1) wM_X4_143 mw_X4_nextGenerator ⟨Nat.le_of_ble_eq_true rfl, Nat.le_of_ble_eq_true rfl⟩ rfl rfl hl.1 (Nat.le_of_ble_eq_true rfl) dX4_randomPath_1 ⟨Nat.le_of_ble_eq_true rfl, Nat.le_of_ble_eq_true rfl⟩ (fun r M1 H locs hp hw => ?_)
  obtain ⟨rfl, hq⟩ := hp
  rw [hq] at hw
  refine lv_ldc (v := 65536) hx hb cX.2.2.2.1 (cX.2.2.2.2.ts _ wK_X4_146) dX4_randomPath_4 ?_
  refine lv_idiv hx hb dX4_randomPath_6 (by decide) ?_
  refine lv_aload_n hx hb dX4_randomPath_7 rfl (lv_at hl 0 rfl) ?_
  refine r_get cX inX4 hw hI.1.1 rfl 0 (by decide) wF_X4_36 rfl dX4_randomPath_8 ?_
  refine r_irem hx hb dX4_randomPath_11 h1 ?_
  exact r_iret cX hr hlocks hw ⟨rfl, rfl⟩ dX4_randomPath_12

set_option maxHeartbeats 4000000 in
set_option maxRecDepth 100000 in
theorem c_X4_leastCongestedPath (l : Launch) (G : gG) {M : HM} {L : Nat → Nat} {f : Nat → Int32} (hI0 : IsSt G M L f) {B : Nat} (hv : Inv B f) (had : Int32) (hh : had = -9 ∨ ∃ k, k < nP f ∧ had = nI k) : Ci l yX4_leastCongestedPath cX4_leastCongestedPath 4 .int (rd 2 0 0) G [.ref (L 0), .int had] M (fun r M' => r = llF f had ∧ M' = M) := by
  obtain ⟨e1, e2, e3⟩ := hv.P
  refine Ci.of (by decide) (Nat.le_of_ble_eq_true rfl) ?_
  intro p e s m args below meth c ls cX hw hlocks hr hl
  have hx := cX.1
  have hb := cX.2.1
  have hl : lv_has ls 4 [(0, .ref (L 0)), (1, .int had)] := hl
  have hI := hI0.st
  refine lv_iconst (v := 0) hx hb dX4_leastCongestedPath_0 (by decide) ?_
  refine lv_istore_n (lv' := [(2, .int 0), (0, .ref (L 0)), (1, .int had)]) hx hb dX4_leastCongestedPath_1 rfl hl (by decide) rfl (fun ls hl => ?_)
  refine lv_iconst (v := 1) hx hb dX4_leastCongestedPath_2 (by decide) ?_
  refine lv_istore_n (lv' := [(3, .int 1), (2, .int 0), (0, .ref (L 0)), (1, .int had)]) hx hb dX4_leastCongestedPath_3 rfl hl (by decide) rfl (fun ls hl => ?_)
  have lp4 : ∀ (nn i : Nat), i ≤ nP f - 1 → nP f - 1 < i + nn → ∀ (H : Heap) (locs : List Loc) (ls : Array Slot), Wd G (dm M s.heap.size) s.heap M H locs → lv_has ls 4 [(3, .int (nI (i + 1))), (2, .int (nI (bs f i))), (1, .int had), (0, .ref (L 0))] → W p l e (rd 2 0 0) s m args below meth c H locs 0 0 (MQ below (QI G M s.heap.size (fun r M' => r = llF f had ∧ M' = M)) args s 0 0 (dm M s.heap.size)) (F0 m 4 ls []) := by
    intro nn
    induction nn with
    | zero =>
      intro i h1 h2
      exact absurd h2 (by omega)
    | succ nn ih =>
      intro i hi hin H locs ls hw hl
      refine lv_iload_n hx hb dX4_leastCongestedPath_4 rfl (lv_at hl 0 rfl) ?_
      refine lv_aload_n hx hb dX4_leastCongestedPath_5 rfl (lv_at hl 3 rfl) ?_
      refine r_get cX inX4 hw hI.1.1 rfl 0 (by decide) wF_X4_36 rfl dX4_leastCongestedPath_6 ?_
      refine lv_icmp_ge (tgt := 41) hx hb dX4_leastCongestedPath_9 (by decide) (fun c9 => ?_) (fun c9 => ?_)
      · obtain rfl : i = nP f - 1 := Nat.le_antisymm hi (by have := ix_ge (a := i + 1) (b := nP f) (by omega) (by omega) (by rw [← e3]; exact c9); omega)
        rcases hh with hh | ⟨k, hk, hh⟩
        · subst hh
          refine lv_aload_n hx hb dX4_leastCongestedPath_41 rfl (lv_at hl 3 rfl) ?_
          refine lv_iload_n hx hb dX4_leastCongestedPath_42 rfl (lv_at hl 2 rfl) ?_
          refine r_Vi cX hw hI.1.1 rfl [.int (-9)] (c_X4_hasPath l G hI.1 (-9)) wM_X4_139 mw_X4_hasPath ⟨Nat.le_of_ble_eq_true rfl, Nat.le_of_ble_eq_true rfl⟩ rfl rfl hl.1 (Nat.le_of_ble_eq_true rfl) dX4_leastCongestedPath_43 ⟨Nat.le_of_ble_eq_true rfl, Nat.le_of_ble_eq_true rfl⟩ (fun r M1 H locs hp hw => ?_)
          obtain ⟨rfl, hq⟩ := hp
          rw [hq] at hw
          refine lv_if_eq (tgt := 74) hx hb dX4_leastCongestedPath_46 (by decide) (fun c46 => ?_) (fun c46 => ?_)
          · refine lv_iconst (v := 0) hx hb dX4_leastCongestedPath_74 (by decide) ?_
            refine lv_istore_n (lv' := [(3, .int 0), (2, .int (nI (bs f (nP f - 1)))), (1, .int (-9)), (0, .ref (L 0))]) hx hb dX4_leastCongestedPath_75 rfl hl (by decide) rfl (fun ls hl => ?_)
            refine lv_iload_n hx hb dX4_leastCongestedPath_76 rfl (lv_at hl 0 rfl) ?_
            refine lv_if_eq (tgt := 84) hx hb dX4_leastCongestedPath_77 (by decide) (fun c77 => ?_) (fun c77 => ?_)
            · refine lv_iload_n hx hb dX4_leastCongestedPath_84 rfl (lv_at hl 1 rfl) ?_
              exact r_iret cX hr hlocks hw ⟨by unfold llF; rw [if_neg (fun h => h.1 rfl)], rfl⟩ dX4_leastCongestedPath_85
            · exact absurd rfl c77
          · exact absurd (if_neg (fun h => absurd h.1 (by decide))) c46
        · subst hh
          refine lv_aload_n hx hb dX4_leastCongestedPath_41 rfl (lv_at hl 3 rfl) ?_
          refine lv_iload_n hx hb dX4_leastCongestedPath_42 rfl (lv_at hl 2 rfl) ?_
          refine r_Vi cX hw hI.1.1 rfl [.int (nI k)] (c_X4_hasPath l G hI.1 (nI k)) wM_X4_139 mw_X4_hasPath ⟨Nat.le_of_ble_eq_true rfl, Nat.le_of_ble_eq_true rfl⟩ rfl rfl hl.1 (Nat.le_of_ble_eq_true rfl) dX4_leastCongestedPath_43 ⟨Nat.le_of_ble_eq_true rfl, Nat.le_of_ble_eq_true rfl⟩ (fun r M1 H locs hp hw => ?_)
          obtain ⟨rfl, hq⟩ := hp
          rw [hq] at hw
          refine lv_if_eq (tgt := 74) hx hb dX4_leastCongestedPath_46 (by decide) (fun c46 => ?_) (fun c46 => ?_)
          · exact absurd c46 (by rw [if_pos ⟨nI_pos' (by omega), by rw [e3]; exact nI_lep hk (by omega)⟩]; decide)
          · refine lv_aload_n hx hb dX4_leastCongestedPath_49 rfl (lv_at hl 3 rfl) ?_
            refine r_get cX inX4 hw hI.1.1 rfl 9 (by decide) wF_X4_11 rfl dX4_leastCongestedPath_50 ?_
            refine lv_iload_n hx hb dX4_leastCongestedPath_53 rfl (lv_at hl 2 rfl) ?_
            obtain ⟨g_9, hg_9, hg_9_⟩ := hI.1.2.1
            refine r_aald cX hw 4 rfl hg_9 k rfl (by omega) (by decide) (hg_9_ k (by omega)) dX4_leastCongestedPath_54 ?_
            refine r_Vi cX hw (hI.1.2.2.2.2.1 k (by omega)) rfl [] (c_X2_congestion l G (hI.1.2.2.2.2.1 k (by omega))) wM_X4_136 mw_X2_congestion ⟨Nat.le_of_ble_eq_true rfl, Nat.le_of_ble_eq_true rfl⟩ rfl rfl hl.1 (Nat.le_of_ble_eq_true rfl) dX4_leastCongestedPath_55 ⟨Nat.le_of_ble_eq_true rfl, Nat.le_of_ble_eq_true rfl⟩ (fun r M1 H locs hp hw => ?_)
            obtain ⟨rfl, hq⟩ := hp
            rw [hq] at hw
            refine lv_aload_n hx hb dX4_leastCongestedPath_58 rfl (lv_at hl 3 rfl) ?_
            refine r_get cX inX4 hw hI.1.1 rfl 9 (by decide) wF_X4_11 rfl dX4_leastCongestedPath_59 ?_
            refine lv_iload_n hx hb dX4_leastCongestedPath_62 rfl (lv_at hl 1 rfl) ?_
            obtain ⟨g_10, hg_10, hg_10_⟩ := hI.1.2.1
            refine r_aald cX hw 4 rfl hg_10 (bs f (nP f - 1)) rfl (by have := bs_le f (nP f - 1); omega) (by decide) (hg_10_ (bs f (nP f - 1)) (by have := bs_le f (nP f - 1); omega)) dX4_leastCongestedPath_63 ?_
            refine r_Vi cX hw (hI.1.2.2.2.2.1 (bs f (nP f - 1)) (by have := bs_le f (nP f - 1); omega)) rfl [] (c_X2_congestion l G (hI.1.2.2.2.2.1 (bs f (nP f - 1)) (by have := bs_le f (nP f - 1); omega))) wM_X4_136 mw_X2_congestion ⟨Nat.le_of_ble_eq_true rfl, Nat.le_of_ble_eq_true rfl⟩ rfl rfl hl.1 (Nat.le_of_ble_eq_true rfl) dX4_leastCongestedPath_64 ⟨Nat.le_of_ble_eq_true rfl, Nat.le_of_ble_eq_true rfl⟩ (fun r M1 H locs hp hw => ?_)
            obtain ⟨rfl, hq⟩ := hp
            rw [hq] at hw
            refine lv_icmp_ne (tgt := 74) hx hb dX4_leastCongestedPath_67 (by decide) (fun c67 => ?_) (fun c67 => ?_)
            · refine lv_iconst (v := 0) hx hb dX4_leastCongestedPath_74 (by decide) ?_
              refine lv_istore_n (lv' := [(3, .int 0), (2, .int (nI (bs f (nP f - 1)))), (1, .int (nI k)), (0, .ref (L 0))]) hx hb dX4_leastCongestedPath_75 rfl hl (by decide) rfl (fun ls hl => ?_)
              refine lv_iload_n hx hb dX4_leastCongestedPath_76 rfl (lv_at hl 0 rfl) ?_
              refine lv_if_eq (tgt := 84) hx hb dX4_leastCongestedPath_77 (by decide) (fun c77 => ?_) (fun c77 => ?_)
              · refine lv_iload_n hx hb dX4_leastCongestedPath_84 rfl (lv_at hl 1 rfl) ?_
                exact r_iret cX hr hlocks hw ⟨by unfold llF; rw [if_neg (fun h => c67 (by have h2 := h.2; rw [nI_clamp (by omega)] at h2; exact h2))], rfl⟩ dX4_leastCongestedPath_85
              · exact absurd rfl c77
            · refine lv_iconst (v := 1) hx hb dX4_leastCongestedPath_70 (by decide) ?_
              refine lv_goto (tgt := 75) hx hb dX4_leastCongestedPath_71 (by decide) ?_
              refine lv_istore_n (lv' := [(3, .int 1), (2, .int (nI (bs f (nP f - 1)))), (1, .int (nI k)), (0, .ref (L 0))]) hx hb dX4_leastCongestedPath_75 rfl hl (by decide) rfl (fun ls hl => ?_)
              refine lv_iload_n hx hb dX4_leastCongestedPath_76 rfl (lv_at hl 0 rfl) ?_
              refine lv_if_eq (tgt := 84) hx hb dX4_leastCongestedPath_77 (by decide) (fun c77 => ?_) (fun c77 => ?_)
              · exact absurd c77 (by decide)
              · refine lv_iload_n hx hb dX4_leastCongestedPath_80 rfl (lv_at hl 2 rfl) ?_
                refine lv_goto (tgt := 85) hx hb dX4_leastCongestedPath_81 (by decide) ?_
                exact r_iret cX hr hlocks hw ⟨by unfold llF; rw [if_pos ⟨nI_ne9 (by omega), by rw [nI_clamp (by omega)]; exact c67⟩], rfl⟩ dX4_leastCongestedPath_85
      · have hlt : i + 1 < nP f := ix_lt (by omega) (by rw [← e3]; exact c9)
        refine lv_aload_n hx hb dX4_leastCongestedPath_12 rfl (lv_at hl 3 rfl) ?_
        refine r_get cX inX4 hw hI.1.1 rfl 9 (by decide) wF_X4_11 rfl dX4_leastCongestedPath_13 ?_
        refine lv_iload_n hx hb dX4_leastCongestedPath_16 rfl (lv_at hl 0 rfl) ?_
        obtain ⟨g_11, hg_11, hg_11_⟩ := hI.1.2.1
        refine r_aald cX hw 4 rfl hg_11 (i + 1) rfl (by omega) (by decide) (hg_11_ (i + 1) (by omega)) dX4_leastCongestedPath_17 ?_
        refine r_Vi cX hw (hI.1.2.2.2.2.1 (i + 1) (by omega)) rfl [] (c_X2_congestion l G (hI.1.2.2.2.2.1 (i + 1) (by omega))) wM_X4_136 mw_X2_congestion ⟨Nat.le_of_ble_eq_true rfl, Nat.le_of_ble_eq_true rfl⟩ rfl rfl hl.1 (Nat.le_of_ble_eq_true rfl) dX4_leastCongestedPath_18 ⟨Nat.le_of_ble_eq_true rfl, Nat.le_of_ble_eq_true rfl⟩ (fun r M1 H locs hp hw => ?_)
        obtain ⟨rfl, hq⟩ := hp
        rw [hq] at hw
        refine lv_aload_n hx hb dX4_leastCongestedPath_21 rfl (lv_at hl 3 rfl) ?_
        refine r_get cX inX4 hw hI.1.1 rfl 9 (by decide) wF_X4_11 rfl dX4_leastCongestedPath_22 ?_
        refine lv_iload_n hx hb dX4_leastCongestedPath_25 rfl (lv_at hl 1 rfl) ?_
        obtain ⟨g_12, hg_12, hg_12_⟩ := hI.1.2.1
        refine r_aald cX hw 4 rfl hg_12 (bs f i) rfl (by have := bs_le f i; omega) (by decide) (hg_12_ (bs f i) (by have := bs_le f i; omega)) dX4_leastCongestedPath_26 ?_
        refine r_Vi cX hw (hI.1.2.2.2.2.1 (bs f i) (by have := bs_le f i; omega)) rfl [] (c_X2_congestion l G (hI.1.2.2.2.2.1 (bs f i) (by have := bs_le f i; omega))) wM_X4_136 mw_X2_congestion ⟨Nat.le_of_ble_eq_true rfl, Nat.le_of_ble_eq_true rfl⟩ rfl rfl hl.1 (Nat.le_of_ble_eq_true rfl) dX4_leastCongestedPath_27 ⟨Nat.le_of_ble_eq_true rfl, Nat.le_of_ble_eq_true rfl⟩ (fun r M1 H locs hp hw => ?_)
        obtain ⟨rfl, hq⟩ := hp
        rw [hq] at hw
        refine lv_icmp_ge (tgt := 35) hx hb dX4_leastCongestedPath_30 (by decide) (fun c30 => ?_) (fun c30 => ?_)
        · have hbs : bs f (i + 1) = bs f i := if_neg (Int32.not_lt.mpr c30)
          have hl : lv_has ls 4 [(3, .int (nI (i + 1))), (2, .int (nI (bs f (i + 1)))), (1, .int had), (0, .ref (L 0))] := by rw [hbs]; exact hl
          refine lv_iinc (v := (nI ((i + 1) + 1))) (lv' := [(3, .int (nI ((i + 1) + 1))), (2, .int (nI (bs f (i + 1)))), (1, .int had), (0, .ref (L 0))]) hx hb dX4_leastCongestedPath_35 hl (k := 0) rfl (nI_1 (i + 1)) (by decide) rfl (fun ls hl => ?_)
          refine lv_goto (tgt := 4) hx hb dX4_leastCongestedPath_38 (by decide) ?_
          exact ih (i + 1) (by omega) (by omega) _ _ _ hw (lv_sub hl [0, 1, 2, 3] rfl)
        · refine lv_iload_n hx hb dX4_leastCongestedPath_33 rfl (lv_at hl 0 rfl) ?_
          refine lv_istore_n (lv' := [(2, .int (nI (i + 1))), (3, .int (nI (i + 1))), (1, .int had), (0, .ref (L 0))]) hx hb dX4_leastCongestedPath_34 rfl hl (by decide) rfl (fun ls hl => ?_)
          have hbs : bs f (i + 1) = i + 1 := if_pos (Int32.not_le.mp c30)
          have hl : lv_has ls 4 [(2, .int (nI (bs f (i + 1)))), (3, .int (nI (i + 1))), (1, .int had), (0, .ref (L 0))] := by rw [hbs]; exact hl
          refine lv_iinc (v := (nI ((i + 1) + 1))) (lv' := [(3, .int (nI ((i + 1) + 1))), (2, .int (nI (bs f (i + 1)))), (1, .int had), (0, .ref (L 0))]) hx hb dX4_leastCongestedPath_35 hl (k := 1) rfl (nI_1 (i + 1)) (by decide) rfl (fun ls hl => ?_)
          refine lv_goto (tgt := 4) hx hb dX4_leastCongestedPath_38 (by decide) ?_
          exact ih (i + 1) (by omega) (by omega) _ _ _ hw (lv_sub hl [0, 1, 2, 3] rfl)
  exact lp4 (nP f - 1 + 1) 0 (by omega) (by omega) _ _ _ hw (lv_sub hl [0, 1, 3, 2] rfl)

set_option maxHeartbeats 4000000 in
set_option maxRecDepth 100000 in
theorem c_X4_pathFor (l : Launch) (G : gG) {M : HM} {L : Nat → Nat} {f : Nat → Int32} (hI0 : IsSt G M L f) {B : Nat} (hv : Inv B f) (k : Nat) (hk : k < 16) : Ci l yX4_pathFor cX4_pathFor 3 .int (rd 3 0 0) G [.ref (L 0), .int (nI k)] M (fun r M' => r = chF f k ∧ M' = M) := by
  refine Ci.of (by decide) (Nat.le_of_ble_eq_true rfl) ?_
  intro p e s m args below meth c ls cX hw hlocks hr hl
  have hx := cX.1
  have hb := cX.2.1
  have hl : lv_has ls 3 [(0, .ref (L 0)), (1, .int (nI k))] := hl
  have hI := hI0.st
  refine lv_aload_n hx hb dX4_pathFor_0 rfl (lv_at hl 0 rfl) ?_
  refine r_get cX inX4 hw hI.1.1 rfl 3 (by decide) wF_X4_46 rfl dX4_pathFor_1 ?_
  refine lv_if_ne (tgt := 14) hx hb dX4_pathFor_4 (by decide) (fun c4 => ?_) (fun c4 => ?_)
  · refine lv_aload_n hx hb dX4_pathFor_14 rfl (lv_at hl 0 rfl) ?_
    refine r_get cX inX4 hw hI.1.1 rfl 3 (by decide) wF_X4_46 rfl dX4_pathFor_15 ?_
    refine lv_iconst (v := 2) hx hb dX4_pathFor_18 (by decide) ?_
    refine lv_icmp_ne (tgt := 27) hx hb dX4_pathFor_19 (by decide) (fun c19 => ?_) (fun c19 => ?_)
    · refine lv_aload_n hx hb dX4_pathFor_27 rfl (lv_at hl 0 rfl) ?_
      refine r_get cX inX4 hw hI.1.1 rfl 10 (by decide) wF_X4_19 rfl dX4_pathFor_28 ?_
      refine lv_aload_n hx hb dX4_pathFor_31 rfl (lv_at hl 0 rfl) ?_
      refine lv_iload_n hx hb dX4_pathFor_32 rfl (lv_at hl 1 rfl) ?_
      refine r_Vi cX hw hI.1.1 rfl [.int (nI k)] (c_X4_entryNumber l G hI.1 (nI k) hv.nz2) wM_X4_83 mw_X4_entryNumber ⟨Nat.le_of_ble_eq_true rfl, Nat.le_of_ble_eq_true rfl⟩ rfl rfl hl.1 (Nat.le_of_ble_eq_true rfl) dX4_pathFor_33 ⟨Nat.le_of_ble_eq_true rfl, Nat.le_of_ble_eq_true rfl⟩ (fun r M1 H locs hp hw => ?_)
      obtain ⟨rfl, hq⟩ := hp
      rw [hq] at hw
      obtain ⟨g_13, hg_13, hg_13_⟩ := hI.1.2.2.1
      refine r_aald cX hw 2 rfl hg_13 (eN f k) (eN_eq hv k hk) (eN_lt hv k).2 (by decide) (hg_13_ (eN f k) (eN_lt hv k).2) dX4_pathFor_36 ?_
      refine lv_astore_n (lv' := [(2, .ref (L (8 + (eN f k)))), (0, .ref (L 0)), (1, .int (nI k))]) hx hb dX4_pathFor_37 rfl hl (by decide) rfl (fun ls hl => ?_)
      refine lv_aload_n hx hb dX4_pathFor_38 rfl (lv_at hl 1 rfl) ?_
      refine lv_aload_n hx hb dX4_pathFor_39 rfl (lv_at hl 0 rfl) ?_
      refine r_Vi cX hw hI.1.1 rfl [.ref (L (8 + (eN f k)))] (c_X4_isInUse l G hI.1 (eN f k) (eN_lt hv k).2) wM_X4_94 mw_X4_isInUse ⟨Nat.le_of_ble_eq_true rfl, Nat.le_of_ble_eq_true rfl⟩ rfl rfl hl.1 (Nat.le_of_ble_eq_true rfl) dX4_pathFor_40 ⟨Nat.le_of_ble_eq_true rfl, Nat.le_of_ble_eq_true rfl⟩ (fun r M1 H locs hp hw => ?_)
      obtain ⟨rfl, hq⟩ := hp
      rw [hq] at hw
      refine lv_if_eq (tgt := 51) hx hb dX4_pathFor_43 (by decide) (fun c43 => ?_) (fun c43 => ?_)
      · refine lv_aload_n hx hb dX4_pathFor_51 rfl (lv_at hl 1 rfl) ?_
        refine r_get cX inX4 hw hI.1.1 rfl 3 (by decide) wF_X4_46 rfl dX4_pathFor_52 ?_
        refine lv_iconst (v := 1) hx hb dX4_pathFor_55 (by decide) ?_
        refine lv_icmp_ne (tgt := 70) hx hb dX4_pathFor_56 (by decide) (fun c56 => ?_) (fun c56 => ?_)
        · refine lv_aload_n hx hb dX4_pathFor_70 rfl (lv_at hl 1 rfl) ?_
          refine r_Vi cX hw hI.1.1 rfl [] (c_X4_randomPath l G hI.1 hv.nz1) wM_X4_132 mw_X4_randomPath ⟨Nat.le_of_ble_eq_true rfl, Nat.le_of_ble_eq_true rfl⟩ rfl rfl hl.1 (Nat.le_of_ble_eq_true rfl) dX4_pathFor_71 ⟨Nat.le_of_ble_eq_true rfl, Nat.le_of_ble_eq_true rfl⟩ (fun r M1 H locs hp hw => ?_)
          obtain ⟨rfl, hq⟩ := hp
          rw [hq] at hw
          exact r_iret cX hr hlocks hw ⟨by unfold chF; rw [if_neg c4, if_neg c19, if_neg (if01e c43), if_neg c56], rfl⟩ dX4_pathFor_74
        · refine lv_aload_n hx hb dX4_pathFor_59 rfl (lv_at hl 1 rfl) ?_
          refine lv_aload_n hx hb dX4_pathFor_60 rfl (lv_at hl 0 rfl) ?_
          refine r_get cX inX0 hw (hI.1.2.2.2.2.2.1 (eN f k) (eN_lt hv k).2) rfl 1 (by decide) wF_X4_126 rfl dX4_pathFor_61 ?_
          refine r_Vi cX hw hI.1.1 rfl [.int (f (49 + (eN f k)))] (c_X4_leastCongestedPath l G hI.1 hv (f (49 + (eN f k))) (hv.2.2.2.2.2.2.2.2 (eN f k) (eN_lt hv k).2).2.2.1) wM_X4_129 mw_X4_leastCongestedPath ⟨Nat.le_of_ble_eq_true rfl, Nat.le_of_ble_eq_true rfl⟩ rfl rfl hl.1 (Nat.le_of_ble_eq_true rfl) dX4_pathFor_64 ⟨Nat.le_of_ble_eq_true rfl, Nat.le_of_ble_eq_true rfl⟩ (fun r M1 H locs hp hw => ?_)
          obtain ⟨rfl, hq⟩ := hp
          rw [hq] at hw
          refine lv_goto (tgt := 74) hx hb dX4_pathFor_67 (by decide) ?_
          exact r_iret cX hr hlocks hw ⟨by unfold chF; rw [if_neg c4, if_neg c19, if_neg (if01e c43), if_pos c56], rfl⟩ dX4_pathFor_74
      · refine lv_aload_n hx hb dX4_pathFor_46 rfl (lv_at hl 0 rfl) ?_
        refine r_get cX inX0 hw (hI.1.2.2.2.2.2.1 (eN f k) (eN_lt hv k).2) rfl 1 (by decide) wF_X4_126 rfl dX4_pathFor_47 ?_
        exact r_iret cX hr hlocks hw ⟨by unfold chF; rw [if_neg c4, if_neg c19, if_pos (if01n c43)], rfl⟩ dX4_pathFor_50
    · refine lv_aload_n hx hb dX4_pathFor_22 rfl (lv_at hl 0 rfl) ?_
      refine r_get cX inX4 hw hI.1.1 rfl 8 (by decide) wF_X4_61 rfl dX4_pathFor_23 ?_
      exact r_iret cX hr hlocks hw ⟨by unfold chF; rw [if_neg c4, if_pos c19], rfl⟩ dX4_pathFor_26
  · refine lv_iload_n hx hb dX4_pathFor_7 rfl (lv_at hl 1 rfl) ?_
    refine lv_aload_n hx hb dX4_pathFor_8 rfl (lv_at hl 0 rfl) ?_
    refine r_get cX inX4 hw hI.1.1 rfl 0 (by decide) wF_X4_36 rfl dX4_pathFor_9 ?_
    refine r_irem hx hb dX4_pathFor_12 hv.nz1 ?_
    exact r_iret cX hr hlocks hw ⟨by obtain ⟨e1, e2, e3⟩ := hv.P; unfold chF; rw [if_pos c4, e3, jr_nI (by omega) (by omega) (by omega)], rfl⟩ dX4_pathFor_13

set_option maxHeartbeats 4000000 in
set_option maxRecDepth 100000 in
theorem c_X4_noteInTable (l : Launch) (G : gG) {M : HM} {L : Nat → Nat} {f : Nat → Int32} (hI0 : IsSt G M L f) {B : Nat} (hv : Inv B f) (k : Nat) (hk : k < 16) (cc : Int32) : Cv l yX4_noteInTable cX4_noteInTable 4 (rd 1 0 0) G [.ref (L 0), .int (nI k), .int cc] M (fun M' => St G M M' L (tabF f k cc)) := by
  refine Cv.of (by decide) (Nat.le_of_ble_eq_true rfl) ?_
  intro p e s m args below meth c ls cX hw hlocks hr hnm hl
  have hx := cX.1
  have hb := cX.2.1
  have hl : lv_has ls 4 [(0, .ref (L 0)), (1, .int (nI k)), (2, .int cc)] := hl
  have hI := hI0.st
  refine lv_aload_n hx hb dX4_noteInTable_0 rfl (lv_at hl 0 rfl) ?_
  refine r_get cX inX4 hw hI.1.1 rfl 10 (by decide) wF_X4_19 rfl dX4_noteInTable_1 ?_
  refine lv_aload_n hx hb dX4_noteInTable_4 rfl (lv_at hl 0 rfl) ?_
  refine lv_iload_n hx hb dX4_noteInTable_5 rfl (lv_at hl 1 rfl) ?_
  refine r_Vi cX hw hI.1.1 rfl [.int (nI k)] (c_X4_entryNumber l G hI.1 (nI k) hv.nz2) wM_X4_83 mw_X4_entryNumber ⟨Nat.le_of_ble_eq_true rfl, Nat.le_of_ble_eq_true rfl⟩ rfl rfl hl.1 (Nat.le_of_ble_eq_true rfl) dX4_noteInTable_6 ⟨Nat.le_of_ble_eq_true rfl, Nat.le_of_ble_eq_true rfl⟩ (fun r M1 H locs hp hw => ?_)
  obtain ⟨rfl, hq⟩ := hp
  rw [hq] at hw
  obtain ⟨g_14, hg_14, hg_14_⟩ := hI.1.2.2.1
  refine r_aald cX hw 2 rfl hg_14 (eN f k) (eN_eq hv k hk) (eN_lt hv k).2 (by decide) (hg_14_ (eN f k) (eN_lt hv k).2) dX4_noteInTable_9 ?_
  refine lv_astore_n (lv' := [(3, .ref (L (8 + (eN f k)))), (0, .ref (L 0)), (1, .int (nI k)), (2, .int cc)]) hx hb dX4_noteInTable_10 rfl hl (by decide) rfl (fun ls hl => ?_)
  refine lv_aload_n hx hb dX4_noteInTable_11 rfl (lv_at hl 1 rfl) ?_
  refine lv_aload_n hx hb dX4_noteInTable_12 rfl (lv_at hl 0 rfl) ?_
  refine r_Vi cX hw hI.1.1 rfl [.ref (L (8 + (eN f k)))] (c_X4_isInUse l G hI.1 (eN f k) (eN_lt hv k).2) wM_X4_94 mw_X4_isInUse ⟨Nat.le_of_ble_eq_true rfl, Nat.le_of_ble_eq_true rfl⟩ rfl rfl hl.1 (Nat.le_of_ble_eq_true rfl) dX4_noteInTable_13 ⟨Nat.le_of_ble_eq_true rfl, Nat.le_of_ble_eq_true rfl⟩ (fun r M1 H locs hp hw => ?_)
  obtain ⟨rfl, hq⟩ := hp
  rw [hq] at hw
  refine lv_if_ne (tgt := 50) hx hb dX4_noteInTable_16 (by decide) (fun c16 => ?_) (fun c16 => ?_)
  · have hI := hI.re (show f = tb1 f k from (by unfold tb1; rw [if_pos (if01n c16)]))
    refine lv_aload_n hx hb dX4_noteInTable_50 rfl (lv_at hl 0 rfl) ?_
    refine lv_iload_n hx hb dX4_noteInTable_51 rfl (lv_at hl 3 rfl) ?_
    refine lv_aload_n hx hb dX4_noteInTable_52 rfl (lv_at hl 1 rfl) ?_
    refine r_get cX inX4 hw hI.1.1 rfl 2 (by decide) wF_X4_43 rfl dX4_noteInTable_53 ?_
    refine r_Vv cX hw (hI.1.2.2.2.2.2.1 (eN f k) (eN_lt hv k).2) rfl [.int cc, .int ((tb1 f k) 0)] (c_X0_take l G (hI.1.2.2.2.2.2.1 (eN f k) (eN_lt hv k).2) cc ((tb1 f k) 0)) wM_X4_177 mw_X0_take ⟨Nat.le_of_ble_eq_true rfl, Nat.le_of_ble_eq_true rfl⟩ rfl rfl hl.1 (Nat.le_of_ble_eq_true rfl) dX4_noteInTable_56 ⟨Nat.le_of_ble_eq_true rfl, Nat.le_of_ble_eq_true rfl⟩ (fun M1 H locs hp hw => ?_)
    rw [tb1_o f k 0 (by omega) (by omega)] at hp
    have hI := hI.enE (f' := tabF f k cc) (eN f k) (eN_lt hv k).2 hp (by simp [enFs, tabF, upd]) (Or.inr (by simp [tabF, upd])) (fun k h1 h2 => by unfold isEn at h2; unfold tabF; rw [pk_un (by omega), pk_un (by omega), pk_un (by omega), pk_un (by omega)])
    exact r_vret cX hr hlocks hw hI dX4_noteInTable_59
  · refine lv_aload_n hx hb dX4_noteInTable_19 rfl (lv_at hl 1 rfl) ?_
    refine r_get cX inX4 hw hI.1.1 rfl 11 (by decide) wF_X4_25 rfl dX4_noteInTable_20 ?_
    refine lv_iload_n hx hb dX4_noteInTable_23 rfl (lv_at hl 2 rfl) ?_
    obtain ⟨g_15, hg_15, hg_15_⟩ := hI.1.2.2.2.1
    refine r_aald cX hw 3 rfl hg_15 k rfl hk (by decide) (hg_15_ k hk) dX4_noteInTable_24 ?_
    refine lv_dup hx hb dX4_noteInTable_25 rfl ?_
    refine r_get cX inX1 hw (hI.1.2.2.2.2.2.2.1 k hk) rfl 0 (by decide) wF_X4_174 rfl dX4_noteInTable_26 ?_
    refine lv_iconst (v := 1) hx hb dX4_noteInTable_29 (by decide) ?_
    refine lv_iadd hx hb dX4_noteInTable_30 ?_
    refine r_put (fs' := [.int ((f (73 + k)) + 1), .int (f (89 + k)), .int (f (121 + k)), .int (f (105 + k)), .int (f (137 + k))]) cX inX1 tyX1 tyX1_ok nmX1 hw (hI.1.2.2.2.2.2.2.1 k hk) rfl 0 (by decide) wF_X4_174 rfl rfl rfl rfl (Nat.le_of_ble_eq_true rfl) dX4_noteInTable_31 (fun H locs hw => ?_)
    have hI := hI.fl (fs := [.int ((f (73 + k)) + 1), .int (f (89 + k)), .int (f (121 + k)), .int (f (105 + k)), .int (f (137 + k))]) (f' := upd f (73 + k) ((f (73 + k)) + 1)) k hk (by simp [flFs, upd]) (fun k h1 h2 => pk_un (by unfold isFl at h2; omega))
    refine lv_aload_n hx hb dX4_noteInTable_34 rfl (lv_at hl 1 rfl) ?_
    refine r_get cX inX4 hw hI.1.1 rfl 3 (by decide) wF_X4_46 rfl dX4_noteInTable_35 ?_
    refine lv_iconst (v := 3) hx hb dX4_noteInTable_38 (by decide) ?_
    refine lv_icmp_ne (tgt := 50) hx hb dX4_noteInTable_39 (by decide) (fun c39 => ?_) (fun c39 => ?_)
    · have hI := hI.re (show upd f (73 + k) ((f (73 + k)) + 1) = tb1 f k from (by unfold tb1; rw [if_neg (if01e c16), if_neg (by have q := c39; rw [pk_un (by omega)] at q; exact q)]))
      refine lv_aload_n hx hb dX4_noteInTable_50 rfl (lv_at hl 0 rfl) ?_
      refine lv_iload_n hx hb dX4_noteInTable_51 rfl (lv_at hl 3 rfl) ?_
      refine lv_aload_n hx hb dX4_noteInTable_52 rfl (lv_at hl 1 rfl) ?_
      refine r_get cX inX4 hw hI.1.1 rfl 2 (by decide) wF_X4_43 rfl dX4_noteInTable_53 ?_
      refine r_Vv cX hw (hI.1.2.2.2.2.2.1 (eN f k) (eN_lt hv k).2) rfl [.int cc, .int ((tb1 f k) 0)] (c_X0_take l G (hI.1.2.2.2.2.2.1 (eN f k) (eN_lt hv k).2) cc ((tb1 f k) 0)) wM_X4_177 mw_X0_take ⟨Nat.le_of_ble_eq_true rfl, Nat.le_of_ble_eq_true rfl⟩ rfl rfl hl.1 (Nat.le_of_ble_eq_true rfl) dX4_noteInTable_56 ⟨Nat.le_of_ble_eq_true rfl, Nat.le_of_ble_eq_true rfl⟩ (fun M1 H locs hp hw => ?_)
      rw [tb1_o f k 0 (by omega) (by omega)] at hp
      have hI := hI.enE (f' := tabF f k cc) (eN f k) (eN_lt hv k).2 hp (by simp [enFs, tabF, upd]) (Or.inr (by simp [tabF, upd])) (fun k h1 h2 => by unfold isEn at h2; unfold tabF; rw [pk_un (by omega), pk_un (by omega), pk_un (by omega), pk_un (by omega)])
      exact r_vret cX hr hlocks hw hI dX4_noteInTable_59
    · refine lv_aload_n hx hb dX4_noteInTable_42 rfl (lv_at hl 1 rfl) ?_
      refine lv_aload_n hx hb dX4_noteInTable_43 rfl (lv_at hl 1 rfl) ?_
      refine r_Vi cX hw hI.1.1 rfl [] (c_X4_nextGenerator l G hI.1) wM_X4_143 mw_X4_nextGenerator ⟨Nat.le_of_ble_eq_true rfl, Nat.le_of_ble_eq_true rfl⟩ rfl rfl hl.1 (Nat.le_of_ble_eq_true rfl) dX4_noteInTable_44 ⟨Nat.le_of_ble_eq_true rfl, Nat.le_of_ble_eq_true rfl⟩ (fun r M1 H locs hp hw => ?_)
      obtain ⟨rfl, hq⟩ := hp
      rw [hq] at hw
      refine r_put (fs' := stFs L (upd (upd f (73 + k) ((f (73 + k)) + 1)) 7 (nx ((upd f (73 + k) ((f (73 + k)) + 1)) 7)))) cX inX4 tyX4 tyX4_ok nmX4 hw hI.1.1 rfl 7 (by decide) wF_X4_58 rfl rfl rfl rfl (Nat.le_of_ble_eq_true rfl) dX4_noteInTable_47 (fun H locs hw => ?_)
      have hI := hI.sc (f' := upd (upd f (73 + k) ((f (73 + k)) + 1)) 7 (nx ((upd f (73 + k) ((f (73 + k)) + 1)) 7))) (fun k h1 _ => pk_un (by omega))
      rw [show upd f (73 + k) (f (73 + k) + 1) 7 = f 7 from pk_un (by omega)] at hI hw
      have hI := hI.re (show upd (upd f (73 + k) (f (73 + k) + 1)) 7 (nx (f 7)) = tb1 f k from (by unfold tb1; rw [if_neg (if01e c16), if_pos (by have q := c39; rw [pk_un (by omega)] at q; exact q)]))
      refine lv_aload_n hx hb dX4_noteInTable_50 rfl (lv_at hl 0 rfl) ?_
      refine lv_iload_n hx hb dX4_noteInTable_51 rfl (lv_at hl 3 rfl) ?_
      refine lv_aload_n hx hb dX4_noteInTable_52 rfl (lv_at hl 1 rfl) ?_
      refine r_get cX inX4 hw hI.1.1 rfl 2 (by decide) wF_X4_43 rfl dX4_noteInTable_53 ?_
      refine r_Vv cX hw (hI.1.2.2.2.2.2.1 (eN f k) (eN_lt hv k).2) rfl [.int cc, .int ((tb1 f k) 0)] (c_X0_take l G (hI.1.2.2.2.2.2.1 (eN f k) (eN_lt hv k).2) cc ((tb1 f k) 0)) wM_X4_177 mw_X0_take ⟨Nat.le_of_ble_eq_true rfl, Nat.le_of_ble_eq_true rfl⟩ rfl rfl hl.1 (Nat.le_of_ble_eq_true rfl) dX4_noteInTable_56 ⟨Nat.le_of_ble_eq_true rfl, Nat.le_of_ble_eq_true rfl⟩ (fun M1 H locs hp hw => ?_)
      rw [tb1_o f k 0 (by omega) (by omega)] at hp
      have hI := hI.enE (f' := tabF f k cc) (eN f k) (eN_lt hv k).2 hp (by simp [enFs, tabF, upd]) (Or.inr (by simp [tabF, upd])) (fun k h1 h2 => by unfold isEn at h2; unfold tabF; rw [pk_un (by omega), pk_un (by omega), pk_un (by omega), pk_un (by omega)])
      exact r_vret cX hr hlocks hw hI dX4_noteInTable_59

set_option maxHeartbeats 4000000 in
set_option maxRecDepth 100000 in
theorem c_X4_noteChoice (l : Launch) (G : gG) {M : HM} {L : Nat → Nat} {f : Nat → Int32} (hI0 : IsSt G M L f) {B : Nat} (hv : Inv B f) (hB : B < 2 ^ 30) (k : Nat) (hk : k < 16) (cc : Int32) : Cv l yX4_noteChoice cX4_noteChoice 3 (rd 2 0 0) G [.ref (L 0), .int (nI k), .int cc] M (fun M' => St G M M' L (tkF f k cc)) := by
  refine Cv.of (by decide) (Nat.le_of_ble_eq_true rfl) ?_
  intro p e s m args below meth c ls cX hw hlocks hr hnm hl
  have hx := cX.1
  have hb := cX.2.1
  have hl : lv_has ls 3 [(0, .ref (L 0)), (1, .int (nI k)), (2, .int cc)] := hl
  have hI := hI0.st
  refine lv_aload_n hx hb dX4_noteChoice_0 rfl (lv_at hl 0 rfl) ?_
  refine r_Vi cX hw hI.1.1 rfl [] (c_X4_usesTable l G hI.1) wM_X4_167 mw_X4_usesTable ⟨Nat.le_of_ble_eq_true rfl, Nat.le_of_ble_eq_true rfl⟩ rfl rfl hl.1 (Nat.le_of_ble_eq_true rfl) dX4_noteChoice_1 ⟨Nat.le_of_ble_eq_true rfl, Nat.le_of_ble_eq_true rfl⟩ (fun r M1 H locs hp hw => ?_)
  obtain ⟨rfl, hq⟩ := hp
  rw [hq] at hw
  refine lv_if_eq (tgt := 16) hx hb dX4_noteChoice_4 (by decide) (fun c4 => ?_) (fun c4 => ?_)
  · refine lv_aload_n hx hb dX4_noteChoice_16 rfl (lv_at hl 0 rfl) ?_
    refine r_get cX inX4 hw hI.1.1 rfl 3 (by decide) wF_X4_46 rfl dX4_noteChoice_17 ?_
    refine lv_iconst (v := 2) hx hb dX4_noteChoice_20 (by decide) ?_
    refine lv_icmp_ne (tgt := 39) hx hb dX4_noteChoice_21 (by decide) (fun c21 => ?_) (fun c21 => ?_)
    · exact r_vret cX hr hlocks hw (hI.re (by unfold tkF; rw [if_neg (if01e c4), if_neg c21])) dX4_noteChoice_39
    · refine lv_aload_n hx hb dX4_noteChoice_24 rfl (lv_at hl 0 rfl) ?_
      refine lv_aload_n hx hb dX4_noteChoice_25 rfl (lv_at hl 0 rfl) ?_
      refine r_get cX inX4 hw hI.1.1 rfl 8 (by decide) wF_X4_61 rfl dX4_noteChoice_26 ?_
      refine lv_iconst (v := 1) hx hb dX4_noteChoice_29 (by decide) ?_
      refine lv_iadd hx hb dX4_noteChoice_30 ?_
      refine lv_aload_n hx hb dX4_noteChoice_31 rfl (lv_at hl 0 rfl) ?_
      refine r_get cX inX4 hw hI.1.1 rfl 0 (by decide) wF_X4_36 rfl dX4_noteChoice_32 ?_
      refine r_irem hx hb dX4_noteChoice_35 hv.nz1 ?_
      refine r_put (fs' := stFs L (upd f 8 (f 8 + 1))) cX inX4 tyX4 tyX4_ok nmX4 hw hI.1.1 rfl 8 (by decide) wF_X4_61 rfl rfl rfl (stFs_turn L hv hB) (Nat.le_of_ble_eq_true rfl) dX4_noteChoice_36 (fun H locs hw => ?_)
      have hI := hI.sc (f' := upd f 8 (f 8 + 1)) (fun k h1 _ => pk_un (by omega))
      exact r_vret cX hr hlocks hw (hI.re (by unfold tkF; rw [if_neg (if01e c4), if_pos c21])) dX4_noteChoice_39
  · refine lv_aload_n hx hb dX4_noteChoice_7 rfl (lv_at hl 0 rfl) ?_
    refine lv_iload_n hx hb dX4_noteChoice_8 rfl (lv_at hl 1 rfl) ?_
    refine lv_iload_n hx hb dX4_noteChoice_9 rfl (lv_at hl 2 rfl) ?_
    refine r_Vv cX hw hI.1.1 rfl [.int (nI k), .int cc] (c_X4_noteInTable l G hI.1 hv k hk cc) wM_X4_171 mw_X4_noteInTable ⟨Nat.le_of_ble_eq_true rfl, Nat.le_of_ble_eq_true rfl⟩ rfl rfl hl.1 (Nat.le_of_ble_eq_true rfl) dX4_noteChoice_10 ⟨Nat.le_of_ble_eq_true rfl, Nat.le_of_ble_eq_true rfl⟩ (fun M1 H locs hp hw => ?_)
    have hI := hI.trans hp
    refine lv_goto (tgt := 39) hx hb dX4_noteChoice_13 (by decide) ?_
    exact r_vret cX hr hlocks hw (hI.re (by unfold tkF; rw [if_pos (if01n c4)])) dX4_noteChoice_39

set_option maxHeartbeats 4000000 in
set_option maxRecDepth 100000 in
theorem c_X4_sendPacket (l : Launch) (G : gG) {M : HM} {L : Nat → Nat} {f : Nat → Int32} (hI0 : IsSt G M L f) {B : Nat} (hv : Inv B f) (hB : B < 2 ^ 30) (k : Nat) (hk : k < 16) (size : Int32) : Ci l yX4_sendPacket cX4_sendPacket 5 .int (rd 4 0 0) G [.ref (L 0), .int (nI k), .int size] M (fun r M' => r = (sdF f k size).1 ∧ St G M M' L (sdF f k size).2) := by
  obtain ⟨j, hj, hc⟩ := chF_N hv hB k hk
  obtain ⟨e1, e2, e3⟩ := hv.P
  have hcl : (chF f k).toNatClampNeg = j := by rw [hc]; exact nI_clamp (by omega)
  refine Ci.of (by decide) (Nat.le_of_ble_eq_true rfl) ?_
  intro p e s m args below meth c ls cX hw hlocks hr hl
  have hx := cX.1
  have hb := cX.2.1
  have hl : lv_has ls 5 [(0, .ref (L 0)), (1, .int (nI k)), (2, .int size)] := hl
  have hI := hI0.st
  refine lv_aload_n hx hb dX4_sendPacket_0 rfl (lv_at hl 0 rfl) ?_
  refine lv_iload_n hx hb dX4_sendPacket_1 rfl (lv_at hl 1 rfl) ?_
  refine r_Vi cX hw hI.1.1 rfl [.int (nI k)] (c_X4_pathFor l G hI.1 hv k hk) wM_X4_149 mw_X4_pathFor ⟨Nat.le_of_ble_eq_true rfl, Nat.le_of_ble_eq_true rfl⟩ rfl rfl hl.1 (Nat.le_of_ble_eq_true rfl) dX4_sendPacket_2 ⟨Nat.le_of_ble_eq_true rfl, Nat.le_of_ble_eq_true rfl⟩ (fun r M1 H locs hp hw => ?_)
  obtain ⟨rfl, hq⟩ := hp
  rw [hq] at hw
  refine lv_istore_n (lv' := [(3, .int (chF f k)), (0, .ref (L 0)), (1, .int (nI k)), (2, .int size)]) hx hb dX4_sendPacket_5 rfl hl (by decide) rfl (fun ls hl => ?_)
  refine lv_aload_n hx hb dX4_sendPacket_6 rfl (lv_at hl 1 rfl) ?_
  refine lv_iload_n hx hb dX4_sendPacket_7 rfl (lv_at hl 2 rfl) ?_
  refine lv_iload_n hx hb dX4_sendPacket_8 rfl (lv_at hl 0 rfl) ?_
  refine r_Vv cX hw hI.1.1 rfl [.int (nI k), .int (chF f k)] (c_X4_noteChoice l G hI.1 hv hB k hk (chF f k)) wM_X4_152 mw_X4_noteChoice ⟨Nat.le_of_ble_eq_true rfl, Nat.le_of_ble_eq_true rfl⟩ rfl rfl hl.1 (Nat.le_of_ble_eq_true rfl) dX4_sendPacket_9 ⟨Nat.le_of_ble_eq_true rfl, Nat.le_of_ble_eq_true rfl⟩ (fun M1 H locs hp hw => ?_)
  have hI := hI.trans hp
  have hvF : Inv (B + 1) (tkF f k (chF f k)) := by rw [hc]; exact hv.chosen k hk hj
  have hs : sdF f k size = trF (tkF f k (chF f k)) k (chF f k) size := rfl
  generalize tkF f k (chF f k) = F at hI hvF hs
  refine lv_aload_n hx hb dX4_sendPacket_12 rfl (lv_at hl 1 rfl) ?_
  refine r_get cX inX4 hw hI.1.1 rfl 9 (by decide) wF_X4_11 rfl dX4_sendPacket_13 ?_
  refine lv_iload_n hx hb dX4_sendPacket_16 rfl (lv_at hl 0 rfl) ?_
  obtain ⟨g_16, hg_16, hg_16_⟩ := hI.1.2.1
  refine r_aald cX hw 4 rfl hg_16 j hc (by omega) (by decide) (hg_16_ j (by omega)) dX4_sendPacket_17 ?_
  refine lv_astore (lv' := [(4, .ref (L (4 + j))), (3, .int (chF f k)), (0, .ref (L 0)), (1, .int (nI k)), (2, .int size)]) hx hb dX4_sendPacket_18 hl (by decide) rfl (fun ls hl => ?_)
  refine lv_aload hx hb dX4_sendPacket_20 (lv_at hl 0 rfl) ?_
  refine lv_aload_n hx hb dX4_sendPacket_22 rfl (lv_at hl 2 rfl) ?_
  refine r_get cX inX4 hw hI.1.1 rfl 2 (by decide) wF_X4_43 rfl dX4_sendPacket_23 ?_
  refine r_Vi cX hw (hI.1.2.2.2.2.1 j (by omega)) rfl [.int (F 0)] (c_X2_dropsAt l G (hI.1.2.2.2.2.1 j (by omega)) (F 0)) wM_X4_155 mw_X2_dropsAt ⟨Nat.le_of_ble_eq_true rfl, Nat.le_of_ble_eq_true rfl⟩ rfl rfl hl.1 (Nat.le_of_ble_eq_true rfl) dX4_sendPacket_26 ⟨Nat.le_of_ble_eq_true rfl, Nat.le_of_ble_eq_true rfl⟩ (fun r M1 H locs hp hw => ?_)
  obtain ⟨rfl, hq⟩ := hp
  rw [hq] at hw
  refine lv_if_eq (tgt := 48) hx hb dX4_sendPacket_29 (by decide) (fun c29 => ?_) (fun c29 => ?_)
  · refine lv_aload_n hx hb dX4_sendPacket_48 rfl (lv_at hl 2 rfl) ?_
    refine r_get cX inX4 hw hI.1.1 rfl 11 (by decide) wF_X4_25 rfl dX4_sendPacket_49 ?_
    refine lv_iload_n hx hb dX4_sendPacket_52 rfl (lv_at hl 3 rfl) ?_
    obtain ⟨g_17, hg_17, hg_17_⟩ := hI.1.2.2.2.1
    refine r_aald cX hw 3 rfl hg_17 k rfl hk (by decide) (hg_17_ k hk) dX4_sendPacket_53 ?_
    refine lv_iload_n hx hb dX4_sendPacket_54 rfl (lv_at hl 1 rfl) ?_
    refine lv_aload_n hx hb dX4_sendPacket_55 rfl (lv_at hl 2 rfl) ?_
    refine r_get cX inX4 hw hI.1.1 rfl 2 (by decide) wF_X4_43 rfl dX4_sendPacket_56 ?_
    refine lv_aload hx hb dX4_sendPacket_59 (lv_at hl 0 rfl) ?_
    refine lv_aload_n hx hb dX4_sendPacket_61 rfl (lv_at hl 2 rfl) ?_
    refine r_get cX inX4 hw hI.1.1 rfl 2 (by decide) wF_X4_43 rfl dX4_sendPacket_62 ?_
    refine lv_iload_n hx hb dX4_sendPacket_65 rfl (lv_at hl 4 rfl) ?_
    refine r_Vi cX hw (hI.1.2.2.2.2.1 j (by omega)) rfl [.int (F 0), .int size] (c_X2_ticksToArrive l G (hI.1.2.2.2.2.1 j (by omega)) (F 0) size (hvF.nzr j (by omega))) wM_X4_98 mw_X2_ticksToArrive ⟨Nat.le_of_ble_eq_true rfl, Nat.le_of_ble_eq_true rfl⟩ rfl rfl hl.1 (Nat.le_of_ble_eq_true rfl) dX4_sendPacket_66 ⟨Nat.le_of_ble_eq_true rfl, Nat.le_of_ble_eq_true rfl⟩ (fun r M1 H locs hp hw => ?_)
    obtain ⟨rfl, hq⟩ := hp
    rw [hq] at hw
    refine lv_iadd hx hb dX4_sendPacket_69 ?_
    refine r_Vv cX hw (hI.1.2.2.2.2.2.2.1 k hk) rfl [.int (chF f k), .int ((F 0) + (laF F size j))] (c_X1_deliver l G (hI.1.2.2.2.2.2.2.1 k hk) (chF f k) ((F 0) + (laF F size j))) wM_X4_161 mw_X1_deliver ⟨Nat.le_of_ble_eq_true rfl, Nat.le_of_ble_eq_true rfl⟩ rfl rfl hl.1 (Nat.le_of_ble_eq_true rfl) dX4_sendPacket_70 ⟨Nat.le_of_ble_eq_true rfl, Nat.le_of_ble_eq_true rfl⟩ (fun M1 H locs hp hw => ?_)
    have hI := hI.flE (f' := dvF F k (chF f k) (enF F j size + F (9 + j))) k hk hp (by rw [← hvF.arr2 j (by omega) size]; simp [flFs, dvF, upd, laF]) (fun q h1 h2 => by unfold isFl at h2; unfold dvF; rw [pk_un (by omega), pk_un (by omega), pk_un (by omega), pk_un (by omega)])
    refine lv_aload hx hb dX4_sendPacket_73 (lv_at hl 0 rfl) ?_
    refine lv_aload_n hx hb dX4_sendPacket_75 rfl (lv_at hl 2 rfl) ?_
    refine r_get cX inX4 hw hI.1.1 rfl 2 (by decide) wF_X4_43 rfl dX4_sendPacket_76 ?_
    refine lv_iload_n hx hb dX4_sendPacket_79 rfl (lv_at hl 4 rfl) ?_
    refine r_Vv cX hw (hI.1.2.2.2.2.1 j (by omega)) rfl [.int ((dvF F k (chF f k) (enF F j size + F (9 + j))) 0), .int size] (c_X2_transmit l G (hI.1.2.2.2.2.1 j (by omega)) ((dvF F k (chF f k) (enF F j size + F (9 + j))) 0) size (by rw [dvF_o F k _ _ _ hk (show 13 + j < 89 by omega)]; exact hvF.nzr j (by omega))) wM_X4_164 mw_X2_transmit ⟨Nat.le_of_ble_eq_true rfl, Nat.le_of_ble_eq_true rfl⟩ rfl rfl hl.1 (Nat.le_of_ble_eq_true rfl) dX4_sendPacket_80 ⟨Nat.le_of_ble_eq_true rfl, Nat.le_of_ble_eq_true rfl⟩ (fun M1 H locs hp hw => ?_)
    simp only [dvF_o F k _ _ _ hk (show 0 < 89 by omega), dvF_o F k _ _ _ hk (show 9 + j < 89 by omega), dvF_o F k _ _ _ hk (show 13 + j < 89 by omega), dvF_o F k _ _ _ hk (show 17 + j < 89 by omega), dvF_o F k _ _ _ hk (show 21 + j < 89 by omega), dvF_o F k _ _ _ hk (show 25 + j < 89 by omega), dvF_o F k _ _ _ hk (show 29 + j < 89 by omega), dvF_o F k _ _ _ hk (show 33 + j < 89 by omega), dvF_o F k _ _ _ hk (show 37 + j < 89 by omega)] at hp
    rw [hvF.arr j (by omega) size] at hp
    have hI := hI.paE (f' := xmF (dvF F k (chF f k) (enF F j size + F (9 + j))) j size (enF F j size)) j (by omega) hp (by simp [paFs, xmF, upd, dvF_o F k _ _ _ hk (show 9 + j < 89 by omega), dvF_o F k _ _ _ hk (show 13 + j < 89 by omega), dvF_o F k _ _ _ hk (show 17 + j < 89 by omega), dvF_o F k _ _ _ hk (show 21 + j < 89 by omega), dvF_o F k _ _ _ hk (show 29 + j < 89 by omega), dvF_o F k _ _ _ hk (show 33 + j < 89 by omega), dvF_o F k _ _ _ hk (show 37 + j < 89 by omega)]) (fun q h1 h2 => by unfold isPa at h2; unfold xmF; rw [pk_un (by omega), pk_un (by omega), pk_un (by omega), pk_un (by omega)])
    rw [xm_dv F k j _ _ _ _ (by omega)] at hI
    refine lv_iload_n hx hb dX4_sendPacket_83 rfl (lv_at hl 1 rfl) ?_
    exact r_iret cX hr hlocks hw (by rw [hs]; unfold trF; rw [hcl, if_neg (fun h => absurd c29 (by rw [if_pos ((hvF.drp j (by omega)).mpr h)]; decide))]; exact ⟨rfl, hI⟩) dX4_sendPacket_84
  · refine lv_aload hx hb dX4_sendPacket_32 (lv_at hl 0 rfl) ?_
    refine lv_dup hx hb dX4_sendPacket_34 rfl ?_
    refine r_get cX inX2 hw (hI.1.2.2.2.2.1 j (by omega)) rfl 7 (by decide) wF_X4_158 rfl dX4_sendPacket_35 ?_
    refine lv_iconst (v := 1) hx hb dX4_sendPacket_38 (by decide) ?_
    refine lv_iadd hx hb dX4_sendPacket_39 ?_
    refine r_put (fs' := [.int (F (9 + j)), .int (F (13 + j)), .int (F (17 + j)), .int (F (21 + j)), .int (F (25 + j)), .int (F (29 + j)), .int (F (33 + j)), .int ((F (37 + j)) + 1)]) cX inX2 tyX2 tyX2_ok nmX2 hw (hI.1.2.2.2.2.1 j (by omega)) rfl 7 (by decide) wF_X4_158 rfl rfl rfl rfl (Nat.le_of_ble_eq_true rfl) dX4_sendPacket_40 (fun H locs hw => ?_)
    have hI := hI.pa (fs := [.int (F (9 + j)), .int (F (13 + j)), .int (F (17 + j)), .int (F (21 + j)), .int (F (25 + j)), .int (F (29 + j)), .int (F (33 + j)), .int ((F (37 + j)) + 1)]) (f' := upd F (37 + j) ((F (37 + j)) + 1)) j (by omega) (by simp [paFs, upd]) (fun k h1 h2 => pk_un (by unfold isPa at h2; omega))
    refine lv_bipush (v := 10) hx hb dX4_sendPacket_43 (by decide) ?_
    refine lv_iload_n hx hb dX4_sendPacket_45 rfl (lv_at hl 1 rfl) ?_
    refine lv_iadd hx hb dX4_sendPacket_46 ?_
    exact r_iret cX hr hlocks hw (by rw [hs]; unfold trF; rw [hcl, if_pos ((hvF.drp j (by omega)).mp (if01n c29))]; exact ⟨rfl, hI⟩) dX4_sendPacket_47

set_option maxHeartbeats 4000000 in
set_option maxRecDepth 100000 in
theorem c_X4_wouldOvertake (l : Launch) (G : gG) {M : HM} {L : Nat → Nat} {f : Nat → Int32} (hI0 : IsSt G M L f) {B : Nat} (hvF : Inv B f) (hB : B < 2 ^ 30) (k : Nat) (hk : k < 16) (size : Int32) : Ci l yX4_wouldOvertake cX4_wouldOvertake 4 .boolean (rd 4 0 0) G [.ref (L 0), .int (nI k), .int size] M (fun r M' => r = woF f k size ∧ M' = M) := by
  have hv := hvF
  obtain ⟨j, hj, hc⟩ := chF_N hv hB k hk
  obtain ⟨e1, e2, e3⟩ := hv.P
  have hcl : (chF f k).toNatClampNeg = j := by rw [hc]; exact nI_clamp (by omega)
  refine Ci.of (by decide) (Nat.le_of_ble_eq_true rfl) ?_
  intro p e s m args below meth c ls cX hw hlocks hr hl
  have hx := cX.1
  have hb := cX.2.1
  have hl : lv_has ls 4 [(0, .ref (L 0)), (1, .int (nI k)), (2, .int size)] := hl
  have hI := hI0.st
  refine lv_aload_n hx hb dX4_wouldOvertake_0 rfl (lv_at hl 0 rfl) ?_
  refine r_get cX inX4 hw hI.1.1 rfl 9 (by decide) wF_X4_11 rfl dX4_wouldOvertake_1 ?_
  refine lv_aload_n hx hb dX4_wouldOvertake_4 rfl (lv_at hl 0 rfl) ?_
  refine lv_iload_n hx hb dX4_wouldOvertake_5 rfl (lv_at hl 1 rfl) ?_
  refine r_Vi cX hw hI.1.1 rfl [.int (nI k)] (c_X4_pathFor l G hI.1 hv k hk) wM_X4_149 mw_X4_pathFor ⟨Nat.le_of_ble_eq_true rfl, Nat.le_of_ble_eq_true rfl⟩ rfl rfl hl.1 (Nat.le_of_ble_eq_true rfl) dX4_wouldOvertake_6 ⟨Nat.le_of_ble_eq_true rfl, Nat.le_of_ble_eq_true rfl⟩ (fun r M1 H locs hp hw => ?_)
  obtain ⟨rfl, hq⟩ := hp
  rw [hq] at hw
  obtain ⟨g_18, hg_18, hg_18_⟩ := hI.1.2.1
  refine r_aald cX hw 4 rfl hg_18 j hc (by omega) (by decide) (hg_18_ j (by omega)) dX4_wouldOvertake_9 ?_
  refine lv_astore_n (lv' := [(3, .ref (L (4 + j))), (0, .ref (L 0)), (1, .int (nI k)), (2, .int size)]) hx hb dX4_wouldOvertake_10 rfl hl (by decide) rfl (fun ls hl => ?_)
  refine lv_aload_n hx hb dX4_wouldOvertake_11 rfl (lv_at hl 0 rfl) ?_
  refine lv_aload_n hx hb dX4_wouldOvertake_12 rfl (lv_at hl 1 rfl) ?_
  refine r_get cX inX4 hw hI.1.1 rfl 2 (by decide) wF_X4_43 rfl dX4_wouldOvertake_13 ?_
  refine r_Vi cX hw (hI.1.2.2.2.2.1 j (by omega)) rfl [.int (f 0)] (c_X2_dropsAt l G (hI.1.2.2.2.2.1 j (by omega)) (f 0)) wM_X4_155 mw_X2_dropsAt ⟨Nat.le_of_ble_eq_true rfl, Nat.le_of_ble_eq_true rfl⟩ rfl rfl hl.1 (Nat.le_of_ble_eq_true rfl) dX4_wouldOvertake_16 ⟨Nat.le_of_ble_eq_true rfl, Nat.le_of_ble_eq_true rfl⟩ (fun r M1 H locs hp hw => ?_)
  obtain ⟨rfl, hq⟩ := hp
  rw [hq] at hw
  refine lv_if_ne (tgt := 52) hx hb dX4_wouldOvertake_19 (by decide) (fun c19 => ?_) (fun c19 => ?_)
  · refine lv_iconst (v := 0) hx hb dX4_wouldOvertake_52 (by decide) ?_
    exact r_zret cX hr hlocks rfl hw ⟨by unfold woF; rw [hcl, if_neg (fun h => h.1 ((hvF.drp j (by omega)).mp (if01n c19)))], rfl⟩ dX4_wouldOvertake_53
  · refine lv_aload_n hx hb dX4_wouldOvertake_22 rfl (lv_at hl 1 rfl) ?_
    refine r_get cX inX4 hw hI.1.1 rfl 11 (by decide) wF_X4_25 rfl dX4_wouldOvertake_23 ?_
    refine lv_iload_n hx hb dX4_wouldOvertake_26 rfl (lv_at hl 2 rfl) ?_
    obtain ⟨g_19, hg_19, hg_19_⟩ := hI.1.2.2.2.1
    refine r_aald cX hw 3 rfl hg_19 k rfl hk (by decide) (hg_19_ k hk) dX4_wouldOvertake_27 ?_
    refine lv_aload_n hx hb dX4_wouldOvertake_28 rfl (lv_at hl 1 rfl) ?_
    refine r_get cX inX4 hw hI.1.1 rfl 2 (by decide) wF_X4_43 rfl dX4_wouldOvertake_29 ?_
    refine lv_aload_n hx hb dX4_wouldOvertake_32 rfl (lv_at hl 0 rfl) ?_
    refine lv_aload_n hx hb dX4_wouldOvertake_33 rfl (lv_at hl 1 rfl) ?_
    refine r_get cX inX4 hw hI.1.1 rfl 2 (by decide) wF_X4_43 rfl dX4_wouldOvertake_34 ?_
    refine lv_iload_n hx hb dX4_wouldOvertake_37 rfl (lv_at hl 3 rfl) ?_
    refine r_Vi cX hw (hI.1.2.2.2.2.1 j (by omega)) rfl [.int (f 0), .int size] (c_X2_ticksToArrive l G (hI.1.2.2.2.2.1 j (by omega)) (f 0) size (hvF.nzr j (by omega))) wM_X4_98 mw_X2_ticksToArrive ⟨Nat.le_of_ble_eq_true rfl, Nat.le_of_ble_eq_true rfl⟩ rfl rfl hl.1 (Nat.le_of_ble_eq_true rfl) dX4_wouldOvertake_38 ⟨Nat.le_of_ble_eq_true rfl, Nat.le_of_ble_eq_true rfl⟩ (fun r M1 H locs hp hw => ?_)
    obtain ⟨rfl, hq⟩ := hp
    rw [hq] at hw
    refine lv_iadd hx hb dX4_wouldOvertake_41 ?_
    refine r_Vi cX hw (hI.1.2.2.2.2.2.2.1 k hk) rfl [.int ((f 0) + (laF f size j))] (c_X1_isOvertakenBy l G (hI.1.2.2.2.2.2.2.1 k hk) ((f 0) + (laF f size j))) wM_X4_180 mw_X1_isOvertakenBy ⟨Nat.le_of_ble_eq_true rfl, Nat.le_of_ble_eq_true rfl⟩ rfl rfl hl.1 (Nat.le_of_ble_eq_true rfl) dX4_wouldOvertake_42 ⟨Nat.le_of_ble_eq_true rfl, Nat.le_of_ble_eq_true rfl⟩ (fun r M1 H locs hp hw => ?_)
    obtain ⟨rfl, hq⟩ := hp
    rw [hq] at hw
    refine lv_if_eq (tgt := 52) hx hb dX4_wouldOvertake_45 (by decide) (fun c45 => ?_) (fun c45 => ?_)
    · refine lv_iconst (v := 0) hx hb dX4_wouldOvertake_52 (by decide) ?_
      exact r_zret cX hr hlocks rfl hw ⟨by unfold woF; rw [hcl, if_neg (fun h => absurd c45 (by rw [if_pos (by rw [hvF.arr2 j (by omega) size]; exact h.2)]; decide))], rfl⟩ dX4_wouldOvertake_53
    · refine lv_iconst (v := 1) hx hb dX4_wouldOvertake_48 (by decide) ?_
      refine lv_goto (tgt := 53) hx hb dX4_wouldOvertake_49 (by decide) ?_
      exact r_zret cX hr hlocks rfl hw ⟨by unfold woF; rw [hcl, if_pos ⟨(fun h => absurd c19 (by rw [if_pos ((hvF.drp j (by omega)).mpr h)]; decide)), by rw [← hvF.arr2 j (by omega) size]; exact if01n c45⟩], rfl⟩ dX4_wouldOvertake_53
end
section
set_option maxHeartbeats 4000000 in
set_option maxRecDepth 100000 in
theorem c_X4_reset (l : Launch) (G : gG) {M : HM} {L : Nat → Nat} {f : Nat → Int32} {x0 x1 x2 x3 x4 x5 x6 x7 x8 : Int32} (h0 : IsS0 G M L f) (hM : M (L 0) = some (.inr (4, [.int x0, .int x1, .int x2, .int x3, .int x4, .int x5, .int x6, .int x7, .int x8, .ref (L 1), .ref (L 2), .ref (L 3)]))) (P0 E0 : Int32) : Cv l yX4_reset cX4_reset 4 (rd 1 0 0) G [.ref (L 0), .int P0, .int E0] M (fun M' => St G M M' L (iniF P0 E0)) := by
  refine Cv.of (by decide) (Nat.le_of_ble_eq_true rfl) ?_
  intro p e s m args below meth c ls cX hw hlocks hr hnm hl
  have hx := cX.1
  have hb := cX.2.1
  have hl : lv_has ls 4 [(0, .ref (L 0)), (1, .int P0), (2, .int E0)] := hl
  refine lv_aload_n hx hb dX4_reset_0 rfl (lv_at hl 0 rfl) ?_
  refine lv_iload_n hx hb dX4_reset_1 rfl (lv_at hl 1 rfl) ?_
  refine r_put (fs' := [.int P0, .int x1, .int x2, .int x3, .int x4, .int x5, .int x6, .int x7, .int x8, .ref (L 1), .ref (L 2), .ref (L 3)]) cX inX4 tyX4 tyX4_ok nmX4 hw hM rfl 0 (by decide) wF_X4_36 rfl rfl rfl rfl (Nat.le_of_ble_eq_true rfl) dX4_reset_2 (fun H locs hw => ?_)
  refine lv_aload_n hx hb dX4_reset_5 rfl (lv_at hl 0 rfl) ?_
  refine lv_iload_n hx hb dX4_reset_6 rfl (lv_at hl 2 rfl) ?_
  refine r_put (fs' := [.int P0, .int E0, .int x2, .int x3, .int x4, .int x5, .int x6, .int x7, .int x8, .ref (L 1), .ref (L 2), .ref (L 3)]) cX inX4 tyX4 tyX4_ok nmX4 hw (mu_at _ _ _) rfl 1 (by decide) wF_X4_40 rfl rfl rfl rfl (Nat.le_of_ble_eq_true rfl) dX4_reset_7 (fun H locs hw => ?_)
  rw [mu_mu] at hw
  refine lv_aload_n hx hb dX4_reset_10 rfl (lv_at hl 0 rfl) ?_
  refine lv_iconst (v := 0) hx hb dX4_reset_11 (by decide) ?_
  refine r_put (fs' := [.int P0, .int E0, .int 0, .int x3, .int x4, .int x5, .int x6, .int x7, .int x8, .ref (L 1), .ref (L 2), .ref (L 3)]) cX inX4 tyX4 tyX4_ok nmX4 hw (mu_at _ _ _) rfl 2 (by decide) wF_X4_43 rfl rfl rfl rfl (Nat.le_of_ble_eq_true rfl) dX4_reset_12 (fun H locs hw => ?_)
  rw [mu_mu] at hw
  refine lv_aload_n hx hb dX4_reset_15 rfl (lv_at hl 0 rfl) ?_
  refine lv_iconst (v := 1) hx hb dX4_reset_16 (by decide) ?_
  refine r_put (fs' := [.int P0, .int E0, .int 0, .int 1, .int x4, .int x5, .int x6, .int x7, .int x8, .ref (L 1), .ref (L 2), .ref (L 3)]) cX inX4 tyX4 tyX4_ok nmX4 hw (mu_at _ _ _) rfl 3 (by decide) wF_X4_46 rfl rfl rfl rfl (Nat.le_of_ble_eq_true rfl) dX4_reset_17 (fun H locs hw => ?_)
  rw [mu_mu] at hw
  refine lv_aload_n hx hb dX4_reset_20 rfl (lv_at hl 0 rfl) ?_
  refine lv_iconst (v := 0) hx hb dX4_reset_21 (by decide) ?_
  refine r_put (fs' := [.int P0, .int E0, .int 0, .int 1, .int 0, .int x5, .int x6, .int x7, .int x8, .ref (L 1), .ref (L 2), .ref (L 3)]) cX inX4 tyX4 tyX4_ok nmX4 hw (mu_at _ _ _) rfl 4 (by decide) wF_X4_49 rfl rfl rfl rfl (Nat.le_of_ble_eq_true rfl) dX4_reset_22 (fun H locs hw => ?_)
  rw [mu_mu] at hw
  refine lv_aload_n hx hb dX4_reset_25 rfl (lv_at hl 0 rfl) ?_
  refine lv_bipush (v := 20) hx hb dX4_reset_26 (by decide) ?_
  refine r_put (fs' := [.int P0, .int E0, .int 0, .int 1, .int 0, .int 20, .int x6, .int x7, .int x8, .ref (L 1), .ref (L 2), .ref (L 3)]) cX inX4 tyX4 tyX4_ok nmX4 hw (mu_at _ _ _) rfl 5 (by decide) wF_X4_52 rfl rfl rfl rfl (Nat.le_of_ble_eq_true rfl) dX4_reset_28 (fun H locs hw => ?_)
  rw [mu_mu] at hw
  refine lv_aload_n hx hb dX4_reset_31 rfl (lv_at hl 0 rfl) ?_
  refine lv_iconst (v := 2) hx hb dX4_reset_32 (by decide) ?_
  refine r_put (fs' := [.int P0, .int E0, .int 0, .int 1, .int 0, .int 20, .int 2, .int x7, .int x8, .ref (L 1), .ref (L 2), .ref (L 3)]) cX inX4 tyX4 tyX4_ok nmX4 hw (mu_at _ _ _) rfl 6 (by decide) wF_X4_55 rfl rfl rfl rfl (Nat.le_of_ble_eq_true rfl) dX4_reset_33 (fun H locs hw => ?_)
  rw [mu_mu] at hw
  refine lv_aload_n hx hb dX4_reset_36 rfl (lv_at hl 0 rfl) ?_
  refine lv_iconst (v := 1) hx hb dX4_reset_37 (by decide) ?_
  refine r_put (fs' := [.int P0, .int E0, .int 0, .int 1, .int 0, .int 20, .int 2, .int 1, .int x8, .ref (L 1), .ref (L 2), .ref (L 3)]) cX inX4 tyX4 tyX4_ok nmX4 hw (mu_at _ _ _) rfl 7 (by decide) wF_X4_58 rfl rfl rfl rfl (Nat.le_of_ble_eq_true rfl) dX4_reset_38 (fun H locs hw => ?_)
  rw [mu_mu] at hw
  refine lv_aload_n hx hb dX4_reset_41 rfl (lv_at hl 0 rfl) ?_
  refine lv_iconst (v := 0) hx hb dX4_reset_42 (by decide) ?_
  refine r_put (fs' := [.int P0, .int E0, .int 0, .int 1, .int 0, .int 20, .int 2, .int 1, .int 0, .ref (L 1), .ref (L 2), .ref (L 3)]) cX inX4 tyX4 tyX4_ok nmX4 hw (mu_at _ _ _) rfl 8 (by decide) wF_X4_61 rfl rfl rfl rfl (Nat.le_of_ble_eq_true rfl) dX4_reset_43 (fun H locs hw => ?_)
  rw [mu_mu] at hw
  have hI := h0.st (g := iniF P0 E0) (Off.rf M L) (fs := [.int P0, .int E0, .int 0, .int 1, .int 0, .int 20, .int 2, .int 1, .int 0, .ref (L 1), .ref (L 2), .ref (L 3)]) (by simp [stFs, mxS, iniF, tnOf, jr_0])
  refine lv_iconst (v := 0) hx hb dX4_reset_46 (by decide) ?_
  refine lv_istore_n (lv' := [(3, .int 0), (0, .ref (L 0)), (1, .int P0), (2, .int E0)]) hx hb dX4_reset_47 rfl hl (by decide) rfl (fun ls hl => ?_)
  have lp48 : ∀ (nn i : Nat), i ≤ 4 → 4 < i + nn → ∀ (g : Nat → Int32) (M1 : HM) (H : Heap) (locs : List Loc) (ls : Array Slot), Wd G (dm M s.heap.size) s.heap M1 H locs → St G M M1 L g → (∀ k, k < 153 → (k < 9 ∨ (9 ≤ k ∧ k < 41 ∧ (k - 9) % 4 < i)) → g k = (iniF P0 E0) k) → lv_has ls 4 [(3, .int (nI i)), (2, .int E0), (1, .int P0), (0, .ref (L 0))] → W p l e (rd 1 0 0) s m args below meth c H locs 0 0 (MQ below (QV G M s.heap.size (fun M' => St G M M' L (iniF P0 E0))) args s 0 0 (dm M s.heap.size)) (F0 m 48 ls []) := by
    intro nn
    induction nn with
    | zero =>
      intro i h1 h2
      exact absurd h2 (by omega)
    | succ nn ih =>
      intro i hi hin g M1 H locs ls hw hI hA hl
      refine lv_iload_n hx hb dX4_reset_48 rfl (lv_at hl 0 rfl) ?_
      refine lv_iconst (v := 4) hx hb dX4_reset_49 (by decide) ?_
      refine lv_icmp_ge (tgt := 68) hx hb dX4_reset_50 (by decide) (fun c50 => ?_) (fun c50 => ?_)
      · obtain rfl : i = 4 := Nat.le_antisymm hi (ix_ge (b := 4) (by omega) (by decide) c50)
        refine lv_iconst (v := 0) hx hb dX4_reset_68 (by decide) ?_
        refine lv_istore_n (lv' := [(3, .int 0), (2, .int E0), (1, .int P0), (0, .ref (L 0))]) hx hb dX4_reset_69 rfl hl (by decide) rfl (fun ls hl => ?_)
        have lp70 : ∀ (nn i : Nat), i ≤ 8 → 8 < i + nn → ∀ (g : Nat → Int32) (M1 : HM) (H : Heap) (locs : List Loc) (ls : Array Slot), Wd G (dm M s.heap.size) s.heap M1 H locs → St G M M1 L g → (∀ k, k < 153 → (k < 41 ∨ (41 ≤ k ∧ k < 73 ∧ (k - 41) % 8 < i)) → g k = (iniF P0 E0) k) → lv_has ls 4 [(3, .int (nI i)), (2, .int E0), (1, .int P0), (0, .ref (L 0))] → W p l e (rd 1 0 0) s m args below meth c H locs 0 0 (MQ below (QV G M s.heap.size (fun M' => St G M M' L (iniF P0 E0))) args s 0 0 (dm M s.heap.size)) (F0 m 70 ls []) := by
          intro nn
          induction nn with
          | zero =>
            intro i h1 h2
            exact absurd h2 (by omega)
          | succ nn ih =>
            intro i hi hin g M1 H locs ls hw hI hA hl
            refine lv_iload_n hx hb dX4_reset_70 rfl (lv_at hl 0 rfl) ?_
            refine lv_bipush (v := 8) hx hb dX4_reset_71 (by decide) ?_
            refine lv_icmp_ge (tgt := 91) hx hb dX4_reset_73 (by decide) (fun c73 => ?_) (fun c73 => ?_)
            · obtain rfl : i = 8 := Nat.le_antisymm hi (ix_ge (b := 8) (by omega) (by decide) c73)
              refine lv_iconst (v := 0) hx hb dX4_reset_91 (by decide) ?_
              refine lv_istore_n (lv' := [(3, .int 0), (2, .int E0), (1, .int P0), (0, .ref (L 0))]) hx hb dX4_reset_92 rfl hl (by decide) rfl (fun ls hl => ?_)
              have lp93 : ∀ (nn i : Nat), i ≤ 16 → 16 < i + nn → ∀ (g : Nat → Int32) (M1 : HM) (H : Heap) (locs : List Loc) (ls : Array Slot), Wd G (dm M s.heap.size) s.heap M1 H locs → St G M M1 L g → (∀ k, k < 153 → (k < 73 ∨ (73 ≤ k ∧ (k - 73) % 16 < i)) → g k = (iniF P0 E0) k) → lv_has ls 4 [(3, .int (nI i)), (2, .int E0), (1, .int P0), (0, .ref (L 0))] → W p l e (rd 1 0 0) s m args below meth c H locs 0 0 (MQ below (QV G M s.heap.size (fun M' => St G M M' L (iniF P0 E0))) args s 0 0 (dm M s.heap.size)) (F0 m 93 ls []) := by
                intro nn
                induction nn with
                | zero =>
                  intro i h1 h2
                  exact absurd h2 (by omega)
                | succ nn ih =>
                  intro i hi hin g M1 H locs ls hw hI hA hl
                  refine lv_iload_n hx hb dX4_reset_93 rfl (lv_at hl 0 rfl) ?_
                  refine lv_bipush (v := 16) hx hb dX4_reset_94 (by decide) ?_
                  refine lv_icmp_ge (tgt := 114) hx hb dX4_reset_96 (by decide) (fun c96 => ?_) (fun c96 => ?_)
                  · obtain rfl : i = 16 := Nat.le_antisymm hi (ix_ge (b := 16) (by omega) (by decide) c96)
                    exact r_vret cX hr hlocks hw (hI.ext (fun k hk => hA k hk (by omega))) dX4_reset_114
                  · have hlt : i < 16 := ix_lt (b := 16) (by omega) c96
                    refine lv_aload_n hx hb dX4_reset_99 rfl (lv_at hl 3 rfl) ?_
                    refine r_get cX inX4 hw hI.1.1 rfl 11 (by decide) wF_X4_25 rfl dX4_reset_100 ?_
                    refine lv_iload_n hx hb dX4_reset_103 rfl (lv_at hl 0 rfl) ?_
                    obtain ⟨g_20, hg_20, hg_20_⟩ := hI.1.2.2.2.1
                    refine r_aald cX hw 3 rfl hg_20 i rfl hlt (by decide) (hg_20_ i hlt) dX4_reset_104 ?_
                    refine r_Vv cX hw (hI.1.2.2.2.2.2.2.1 i hlt) rfl [] (c_X1_reset l G (hI.1.2.2.2.2.2.2.1 i hlt)) wM_X4_67 mw_X1_reset ⟨Nat.le_of_ble_eq_true rfl, Nat.le_of_ble_eq_true rfl⟩ rfl rfl hl.1 (Nat.le_of_ble_eq_true rfl) dX4_reset_105 ⟨Nat.le_of_ble_eq_true rfl, Nat.le_of_ble_eq_true rfl⟩ (fun M1 H locs hp hw => ?_)
                    rw [← flFs_ini P0 E0 i hlt] at hp
                    subst hp
                    have hI := hI.mF (iniF P0 E0) i hlt
                    refine lv_iinc (v := (nI (i + 1))) (lv' := [(3, .int (nI (i + 1))), (2, .int E0), (1, .int P0), (0, .ref (L 0))]) hx hb dX4_reset_108 hl (k := 0) rfl (nI_1 i) (by decide) rfl (fun ls hl => ?_)
                    refine lv_goto (tgt := 93) hx hb dX4_reset_111 (by decide) ?_
                    exact ih (i + 1) (by omega) (by omega) (mxF (iniF P0 E0) g i) _ _ _ _ hw hI (fun k hk hd => by unfold mxF; split <;> first | rfl | exact hA k hk (by omega)) (lv_sub hl [0, 1, 2, 3] rfl)
              exact lp93 (16 + 1) 0 (by omega) (by omega) g _ _ _ _ hw hI (fun k hk hd => hA k hk (by omega)) (lv_sub hl [0, 1, 2, 3] rfl)
            · have hlt : i < 8 := ix_lt (b := 8) (by omega) c73
              refine lv_aload_n hx hb dX4_reset_76 rfl (lv_at hl 3 rfl) ?_
              refine r_get cX inX4 hw hI.1.1 rfl 10 (by decide) wF_X4_19 rfl dX4_reset_77 ?_
              refine lv_iload_n hx hb dX4_reset_80 rfl (lv_at hl 0 rfl) ?_
              obtain ⟨g_21, hg_21, hg_21_⟩ := hI.1.2.2.1
              refine r_aald cX hw 2 rfl hg_21 i rfl hlt (by decide) (hg_21_ i hlt) dX4_reset_81 ?_
              refine r_Vv cX hw (hI.1.2.2.2.2.2.1 i hlt) rfl [] (c_X0_reset l G (hI.1.2.2.2.2.2.1 i hlt)) wM_X4_66 mw_X0_reset ⟨Nat.le_of_ble_eq_true rfl, Nat.le_of_ble_eq_true rfl⟩ rfl rfl hl.1 (Nat.le_of_ble_eq_true rfl) dX4_reset_82 ⟨Nat.le_of_ble_eq_true rfl, Nat.le_of_ble_eq_true rfl⟩ (fun M1 H locs hp hw => ?_)
              rw [← enFs_ini P0 E0 i hlt] at hp
              subst hp
              have hI := hI.mE (iniF P0 E0) i hlt (Or.inl (ini_v P0 E0 i hlt))
              refine lv_iinc (v := (nI (i + 1))) (lv' := [(3, .int (nI (i + 1))), (2, .int E0), (1, .int P0), (0, .ref (L 0))]) hx hb dX4_reset_85 hl (k := 0) rfl (nI_1 i) (by decide) rfl (fun ls hl => ?_)
              refine lv_goto (tgt := 70) hx hb dX4_reset_88 (by decide) ?_
              exact ih (i + 1) (by omega) (by omega) (mxE (iniF P0 E0) g i) _ _ _ _ hw hI (fun k hk hd => by unfold mxE; split <;> first | rfl | exact hA k hk (by omega)) (lv_sub hl [0, 1, 2, 3] rfl)
        exact lp70 (8 + 1) 0 (by omega) (by omega) g _ _ _ _ hw hI (fun k hk hd => hA k hk (by omega)) (lv_sub hl [0, 1, 2, 3] rfl)
      · have hlt : i < 4 := ix_lt (b := 4) (by omega) c50
        refine lv_aload_n hx hb dX4_reset_53 rfl (lv_at hl 3 rfl) ?_
        refine r_get cX inX4 hw hI.1.1 rfl 9 (by decide) wF_X4_11 rfl dX4_reset_54 ?_
        refine lv_iload_n hx hb dX4_reset_57 rfl (lv_at hl 0 rfl) ?_
        obtain ⟨g_22, hg_22, hg_22_⟩ := hI.1.2.1
        refine r_aald cX hw 4 rfl hg_22 i rfl hlt (by decide) (hg_22_ i hlt) dX4_reset_58 ?_
        refine r_Vv cX hw (hI.1.2.2.2.2.1 i hlt) rfl [] (c_X2_reset l G (hI.1.2.2.2.2.1 i hlt)) wM_X4_64 mw_X2_reset ⟨Nat.le_of_ble_eq_true rfl, Nat.le_of_ble_eq_true rfl⟩ rfl rfl hl.1 (Nat.le_of_ble_eq_true rfl) dX4_reset_59 ⟨Nat.le_of_ble_eq_true rfl, Nat.le_of_ble_eq_true rfl⟩ (fun M1 H locs hp hw => ?_)
        rw [← paFs_ini P0 E0 i hlt] at hp
        subst hp
        have hI := hI.mP (iniF P0 E0) i hlt
        refine lv_iinc (v := (nI (i + 1))) (lv' := [(3, .int (nI (i + 1))), (2, .int E0), (1, .int P0), (0, .ref (L 0))]) hx hb dX4_reset_62 hl (k := 0) rfl (nI_1 i) (by decide) rfl (fun ls hl => ?_)
        refine lv_goto (tgt := 48) hx hb dX4_reset_65 (by decide) ?_
        exact ih (i + 1) (by omega) (by omega) (mxP (iniF P0 E0) g i) _ _ _ _ hw hI (fun k hk hd => by unfold mxP; split <;> first | rfl | exact hA k hk (by omega)) (lv_sub hl [0, 1, 2, 3] rfl)
  exact lp48 (4 + 1) 0 (by omega) (by omega) (mxS (iniF P0 E0) f) _ _ _ _ hw hI (fun k hk hd => by unfold mxS; rw [if_pos (by omega)]) (lv_sub hl [0, 3, 2, 1] rfl)

set_option maxHeartbeats 4000000 in
set_option maxRecDepth 100000 in
theorem c_X4_copyFrom (l : Launch) (G : gG) {M : HM} {L : Nat → Nat} {f : Nat → Int32} (hI0 : IsSt G M L f) {Lb : Nat → Nat} {t : Nat → Int32} (hJ : IsSt G M Lb t) (hd : ∀ i j, i < 32 → j < 32 → L i ≠ Lb j) : Cv l yX4_copyFrom cX4_copyFrom 3 (rd 1 0 0) G [.ref (L 0), .ref (Lb 0)] M (fun M' => St G M M' L (t)) := by
  refine Cv.of (by decide) (Nat.le_of_ble_eq_true rfl) ?_
  intro p e s m args below meth c ls cX hw hlocks hr hnm hl
  have hx := cX.1
  have hb := cX.2.1
  have hl : lv_has ls 3 [(0, .ref (L 0)), (1, .ref (Lb 0))] := hl
  have hI := hI0.st
  refine lv_aload_n hx hb dX4_copyFrom_0 rfl (lv_at hl 0 rfl) ?_
  refine lv_aload_n hx hb dX4_copyFrom_1 rfl (lv_at hl 1 rfl) ?_
  refine r_get cX inX4 hw hJ.1 rfl 0 (by decide) wF_X4_36 rfl dX4_copyFrom_2 ?_
  refine r_put (fs' := [.int (t 1), .int (f 2), .int (f 0), .int (f 5), .int (f 4), .int (f 3), .int (f 6), .int (f 7), .int (tnOf f), .ref (L 1), .ref (L 2), .ref (L 3)]) cX inX4 tyX4 tyX4_ok nmX4 hw hI0.1 rfl 0 (by decide) wF_X4_36 rfl rfl rfl rfl (Nat.le_of_ble_eq_true rfl) dX4_copyFrom_5 (fun H locs hw => ?_)
  refine lv_aload_n hx hb dX4_copyFrom_8 rfl (lv_at hl 0 rfl) ?_
  refine lv_aload_n hx hb dX4_copyFrom_9 rfl (lv_at hl 1 rfl) ?_
  refine r_get cX inX4 hw ((mu_ne _ _ (fun q => hd 0 0 (by decide) (by decide) q.symm)).trans hJ.1) rfl 1 (by decide) wF_X4_40 rfl dX4_copyFrom_10 ?_
  refine r_put (fs' := [.int (t 1), .int (t 2), .int (f 0), .int (f 5), .int (f 4), .int (f 3), .int (f 6), .int (f 7), .int (tnOf f), .ref (L 1), .ref (L 2), .ref (L 3)]) cX inX4 tyX4 tyX4_ok nmX4 hw (mu_at _ _ _) rfl 1 (by decide) wF_X4_40 rfl rfl rfl rfl (Nat.le_of_ble_eq_true rfl) dX4_copyFrom_13 (fun H locs hw => ?_)
  rw [mu_mu] at hw
  refine lv_aload_n hx hb dX4_copyFrom_16 rfl (lv_at hl 0 rfl) ?_
  refine lv_aload_n hx hb dX4_copyFrom_17 rfl (lv_at hl 1 rfl) ?_
  refine r_get cX inX4 hw ((mu_ne _ _ (fun q => hd 0 0 (by decide) (by decide) q.symm)).trans hJ.1) rfl 2 (by decide) wF_X4_43 rfl dX4_copyFrom_18 ?_
  refine r_put (fs' := [.int (t 1), .int (t 2), .int (t 0), .int (f 5), .int (f 4), .int (f 3), .int (f 6), .int (f 7), .int (tnOf f), .ref (L 1), .ref (L 2), .ref (L 3)]) cX inX4 tyX4 tyX4_ok nmX4 hw (mu_at _ _ _) rfl 2 (by decide) wF_X4_43 rfl rfl rfl rfl (Nat.le_of_ble_eq_true rfl) dX4_copyFrom_21 (fun H locs hw => ?_)
  rw [mu_mu] at hw
  refine lv_aload_n hx hb dX4_copyFrom_24 rfl (lv_at hl 0 rfl) ?_
  refine lv_aload_n hx hb dX4_copyFrom_25 rfl (lv_at hl 1 rfl) ?_
  refine r_get cX inX4 hw ((mu_ne _ _ (fun q => hd 0 0 (by decide) (by decide) q.symm)).trans hJ.1) rfl 3 (by decide) wF_X4_46 rfl dX4_copyFrom_26 ?_
  refine r_put (fs' := [.int (t 1), .int (t 2), .int (t 0), .int (t 5), .int (f 4), .int (f 3), .int (f 6), .int (f 7), .int (tnOf f), .ref (L 1), .ref (L 2), .ref (L 3)]) cX inX4 tyX4 tyX4_ok nmX4 hw (mu_at _ _ _) rfl 3 (by decide) wF_X4_46 rfl rfl rfl rfl (Nat.le_of_ble_eq_true rfl) dX4_copyFrom_29 (fun H locs hw => ?_)
  rw [mu_mu] at hw
  refine lv_aload_n hx hb dX4_copyFrom_32 rfl (lv_at hl 0 rfl) ?_
  refine lv_aload_n hx hb dX4_copyFrom_33 rfl (lv_at hl 1 rfl) ?_
  refine r_get cX inX4 hw ((mu_ne _ _ (fun q => hd 0 0 (by decide) (by decide) q.symm)).trans hJ.1) rfl 4 (by decide) wF_X4_49 rfl dX4_copyFrom_34 ?_
  refine r_put (fs' := [.int (t 1), .int (t 2), .int (t 0), .int (t 5), .int (t 4), .int (f 3), .int (f 6), .int (f 7), .int (tnOf f), .ref (L 1), .ref (L 2), .ref (L 3)]) cX inX4 tyX4 tyX4_ok nmX4 hw (mu_at _ _ _) rfl 4 (by decide) wF_X4_49 rfl rfl rfl rfl (Nat.le_of_ble_eq_true rfl) dX4_copyFrom_37 (fun H locs hw => ?_)
  rw [mu_mu] at hw
  refine lv_aload_n hx hb dX4_copyFrom_40 rfl (lv_at hl 0 rfl) ?_
  refine lv_aload_n hx hb dX4_copyFrom_41 rfl (lv_at hl 1 rfl) ?_
  refine r_get cX inX4 hw ((mu_ne _ _ (fun q => hd 0 0 (by decide) (by decide) q.symm)).trans hJ.1) rfl 5 (by decide) wF_X4_52 rfl dX4_copyFrom_42 ?_
  refine r_put (fs' := [.int (t 1), .int (t 2), .int (t 0), .int (t 5), .int (t 4), .int (t 3), .int (f 6), .int (f 7), .int (tnOf f), .ref (L 1), .ref (L 2), .ref (L 3)]) cX inX4 tyX4 tyX4_ok nmX4 hw (mu_at _ _ _) rfl 5 (by decide) wF_X4_52 rfl rfl rfl rfl (Nat.le_of_ble_eq_true rfl) dX4_copyFrom_45 (fun H locs hw => ?_)
  rw [mu_mu] at hw
  refine lv_aload_n hx hb dX4_copyFrom_48 rfl (lv_at hl 0 rfl) ?_
  refine lv_aload_n hx hb dX4_copyFrom_49 rfl (lv_at hl 1 rfl) ?_
  refine r_get cX inX4 hw ((mu_ne _ _ (fun q => hd 0 0 (by decide) (by decide) q.symm)).trans hJ.1) rfl 6 (by decide) wF_X4_55 rfl dX4_copyFrom_50 ?_
  refine r_put (fs' := [.int (t 1), .int (t 2), .int (t 0), .int (t 5), .int (t 4), .int (t 3), .int (t 6), .int (f 7), .int (tnOf f), .ref (L 1), .ref (L 2), .ref (L 3)]) cX inX4 tyX4 tyX4_ok nmX4 hw (mu_at _ _ _) rfl 6 (by decide) wF_X4_55 rfl rfl rfl rfl (Nat.le_of_ble_eq_true rfl) dX4_copyFrom_53 (fun H locs hw => ?_)
  rw [mu_mu] at hw
  refine lv_aload_n hx hb dX4_copyFrom_56 rfl (lv_at hl 0 rfl) ?_
  refine lv_aload_n hx hb dX4_copyFrom_57 rfl (lv_at hl 1 rfl) ?_
  refine r_get cX inX4 hw ((mu_ne _ _ (fun q => hd 0 0 (by decide) (by decide) q.symm)).trans hJ.1) rfl 7 (by decide) wF_X4_58 rfl dX4_copyFrom_58 ?_
  refine r_put (fs' := [.int (t 1), .int (t 2), .int (t 0), .int (t 5), .int (t 4), .int (t 3), .int (t 6), .int (t 7), .int (tnOf f), .ref (L 1), .ref (L 2), .ref (L 3)]) cX inX4 tyX4 tyX4_ok nmX4 hw (mu_at _ _ _) rfl 7 (by decide) wF_X4_58 rfl rfl rfl rfl (Nat.le_of_ble_eq_true rfl) dX4_copyFrom_61 (fun H locs hw => ?_)
  rw [mu_mu] at hw
  refine lv_aload_n hx hb dX4_copyFrom_64 rfl (lv_at hl 0 rfl) ?_
  refine lv_aload_n hx hb dX4_copyFrom_65 rfl (lv_at hl 1 rfl) ?_
  refine r_get cX inX4 hw ((mu_ne _ _ (fun q => hd 0 0 (by decide) (by decide) q.symm)).trans hJ.1) rfl 8 (by decide) wF_X4_61 rfl dX4_copyFrom_66 ?_
  refine r_put (fs' := [.int (t 1), .int (t 2), .int (t 0), .int (t 5), .int (t 4), .int (t 3), .int (t 6), .int (t 7), .int (tnOf t), .ref (L 1), .ref (L 2), .ref (L 3)]) cX inX4 tyX4 tyX4_ok nmX4 hw (mu_at _ _ _) rfl 8 (by decide) wF_X4_61 rfl rfl rfl rfl (Nat.le_of_ble_eq_true rfl) dX4_copyFrom_69 (fun H locs hw => ?_)
  rw [mu_mu] at hw
  have hI := hI0.s0.st (g := t) (Off.rf M L) (fs := [.int (t 1), .int (t 2), .int (t 0), .int (t 5), .int (t 4), .int (t 3), .int (t 6), .int (t 7), .int (tnOf t), .ref (L 1), .ref (L 2), .ref (L 3)]) rfl
  refine lv_iconst (v := 0) hx hb dX4_copyFrom_72 (by decide) ?_
  refine lv_istore_n (lv' := [(2, .int 0), (0, .ref (L 0)), (1, .ref (Lb 0))]) hx hb dX4_copyFrom_73 rfl hl (by decide) rfl (fun ls hl => ?_)
  have lp74 : ∀ (nn i : Nat), i ≤ 4 → 4 < i + nn → ∀ (g : Nat → Int32) (M1 : HM) (H : Heap) (locs : List Loc) (ls : Array Slot), Wd G (dm M s.heap.size) s.heap M1 H locs → St G M M1 L g → (∀ k, k < 153 → (k < 9 ∨ (9 ≤ k ∧ k < 41 ∧ (k - 9) % 4 < i)) → g k = t k) → lv_has ls 3 [(2, .int (nI i)), (1, .ref (Lb 0)), (0, .ref (L 0))] → W p l e (rd 1 0 0) s m args below meth c H locs 0 0 (MQ below (QV G M s.heap.size (fun M' => St G M M' L (t))) args s 0 0 (dm M s.heap.size)) (F0 m 74 ls []) := by
    intro nn
    induction nn with
    | zero =>
      intro i h1 h2
      exact absurd h2 (by omega)
    | succ nn ih =>
      intro i hi hin g M1 H locs ls hw hI hA hl
      refine lv_iload_n hx hb dX4_copyFrom_74 rfl (lv_at hl 0 rfl) ?_
      refine lv_iconst (v := 4) hx hb dX4_copyFrom_75 (by decide) ?_
      refine lv_icmp_ge (tgt := 100) hx hb dX4_copyFrom_76 (by decide) (fun c76 => ?_) (fun c76 => ?_)
      · obtain rfl : i = 4 := Nat.le_antisymm hi (ix_ge (b := 4) (by omega) (by decide) c76)
        refine lv_iconst (v := 0) hx hb dX4_copyFrom_100 (by decide) ?_
        refine lv_istore_n (lv' := [(2, .int 0), (1, .ref (Lb 0)), (0, .ref (L 0))]) hx hb dX4_copyFrom_101 rfl hl (by decide) rfl (fun ls hl => ?_)
        have lp102 : ∀ (nn i : Nat), i ≤ 8 → 8 < i + nn → ∀ (g : Nat → Int32) (M1 : HM) (H : Heap) (locs : List Loc) (ls : Array Slot), Wd G (dm M s.heap.size) s.heap M1 H locs → St G M M1 L g → (∀ k, k < 153 → (k < 41 ∨ (41 ≤ k ∧ k < 73 ∧ (k - 41) % 8 < i)) → g k = t k) → lv_has ls 3 [(2, .int (nI i)), (1, .ref (Lb 0)), (0, .ref (L 0))] → W p l e (rd 1 0 0) s m args below meth c H locs 0 0 (MQ below (QV G M s.heap.size (fun M' => St G M M' L (t))) args s 0 0 (dm M s.heap.size)) (F0 m 102 ls []) := by
          intro nn
          induction nn with
          | zero =>
            intro i h1 h2
            exact absurd h2 (by omega)
          | succ nn ih =>
            intro i hi hin g M1 H locs ls hw hI hA hl
            refine lv_iload_n hx hb dX4_copyFrom_102 rfl (lv_at hl 0 rfl) ?_
            refine lv_bipush (v := 8) hx hb dX4_copyFrom_103 (by decide) ?_
            refine lv_icmp_ge (tgt := 129) hx hb dX4_copyFrom_105 (by decide) (fun c105 => ?_) (fun c105 => ?_)
            · obtain rfl : i = 8 := Nat.le_antisymm hi (ix_ge (b := 8) (by omega) (by decide) c105)
              refine lv_iconst (v := 0) hx hb dX4_copyFrom_129 (by decide) ?_
              refine lv_istore_n (lv' := [(2, .int 0), (1, .ref (Lb 0)), (0, .ref (L 0))]) hx hb dX4_copyFrom_130 rfl hl (by decide) rfl (fun ls hl => ?_)
              have lp131 : ∀ (nn i : Nat), i ≤ 16 → 16 < i + nn → ∀ (g : Nat → Int32) (M1 : HM) (H : Heap) (locs : List Loc) (ls : Array Slot), Wd G (dm M s.heap.size) s.heap M1 H locs → St G M M1 L g → (∀ k, k < 153 → (k < 73 ∨ (73 ≤ k ∧ (k - 73) % 16 < i)) → g k = t k) → lv_has ls 3 [(2, .int (nI i)), (1, .ref (Lb 0)), (0, .ref (L 0))] → W p l e (rd 1 0 0) s m args below meth c H locs 0 0 (MQ below (QV G M s.heap.size (fun M' => St G M M' L (t))) args s 0 0 (dm M s.heap.size)) (F0 m 131 ls []) := by
                intro nn
                induction nn with
                | zero =>
                  intro i h1 h2
                  exact absurd h2 (by omega)
                | succ nn ih =>
                  intro i hi hin g M1 H locs ls hw hI hA hl
                  refine lv_iload_n hx hb dX4_copyFrom_131 rfl (lv_at hl 0 rfl) ?_
                  refine lv_bipush (v := 16) hx hb dX4_copyFrom_132 (by decide) ?_
                  refine lv_icmp_ge (tgt := 158) hx hb dX4_copyFrom_134 (by decide) (fun c134 => ?_) (fun c134 => ?_)
                  · obtain rfl : i = 16 := Nat.le_antisymm hi (ix_ge (b := 16) (by omega) (by decide) c134)
                    exact r_vret cX hr hlocks hw (hI.ext (fun k hk => hA k hk (by omega))) dX4_copyFrom_158
                  · have hlt : i < 16 := ix_lt (b := 16) (by omega) c134
                    have hB : ∀ j, j < 32 → M1 (Lb j) = M (Lb j) := fun j hj => hI.2 _ (fun i hi q => hd i j hi hj q.symm)
                    refine lv_aload_n hx hb dX4_copyFrom_137 rfl (lv_at hl 2 rfl) ?_
                    refine r_get cX inX4 hw hI.1.1 rfl 11 (by decide) wF_X4_25 rfl dX4_copyFrom_138 ?_
                    refine lv_iload_n hx hb dX4_copyFrom_141 rfl (lv_at hl 0 rfl) ?_
                    obtain ⟨g_23, hg_23, hg_23_⟩ := hI.1.2.2.2.1
                    refine r_aald cX hw 3 rfl hg_23 i rfl hlt (by decide) (hg_23_ i hlt) dX4_copyFrom_142 ?_
                    refine lv_aload_n hx hb dX4_copyFrom_143 rfl (lv_at hl 1 rfl) ?_
                    refine r_get cX inX4 hw ((hB 0 (by decide)).trans hJ.1) rfl 11 (by decide) wF_X4_25 rfl dX4_copyFrom_144 ?_
                    refine lv_iload_n hx hb dX4_copyFrom_147 rfl (lv_at hl 0 rfl) ?_
                    obtain ⟨g_24, hg_24, hg_24_⟩ := hJ.2.2.2.1
                    refine r_aald cX hw 3 rfl ((hB 3 (by decide)).trans hg_24) i rfl hlt (by decide) (hg_24_ i hlt) dX4_copyFrom_148 ?_
                    refine r_Vv cX hw (hI.1.2.2.2.2.2.2.1 i hlt) rfl [.ref (Lb (16 + i))] (c_X1_copyFrom l G (hI.1.2.2.2.2.2.2.1 i hlt) ((hB (16 + i) (by omega)).trans (hJ.2.2.2.2.2.2.1 i hlt)) (fun q => hd (16 + i) (16 + i) (by omega) (by omega) q.symm)) wM_X4_75 mw_X1_copyFrom ⟨Nat.le_of_ble_eq_true rfl, Nat.le_of_ble_eq_true rfl⟩ rfl rfl hl.1 (Nat.le_of_ble_eq_true rfl) dX4_copyFrom_149 ⟨Nat.le_of_ble_eq_true rfl, Nat.le_of_ble_eq_true rfl⟩ (fun M1 H locs hp hw => ?_)
                    subst hp
                    have hI := hI.mF t i hlt
                    refine lv_iinc (v := (nI (i + 1))) (lv' := [(2, .int (nI (i + 1))), (1, .ref (Lb 0)), (0, .ref (L 0))]) hx hb dX4_copyFrom_152 hl (k := 0) rfl (nI_1 i) (by decide) rfl (fun ls hl => ?_)
                    refine lv_goto (tgt := 131) hx hb dX4_copyFrom_155 (by decide) ?_
                    exact ih (i + 1) (by omega) (by omega) (mxF t g i) _ _ _ _ hw hI (fun k hk hd => by unfold mxF; split <;> first | rfl | exact hA k hk (by omega)) (lv_sub hl [0, 1, 2] rfl)
              exact lp131 (16 + 1) 0 (by omega) (by omega) g _ _ _ _ hw hI (fun k hk hd => hA k hk (by omega)) (lv_sub hl [0, 1, 2] rfl)
            · have hlt : i < 8 := ix_lt (b := 8) (by omega) c105
              have hB : ∀ j, j < 32 → M1 (Lb j) = M (Lb j) := fun j hj => hI.2 _ (fun i hi q => hd i j hi hj q.symm)
              refine lv_aload_n hx hb dX4_copyFrom_108 rfl (lv_at hl 2 rfl) ?_
              refine r_get cX inX4 hw hI.1.1 rfl 10 (by decide) wF_X4_19 rfl dX4_copyFrom_109 ?_
              refine lv_iload_n hx hb dX4_copyFrom_112 rfl (lv_at hl 0 rfl) ?_
              obtain ⟨g_25, hg_25, hg_25_⟩ := hI.1.2.2.1
              refine r_aald cX hw 2 rfl hg_25 i rfl hlt (by decide) (hg_25_ i hlt) dX4_copyFrom_113 ?_
              refine lv_aload_n hx hb dX4_copyFrom_114 rfl (lv_at hl 1 rfl) ?_
              refine r_get cX inX4 hw ((hB 0 (by decide)).trans hJ.1) rfl 10 (by decide) wF_X4_19 rfl dX4_copyFrom_115 ?_
              refine lv_iload_n hx hb dX4_copyFrom_118 rfl (lv_at hl 0 rfl) ?_
              obtain ⟨g_26, hg_26, hg_26_⟩ := hJ.2.2.1
              refine r_aald cX hw 2 rfl ((hB 2 (by decide)).trans hg_26) i rfl hlt (by decide) (hg_26_ i hlt) dX4_copyFrom_119 ?_
              refine r_Vv cX hw (hI.1.2.2.2.2.2.1 i hlt) rfl [.ref (Lb (8 + i))] (c_X0_copyFrom l G (hI.1.2.2.2.2.2.1 i hlt) ((hB (8 + i) (by omega)).trans (hJ.2.2.2.2.2.1 i hlt)) (fun q => hd (8 + i) (8 + i) (by omega) (by omega) q.symm) (hJ.2.2.2.2.2.2.2.2 i hlt)) wM_X4_72 mw_X0_copyFrom ⟨Nat.le_of_ble_eq_true rfl, Nat.le_of_ble_eq_true rfl⟩ rfl rfl hl.1 (Nat.le_of_ble_eq_true rfl) dX4_copyFrom_120 ⟨Nat.le_of_ble_eq_true rfl, Nat.le_of_ble_eq_true rfl⟩ (fun M1 H locs hp hw => ?_)
              subst hp
              have hI := hI.mE t i hlt (hJ.2.2.2.2.2.2.2.2 i hlt)
              refine lv_iinc (v := (nI (i + 1))) (lv' := [(2, .int (nI (i + 1))), (1, .ref (Lb 0)), (0, .ref (L 0))]) hx hb dX4_copyFrom_123 hl (k := 0) rfl (nI_1 i) (by decide) rfl (fun ls hl => ?_)
              refine lv_goto (tgt := 102) hx hb dX4_copyFrom_126 (by decide) ?_
              exact ih (i + 1) (by omega) (by omega) (mxE t g i) _ _ _ _ hw hI (fun k hk hd => by unfold mxE; split <;> first | rfl | exact hA k hk (by omega)) (lv_sub hl [0, 1, 2] rfl)
        exact lp102 (8 + 1) 0 (by omega) (by omega) g _ _ _ _ hw hI (fun k hk hd => hA k hk (by omega)) (lv_sub hl [0, 1, 2] rfl)
      · have hlt : i < 4 := ix_lt (b := 4) (by omega) c76
        have hB : ∀ j, j < 32 → M1 (Lb j) = M (Lb j) := fun j hj => hI.2 _ (fun i hi q => hd i j hi hj q.symm)
        refine lv_aload_n hx hb dX4_copyFrom_79 rfl (lv_at hl 2 rfl) ?_
        refine r_get cX inX4 hw hI.1.1 rfl 9 (by decide) wF_X4_11 rfl dX4_copyFrom_80 ?_
        refine lv_iload_n hx hb dX4_copyFrom_83 rfl (lv_at hl 0 rfl) ?_
        obtain ⟨g_27, hg_27, hg_27_⟩ := hI.1.2.1
        refine r_aald cX hw 4 rfl hg_27 i rfl hlt (by decide) (hg_27_ i hlt) dX4_copyFrom_84 ?_
        refine lv_aload_n hx hb dX4_copyFrom_85 rfl (lv_at hl 1 rfl) ?_
        refine r_get cX inX4 hw ((hB 0 (by decide)).trans hJ.1) rfl 9 (by decide) wF_X4_11 rfl dX4_copyFrom_86 ?_
        refine lv_iload_n hx hb dX4_copyFrom_89 rfl (lv_at hl 0 rfl) ?_
        obtain ⟨g_28, hg_28, hg_28_⟩ := hJ.2.1
        refine r_aald cX hw 4 rfl ((hB 1 (by decide)).trans hg_28) i rfl hlt (by decide) (hg_28_ i hlt) dX4_copyFrom_90 ?_
        refine r_Vv cX hw (hI.1.2.2.2.2.1 i hlt) rfl [.ref (Lb (4 + i))] (c_X2_copyFrom l G (hI.1.2.2.2.2.1 i hlt) ((hB (4 + i) (by omega)).trans (hJ.2.2.2.2.1 i hlt)) (fun q => hd (4 + i) (4 + i) (by omega) (by omega) q.symm)) wM_X4_68 mw_X2_copyFrom ⟨Nat.le_of_ble_eq_true rfl, Nat.le_of_ble_eq_true rfl⟩ rfl rfl hl.1 (Nat.le_of_ble_eq_true rfl) dX4_copyFrom_91 ⟨Nat.le_of_ble_eq_true rfl, Nat.le_of_ble_eq_true rfl⟩ (fun M1 H locs hp hw => ?_)
        subst hp
        have hI := hI.mP t i hlt
        refine lv_iinc (v := (nI (i + 1))) (lv' := [(2, .int (nI (i + 1))), (1, .ref (Lb 0)), (0, .ref (L 0))]) hx hb dX4_copyFrom_94 hl (k := 0) rfl (nI_1 i) (by decide) rfl (fun ls hl => ?_)
        refine lv_goto (tgt := 74) hx hb dX4_copyFrom_97 (by decide) ?_
        exact ih (i + 1) (by omega) (by omega) (mxP t g i) _ _ _ _ hw hI (fun k hk hd => by unfold mxP; split <;> first | rfl | exact hA k hk (by omega)) (lv_sub hl [0, 1, 2] rfl)
  exact lp74 (4 + 1) 0 (by omega) (by omega) (mxS t f) _ _ _ _ hw hI (fun k hk hd => by unfold mxS; rw [if_pos (by omega)]) (lv_sub hl [0, 2, 1] rfl)
end
section
/-! The class: its 359 cells at ad 0 .. ad 358. State j (0: the present one, 1..8: the ring, 9, 10: the snapshots) lies at Lst ad j. -/
def Lst (ad : Nat → Nat) (j : Nat) : Nat → Nat := fun i => ad (7 + 32 * j + i)
def uF (F : Nat → Nat → Int32) (j : Nat) (f : Nat → Int32) : Nat → Nat → Int32 := fun i => if i = j then f else F i
theorem uF_at (F : Nat → Nat → Int32) (j : Nat) (f : Nat → Int32) : uF F j f j = f := if_pos rfl
theorem uF_ne (F : Nat → Nat → Int32) {i j : Nat} (f : Nat → Int32) (h : i ≠ j) : uF F j f i = F i := if_neg h
def IsCl (G : gG) (M : HM) (ad : Nat → Nat) (F : Nat → Nat → Int32) (nx ct : Nat) (fl T : Nat → Int32) (len : Nat) (tr : Nat → Int32) : Prop :=
  M (ad 0) = some (.inr (6, [.ref (Lst ad 0 0), .ref (ad 1), .ref (ad 3), .ref (ad 4), .ref (ad 5)])) ∧
  M (ad 1) = some (.inr (3, [.ref (ad 2), .int (nI nx), .int (nI ct)])) ∧
  (∃ g, M (ad 2) = some (.inl (G.2 5, 8, .inr (.inr (.inr (.inr g))))) ∧ ∀ i, i < 8 → g i = some (Lst ad (i + 1) 0)) ∧
  (∃ g, M (ad 3) = some (.inl (G.2 5, 2, .inr (.inr (.inr (.inr g))))) ∧ ∀ i, i < 2 → g i = some (Lst ad (i + 9) 0)) ∧
  M (ad 4) = some (.inl (G.2 1, 2, .inl fl)) ∧
  M (ad 5) = some (.inr (5, [.ref (ad 6), .int (nI len), .int (tr 0), .int (tr 1), .int (tr 2), .int (tr 3)])) ∧
  M (ad 6) = some (.inl (G.2 0, 120, .inl T)) ∧
  (∀ j, j < 11 → IsSt G M (Lst ad j) (F j)) ∧ Inj ad 359 ∧ nx < 8 ∧ ct ≤ 8 ∧ len ≤ 120 ∧ (∀ i, i < 2 → fl i = 0 ∨ fl i = 1) ∧ (tr 1 = 0 ∨ tr 1 = 1)
def OffC (M0 M : HM) (ad : Nat → Nat) (n : Nat) : Prop := ∀ q, (∀ i, i < n → q ≠ ad i) → M q = M0 q
theorem OffC.rf (M : HM) (ad : Nat → Nat) (n : Nat) : OffC M M ad n := fun _ _ => rfl
theorem OffC.trans {M0 M1 M2 : HM} {ad : Nat → Nat} {n : Nat} (h1 : OffC M0 M1 ad n) (h2 : OffC M1 M2 ad n) : OffC M0 M2 ad n := fun q h => (h2 q h).trans (h1 q h)
theorem OffC.mu {M0 M : HM} {ad : Nat → Nat} {n : Nat} (h : OffC M0 M ad n) (i : Nat) (hi : i < n) (e : va_E) : OffC M0 (mu M (ad i) e) ad n := fun q hq => (mu_ne _ _ (hq i hi)).trans (h q hq)
def Cl (G : gG) (M0 M : HM) (ad : Nat → Nat) (F : Nat → Nat → Int32) (nx ct : Nat) (fl T : Nat → Int32) (len : Nat) (tr : Nat → Int32) : Prop := IsCl G M ad F nx ct fl T len tr ∧ OffC M0 M ad 359
section CLS
variable {G : gG} {M0 M M' : HM} {ad : Nat → Nat} {F : Nat → Nat → Int32} {nx ct : Nat} {fl T : Nat → Int32} {len : Nat} {tr : Nat → Int32}
theorem Cl.trans {M2 : HM} {F' : Nat → Nat → Int32} {nx' ct' : Nat} {fl' T' : Nat → Int32} {len' : Nat} {tr' : Nat → Int32} (h : Cl G M0 M ad F nx ct fl T len tr) (h2 : Cl G M M2 ad F' nx' ct' fl' T' len' tr') : Cl G M0 M2 ad F' nx' ct' fl' T' len' tr' := ⟨h2.1, h.2.trans h2.2⟩
theorem IsCl.inj (h : IsCl G M ad F nx ct fl T len tr) : Inj ad 359 := h.2.2.2.2.2.2.2.2.1
theorem IsCl.sts (h : IsCl G M ad F nx ct fl T len tr) (j : Nat) (hj : j < 11) : IsSt G M (Lst ad j) (F j) := h.2.2.2.2.2.2.2.1 j hj
/-- states lie apart -/
theorem IsCl.apart (h : IsCl G M ad F nx ct fl T len tr) {a b : Nat} (ha : a < 11) (hb : b < 11) (hab : a ≠ b) : ∀ i j, i < 32 → j < 32 → Lst ad a i ≠ Lst ad b j := by
  intro i j hi hj q
  have := h.inj _ _ (by omega) (by omega) q
  omega
/-- state j has moved to f' -/
theorem Cl.st {f' : Nat → Int32} (h : Cl G M0 M ad F nx ct fl T len tr) (j : Nat) (hj : j < 11) (hs : St G M M' (Lst ad j) f') : Cl G M0 M' ad (uF F j f') nx ct fl T len tr := by
  obtain ⟨⟨h0, h1, ⟨g2, a2, b2⟩, ⟨g3, a3, b3⟩, h4, h5, h6, h7, hI, hr⟩, hO⟩ := h
  have k : ∀ i, i < 7 → M' (ad i) = M (ad i) := fun i hi => hs.2 _ (fun q hq z => by
    have := hI i (7 + 32 * j + q) (by omega) (by omega) z
    omega)
  refine ⟨⟨(k 0 (by omega)).trans h0, (k 1 (by omega)).trans h1, ⟨g2, (k 2 (by omega)).trans a2, b2⟩, ⟨g3, (k 3 (by omega)).trans a3, b3⟩, (k 4 (by omega)).trans h4, (k 5 (by omega)).trans h5, (k 6 (by omega)).trans h6, fun i hi => ?_, hI, hr⟩, fun q hq => ?_⟩
  · by_cases hij : i = j
    · subst hij
      rw [uF_at]
      exact hs.1
    · rw [uF_ne F f' hij]
      refine (h7 i hi).kept (fun a ha => hs.2 _ (fun b hb z => ?_))
      have := hI (7 + 32 * i + a) (7 + 32 * j + b) (by omega) (by omega) z
      omega
  · rw [hs.2 q (fun i hi => hq (7 + 32 * j + i) (by omega))]
    exact hO q hq
/-- one of the first seven cells has been written -/
theorem IsCl.keep7 (h : IsCl G M ad F nx ct fl T len tr) (i : Nat) (hi : i < 7) (e : va_E) : (∀ j, j < 7 → j ≠ i → mu M (ad i) e (ad j) = M (ad j)) ∧ ∀ j, j < 11 → IsSt G (mu M (ad i) e) (Lst ad j) (F j) := by
  have hI := h.inj
  refine ⟨fun j hj hij => mu_L hI (by omega) (by omega) hij e, fun j hj => (h.sts j hj).kept (fun a ha => mu_ne _ _ (fun z => ?_))⟩
  have := hI (7 + 32 * j + a) i (by omega) (by omega) z
  omega
theorem Cl.sv (h : Cl G M0 M ad F nx ct fl T len tr) {nx' ct' : Nat} (hn : nx' < 8) (hc : ct' ≤ 8) : Cl G M0 (mu M (ad 1) (.inr (3, [.ref (ad 2), .int (nI nx'), .int (nI ct')]))) ad F nx' ct' fl T len tr := by
  obtain ⟨hh, hO⟩ := h
  obtain ⟨k, ks⟩ := hh.keep7 1 (by omega) (.inr (3, [.ref (ad 2), .int (nI nx'), .int (nI ct')]))
  obtain ⟨h0, h1, ⟨g2, a2, b2⟩, ⟨g3, a3, b3⟩, h4, h5, h6, h7, hI, hr⟩ := hh
  exact ⟨⟨(k 0 (by omega) (by omega)).trans h0, mu_at _ _ _, ⟨g2, (k 2 (by omega) (by omega)).trans a2, b2⟩, ⟨g3, (k 3 (by omega) (by omega)).trans a3, b3⟩, (k 4 (by omega) (by omega)).trans h4, (k 5 (by omega) (by omega)).trans h5, (k 6 (by omega) (by omega)).trans h6, ks, hI, hn, hc, hr.2.2⟩, hO.mu 1 (by omega) _⟩
theorem Cl.flg (h : Cl G M0 M ad F nx ct fl T len tr) {fl' : Nat → Int32} (hf : ∀ i, i < 2 → fl' i = 0 ∨ fl' i = 1) : Cl G M0 (mu M (ad 4) (.inl (G.2 1, 2, .inl fl'))) ad F nx ct fl' T len tr := by
  obtain ⟨hh, hO⟩ := h
  obtain ⟨k, ks⟩ := hh.keep7 4 (by omega) (.inl (G.2 1, 2, .inl fl'))
  obtain ⟨h0, h1, ⟨g2, a2, b2⟩, ⟨g3, a3, b3⟩, h4, h5, h6, h7, hI, hr⟩ := hh
  exact ⟨⟨(k 0 (by omega) (by omega)).trans h0, (k 1 (by omega) (by omega)).trans h1, ⟨g2, (k 2 (by omega) (by omega)).trans a2, b2⟩, ⟨g3, (k 3 (by omega) (by omega)).trans a3, b3⟩, mu_at _ _ _, (k 5 (by omega) (by omega)).trans h5, (k 6 (by omega) (by omega)).trans h6, ks, hI, hr.1, hr.2.1, hr.2.2.1, hf, hr.2.2.2.2⟩, hO.mu 4 (by omega) _⟩
theorem Cl.trc (h : Cl G M0 M ad F nx ct fl T len tr) {len' : Nat} {x0 x1 x2 x3 : Int32} (hl : len' ≤ 120) (hx : x1 = 0 ∨ x1 = 1) : Cl G M0 (mu M (ad 5) (.inr (5, [.ref (ad 6), .int (nI len'), .int x0, .int x1, .int x2, .int x3]))) ad F nx ct fl T len' (fun k => match k with | 0 => x0 | 1 => x1 | 2 => x2 | _ => x3) := by
  obtain ⟨hh, hO⟩ := h
  obtain ⟨k, ks⟩ := hh.keep7 5 (by omega) (.inr (5, [.ref (ad 6), .int (nI len'), .int x0, .int x1, .int x2, .int x3]))
  obtain ⟨h0, h1, ⟨g2, a2, b2⟩, ⟨g3, a3, b3⟩, h4, h5, h6, h7, hI, hr⟩ := hh
  exact ⟨⟨(k 0 (by omega) (by omega)).trans h0, (k 1 (by omega) (by omega)).trans h1, ⟨g2, (k 2 (by omega) (by omega)).trans a2, b2⟩, ⟨g3, (k 3 (by omega) (by omega)).trans a3, b3⟩, (k 4 (by omega) (by omega)).trans h4, mu_at _ _ _, (k 6 (by omega) (by omega)).trans h6, ks, hI, hr.1, hr.2.1, hl, hr.2.2.2.1, hx⟩, hO.mu 5 (by omega) _⟩
theorem Cl.cod (h : Cl G M0 M ad F nx ct fl T len tr) {T' : Nat → Int32} : Cl G M0 (mu M (ad 6) (.inl (G.2 0, 120, .inl T'))) ad F nx ct fl T' len tr := by
  obtain ⟨hh, hO⟩ := h
  obtain ⟨k, ks⟩ := hh.keep7 6 (by omega) (.inl (G.2 0, 120, .inl T'))
  obtain ⟨h0, h1, ⟨g2, a2, b2⟩, ⟨g3, a3, b3⟩, h4, h5, h6, h7, hI, hr⟩ := hh
  exact ⟨⟨(k 0 (by omega) (by omega)).trans h0, (k 1 (by omega) (by omega)).trans h1, ⟨g2, (k 2 (by omega) (by omega)).trans a2, b2⟩, ⟨g3, (k 3 (by omega) (by omega)).trans a3, b3⟩, (k 4 (by omega) (by omega)).trans h4, (k 5 (by omega) (by omega)).trans h5, mu_at _ _ _, ks, hI, hr⟩, hO.mu 6 (by omega) _⟩
end CLS
/-! the abstract state of a run: the states, the ring's place and count, the slots' flags, the text and its length -/
abbrev Sg : Type := (Nat → Nat → Int32) × Nat × Nat × (Nat → Int32) × (Nat → Int32) × Nat
def CL (G : gG) (M0 M : HM) (ad : Nat → Nat) (z : Sg) : Prop := ∃ tr, Cl G M0 M ad z.1 z.2.1 z.2.2.1 z.2.2.2.1 z.2.2.2.2.1 z.2.2.2.2.2 tr
/-- the present state is saved, and becomes f -/
def psh (z : Sg) (f : Nat → Int32) : Sg := (uF (uF z.1 (z.2.1 + 1) (z.1 0)) 0 f, (z.2.1 + 1) % 8, min (z.2.2.1 + 1) 8, z.2.2.2)
theorem psh_0 (F : Nat → Nat → Int32) (nx : Nat) : uF F (nx + 1) (F 0) 0 = F 0 := uF_ne _ _ (by omega)
end
section
/-! what each call answers, and the run's state behind it -/
def q_entryOf (x : Int32) (f : Nat → Int32) : Int32 := if 0 ≤ x ∧ x ≤ 15 then jr (7 * x + 3) (f 2) else -1
def q_pth (b : Nat) (x : Int32) (f : Nat → Int32) : Int32 := if 0 ≤ x ∧ x ≤ f 1 - 1 then f (b + x.toNatClampNeg) else -1
def q_flw (b : Nat) (x : Int32) (f : Nat → Int32) : Int32 := if 0 ≤ x ∧ x ≤ 15 then f (b + x.toNatClampNeg) else -1
def q_isActive (x : Int32) (f : Nat → Int32) : Int32 := if 0 ≤ x ∧ x ≤ f 2 - 1 then (if lvE f x.toNatClampNeg = true then 1 else 0) else -1
def q_entryPath (x : Int32) (f : Nat → Int32) : Int32 := if 0 ≤ x ∧ x ≤ f 2 - 1 then f (49 + x.toNatClampNeg) else -1
def q_ageBit (x : Int32) (f : Nat → Int32) : Int32 := if 0 ≤ x ∧ x ≤ f 2 - 1 then (if f (41 + x.toNatClampNeg) = 1 then f (65 + x.toNatClampNeg) else -9) else -1
def q_idle (x : Int32) (f : Nat → Int32) : Int32 := if 0 ≤ x ∧ x ≤ f 2 - 1 then (if f (49 + x.toNatClampNeg) = -9 then -9 else f 0 - f (57 + x.toNatClampNeg)) else -1
def q_metric (x : Int32) (f : Nat → Int32) : Int32 := if 0 ≤ x ∧ x ≤ f 1 - 1 then mt f x.toNatClampNeg else -1
def q_busy (x : Int32) (f : Nat → Int32) : Int32 := if 0 ≤ x ∧ x ≤ f 1 - 1 then wt (f (25 + x.toNatClampNeg)) (f 0) else -1
def q_latency (x y : Int32) (f : Nat → Int32) : Int32 := if (0 ≤ x ∧ x ≤ f 1 - 1) ∧ (1 ≤ y ∧ y ≤ 1000) then laF f y x.toNatClampNeg else -1
def q_safeGap (x : Int32) (f : Nat → Int32) : Int32 := if 1 ≤ x ∧ x ≤ 1000 then mxN (laF f x) (nP f - 1) - mnN (laF f x) (nP f - 1) else -1
def q_imbalance (f : Nat → Int32) : Int32 := mxN (fun j => f (33 + j)) (nP f - 1) - mnN (fun j => f (33 + j)) (nP f - 1)
def q_nextPath (x : Int32) (f : Nat → Int32) : Int32 := if 0 ≤ x ∧ x ≤ 15 then chF f x.toNatClampNeg else -1
def q_wouldReorder (x y : Int32) (f : Nat → Int32) : Int32 := if (0 ≤ x ∧ x ≤ 15) ∧ (1 ≤ y ∧ y ≤ 1000) then woF f x.toNatClampNeg y else -1
def s_configure (x y : Int32) (z : Sg) : Int32 × Sg := if (2 ≤ x ∧ x ≤ 4) ∧ (1 ≤ y ∧ y ≤ 8) then (cnF (iniF x y) 0 16, psh z (iniF x y)) else (-1, z)
def s_setP (b : Nat) (lo hi x y : Int32) (z : Sg) : Int32 × Sg := if (0 ≤ x ∧ x ≤ z.1 0 1 - 1) ∧ (lo ≤ y ∧ y ≤ hi) then (z.1 0 (b + x.toNatClampNeg), psh z (upd (z.1 0) (b + x.toNatClampNeg) y)) else (-1, z)
def s_setS (b : Nat) (lo hi x : Int32) (z : Sg) : Int32 × Sg := if lo ≤ x ∧ x ≤ hi then (z.1 0 b, psh z (upd (z.1 0) b x)) else (-1, z)
def s_setGenerator (x : Int32) (z : Sg) : Int32 × Sg := if 0 ≤ x then (z.1 0 7, psh z (upd (z.1 0) 7 x)) else (-1, z)
def s_advance (x : Int32) (z : Sg) : Int32 × Sg := if 1 ≤ x ∧ x ≤ 1000 then (if x ≤ 1000000 - z.1 0 0 then (psN (z.1 0) x.toNatClampNeg 0, psh z (psN (z.1 0) x.toNatClampNeg)) else (-2, z)) else (-1, z)
def s_send (x y : Int32) (z : Sg) : Int32 × Sg := if (0 ≤ x ∧ x ≤ 15) ∧ (1 ≤ y ∧ y ≤ 1000) then ((sdF (z.1 0) x.toNatClampNeg y).1, psh z (sdF (z.1 0) x.toNatClampNeg y).2) else (-1, z)
def s_append (x : Int32) (z : Sg) : Int32 × Sg := if 0 ≤ x ∧ x ≤ 255 then (if z.2.2.2.2.2 = 120 then (-3, z) else (nI (z.2.2.2.2.2 + 1), (z.1, z.2.1, z.2.2.1, z.2.2.2.1, upd z.2.2.2.2.1 z.2.2.2.2.2 x, z.2.2.2.2.2 + 1))) else (-1, z)
def s_clearText (z : Sg) : Int32 × Sg := (nI z.2.2.2.2.2, (z.1, z.2.1, z.2.2.1, z.2.2.2.1, z.2.2.2.2.1, 0))
def s_undo (z : Sg) : Int32 × Sg := if z.2.2.1 = 0 then (-2, z) else (nI (z.2.2.1 - 1), (uF z.1 0 (z.1 ((z.2.1 + 7) % 8 + 1)), (z.2.1 + 7) % 8, z.2.2.1 - 1, z.2.2.2))
def s_save (x : Int32) (z : Sg) : Int32 × Sg := if 0 ≤ x ∧ x ≤ 1 then (z.1 0 0, (uF z.1 (x.toNatClampNeg + 9) (z.1 0), z.2.1, z.2.2.1, upd z.2.2.2.1 x.toNatClampNeg 1, z.2.2.2.2)) else (-1, z)
def s_restore (x : Int32) (z : Sg) : Int32 × Sg := if 0 ≤ x ∧ x ≤ 1 then (if z.2.2.2.1 x.toNatClampNeg = 0 then (-2, z) else (z.1 (x.toNatClampNeg + 9) 0, (uF z.1 0 (z.1 (x.toNatClampNeg + 9)), z.2.1, 0, z.2.2.2))) else (-1, z)
theorem ix_of {x : Int32} {n : Nat} (hn : 1 ≤ n) (h2 : n < 2 ^ 31) (h : 0 ≤ x ∧ x ≤ nI n - 1) : ∃ k, k < n ∧ x = nI k ∧ x.toNatClampNeg = k := by
  obtain ⟨j, h3, h4⟩ := nI_of (Int32.not_lt.mpr h.1)
  have h5 := h.2
  rw [h4, show (1 : Int32) = nI 1 from rfl, pk_sub hn, nI_leI h3 (by omega)] at h5
  exact ⟨j, by omega, h4, by rw [h4]; exact nI_clamp h3⟩
theorem path_ix {B : Nat} {f : Nat → Int32} {x : Int32} (hv : Inv B f) (h : 0 ≤ x ∧ x ≤ f 1 - 1) : ∃ k, k < 4 ∧ k < nP f ∧ x = nI k ∧ x.toNatClampNeg = k := by
  obtain ⟨h1, h2, h3⟩ := hv.P
  rw [h3] at h
  obtain ⟨k, a, b, c⟩ := ix_of (by omega) (by omega) h
  exact ⟨k, by omega, a, b, c⟩
theorem entry_ix {B : Nat} {f : Nat → Int32} {x : Int32} (hv : Inv B f) (h : 0 ≤ x ∧ x ≤ f 2 - 1) : ∃ k, k < 8 ∧ k < nE f ∧ x = nI k ∧ x.toNatClampNeg = k := by
  obtain ⟨h1, h2, h3⟩ := hv.E
  rw [h3] at h
  obtain ⟨k, a, b, c⟩ := ix_of (by omega) (by omega) h
  exact ⟨k, by omega, a, b, c⟩
theorem lit_ix {x : Int32} (n : Nat) (hn : n < 2 ^ 31) (h : 0 ≤ x ∧ x ≤ nI n) : ∃ k, k < n + 1 ∧ x = nI k ∧ x.toNatClampNeg = k := by
  obtain ⟨j, h3, h4⟩ := nI_of (Int32.not_lt.mpr h.1)
  have h5 := h.2
  rw [h4, nI_leI h3 hn] at h5
  exact ⟨j, by omega, h4, by rw [h4]; exact nI_clamp h3⟩
end
section
theorem min8 {c : Nat} (h : c ≤ 8) : (if (8 : Int32) < nI c + 1 then 8 else nI c + 1) = nI (min (c + 1) 8) := by
  rw [nI_1]
  show (if nI 8 < nI (c + 1) then nI 8 else nI (c + 1)) = _
  rcases Nat.lt_or_ge c 8 with q | q
  · rw [if_neg (nI_nlt (by omega) (by omega)), Nat.min_eq_left (by omega)]
  · rw [if_pos (nI_lt (by omega) (by omega)), Nat.min_eq_right (by omega)]
theorem woF01 (f : Nat → Int32) (k : Nat) (y : Int32) : woF f k y = 0 ∨ woF f k y = 1 := if01 _
set_option maxHeartbeats 4000000 in
set_option maxRecDepth 100000 in
theorem c_X6_now (l : Launch) (G : gG) {M : HM} {ad : Nat → Nat} {F : Nat → Nat → Int32} {nx ct : Nat} {fl T : Nat → Int32} {len : Nat} {tr : Nat → Int32} (hC0 : IsCl G M ad F nx ct fl T len tr) : Ci l yX6_now cX6_now 1 .int (rd 0 0 0) G [.ref (ad 0)] M (fun r M' => r = (fun f : Nat → Int32 => f 0) (F 0) ∧ M' = M) := by
  refine Ci.of (by decide) (Nat.le_of_ble_eq_true rfl) ?_
  intro p e s m args below meth c ls cX hw hlocks hr hl
  have hx := cX.1
  have hb := cX.2.1
  have hl : lv_has ls 1 [(0, .ref (ad 0))] := hl
  have hC : Cl G M M ad F nx ct fl T len tr := ⟨hC0, OffC.rf M ad 359⟩
  have hI := (hC.1.sts 0 (by decide)).st
  refine lv_aload_n hx hb dX6_now_0 rfl (lv_at hl 0 rfl) ?_
  refine r_get cX inX6 hw hC.1.1 rfl 0 (by decide) wF_X6_10 rfl dX6_now_1 ?_
  refine r_get cX inX4 hw hI.1.1 rfl 2 (by decide) wF_X6_96 rfl dX6_now_4 ?_
  exact r_iret cX hr hlocks hw ⟨rfl, rfl⟩ dX6_now_7

set_option maxHeartbeats 4000000 in
set_option maxRecDepth 100000 in
theorem c_X6_entryOf (l : Launch) (G : gG) {M : HM} {ad : Nat → Nat} {F : Nat → Nat → Int32} {nx ct : Nat} {fl T : Nat → Int32} {len : Nat} {tr : Nat → Int32} (hC0 : IsCl G M ad F nx ct fl T len tr) (x : Int32) {B : Nat} (hv : Inv B (F 0)) : Ci l yX6_entryOf cX6_entryOf 2 .int (rd 2 0 0) G [.ref (ad 0), .int x] M (fun r M' => r = q_entryOf x (F 0) ∧ M' = M) := by
  refine Ci.of (by decide) (Nat.le_of_ble_eq_true rfl) ?_
  intro p e s m args below meth c ls cX hw hlocks hr hl
  have hx := cX.1
  have hb := cX.2.1
  have hl : lv_has ls 2 [(0, .ref (ad 0)), (1, .int x)] := hl
  have hC : Cl G M M ad F nx ct fl T len tr := ⟨hC0, OffC.rf M ad 359⟩
  have hI := (hC.1.sts 0 (by decide)).st
  refine lv_iload_n hx hb dX6_entryOf_0 rfl (lv_at hl 1 rfl) ?_
  refine r_Si cX hw [.int x] (c_X6_isFlow l G x) wM_X6_99 mw_X6_isFlow ⟨Nat.le_of_ble_eq_true rfl, Nat.le_of_ble_eq_true rfl⟩ rfl rfl hl.1 (Nat.le_of_ble_eq_true rfl) dX6_entryOf_1 ⟨Nat.le_of_ble_eq_true rfl, Nat.le_of_ble_eq_true rfl⟩ (fun r M1 H locs hp hw => ?_)
  obtain ⟨rfl, hq⟩ := hp
  rw [hq] at hw
  refine lv_if_eq (tgt := 18) hx hb dX6_entryOf_4 (by decide) (fun c4 => ?_) (fun c4 => ?_)
  · refine lv_iconst (v := (-1)) hx hb dX6_entryOf_18 (by decide) ?_
    exact r_iret cX hr hlocks hw ⟨by unfold q_entryOf; rw [if_neg (fun h => if01e c4 h)], rfl⟩ dX6_entryOf_19
  · refine lv_aload_n hx hb dX6_entryOf_7 rfl (lv_at hl 0 rfl) ?_
    refine r_get cX inX6 hw hC.1.1 rfl 0 (by decide) wF_X6_10 rfl dX6_entryOf_8 ?_
    refine lv_iload_n hx hb dX6_entryOf_11 rfl (lv_at hl 1 rfl) ?_
    refine r_Vi cX hw hI.1.1 rfl [.int x] (c_X4_entryNumber l G hI.1 x hv.nz2) wM_X6_109 mw_X4_entryNumber ⟨Nat.le_of_ble_eq_true rfl, Nat.le_of_ble_eq_true rfl⟩ rfl rfl hl.1 (Nat.le_of_ble_eq_true rfl) dX6_entryOf_12 ⟨Nat.le_of_ble_eq_true rfl, Nat.le_of_ble_eq_true rfl⟩ (fun r M1 H locs hp hw => ?_)
    obtain ⟨rfl, hq⟩ := hp
    rw [hq] at hw
    refine lv_goto (tgt := 19) hx hb dX6_entryOf_15 (by decide) ?_
    exact r_iret cX hr hlocks hw ⟨by unfold q_entryOf; rw [if_pos (if01n c4)], rfl⟩ dX6_entryOf_19

set_option maxHeartbeats 4000000 in
set_option maxRecDepth 100000 in
theorem c_X6_isActive (l : Launch) (G : gG) {M : HM} {ad : Nat → Nat} {F : Nat → Nat → Int32} {nx ct : Nat} {fl T : Nat → Int32} {len : Nat} {tr : Nat → Int32} (hC0 : IsCl G M ad F nx ct fl T len tr) (x : Int32) {B : Nat} (hv : Inv B (F 0)) : Ci l yX6_isActive cX6_isActive 2 .int (rd 2 0 0) G [.ref (ad 0), .int x] M (fun r M' => r = q_isActive x (F 0) ∧ M' = M) := by
  refine Ci.of (by decide) (Nat.le_of_ble_eq_true rfl) ?_
  intro p e s m args below meth c ls cX hw hlocks hr hl
  have hx := cX.1
  have hb := cX.2.1
  have hl : lv_has ls 2 [(0, .ref (ad 0)), (1, .int x)] := hl
  have hC : Cl G M M ad F nx ct fl T len tr := ⟨hC0, OffC.rf M ad 359⟩
  have hI := (hC.1.sts 0 (by decide)).st
  refine lv_aload_n hx hb dX6_isActive_0 rfl (lv_at hl 0 rfl) ?_
  refine r_get cX inX6 hw hC.1.1 rfl 0 (by decide) wF_X6_10 rfl dX6_isActive_1 ?_
  refine lv_iload_n hx hb dX6_isActive_4 rfl (lv_at hl 1 rfl) ?_
  refine r_Vi cX hw hI.1.1 rfl [.int x] (c_X4_hasEntry l G hI.1 x) wM_X6_112 mw_X4_hasEntry ⟨Nat.le_of_ble_eq_true rfl, Nat.le_of_ble_eq_true rfl⟩ rfl rfl hl.1 (Nat.le_of_ble_eq_true rfl) dX6_isActive_5 ⟨Nat.le_of_ble_eq_true rfl, Nat.le_of_ble_eq_true rfl⟩ (fun r M1 H locs hp hw => ?_)
  obtain ⟨rfl, hq⟩ := hp
  rw [hq] at hw
  refine lv_if_ne (tgt := 13) hx hb dX6_isActive_8 (by decide) (fun c8 => ?_) (fun c8 => ?_)
  · refine lv_aload_n hx hb dX6_isActive_13 rfl (lv_at hl 0 rfl) ?_
    refine r_get cX inX6 hw hC.1.1 rfl 0 (by decide) wF_X6_10 rfl dX6_isActive_14 ?_
    refine lv_aload_n hx hb dX6_isActive_17 rfl (lv_at hl 0 rfl) ?_
    refine r_get cX inX6 hw hC.1.1 rfl 0 (by decide) wF_X6_10 rfl dX6_isActive_18 ?_
    refine r_get cX inX4 hw hI.1.1 rfl 10 (by decide) wF_X6_115 rfl dX6_isActive_21 ?_
    refine lv_iload_n hx hb dX6_isActive_24 rfl (lv_at hl 1 rfl) ?_
    obtain ⟨g_20, hg_20, hg_20_⟩ := hI.1.2.2.1
    obtain ⟨k, hk, hkP, hxk, hxc⟩ := entry_ix hv (if01n c8)
    refine r_aald cX hw 2 rfl hg_20 k hxk hk (by decide) (hg_20_ k hk) dX6_isActive_25 ?_
    refine r_Vi cX hw hI.1.1 rfl [.ref (Lst ad 0 (8 + k))] (c_X4_isInUse l G hI.1 k hk) wM_X6_119 mw_X4_isInUse ⟨Nat.le_of_ble_eq_true rfl, Nat.le_of_ble_eq_true rfl⟩ rfl rfl hl.1 (Nat.le_of_ble_eq_true rfl) dX6_isActive_26 ⟨Nat.le_of_ble_eq_true rfl, Nat.le_of_ble_eq_true rfl⟩ (fun r M1 H locs hp hw => ?_)
    obtain ⟨rfl, hq⟩ := hp
    rw [hq] at hw
    refine lv_if_eq (tgt := 36) hx hb dX6_isActive_29 (by decide) (fun c29 => ?_) (fun c29 => ?_)
    · refine lv_iconst (v := 0) hx hb dX6_isActive_36 (by decide) ?_
      exact r_iret cX hr hlocks hw ⟨by unfold q_isActive; rw [if_pos (if01n c8), hxc]; exact (if_neg (if01e c29)).symm, rfl⟩ dX6_isActive_37
    · refine lv_iconst (v := 1) hx hb dX6_isActive_32 (by decide) ?_
      refine lv_goto (tgt := 37) hx hb dX6_isActive_33 (by decide) ?_
      exact r_iret cX hr hlocks hw ⟨by unfold q_isActive; rw [if_pos (if01n c8), hxc]; exact (if_pos (if01n c29)).symm, rfl⟩ dX6_isActive_37
  · refine lv_iconst (v := (-1)) hx hb dX6_isActive_11 (by decide) ?_
    exact r_iret cX hr hlocks hw ⟨by unfold q_isActive; rw [if_neg (fun h => if01e c8 h)], rfl⟩ dX6_isActive_12

set_option maxHeartbeats 4000000 in
set_option maxRecDepth 100000 in
theorem c_X6_entryPath (l : Launch) (G : gG) {M : HM} {ad : Nat → Nat} {F : Nat → Nat → Int32} {nx ct : Nat} {fl T : Nat → Int32} {len : Nat} {tr : Nat → Int32} (hC0 : IsCl G M ad F nx ct fl T len tr) (x : Int32) {B : Nat} (hv : Inv B (F 0)) : Ci l yX6_entryPath cX6_entryPath 2 .int (rd 2 0 0) G [.ref (ad 0), .int x] M (fun r M' => r = q_entryPath x (F 0) ∧ M' = M) := by
  refine Ci.of (by decide) (Nat.le_of_ble_eq_true rfl) ?_
  intro p e s m args below meth c ls cX hw hlocks hr hl
  have hx := cX.1
  have hb := cX.2.1
  have hl : lv_has ls 2 [(0, .ref (ad 0)), (1, .int x)] := hl
  have hC : Cl G M M ad F nx ct fl T len tr := ⟨hC0, OffC.rf M ad 359⟩
  have hI := (hC.1.sts 0 (by decide)).st
  refine lv_aload_n hx hb dX6_entryPath_0 rfl (lv_at hl 0 rfl) ?_
  refine r_get cX inX6 hw hC.1.1 rfl 0 (by decide) wF_X6_10 rfl dX6_entryPath_1 ?_
  refine lv_iload_n hx hb dX6_entryPath_4 rfl (lv_at hl 1 rfl) ?_
  refine r_Vi cX hw hI.1.1 rfl [.int x] (c_X4_hasEntry l G hI.1 x) wM_X6_112 mw_X4_hasEntry ⟨Nat.le_of_ble_eq_true rfl, Nat.le_of_ble_eq_true rfl⟩ rfl rfl hl.1 (Nat.le_of_ble_eq_true rfl) dX6_entryPath_5 ⟨Nat.le_of_ble_eq_true rfl, Nat.le_of_ble_eq_true rfl⟩ (fun r M1 H locs hp hw => ?_)
  obtain ⟨rfl, hq⟩ := hp
  rw [hq] at hw
  refine lv_if_eq (tgt := 26) hx hb dX6_entryPath_8 (by decide) (fun c8 => ?_) (fun c8 => ?_)
  · refine lv_iconst (v := (-1)) hx hb dX6_entryPath_26 (by decide) ?_
    exact r_iret cX hr hlocks hw ⟨by unfold q_entryPath; rw [if_neg (fun h => if01e c8 h)], rfl⟩ dX6_entryPath_27
  · refine lv_aload_n hx hb dX6_entryPath_11 rfl (lv_at hl 0 rfl) ?_
    refine r_get cX inX6 hw hC.1.1 rfl 0 (by decide) wF_X6_10 rfl dX6_entryPath_12 ?_
    refine r_get cX inX4 hw hI.1.1 rfl 10 (by decide) wF_X6_115 rfl dX6_entryPath_15 ?_
    refine lv_iload_n hx hb dX6_entryPath_18 rfl (lv_at hl 1 rfl) ?_
    obtain ⟨g_21, hg_21, hg_21_⟩ := hI.1.2.2.1
    obtain ⟨k, hk, hkP, hxk, hxc⟩ := entry_ix hv (if01n c8)
    refine r_aald cX hw 2 rfl hg_21 k hxk hk (by decide) (hg_21_ k hk) dX6_entryPath_19 ?_
    refine r_get cX inX0 hw (hI.1.2.2.2.2.2.1 k hk) rfl 1 (by decide) wF_X6_123 rfl dX6_entryPath_20 ?_
    refine lv_goto (tgt := 27) hx hb dX6_entryPath_23 (by decide) ?_
    exact r_iret cX hr hlocks hw ⟨by unfold q_entryPath; rw [if_pos (if01n c8), hxc], rfl⟩ dX6_entryPath_27

set_option maxHeartbeats 4000000 in
set_option maxRecDepth 100000 in
theorem c_X6_ageBit (l : Launch) (G : gG) {M : HM} {ad : Nat → Nat} {F : Nat → Nat → Int32} {nx ct : Nat} {fl T : Nat → Int32} {len : Nat} {tr : Nat → Int32} (hC0 : IsCl G M ad F nx ct fl T len tr) (x : Int32) {B : Nat} (hv : Inv B (F 0)) : Ci l yX6_ageBit cX6_ageBit 2 .int (rd 2 0 0) G [.ref (ad 0), .int x] M (fun r M' => r = q_ageBit x (F 0) ∧ M' = M) := by
  refine Ci.of (by decide) (Nat.le_of_ble_eq_true rfl) ?_
  intro p e s m args below meth c ls cX hw hlocks hr hl
  have hx := cX.1
  have hb := cX.2.1
  have hl : lv_has ls 2 [(0, .ref (ad 0)), (1, .int x)] := hl
  have hC : Cl G M M ad F nx ct fl T len tr := ⟨hC0, OffC.rf M ad 359⟩
  have hI := (hC.1.sts 0 (by decide)).st
  refine lv_aload_n hx hb dX6_ageBit_0 rfl (lv_at hl 0 rfl) ?_
  refine r_get cX inX6 hw hC.1.1 rfl 0 (by decide) wF_X6_10 rfl dX6_ageBit_1 ?_
  refine lv_iload_n hx hb dX6_ageBit_4 rfl (lv_at hl 1 rfl) ?_
  refine r_Vi cX hw hI.1.1 rfl [.int x] (c_X4_hasEntry l G hI.1 x) wM_X6_112 mw_X4_hasEntry ⟨Nat.le_of_ble_eq_true rfl, Nat.le_of_ble_eq_true rfl⟩ rfl rfl hl.1 (Nat.le_of_ble_eq_true rfl) dX6_ageBit_5 ⟨Nat.le_of_ble_eq_true rfl, Nat.le_of_ble_eq_true rfl⟩ (fun r M1 H locs hp hw => ?_)
  obtain ⟨rfl, hq⟩ := hp
  rw [hq] at hw
  refine lv_if_ne (tgt := 13) hx hb dX6_ageBit_8 (by decide) (fun c8 => ?_) (fun c8 => ?_)
  · refine lv_aload_n hx hb dX6_ageBit_13 rfl (lv_at hl 0 rfl) ?_
    refine r_get cX inX6 hw hC.1.1 rfl 0 (by decide) wF_X6_10 rfl dX6_ageBit_14 ?_
    refine r_get cX inX4 hw hI.1.1 rfl 10 (by decide) wF_X6_115 rfl dX6_ageBit_17 ?_
    refine lv_iload_n hx hb dX6_ageBit_20 rfl (lv_at hl 1 rfl) ?_
    obtain ⟨g_22, hg_22, hg_22_⟩ := hI.1.2.2.1
    obtain ⟨k, hk, hkP, hxk, hxc⟩ := entry_ix hv (if01n c8)
    refine r_aald cX hw 2 rfl hg_22 k hxk hk (by decide) (hg_22_ k hk) dX6_ageBit_21 ?_
    refine r_get cX inX0 hw (hI.1.2.2.2.2.2.1 k hk) rfl 0 (by decide) wF_X6_128 rfl dX6_ageBit_22 ?_
    refine lv_if_eq (tgt := 43) hx hb dX6_ageBit_25 (by decide) (fun c25 => ?_) (fun c25 => ?_)
    · refine lv_bipush (v := (-9)) hx hb dX6_ageBit_43 (by decide) ?_
      exact r_iret cX hr hlocks hw ⟨by unfold q_ageBit; rw [if_pos (if01n c8), hxc]; rw [if_neg (by rw [c25]; decide)], rfl⟩ dX6_ageBit_45
    · refine lv_aload_n hx hb dX6_ageBit_28 rfl (lv_at hl 0 rfl) ?_
      refine r_get cX inX6 hw hC.1.1 rfl 0 (by decide) wF_X6_10 rfl dX6_ageBit_29 ?_
      refine r_get cX inX4 hw hI.1.1 rfl 10 (by decide) wF_X6_115 rfl dX6_ageBit_32 ?_
      refine lv_iload_n hx hb dX6_ageBit_35 rfl (lv_at hl 1 rfl) ?_
      obtain ⟨g_23, hg_23, hg_23_⟩ := hI.1.2.2.1
      refine r_aald cX hw 2 rfl hg_23 k hxk hk (by decide) (hg_23_ k hk) dX6_ageBit_36 ?_
      refine r_get cX inX0 hw (hI.1.2.2.2.2.2.1 k hk) rfl 3 (by decide) wF_X6_132 rfl dX6_ageBit_37 ?_
      refine lv_goto (tgt := 45) hx hb dX6_ageBit_40 (by decide) ?_
      exact r_iret cX hr hlocks hw ⟨by unfold q_ageBit; rw [if_pos (if01n c8), hxc]; rw [if_pos ((hI.1.2.2.2.2.2.2.2.2 k hk).resolve_left c25)], rfl⟩ dX6_ageBit_45
  · refine lv_iconst (v := (-1)) hx hb dX6_ageBit_11 (by decide) ?_
    exact r_iret cX hr hlocks hw ⟨by unfold q_ageBit; rw [if_neg (fun h => if01e c8 h)], rfl⟩ dX6_ageBit_12

set_option maxHeartbeats 4000000 in
set_option maxRecDepth 100000 in
theorem c_X6_idleTime (l : Launch) (G : gG) {M : HM} {ad : Nat → Nat} {F : Nat → Nat → Int32} {nx ct : Nat} {fl T : Nat → Int32} {len : Nat} {tr : Nat → Int32} (hC0 : IsCl G M ad F nx ct fl T len tr) (x : Int32) {B : Nat} (hv : Inv B (F 0)) : Ci l yX6_idleTime cX6_idleTime 2 .int (rd 2 0 0) G [.ref (ad 0), .int x] M (fun r M' => r = q_idle x (F 0) ∧ M' = M) := by
  refine Ci.of (by decide) (Nat.le_of_ble_eq_true rfl) ?_
  intro p e s m args below meth c ls cX hw hlocks hr hl
  have hx := cX.1
  have hb := cX.2.1
  have hl : lv_has ls 2 [(0, .ref (ad 0)), (1, .int x)] := hl
  have hC : Cl G M M ad F nx ct fl T len tr := ⟨hC0, OffC.rf M ad 359⟩
  have hI := (hC.1.sts 0 (by decide)).st
  refine lv_aload_n hx hb dX6_idleTime_0 rfl (lv_at hl 0 rfl) ?_
  refine r_get cX inX6 hw hC.1.1 rfl 0 (by decide) wF_X6_10 rfl dX6_idleTime_1 ?_
  refine lv_iload_n hx hb dX6_idleTime_4 rfl (lv_at hl 1 rfl) ?_
  refine r_Vi cX hw hI.1.1 rfl [.int x] (c_X4_hasEntry l G hI.1 x) wM_X6_112 mw_X4_hasEntry ⟨Nat.le_of_ble_eq_true rfl, Nat.le_of_ble_eq_true rfl⟩ rfl rfl hl.1 (Nat.le_of_ble_eq_true rfl) dX6_idleTime_5 ⟨Nat.le_of_ble_eq_true rfl, Nat.le_of_ble_eq_true rfl⟩ (fun r M1 H locs hp hw => ?_)
  obtain ⟨rfl, hq⟩ := hp
  rw [hq] at hw
  refine lv_if_ne (tgt := 13) hx hb dX6_idleTime_8 (by decide) (fun c8 => ?_) (fun c8 => ?_)
  · refine lv_aload_n hx hb dX6_idleTime_13 rfl (lv_at hl 0 rfl) ?_
    refine r_get cX inX6 hw hC.1.1 rfl 0 (by decide) wF_X6_10 rfl dX6_idleTime_14 ?_
    refine r_get cX inX4 hw hI.1.1 rfl 10 (by decide) wF_X6_115 rfl dX6_idleTime_17 ?_
    refine lv_iload_n hx hb dX6_idleTime_20 rfl (lv_at hl 1 rfl) ?_
    obtain ⟨g_24, hg_24, hg_24_⟩ := hI.1.2.2.1
    obtain ⟨k, hk, hkP, hxk, hxc⟩ := entry_ix hv (if01n c8)
    refine r_aald cX hw 2 rfl hg_24 k hxk hk (by decide) (hg_24_ k hk) dX6_idleTime_21 ?_
    refine r_Vi cX hw (hI.1.2.2.2.2.2.1 k hk) rfl [] (c_X0_isUnused l G (hI.1.2.2.2.2.2.1 k hk)) wM_X6_135 mw_X0_isUnused ⟨Nat.le_of_ble_eq_true rfl, Nat.le_of_ble_eq_true rfl⟩ rfl rfl hl.1 (Nat.le_of_ble_eq_true rfl) dX6_idleTime_22 ⟨Nat.le_of_ble_eq_true rfl, Nat.le_of_ble_eq_true rfl⟩ (fun r M1 H locs hp hw => ?_)
    obtain ⟨rfl, hq⟩ := hp
    rw [hq] at hw
    refine lv_if_eq (tgt := 33) hx hb dX6_idleTime_25 (by decide) (fun c25 => ?_) (fun c25 => ?_)
    · refine lv_aload_n hx hb dX6_idleTime_33 rfl (lv_at hl 0 rfl) ?_
      refine r_get cX inX6 hw hC.1.1 rfl 0 (by decide) wF_X6_10 rfl dX6_idleTime_34 ?_
      refine r_get cX inX4 hw hI.1.1 rfl 2 (by decide) wF_X6_96 rfl dX6_idleTime_37 ?_
      refine lv_aload_n hx hb dX6_idleTime_40 rfl (lv_at hl 0 rfl) ?_
      refine r_get cX inX6 hw hC.1.1 rfl 0 (by decide) wF_X6_10 rfl dX6_idleTime_41 ?_
      refine r_get cX inX4 hw hI.1.1 rfl 10 (by decide) wF_X6_115 rfl dX6_idleTime_44 ?_
      refine lv_iload_n hx hb dX6_idleTime_47 rfl (lv_at hl 1 rfl) ?_
      obtain ⟨g_25, hg_25, hg_25_⟩ := hI.1.2.2.1
      refine r_aald cX hw 2 rfl hg_25 k hxk hk (by decide) (hg_25_ k hk) dX6_idleTime_48 ?_
      refine r_get cX inX0 hw (hI.1.2.2.2.2.2.1 k hk) rfl 2 (by decide) wF_X6_139 rfl dX6_idleTime_49 ?_
      refine lv_isub hx hb dX6_idleTime_52 ?_
      exact r_iret cX hr hlocks hw ⟨by unfold q_idle; rw [if_pos (if01n c8), hxc]; rw [if_neg (if01e c25)], rfl⟩ dX6_idleTime_53
    · refine lv_bipush (v := (-9)) hx hb dX6_idleTime_28 (by decide) ?_
      refine lv_goto (tgt := 53) hx hb dX6_idleTime_30 (by decide) ?_
      exact r_iret cX hr hlocks hw ⟨by unfold q_idle; rw [if_pos (if01n c8), hxc]; rw [if_pos (if01n c25)], rfl⟩ dX6_idleTime_53
  · refine lv_iconst (v := (-1)) hx hb dX6_idleTime_11 (by decide) ?_
    exact r_iret cX hr hlocks hw ⟨by unfold q_idle; rw [if_neg (fun h => if01e c8 h)], rfl⟩ dX6_idleTime_12

set_option maxHeartbeats 4000000 in
set_option maxRecDepth 100000 in
theorem c_X6_activeEntries (l : Launch) (G : gG) {M : HM} {ad : Nat → Nat} {F : Nat → Nat → Int32} {nx ct : Nat} {fl T : Nat → Int32} {len : Nat} {tr : Nat → Int32} (hC0 : IsCl G M ad F nx ct fl T len tr) {B : Nat} (hv : Inv B (F 0)) : Ci l yX6_activeEntries cX6_activeEntries 1 .int (rd 2 0 0) G [.ref (ad 0)] M (fun r M' => r = (fun f => acN f (nE f)) (F 0) ∧ M' = M) := by
  refine Ci.of (by decide) (Nat.le_of_ble_eq_true rfl) ?_
  intro p e s m args below meth c ls cX hw hlocks hr hl
  have hx := cX.1
  have hb := cX.2.1
  have hl : lv_has ls 1 [(0, .ref (ad 0))] := hl
  have hC : Cl G M M ad F nx ct fl T len tr := ⟨hC0, OffC.rf M ad 359⟩
  have hI := (hC.1.sts 0 (by decide)).st
  refine lv_aload_n hx hb dX6_activeEntries_0 rfl (lv_at hl 0 rfl) ?_
  refine r_get cX inX6 hw hC.1.1 rfl 0 (by decide) wF_X6_10 rfl dX6_activeEntries_1 ?_
  refine r_Vi cX hw hI.1.1 rfl [] (c_X4_countEntriesInUse l G hI.1 hv) wM_X6_142 mw_X4_countEntriesInUse ⟨Nat.le_of_ble_eq_true rfl, Nat.le_of_ble_eq_true rfl⟩ rfl rfl hl.1 (Nat.le_of_ble_eq_true rfl) dX6_activeEntries_4 ⟨Nat.le_of_ble_eq_true rfl, Nat.le_of_ble_eq_true rfl⟩ (fun r M1 H locs hp hw => ?_)
  obtain ⟨rfl, hq⟩ := hp
  rw [hq] at hw
  exact r_iret cX hr hlocks hw ⟨rfl, rfl⟩ dX6_activeEntries_7

set_option maxHeartbeats 4000000 in
set_option maxRecDepth 100000 in
theorem c_X6_load (l : Launch) (G : gG) {M : HM} {ad : Nat → Nat} {F : Nat → Nat → Int32} {nx ct : Nat} {fl T : Nat → Int32} {len : Nat} {tr : Nat → Int32} (hC0 : IsCl G M ad F nx ct fl T len tr) (x : Int32) {B : Nat} (hv : Inv B (F 0)) : Ci l yX6_load cX6_load 2 .int (rd 2 0 0) G [.ref (ad 0), .int x] M (fun r M' => r = q_pth 21 x (F 0) ∧ M' = M) := by
  refine Ci.of (by decide) (Nat.le_of_ble_eq_true rfl) ?_
  intro p e s m args below meth c ls cX hw hlocks hr hl
  have hx := cX.1
  have hb := cX.2.1
  have hl : lv_has ls 2 [(0, .ref (ad 0)), (1, .int x)] := hl
  have hC : Cl G M M ad F nx ct fl T len tr := ⟨hC0, OffC.rf M ad 359⟩
  have hI := (hC.1.sts 0 (by decide)).st
  refine lv_aload_n hx hb dX6_load_0 rfl (lv_at hl 0 rfl) ?_
  refine r_get cX inX6 hw hC.1.1 rfl 0 (by decide) wF_X6_10 rfl dX6_load_1 ?_
  refine lv_iload_n hx hb dX6_load_4 rfl (lv_at hl 1 rfl) ?_
  refine r_Vi cX hw hI.1.1 rfl [.int x] (c_X4_hasPath l G hI.1 x) wM_X6_54 mw_X4_hasPath ⟨Nat.le_of_ble_eq_true rfl, Nat.le_of_ble_eq_true rfl⟩ rfl rfl hl.1 (Nat.le_of_ble_eq_true rfl) dX6_load_5 ⟨Nat.le_of_ble_eq_true rfl, Nat.le_of_ble_eq_true rfl⟩ (fun r M1 H locs hp hw => ?_)
  obtain ⟨rfl, hq⟩ := hp
  rw [hq] at hw
  refine lv_if_eq (tgt := 26) hx hb dX6_load_8 (by decide) (fun c8 => ?_) (fun c8 => ?_)
  · refine lv_iconst (v := (-1)) hx hb dX6_load_26 (by decide) ?_
    exact r_iret cX hr hlocks hw ⟨by unfold q_pth; rw [if_neg (fun h => if01e c8 h)], rfl⟩ dX6_load_27
  · refine lv_aload_n hx hb dX6_load_11 rfl (lv_at hl 0 rfl) ?_
    refine r_get cX inX6 hw hC.1.1 rfl 0 (by decide) wF_X6_10 rfl dX6_load_12 ?_
    refine r_get cX inX4 hw hI.1.1 rfl 9 (by decide) wF_X6_58 rfl dX6_load_15 ?_
    refine lv_iload_n hx hb dX6_load_18 rfl (lv_at hl 1 rfl) ?_
    obtain ⟨g_26, hg_26, hg_26_⟩ := hI.1.2.1
    obtain ⟨k, hk, hkP, hxk, hxc⟩ := path_ix hv (if01n c8)
    refine r_aald cX hw 4 rfl hg_26 k hxk hk (by decide) (hg_26_ k hk) dX6_load_19 ?_
    refine r_get cX inX2 hw (hI.1.2.2.2.2.1 k hk) rfl 3 (by decide) wF_X6_146 rfl dX6_load_20 ?_
    refine lv_goto (tgt := 27) hx hb dX6_load_23 (by decide) ?_
    exact r_iret cX hr hlocks hw ⟨by unfold q_pth; rw [if_pos (if01n c8), hxc], rfl⟩ dX6_load_27

set_option maxHeartbeats 4000000 in
set_option maxRecDepth 100000 in
theorem c_X6_packets (l : Launch) (G : gG) {M : HM} {ad : Nat → Nat} {F : Nat → Nat → Int32} {nx ct : Nat} {fl T : Nat → Int32} {len : Nat} {tr : Nat → Int32} (hC0 : IsCl G M ad F nx ct fl T len tr) (x : Int32) {B : Nat} (hv : Inv B (F 0)) : Ci l yX6_packets cX6_packets 2 .int (rd 2 0 0) G [.ref (ad 0), .int x] M (fun r M' => r = q_pth 29 x (F 0) ∧ M' = M) := by
  refine Ci.of (by decide) (Nat.le_of_ble_eq_true rfl) ?_
  intro p e s m args below meth c ls cX hw hlocks hr hl
  have hx := cX.1
  have hb := cX.2.1
  have hl : lv_has ls 2 [(0, .ref (ad 0)), (1, .int x)] := hl
  have hC : Cl G M M ad F nx ct fl T len tr := ⟨hC0, OffC.rf M ad 359⟩
  have hI := (hC.1.sts 0 (by decide)).st
  refine lv_aload_n hx hb dX6_packets_0 rfl (lv_at hl 0 rfl) ?_
  refine r_get cX inX6 hw hC.1.1 rfl 0 (by decide) wF_X6_10 rfl dX6_packets_1 ?_
  refine lv_iload_n hx hb dX6_packets_4 rfl (lv_at hl 1 rfl) ?_
  refine r_Vi cX hw hI.1.1 rfl [.int x] (c_X4_hasPath l G hI.1 x) wM_X6_54 mw_X4_hasPath ⟨Nat.le_of_ble_eq_true rfl, Nat.le_of_ble_eq_true rfl⟩ rfl rfl hl.1 (Nat.le_of_ble_eq_true rfl) dX6_packets_5 ⟨Nat.le_of_ble_eq_true rfl, Nat.le_of_ble_eq_true rfl⟩ (fun r M1 H locs hp hw => ?_)
  obtain ⟨rfl, hq⟩ := hp
  rw [hq] at hw
  refine lv_if_eq (tgt := 26) hx hb dX6_packets_8 (by decide) (fun c8 => ?_) (fun c8 => ?_)
  · refine lv_iconst (v := (-1)) hx hb dX6_packets_26 (by decide) ?_
    exact r_iret cX hr hlocks hw ⟨by unfold q_pth; rw [if_neg (fun h => if01e c8 h)], rfl⟩ dX6_packets_27
  · refine lv_aload_n hx hb dX6_packets_11 rfl (lv_at hl 0 rfl) ?_
    refine r_get cX inX6 hw hC.1.1 rfl 0 (by decide) wF_X6_10 rfl dX6_packets_12 ?_
    refine r_get cX inX4 hw hI.1.1 rfl 9 (by decide) wF_X6_58 rfl dX6_packets_15 ?_
    refine lv_iload_n hx hb dX6_packets_18 rfl (lv_at hl 1 rfl) ?_
    obtain ⟨g_27, hg_27, hg_27_⟩ := hI.1.2.1
    obtain ⟨k, hk, hkP, hxk, hxc⟩ := path_ix hv (if01n c8)
    refine r_aald cX hw 4 rfl hg_27 k hxk hk (by decide) (hg_27_ k hk) dX6_packets_19 ?_
    refine r_get cX inX2 hw (hI.1.2.2.2.2.1 k hk) rfl 5 (by decide) wF_X6_161 rfl dX6_packets_20 ?_
    refine lv_goto (tgt := 27) hx hb dX6_packets_23 (by decide) ?_
    exact r_iret cX hr hlocks hw ⟨by unfold q_pth; rw [if_pos (if01n c8), hxc], rfl⟩ dX6_packets_27

set_option maxHeartbeats 4000000 in
set_option maxRecDepth 100000 in
theorem c_X6_bytes (l : Launch) (G : gG) {M : HM} {ad : Nat → Nat} {F : Nat → Nat → Int32} {nx ct : Nat} {fl T : Nat → Int32} {len : Nat} {tr : Nat → Int32} (hC0 : IsCl G M ad F nx ct fl T len tr) (x : Int32) {B : Nat} (hv : Inv B (F 0)) : Ci l yX6_bytes cX6_bytes 2 .int (rd 2 0 0) G [.ref (ad 0), .int x] M (fun r M' => r = q_pth 33 x (F 0) ∧ M' = M) := by
  refine Ci.of (by decide) (Nat.le_of_ble_eq_true rfl) ?_
  intro p e s m args below meth c ls cX hw hlocks hr hl
  have hx := cX.1
  have hb := cX.2.1
  have hl : lv_has ls 2 [(0, .ref (ad 0)), (1, .int x)] := hl
  have hC : Cl G M M ad F nx ct fl T len tr := ⟨hC0, OffC.rf M ad 359⟩
  have hI := (hC.1.sts 0 (by decide)).st
  refine lv_aload_n hx hb dX6_bytes_0 rfl (lv_at hl 0 rfl) ?_
  refine r_get cX inX6 hw hC.1.1 rfl 0 (by decide) wF_X6_10 rfl dX6_bytes_1 ?_
  refine lv_iload_n hx hb dX6_bytes_4 rfl (lv_at hl 1 rfl) ?_
  refine r_Vi cX hw hI.1.1 rfl [.int x] (c_X4_hasPath l G hI.1 x) wM_X6_54 mw_X4_hasPath ⟨Nat.le_of_ble_eq_true rfl, Nat.le_of_ble_eq_true rfl⟩ rfl rfl hl.1 (Nat.le_of_ble_eq_true rfl) dX6_bytes_5 ⟨Nat.le_of_ble_eq_true rfl, Nat.le_of_ble_eq_true rfl⟩ (fun r M1 H locs hp hw => ?_)
  obtain ⟨rfl, hq⟩ := hp
  rw [hq] at hw
  refine lv_if_eq (tgt := 26) hx hb dX6_bytes_8 (by decide) (fun c8 => ?_) (fun c8 => ?_)
  · refine lv_iconst (v := (-1)) hx hb dX6_bytes_26 (by decide) ?_
    exact r_iret cX hr hlocks hw ⟨by unfold q_pth; rw [if_neg (fun h => if01e c8 h)], rfl⟩ dX6_bytes_27
  · refine lv_aload_n hx hb dX6_bytes_11 rfl (lv_at hl 0 rfl) ?_
    refine r_get cX inX6 hw hC.1.1 rfl 0 (by decide) wF_X6_10 rfl dX6_bytes_12 ?_
    refine r_get cX inX4 hw hI.1.1 rfl 9 (by decide) wF_X6_58 rfl dX6_bytes_15 ?_
    refine lv_iload_n hx hb dX6_bytes_18 rfl (lv_at hl 1 rfl) ?_
    obtain ⟨g_28, hg_28, hg_28_⟩ := hI.1.2.1
    obtain ⟨k, hk, hkP, hxk, hxc⟩ := path_ix hv (if01n c8)
    refine r_aald cX hw 4 rfl hg_28 k hxk hk (by decide) (hg_28_ k hk) dX6_bytes_19 ?_
    refine r_get cX inX2 hw (hI.1.2.2.2.2.1 k hk) rfl 6 (by decide) wF_X6_164 rfl dX6_bytes_20 ?_
    refine lv_goto (tgt := 27) hx hb dX6_bytes_23 (by decide) ?_
    exact r_iret cX hr hlocks hw ⟨by unfold q_pth; rw [if_pos (if01n c8), hxc], rfl⟩ dX6_bytes_27

set_option maxHeartbeats 4000000 in
set_option maxRecDepth 100000 in
theorem c_X6_drops (l : Launch) (G : gG) {M : HM} {ad : Nat → Nat} {F : Nat → Nat → Int32} {nx ct : Nat} {fl T : Nat → Int32} {len : Nat} {tr : Nat → Int32} (hC0 : IsCl G M ad F nx ct fl T len tr) (x : Int32) {B : Nat} (hv : Inv B (F 0)) : Ci l yX6_drops cX6_drops 2 .int (rd 2 0 0) G [.ref (ad 0), .int x] M (fun r M' => r = q_pth 37 x (F 0) ∧ M' = M) := by
  refine Ci.of (by decide) (Nat.le_of_ble_eq_true rfl) ?_
  intro p e s m args below meth c ls cX hw hlocks hr hl
  have hx := cX.1
  have hb := cX.2.1
  have hl : lv_has ls 2 [(0, .ref (ad 0)), (1, .int x)] := hl
  have hC : Cl G M M ad F nx ct fl T len tr := ⟨hC0, OffC.rf M ad 359⟩
  have hI := (hC.1.sts 0 (by decide)).st
  refine lv_aload_n hx hb dX6_drops_0 rfl (lv_at hl 0 rfl) ?_
  refine r_get cX inX6 hw hC.1.1 rfl 0 (by decide) wF_X6_10 rfl dX6_drops_1 ?_
  refine lv_iload_n hx hb dX6_drops_4 rfl (lv_at hl 1 rfl) ?_
  refine r_Vi cX hw hI.1.1 rfl [.int x] (c_X4_hasPath l G hI.1 x) wM_X6_54 mw_X4_hasPath ⟨Nat.le_of_ble_eq_true rfl, Nat.le_of_ble_eq_true rfl⟩ rfl rfl hl.1 (Nat.le_of_ble_eq_true rfl) dX6_drops_5 ⟨Nat.le_of_ble_eq_true rfl, Nat.le_of_ble_eq_true rfl⟩ (fun r M1 H locs hp hw => ?_)
  obtain ⟨rfl, hq⟩ := hp
  rw [hq] at hw
  refine lv_if_eq (tgt := 26) hx hb dX6_drops_8 (by decide) (fun c8 => ?_) (fun c8 => ?_)
  · refine lv_iconst (v := (-1)) hx hb dX6_drops_26 (by decide) ?_
    exact r_iret cX hr hlocks hw ⟨by unfold q_pth; rw [if_neg (fun h => if01e c8 h)], rfl⟩ dX6_drops_27
  · refine lv_aload_n hx hb dX6_drops_11 rfl (lv_at hl 0 rfl) ?_
    refine r_get cX inX6 hw hC.1.1 rfl 0 (by decide) wF_X6_10 rfl dX6_drops_12 ?_
    refine r_get cX inX4 hw hI.1.1 rfl 9 (by decide) wF_X6_58 rfl dX6_drops_15 ?_
    refine lv_iload_n hx hb dX6_drops_18 rfl (lv_at hl 1 rfl) ?_
    obtain ⟨g_29, hg_29, hg_29_⟩ := hI.1.2.1
    obtain ⟨k, hk, hkP, hxk, hxc⟩ := path_ix hv (if01n c8)
    refine r_aald cX hw 4 rfl hg_29 k hxk hk (by decide) (hg_29_ k hk) dX6_drops_19 ?_
    refine r_get cX inX2 hw (hI.1.2.2.2.2.1 k hk) rfl 7 (by decide) wF_X6_167 rfl dX6_drops_20 ?_
    refine lv_goto (tgt := 27) hx hb dX6_drops_23 (by decide) ?_
    exact r_iret cX hr hlocks hw ⟨by unfold q_pth; rw [if_pos (if01n c8), hxc], rfl⟩ dX6_drops_27

set_option maxHeartbeats 4000000 in
set_option maxRecDepth 100000 in
theorem c_X6_metric (l : Launch) (G : gG) {M : HM} {ad : Nat → Nat} {F : Nat → Nat → Int32} {nx ct : Nat} {fl T : Nat → Int32} {len : Nat} {tr : Nat → Int32} (hC0 : IsCl G M ad F nx ct fl T len tr) (x : Int32) {B : Nat} (hv : Inv B (F 0)) : Ci l yX6_metric cX6_metric 2 .int (rd 2 0 0) G [.ref (ad 0), .int x] M (fun r M' => r = q_metric x (F 0) ∧ M' = M) := by
  refine Ci.of (by decide) (Nat.le_of_ble_eq_true rfl) ?_
  intro p e s m args below meth c ls cX hw hlocks hr hl
  have hx := cX.1
  have hb := cX.2.1
  have hl : lv_has ls 2 [(0, .ref (ad 0)), (1, .int x)] := hl
  have hC : Cl G M M ad F nx ct fl T len tr := ⟨hC0, OffC.rf M ad 359⟩
  have hI := (hC.1.sts 0 (by decide)).st
  refine lv_aload_n hx hb dX6_metric_0 rfl (lv_at hl 0 rfl) ?_
  refine r_get cX inX6 hw hC.1.1 rfl 0 (by decide) wF_X6_10 rfl dX6_metric_1 ?_
  refine lv_iload_n hx hb dX6_metric_4 rfl (lv_at hl 1 rfl) ?_
  refine r_Vi cX hw hI.1.1 rfl [.int x] (c_X4_hasPath l G hI.1 x) wM_X6_54 mw_X4_hasPath ⟨Nat.le_of_ble_eq_true rfl, Nat.le_of_ble_eq_true rfl⟩ rfl rfl hl.1 (Nat.le_of_ble_eq_true rfl) dX6_metric_5 ⟨Nat.le_of_ble_eq_true rfl, Nat.le_of_ble_eq_true rfl⟩ (fun r M1 H locs hp hw => ?_)
  obtain ⟨rfl, hq⟩ := hp
  rw [hq] at hw
  refine lv_if_eq (tgt := 26) hx hb dX6_metric_8 (by decide) (fun c8 => ?_) (fun c8 => ?_)
  · refine lv_iconst (v := (-1)) hx hb dX6_metric_26 (by decide) ?_
    exact r_iret cX hr hlocks hw ⟨by unfold q_metric; rw [if_neg (fun h => if01e c8 h)], rfl⟩ dX6_metric_27
  · refine lv_aload_n hx hb dX6_metric_11 rfl (lv_at hl 0 rfl) ?_
    refine r_get cX inX6 hw hC.1.1 rfl 0 (by decide) wF_X6_10 rfl dX6_metric_12 ?_
    refine r_get cX inX4 hw hI.1.1 rfl 9 (by decide) wF_X6_58 rfl dX6_metric_15 ?_
    refine lv_iload_n hx hb dX6_metric_18 rfl (lv_at hl 1 rfl) ?_
    obtain ⟨g_30, hg_30, hg_30_⟩ := hI.1.2.1
    obtain ⟨k, hk, hkP, hxk, hxc⟩ := path_ix hv (if01n c8)
    refine r_aald cX hw 4 rfl hg_30 k hxk hk (by decide) (hg_30_ k hk) dX6_metric_19 ?_
    refine r_Vi cX hw (hI.1.2.2.2.2.1 k hk) rfl [] (c_X2_congestion l G (hI.1.2.2.2.2.1 k hk)) wM_X6_149 mw_X2_congestion ⟨Nat.le_of_ble_eq_true rfl, Nat.le_of_ble_eq_true rfl⟩ rfl rfl hl.1 (Nat.le_of_ble_eq_true rfl) dX6_metric_20 ⟨Nat.le_of_ble_eq_true rfl, Nat.le_of_ble_eq_true rfl⟩ (fun r M1 H locs hp hw => ?_)
    obtain ⟨rfl, hq⟩ := hp
    rw [hq] at hw
    refine lv_goto (tgt := 27) hx hb dX6_metric_23 (by decide) ?_
    exact r_iret cX hr hlocks hw ⟨by unfold q_metric; rw [if_pos (if01n c8), hxc]; rfl, rfl⟩ dX6_metric_27

set_option maxHeartbeats 4000000 in
set_option maxRecDepth 100000 in
theorem c_X6_busyTime (l : Launch) (G : gG) {M : HM} {ad : Nat → Nat} {F : Nat → Nat → Int32} {nx ct : Nat} {fl T : Nat → Int32} {len : Nat} {tr : Nat → Int32} (hC0 : IsCl G M ad F nx ct fl T len tr) (x : Int32) {B : Nat} (hv : Inv B (F 0)) : Ci l yX6_busyTime cX6_busyTime 2 .int (rd 2 0 0) G [.ref (ad 0), .int x] M (fun r M' => r = q_busy x (F 0) ∧ M' = M) := by
  refine Ci.of (by decide) (Nat.le_of_ble_eq_true rfl) ?_
  intro p e s m args below meth c ls cX hw hlocks hr hl
  have hx := cX.1
  have hb := cX.2.1
  have hl : lv_has ls 2 [(0, .ref (ad 0)), (1, .int x)] := hl
  have hC : Cl G M M ad F nx ct fl T len tr := ⟨hC0, OffC.rf M ad 359⟩
  have hI := (hC.1.sts 0 (by decide)).st
  refine lv_aload_n hx hb dX6_busyTime_0 rfl (lv_at hl 0 rfl) ?_
  refine r_get cX inX6 hw hC.1.1 rfl 0 (by decide) wF_X6_10 rfl dX6_busyTime_1 ?_
  refine lv_iload_n hx hb dX6_busyTime_4 rfl (lv_at hl 1 rfl) ?_
  refine r_Vi cX hw hI.1.1 rfl [.int x] (c_X4_hasPath l G hI.1 x) wM_X6_54 mw_X4_hasPath ⟨Nat.le_of_ble_eq_true rfl, Nat.le_of_ble_eq_true rfl⟩ rfl rfl hl.1 (Nat.le_of_ble_eq_true rfl) dX6_busyTime_5 ⟨Nat.le_of_ble_eq_true rfl, Nat.le_of_ble_eq_true rfl⟩ (fun r M1 H locs hp hw => ?_)
  obtain ⟨rfl, hq⟩ := hp
  rw [hq] at hw
  refine lv_if_eq (tgt := 33) hx hb dX6_busyTime_8 (by decide) (fun c8 => ?_) (fun c8 => ?_)
  · refine lv_iconst (v := (-1)) hx hb dX6_busyTime_33 (by decide) ?_
    exact r_iret cX hr hlocks hw ⟨by unfold q_busy; rw [if_neg (fun h => if01e c8 h)], rfl⟩ dX6_busyTime_34
  · refine lv_aload_n hx hb dX6_busyTime_11 rfl (lv_at hl 0 rfl) ?_
    refine r_get cX inX6 hw hC.1.1 rfl 0 (by decide) wF_X6_10 rfl dX6_busyTime_12 ?_
    refine r_get cX inX4 hw hI.1.1 rfl 9 (by decide) wF_X6_58 rfl dX6_busyTime_15 ?_
    refine lv_iload_n hx hb dX6_busyTime_18 rfl (lv_at hl 1 rfl) ?_
    obtain ⟨g_31, hg_31, hg_31_⟩ := hI.1.2.1
    obtain ⟨k, hk, hkP, hxk, hxc⟩ := path_ix hv (if01n c8)
    refine r_aald cX hw 4 rfl hg_31 k hxk hk (by decide) (hg_31_ k hk) dX6_busyTime_19 ?_
    refine lv_aload_n hx hb dX6_busyTime_20 rfl (lv_at hl 0 rfl) ?_
    refine r_get cX inX6 hw hC.1.1 rfl 0 (by decide) wF_X6_10 rfl dX6_busyTime_21 ?_
    refine r_get cX inX4 hw hI.1.1 rfl 2 (by decide) wF_X6_96 rfl dX6_busyTime_24 ?_
    refine r_Vi cX hw (hI.1.2.2.2.2.1 k hk) rfl [.int ((F 0) 0)] (c_X2_waitAt l G (hI.1.2.2.2.2.1 k hk) (F 0 0)) wM_X6_152 mw_X2_waitAt ⟨Nat.le_of_ble_eq_true rfl, Nat.le_of_ble_eq_true rfl⟩ rfl rfl hl.1 (Nat.le_of_ble_eq_true rfl) dX6_busyTime_27 ⟨Nat.le_of_ble_eq_true rfl, Nat.le_of_ble_eq_true rfl⟩ (fun r M1 H locs hp hw => ?_)
    obtain ⟨rfl, hq⟩ := hp
    rw [hq] at hw
    refine lv_goto (tgt := 34) hx hb dX6_busyTime_30 (by decide) ?_
    exact r_iret cX hr hlocks hw ⟨by unfold q_busy; rw [if_pos (if01n c8), hxc], rfl⟩ dX6_busyTime_34

set_option maxHeartbeats 4000000 in
set_option maxRecDepth 100000 in
theorem c_X6_latency (l : Launch) (G : gG) {M : HM} {ad : Nat → Nat} {F : Nat → Nat → Int32} {nx ct : Nat} {fl T : Nat → Int32} {len : Nat} {tr : Nat → Int32} (hC0 : IsCl G M ad F nx ct fl T len tr) (x y : Int32) {B : Nat} (hv : Inv B (F 0)) : Ci l yX6_latency cX6_latency 3 .int (rd 3 0 0) G [.ref (ad 0), .int x, .int y] M (fun r M' => r = q_latency x y (F 0) ∧ M' = M) := by
  refine Ci.of (by decide) (Nat.le_of_ble_eq_true rfl) ?_
  intro p e s m args below meth c ls cX hw hlocks hr hl
  have hx := cX.1
  have hb := cX.2.1
  have hl : lv_has ls 3 [(0, .ref (ad 0)), (1, .int x), (2, .int y)] := hl
  have hC : Cl G M M ad F nx ct fl T len tr := ⟨hC0, OffC.rf M ad 359⟩
  have hI := (hC.1.sts 0 (by decide)).st
  refine lv_aload_n hx hb dX6_latency_0 rfl (lv_at hl 0 rfl) ?_
  refine r_get cX inX6 hw hC.1.1 rfl 0 (by decide) wF_X6_10 rfl dX6_latency_1 ?_
  refine lv_iload_n hx hb dX6_latency_4 rfl (lv_at hl 1 rfl) ?_
  refine r_Vi cX hw hI.1.1 rfl [.int x] (c_X4_hasPath l G hI.1 x) wM_X6_54 mw_X4_hasPath ⟨Nat.le_of_ble_eq_true rfl, Nat.le_of_ble_eq_true rfl⟩ rfl rfl hl.1 (Nat.le_of_ble_eq_true rfl) dX6_latency_5 ⟨Nat.le_of_ble_eq_true rfl, Nat.le_of_ble_eq_true rfl⟩ (fun r M1 H locs hp hw => ?_)
  obtain ⟨rfl, hq⟩ := hp
  rw [hq] at hw
  refine lv_if_eq (tgt := 18) hx hb dX6_latency_8 (by decide) (fun c8 => ?_) (fun c8 => ?_)
  · refine lv_iconst (v := (-1)) hx hb dX6_latency_18 (by decide) ?_
    exact r_iret cX hr hlocks hw ⟨by unfold q_latency; rw [if_neg (fun h => if01e c8 h.1)], rfl⟩ dX6_latency_19
  · refine lv_iload_n hx hb dX6_latency_11 rfl (lv_at hl 2 rfl) ?_
    refine r_Si cX hw [.int y] (c_X6_isSize l G y) wM_X6_102 mw_X6_isSize ⟨Nat.le_of_ble_eq_true rfl, Nat.le_of_ble_eq_true rfl⟩ rfl rfl hl.1 (Nat.le_of_ble_eq_true rfl) dX6_latency_12 ⟨Nat.le_of_ble_eq_true rfl, Nat.le_of_ble_eq_true rfl⟩ (fun r M1 H locs hp hw => ?_)
    obtain ⟨rfl, hq⟩ := hp
    rw [hq] at hw
    refine lv_if_ne (tgt := 20) hx hb dX6_latency_15 (by decide) (fun c15 => ?_) (fun c15 => ?_)
    · refine lv_aload_n hx hb dX6_latency_20 rfl (lv_at hl 0 rfl) ?_
      refine r_get cX inX6 hw hC.1.1 rfl 0 (by decide) wF_X6_10 rfl dX6_latency_21 ?_
      refine r_get cX inX4 hw hI.1.1 rfl 9 (by decide) wF_X6_58 rfl dX6_latency_24 ?_
      refine lv_iload_n hx hb dX6_latency_27 rfl (lv_at hl 1 rfl) ?_
      obtain ⟨g_32, hg_32, hg_32_⟩ := hI.1.2.1
      obtain ⟨k, hk, hkP, hxk, hxc⟩ := path_ix hv (if01n c8)
      refine r_aald cX hw 4 rfl hg_32 k hxk hk (by decide) (hg_32_ k hk) dX6_latency_28 ?_
      refine lv_aload_n hx hb dX6_latency_29 rfl (lv_at hl 0 rfl) ?_
      refine r_get cX inX6 hw hC.1.1 rfl 0 (by decide) wF_X6_10 rfl dX6_latency_30 ?_
      refine r_get cX inX4 hw hI.1.1 rfl 2 (by decide) wF_X6_96 rfl dX6_latency_33 ?_
      refine lv_iload_n hx hb dX6_latency_36 rfl (lv_at hl 2 rfl) ?_
      refine r_Vi cX hw (hI.1.2.2.2.2.1 k hk) rfl [.int ((F 0) 0), .int y] (c_X2_ticksToArrive l G (hI.1.2.2.2.2.1 k hk) (F 0 0) y (hv.nzr k hk)) wM_X6_155 mw_X2_ticksToArrive ⟨Nat.le_of_ble_eq_true rfl, Nat.le_of_ble_eq_true rfl⟩ rfl rfl hl.1 (Nat.le_of_ble_eq_true rfl) dX6_latency_37 ⟨Nat.le_of_ble_eq_true rfl, Nat.le_of_ble_eq_true rfl⟩ (fun r M1 H locs hp hw => ?_)
      obtain ⟨rfl, hq⟩ := hp
      rw [hq] at hw
      exact r_iret cX hr hlocks hw ⟨by unfold q_latency; rw [if_pos ⟨(if01n c8), (if01n c15)⟩, hxc]; rfl, rfl⟩ dX6_latency_40
    · refine lv_iconst (v := (-1)) hx hb dX6_latency_18 (by decide) ?_
      exact r_iret cX hr hlocks hw ⟨by unfold q_latency; rw [if_neg (fun h => if01e c15 h.2)], rfl⟩ dX6_latency_19

set_option maxHeartbeats 4000000 in
set_option maxRecDepth 100000 in
theorem c_X6_safeGap (l : Launch) (G : gG) {M : HM} {ad : Nat → Nat} {F : Nat → Nat → Int32} {nx ct : Nat} {fl T : Nat → Int32} {len : Nat} {tr : Nat → Int32} (hC0 : IsCl G M ad F nx ct fl T len tr) (x : Int32) {B : Nat} (hv : Inv B (F 0)) : Ci l yX6_safeGap cX6_safeGap 2 .int (rd 4 0 0) G [.ref (ad 0), .int x] M (fun r M' => r = q_safeGap x (F 0) ∧ M' = M) := by
  refine Ci.of (by decide) (Nat.le_of_ble_eq_true rfl) ?_
  intro p e s m args below meth c ls cX hw hlocks hr hl
  have hx := cX.1
  have hb := cX.2.1
  have hl : lv_has ls 2 [(0, .ref (ad 0)), (1, .int x)] := hl
  have hC : Cl G M M ad F nx ct fl T len tr := ⟨hC0, OffC.rf M ad 359⟩
  have hI := (hC.1.sts 0 (by decide)).st
  refine lv_iload_n hx hb dX6_safeGap_0 rfl (lv_at hl 1 rfl) ?_
  refine r_Si cX hw [.int x] (c_X6_isSize l G x) wM_X6_102 mw_X6_isSize ⟨Nat.le_of_ble_eq_true rfl, Nat.le_of_ble_eq_true rfl⟩ rfl rfl hl.1 (Nat.le_of_ble_eq_true rfl) dX6_safeGap_1 ⟨Nat.le_of_ble_eq_true rfl, Nat.le_of_ble_eq_true rfl⟩ (fun r M1 H locs hp hw => ?_)
  obtain ⟨rfl, hq⟩ := hp
  rw [hq] at hw
  refine lv_if_eq (tgt := 18) hx hb dX6_safeGap_4 (by decide) (fun c4 => ?_) (fun c4 => ?_)
  · refine lv_iconst (v := (-1)) hx hb dX6_safeGap_18 (by decide) ?_
    exact r_iret cX hr hlocks hw ⟨by unfold q_safeGap; rw [if_neg (fun h => if01e c4 h)], rfl⟩ dX6_safeGap_19
  · refine lv_aload_n hx hb dX6_safeGap_7 rfl (lv_at hl 0 rfl) ?_
    refine r_get cX inX6 hw hC.1.1 rfl 0 (by decide) wF_X6_10 rfl dX6_safeGap_8 ?_
    refine lv_iload_n hx hb dX6_safeGap_11 rfl (lv_at hl 1 rfl) ?_
    refine r_Vi cX hw hI.1.1 rfl [.int x] (c_X4_spreadOfLatencies l G hI.1 x hv) wM_X6_158 mw_X4_spreadOfLatencies ⟨Nat.le_of_ble_eq_true rfl, Nat.le_of_ble_eq_true rfl⟩ rfl rfl hl.1 (Nat.le_of_ble_eq_true rfl) dX6_safeGap_12 ⟨Nat.le_of_ble_eq_true rfl, Nat.le_of_ble_eq_true rfl⟩ (fun r M1 H locs hp hw => ?_)
    obtain ⟨rfl, hq⟩ := hp
    rw [hq] at hw
    refine lv_goto (tgt := 19) hx hb dX6_safeGap_15 (by decide) ?_
    exact r_iret cX hr hlocks hw ⟨by unfold q_safeGap; rw [if_pos (if01n c4)], rfl⟩ dX6_safeGap_19

set_option maxHeartbeats 4000000 in
set_option maxRecDepth 100000 in
theorem c_X6_imbalance (l : Launch) (G : gG) {M : HM} {ad : Nat → Nat} {F : Nat → Nat → Int32} {nx ct : Nat} {fl T : Nat → Int32} {len : Nat} {tr : Nat → Int32} (hC0 : IsCl G M ad F nx ct fl T len tr) {B : Nat} (hv : Inv B (F 0)) : Ci l yX6_imbalance cX6_imbalance 1 .int (rd 2 0 0) G [.ref (ad 0)] M (fun r M' => r = q_imbalance (F 0) ∧ M' = M) := by
  refine Ci.of (by decide) (Nat.le_of_ble_eq_true rfl) ?_
  intro p e s m args below meth c ls cX hw hlocks hr hl
  have hx := cX.1
  have hb := cX.2.1
  have hl : lv_has ls 1 [(0, .ref (ad 0))] := hl
  have hC : Cl G M M ad F nx ct fl T len tr := ⟨hC0, OffC.rf M ad 359⟩
  have hI := (hC.1.sts 0 (by decide)).st
  refine lv_aload_n hx hb dX6_imbalance_0 rfl (lv_at hl 0 rfl) ?_
  refine r_get cX inX6 hw hC.1.1 rfl 0 (by decide) wF_X6_10 rfl dX6_imbalance_1 ?_
  refine r_Vi cX hw hI.1.1 rfl [] (c_X4_spreadOfBytes l G hI.1 hv) wM_X6_170 mw_X4_spreadOfBytes ⟨Nat.le_of_ble_eq_true rfl, Nat.le_of_ble_eq_true rfl⟩ rfl rfl hl.1 (Nat.le_of_ble_eq_true rfl) dX6_imbalance_4 ⟨Nat.le_of_ble_eq_true rfl, Nat.le_of_ble_eq_true rfl⟩ (fun r M1 H locs hp hw => ?_)
  obtain ⟨rfl, hq⟩ := hp
  rw [hq] at hw
  exact r_iret cX hr hlocks hw ⟨by unfold q_imbalance; rfl, rfl⟩ dX6_imbalance_7

set_option maxHeartbeats 4000000 in
set_option maxRecDepth 100000 in
theorem c_X6_flowlets (l : Launch) (G : gG) {M : HM} {ad : Nat → Nat} {F : Nat → Nat → Int32} {nx ct : Nat} {fl T : Nat → Int32} {len : Nat} {tr : Nat → Int32} (hC0 : IsCl G M ad F nx ct fl T len tr) (x : Int32) {B : Nat} (hv : Inv B (F 0)) : Ci l yX6_flowlets cX6_flowlets 2 .int (rd 2 0 0) G [.ref (ad 0), .int x] M (fun r M' => r = q_flw 73 x (F 0) ∧ M' = M) := by
  refine Ci.of (by decide) (Nat.le_of_ble_eq_true rfl) ?_
  intro p e s m args below meth c ls cX hw hlocks hr hl
  have hx := cX.1
  have hb := cX.2.1
  have hl : lv_has ls 2 [(0, .ref (ad 0)), (1, .int x)] := hl
  have hC : Cl G M M ad F nx ct fl T len tr := ⟨hC0, OffC.rf M ad 359⟩
  have hI := (hC.1.sts 0 (by decide)).st
  refine lv_iload_n hx hb dX6_flowlets_0 rfl (lv_at hl 1 rfl) ?_
  refine r_Si cX hw [.int x] (c_X6_isFlow l G x) wM_X6_99 mw_X6_isFlow ⟨Nat.le_of_ble_eq_true rfl, Nat.le_of_ble_eq_true rfl⟩ rfl rfl hl.1 (Nat.le_of_ble_eq_true rfl) dX6_flowlets_1 ⟨Nat.le_of_ble_eq_true rfl, Nat.le_of_ble_eq_true rfl⟩ (fun r M1 H locs hp hw => ?_)
  obtain ⟨rfl, hq⟩ := hp
  rw [hq] at hw
  refine lv_if_eq (tgt := 22) hx hb dX6_flowlets_4 (by decide) (fun c4 => ?_) (fun c4 => ?_)
  · refine lv_iconst (v := (-1)) hx hb dX6_flowlets_22 (by decide) ?_
    exact r_iret cX hr hlocks hw ⟨by unfold q_flw; rw [if_neg (fun h => if01e c4 h)], rfl⟩ dX6_flowlets_23
  · refine lv_aload_n hx hb dX6_flowlets_7 rfl (lv_at hl 0 rfl) ?_
    refine r_get cX inX6 hw hC.1.1 rfl 0 (by decide) wF_X6_10 rfl dX6_flowlets_8 ?_
    refine r_get cX inX4 hw hI.1.1 rfl 11 (by decide) wF_X6_180 rfl dX6_flowlets_11 ?_
    refine lv_iload_n hx hb dX6_flowlets_14 rfl (lv_at hl 1 rfl) ?_
    obtain ⟨g_33, hg_33, hg_33_⟩ := hI.1.2.2.2.1
    obtain ⟨k, hk, hxk, hxc⟩ := lit_ix 15 (by decide) (if01n c4)
    refine r_aald cX hw 3 rfl hg_33 k hxk hk (by decide) (hg_33_ k hk) dX6_flowlets_15 ?_
    refine r_get cX inX1 hw (hI.1.2.2.2.2.2.2.1 k hk) rfl 0 (by decide) wF_X6_184 rfl dX6_flowlets_16 ?_
    refine lv_goto (tgt := 23) hx hb dX6_flowlets_19 (by decide) ?_
    exact r_iret cX hr hlocks hw ⟨by unfold q_flw; rw [if_pos (if01n c4), hxc], rfl⟩ dX6_flowlets_23

set_option maxHeartbeats 4000000 in
set_option maxRecDepth 100000 in
theorem c_X6_pathChanges (l : Launch) (G : gG) {M : HM} {ad : Nat → Nat} {F : Nat → Nat → Int32} {nx ct : Nat} {fl T : Nat → Int32} {len : Nat} {tr : Nat → Int32} (hC0 : IsCl G M ad F nx ct fl T len tr) (x : Int32) {B : Nat} (hv : Inv B (F 0)) : Ci l yX6_pathChanges cX6_pathChanges 2 .int (rd 2 0 0) G [.ref (ad 0), .int x] M (fun r M' => r = q_flw 89 x (F 0) ∧ M' = M) := by
  refine Ci.of (by decide) (Nat.le_of_ble_eq_true rfl) ?_
  intro p e s m args below meth c ls cX hw hlocks hr hl
  have hx := cX.1
  have hb := cX.2.1
  have hl : lv_has ls 2 [(0, .ref (ad 0)), (1, .int x)] := hl
  have hC : Cl G M M ad F nx ct fl T len tr := ⟨hC0, OffC.rf M ad 359⟩
  have hI := (hC.1.sts 0 (by decide)).st
  refine lv_iload_n hx hb dX6_pathChanges_0 rfl (lv_at hl 1 rfl) ?_
  refine r_Si cX hw [.int x] (c_X6_isFlow l G x) wM_X6_99 mw_X6_isFlow ⟨Nat.le_of_ble_eq_true rfl, Nat.le_of_ble_eq_true rfl⟩ rfl rfl hl.1 (Nat.le_of_ble_eq_true rfl) dX6_pathChanges_1 ⟨Nat.le_of_ble_eq_true rfl, Nat.le_of_ble_eq_true rfl⟩ (fun r M1 H locs hp hw => ?_)
  obtain ⟨rfl, hq⟩ := hp
  rw [hq] at hw
  refine lv_if_eq (tgt := 22) hx hb dX6_pathChanges_4 (by decide) (fun c4 => ?_) (fun c4 => ?_)
  · refine lv_iconst (v := (-1)) hx hb dX6_pathChanges_22 (by decide) ?_
    exact r_iret cX hr hlocks hw ⟨by unfold q_flw; rw [if_neg (fun h => if01e c4 h)], rfl⟩ dX6_pathChanges_23
  · refine lv_aload_n hx hb dX6_pathChanges_7 rfl (lv_at hl 0 rfl) ?_
    refine r_get cX inX6 hw hC.1.1 rfl 0 (by decide) wF_X6_10 rfl dX6_pathChanges_8 ?_
    refine r_get cX inX4 hw hI.1.1 rfl 11 (by decide) wF_X6_180 rfl dX6_pathChanges_11 ?_
    refine lv_iload_n hx hb dX6_pathChanges_14 rfl (lv_at hl 1 rfl) ?_
    obtain ⟨g_34, hg_34, hg_34_⟩ := hI.1.2.2.2.1
    obtain ⟨k, hk, hxk, hxc⟩ := lit_ix 15 (by decide) (if01n c4)
    refine r_aald cX hw 3 rfl hg_34 k hxk hk (by decide) (hg_34_ k hk) dX6_pathChanges_15 ?_
    refine r_get cX inX1 hw (hI.1.2.2.2.2.2.2.1 k hk) rfl 1 (by decide) wF_X6_189 rfl dX6_pathChanges_16 ?_
    refine lv_goto (tgt := 23) hx hb dX6_pathChanges_19 (by decide) ?_
    exact r_iret cX hr hlocks hw ⟨by unfold q_flw; rw [if_pos (if01n c4), hxc], rfl⟩ dX6_pathChanges_23

set_option maxHeartbeats 4000000 in
set_option maxRecDepth 100000 in
theorem c_X6_reordered (l : Launch) (G : gG) {M : HM} {ad : Nat → Nat} {F : Nat → Nat → Int32} {nx ct : Nat} {fl T : Nat → Int32} {len : Nat} {tr : Nat → Int32} (hC0 : IsCl G M ad F nx ct fl T len tr) (x : Int32) {B : Nat} (hv : Inv B (F 0)) : Ci l yX6_reordered cX6_reordered 2 .int (rd 2 0 0) G [.ref (ad 0), .int x] M (fun r M' => r = q_flw 121 x (F 0) ∧ M' = M) := by
  refine Ci.of (by decide) (Nat.le_of_ble_eq_true rfl) ?_
  intro p e s m args below meth c ls cX hw hlocks hr hl
  have hx := cX.1
  have hb := cX.2.1
  have hl : lv_has ls 2 [(0, .ref (ad 0)), (1, .int x)] := hl
  have hC : Cl G M M ad F nx ct fl T len tr := ⟨hC0, OffC.rf M ad 359⟩
  have hI := (hC.1.sts 0 (by decide)).st
  refine lv_iload_n hx hb dX6_reordered_0 rfl (lv_at hl 1 rfl) ?_
  refine r_Si cX hw [.int x] (c_X6_isFlow l G x) wM_X6_99 mw_X6_isFlow ⟨Nat.le_of_ble_eq_true rfl, Nat.le_of_ble_eq_true rfl⟩ rfl rfl hl.1 (Nat.le_of_ble_eq_true rfl) dX6_reordered_1 ⟨Nat.le_of_ble_eq_true rfl, Nat.le_of_ble_eq_true rfl⟩ (fun r M1 H locs hp hw => ?_)
  obtain ⟨rfl, hq⟩ := hp
  rw [hq] at hw
  refine lv_if_eq (tgt := 22) hx hb dX6_reordered_4 (by decide) (fun c4 => ?_) (fun c4 => ?_)
  · refine lv_iconst (v := (-1)) hx hb dX6_reordered_22 (by decide) ?_
    exact r_iret cX hr hlocks hw ⟨by unfold q_flw; rw [if_neg (fun h => if01e c4 h)], rfl⟩ dX6_reordered_23
  · refine lv_aload_n hx hb dX6_reordered_7 rfl (lv_at hl 0 rfl) ?_
    refine r_get cX inX6 hw hC.1.1 rfl 0 (by decide) wF_X6_10 rfl dX6_reordered_8 ?_
    refine r_get cX inX4 hw hI.1.1 rfl 11 (by decide) wF_X6_180 rfl dX6_reordered_11 ?_
    refine lv_iload_n hx hb dX6_reordered_14 rfl (lv_at hl 1 rfl) ?_
    obtain ⟨g_35, hg_35, hg_35_⟩ := hI.1.2.2.2.1
    obtain ⟨k, hk, hxk, hxc⟩ := lit_ix 15 (by decide) (if01n c4)
    refine r_aald cX hw 3 rfl hg_35 k hxk hk (by decide) (hg_35_ k hk) dX6_reordered_15 ?_
    refine r_get cX inX1 hw (hI.1.2.2.2.2.2.2.1 k hk) rfl 2 (by decide) wF_X6_192 rfl dX6_reordered_16 ?_
    refine lv_goto (tgt := 23) hx hb dX6_reordered_19 (by decide) ?_
    exact r_iret cX hr hlocks hw ⟨by unfold q_flw; rw [if_pos (if01n c4), hxc], rfl⟩ dX6_reordered_23

set_option maxHeartbeats 4000000 in
set_option maxRecDepth 100000 in
theorem c_X6_lastArrival (l : Launch) (G : gG) {M : HM} {ad : Nat → Nat} {F : Nat → Nat → Int32} {nx ct : Nat} {fl T : Nat → Int32} {len : Nat} {tr : Nat → Int32} (hC0 : IsCl G M ad F nx ct fl T len tr) (x : Int32) {B : Nat} (hv : Inv B (F 0)) : Ci l yX6_lastArrival cX6_lastArrival 2 .int (rd 2 0 0) G [.ref (ad 0), .int x] M (fun r M' => r = q_flw 137 x (F 0) ∧ M' = M) := by
  refine Ci.of (by decide) (Nat.le_of_ble_eq_true rfl) ?_
  intro p e s m args below meth c ls cX hw hlocks hr hl
  have hx := cX.1
  have hb := cX.2.1
  have hl : lv_has ls 2 [(0, .ref (ad 0)), (1, .int x)] := hl
  have hC : Cl G M M ad F nx ct fl T len tr := ⟨hC0, OffC.rf M ad 359⟩
  have hI := (hC.1.sts 0 (by decide)).st
  refine lv_iload_n hx hb dX6_lastArrival_0 rfl (lv_at hl 1 rfl) ?_
  refine r_Si cX hw [.int x] (c_X6_isFlow l G x) wM_X6_99 mw_X6_isFlow ⟨Nat.le_of_ble_eq_true rfl, Nat.le_of_ble_eq_true rfl⟩ rfl rfl hl.1 (Nat.le_of_ble_eq_true rfl) dX6_lastArrival_1 ⟨Nat.le_of_ble_eq_true rfl, Nat.le_of_ble_eq_true rfl⟩ (fun r M1 H locs hp hw => ?_)
  obtain ⟨rfl, hq⟩ := hp
  rw [hq] at hw
  refine lv_if_eq (tgt := 22) hx hb dX6_lastArrival_4 (by decide) (fun c4 => ?_) (fun c4 => ?_)
  · refine lv_iconst (v := (-1)) hx hb dX6_lastArrival_22 (by decide) ?_
    exact r_iret cX hr hlocks hw ⟨by unfold q_flw; rw [if_neg (fun h => if01e c4 h)], rfl⟩ dX6_lastArrival_23
  · refine lv_aload_n hx hb dX6_lastArrival_7 rfl (lv_at hl 0 rfl) ?_
    refine r_get cX inX6 hw hC.1.1 rfl 0 (by decide) wF_X6_10 rfl dX6_lastArrival_8 ?_
    refine r_get cX inX4 hw hI.1.1 rfl 11 (by decide) wF_X6_180 rfl dX6_lastArrival_11 ?_
    refine lv_iload_n hx hb dX6_lastArrival_14 rfl (lv_at hl 1 rfl) ?_
    obtain ⟨g_36, hg_36, hg_36_⟩ := hI.1.2.2.2.1
    obtain ⟨k, hk, hxk, hxc⟩ := lit_ix 15 (by decide) (if01n c4)
    refine r_aald cX hw 3 rfl hg_36 k hxk hk (by decide) (hg_36_ k hk) dX6_lastArrival_15 ?_
    refine r_get cX inX1 hw (hI.1.2.2.2.2.2.2.1 k hk) rfl 4 (by decide) wF_X6_195 rfl dX6_lastArrival_16 ?_
    refine lv_goto (tgt := 23) hx hb dX6_lastArrival_19 (by decide) ?_
    exact r_iret cX hr hlocks hw ⟨by unfold q_flw; rw [if_pos (if01n c4), hxc], rfl⟩ dX6_lastArrival_23

set_option maxHeartbeats 4000000 in
set_option maxRecDepth 100000 in
theorem c_X6_nextPath (l : Launch) (G : gG) {M : HM} {ad : Nat → Nat} {F : Nat → Nat → Int32} {nx ct : Nat} {fl T : Nat → Int32} {len : Nat} {tr : Nat → Int32} (hC0 : IsCl G M ad F nx ct fl T len tr) (x : Int32) {B : Nat} (hv : Inv B (F 0)) : Ci l yX6_nextPath cX6_nextPath 2 .int (rd 4 0 0) G [.ref (ad 0), .int x] M (fun r M' => r = q_nextPath x (F 0) ∧ M' = M) := by
  refine Ci.of (by decide) (Nat.le_of_ble_eq_true rfl) ?_
  intro p e s m args below meth c ls cX hw hlocks hr hl
  have hx := cX.1
  have hb := cX.2.1
  have hl : lv_has ls 2 [(0, .ref (ad 0)), (1, .int x)] := hl
  have hC : Cl G M M ad F nx ct fl T len tr := ⟨hC0, OffC.rf M ad 359⟩
  have hI := (hC.1.sts 0 (by decide)).st
  refine lv_iload_n hx hb dX6_nextPath_0 rfl (lv_at hl 1 rfl) ?_
  refine r_Si cX hw [.int x] (c_X6_isFlow l G x) wM_X6_99 mw_X6_isFlow ⟨Nat.le_of_ble_eq_true rfl, Nat.le_of_ble_eq_true rfl⟩ rfl rfl hl.1 (Nat.le_of_ble_eq_true rfl) dX6_nextPath_1 ⟨Nat.le_of_ble_eq_true rfl, Nat.le_of_ble_eq_true rfl⟩ (fun r M1 H locs hp hw => ?_)
  obtain ⟨rfl, hq⟩ := hp
  rw [hq] at hw
  refine lv_if_eq (tgt := 18) hx hb dX6_nextPath_4 (by decide) (fun c4 => ?_) (fun c4 => ?_)
  · refine lv_iconst (v := (-1)) hx hb dX6_nextPath_18 (by decide) ?_
    exact r_iret cX hr hlocks hw ⟨by unfold q_nextPath; rw [if_neg (fun h => if01e c4 h)], rfl⟩ dX6_nextPath_19
  · refine lv_aload_n hx hb dX6_nextPath_7 rfl (lv_at hl 0 rfl) ?_
    refine r_get cX inX6 hw hC.1.1 rfl 0 (by decide) wF_X6_10 rfl dX6_nextPath_8 ?_
    refine lv_iload_n hx hb dX6_nextPath_11 rfl (lv_at hl 1 rfl) ?_
    obtain ⟨k, hk, rfl, hxc⟩ := lit_ix 15 (by decide) (if01n c4)
    refine r_Vi cX hw hI.1.1 rfl [.int (nI k)] (c_X4_pathFor l G hI.1 hv k hk) wM_X6_173 mw_X4_pathFor ⟨Nat.le_of_ble_eq_true rfl, Nat.le_of_ble_eq_true rfl⟩ rfl rfl hl.1 (Nat.le_of_ble_eq_true rfl) dX6_nextPath_12 ⟨Nat.le_of_ble_eq_true rfl, Nat.le_of_ble_eq_true rfl⟩ (fun r M1 H locs hp hw => ?_)
    obtain ⟨rfl, hq⟩ := hp
    rw [hq] at hw
    refine lv_goto (tgt := 19) hx hb dX6_nextPath_15 (by decide) ?_
    exact r_iret cX hr hlocks hw ⟨by unfold q_nextPath; rw [if_pos (if01n c4)]; rw [hxc], rfl⟩ dX6_nextPath_19

set_option maxHeartbeats 4000000 in
set_option maxRecDepth 100000 in
theorem c_X6_wouldReorder (l : Launch) (G : gG) {M : HM} {ad : Nat → Nat} {F : Nat → Nat → Int32} {nx ct : Nat} {fl T : Nat → Int32} {len : Nat} {tr : Nat → Int32} (hC0 : IsCl G M ad F nx ct fl T len tr) (x y : Int32) {B : Nat} (hv : Inv B (F 0)) (hB : B < 2 ^ 30) : Ci l yX6_wouldReorder cX6_wouldReorder 3 .int (rd 5 0 0) G [.ref (ad 0), .int x, .int y] M (fun r M' => r = q_wouldReorder x y (F 0) ∧ M' = M) := by
  refine Ci.of (by decide) (Nat.le_of_ble_eq_true rfl) ?_
  intro p e s m args below meth c ls cX hw hlocks hr hl
  have hx := cX.1
  have hb := cX.2.1
  have hl : lv_has ls 3 [(0, .ref (ad 0)), (1, .int x), (2, .int y)] := hl
  have hC : Cl G M M ad F nx ct fl T len tr := ⟨hC0, OffC.rf M ad 359⟩
  have hI := (hC.1.sts 0 (by decide)).st
  refine lv_iload_n hx hb dX6_wouldReorder_0 rfl (lv_at hl 1 rfl) ?_
  refine r_Si cX hw [.int x] (c_X6_isFlow l G x) wM_X6_99 mw_X6_isFlow ⟨Nat.le_of_ble_eq_true rfl, Nat.le_of_ble_eq_true rfl⟩ rfl rfl hl.1 (Nat.le_of_ble_eq_true rfl) dX6_wouldReorder_1 ⟨Nat.le_of_ble_eq_true rfl, Nat.le_of_ble_eq_true rfl⟩ (fun r M1 H locs hp hw => ?_)
  obtain ⟨rfl, hq⟩ := hp
  rw [hq] at hw
  refine lv_if_eq (tgt := 14) hx hb dX6_wouldReorder_4 (by decide) (fun c4 => ?_) (fun c4 => ?_)
  · refine lv_iconst (v := (-1)) hx hb dX6_wouldReorder_14 (by decide) ?_
    exact r_iret cX hr hlocks hw ⟨by unfold q_wouldReorder; rw [if_neg (fun h => if01e c4 h.1)], rfl⟩ dX6_wouldReorder_15
  · refine lv_iload_n hx hb dX6_wouldReorder_7 rfl (lv_at hl 2 rfl) ?_
    refine r_Si cX hw [.int y] (c_X6_isSize l G y) wM_X6_102 mw_X6_isSize ⟨Nat.le_of_ble_eq_true rfl, Nat.le_of_ble_eq_true rfl⟩ rfl rfl hl.1 (Nat.le_of_ble_eq_true rfl) dX6_wouldReorder_8 ⟨Nat.le_of_ble_eq_true rfl, Nat.le_of_ble_eq_true rfl⟩ (fun r M1 H locs hp hw => ?_)
    obtain ⟨rfl, hq⟩ := hp
    rw [hq] at hw
    refine lv_if_ne (tgt := 16) hx hb dX6_wouldReorder_11 (by decide) (fun c11 => ?_) (fun c11 => ?_)
    · refine lv_aload_n hx hb dX6_wouldReorder_16 rfl (lv_at hl 0 rfl) ?_
      refine r_get cX inX6 hw hC.1.1 rfl 0 (by decide) wF_X6_10 rfl dX6_wouldReorder_17 ?_
      refine lv_iload_n hx hb dX6_wouldReorder_20 rfl (lv_at hl 1 rfl) ?_
      refine lv_iload_n hx hb dX6_wouldReorder_21 rfl (lv_at hl 2 rfl) ?_
      obtain ⟨k, hk, rfl, hxc⟩ := lit_ix 15 (by decide) (if01n c4)
      refine r_Vi cX hw hI.1.1 rfl [.int (nI k), .int y] (c_X4_wouldOvertake l G hI.1 hv hB k hk y) wM_X6_176 mw_X4_wouldOvertake ⟨Nat.le_of_ble_eq_true rfl, Nat.le_of_ble_eq_true rfl⟩ rfl rfl hl.1 (Nat.le_of_ble_eq_true rfl) dX6_wouldReorder_22 ⟨Nat.le_of_ble_eq_true rfl, Nat.le_of_ble_eq_true rfl⟩ (fun r M1 H locs hp hw => ?_)
      obtain ⟨rfl, hq⟩ := hp
      rw [hq] at hw
      refine lv_if_eq (tgt := 32) hx hb dX6_wouldReorder_25 (by decide) (fun c25 => ?_) (fun c25 => ?_)
      · refine lv_iconst (v := 0) hx hb dX6_wouldReorder_32 (by decide) ?_
        exact r_iret cX hr hlocks hw ⟨by unfold q_wouldReorder; rw [if_pos ⟨(if01n c4), (if01n c11)⟩]; rw [hxc]; exact c25.symm, rfl⟩ dX6_wouldReorder_33
      · refine lv_iconst (v := 1) hx hb dX6_wouldReorder_28 (by decide) ?_
        refine lv_goto (tgt := 33) hx hb dX6_wouldReorder_29 (by decide) ?_
        exact r_iret cX hr hlocks hw ⟨by unfold q_wouldReorder; rw [if_pos ⟨(if01n c4), (if01n c11)⟩]; rw [hxc]; exact ((woF01 _ _ _).resolve_left c25).symm, rfl⟩ dX6_wouldReorder_33
    · refine lv_iconst (v := (-1)) hx hb dX6_wouldReorder_14 (by decide) ?_
      exact r_iret cX hr hlocks hw ⟨by unfold q_wouldReorder; rw [if_neg (fun h => if01e c11 h.2)], rfl⟩ dX6_wouldReorder_15

set_option maxHeartbeats 4000000 in
set_option maxRecDepth 100000 in
theorem c_X3_push (l : Launch) (G : gG) {M : HM} {ad : Nat → Nat} {F : Nat → Nat → Int32} {nx ct : Nat} {fl T : Nat → Int32} {len : Nat} {tr : Nat → Int32} (hC0 : IsCl G M ad F nx ct fl T len tr) : Cv l yX3_push cX3_push 2 (rd 2 0 0) G [.ref (ad 1), .ref (Lst ad 0 0)] M (fun M' => Cl G M M' ad (uF F (nx + 1) (F 0)) ((nx + 1) % 8) (min (ct + 1) 8) fl T len tr) := by
  have hnx := hC0.2.2.2.2.2.2.2.2.2.1
  have hct := hC0.2.2.2.2.2.2.2.2.2.2.1
  refine Cv.of (by decide) (Nat.le_of_ble_eq_true rfl) ?_
  intro p e s m args below meth c ls cX hw hlocks hr hnm hl
  have hx := cX.1
  have hb := cX.2.1
  have hl : lv_has ls 2 [(0, .ref (ad 1)), (1, .ref (Lst ad 0 0))] := hl
  have hC : Cl G M M ad F nx ct fl T len tr := ⟨hC0, OffC.rf M ad 359⟩
  have hI := (hC.1.sts 0 (by decide)).st
  refine lv_aload_n hx hb dX3_push_0 rfl (lv_at hl 0 rfl) ?_
  refine r_get cX inX3 hw hC.1.2.1 rfl 0 (by decide) wF_X3_11 rfl dX3_push_1 ?_
  refine lv_aload_n hx hb dX3_push_4 rfl (lv_at hl 0 rfl) ?_
  refine r_get cX inX3 hw hC.1.2.1 rfl 1 (by decide) wF_X3_18 rfl dX3_push_5 ?_
  obtain ⟨g_37, hg_37, hg_37_⟩ := hC.1.2.2.1
  refine r_aald cX hw 5 rfl hg_37 nx rfl hnx (by decide) (hg_37_ nx hnx) dX3_push_8 ?_
  refine lv_aload_n hx hb dX3_push_9 rfl (lv_at hl 1 rfl) ?_
  refine r_Vv cX hw (hC.1.sts (nx + 1) (by omega)).1 rfl [.ref (Lst ad 0 0)] (c_X4_copyFrom l G (hC.1.sts (nx + 1) (by omega)) hI.1 (hC.1.apart (by omega) (by omega) (by omega))) wM_X3_22 mw_X4_copyFrom ⟨Nat.le_of_ble_eq_true rfl, Nat.le_of_ble_eq_true rfl⟩ rfl rfl hl.1 (Nat.le_of_ble_eq_true rfl) dX3_push_10 ⟨Nat.le_of_ble_eq_true rfl, Nat.le_of_ble_eq_true rfl⟩ (fun M1 H locs hp hw => ?_)
  have hC := hC.st (nx + 1) (by omega) hp
  refine lv_aload_n hx hb dX3_push_13 rfl (lv_at hl 0 rfl) ?_
  refine lv_aload_n hx hb dX3_push_14 rfl (lv_at hl 0 rfl) ?_
  refine r_get cX inX3 hw hC.1.2.1 rfl 1 (by decide) wF_X3_18 rfl dX3_push_15 ?_
  refine lv_iconst (v := 1) hx hb dX3_push_18 (by decide) ?_
  refine lv_iadd hx hb dX3_push_19 ?_
  refine lv_bipush (v := 8) hx hb dX3_push_20 (by decide) ?_
  refine r_irem hx hb dX3_push_22 (by decide) ?_
  refine r_put (fs' := [.ref (ad 2), .int (jr ((nI nx) + 1) 8), .int (nI ct)]) cX inX3 tyX3 tyX3_ok nmX3 hw hC.1.2.1 rfl 1 (by decide) wF_X3_18 rfl rfl rfl rfl (Nat.le_of_ble_eq_true rfl) dX3_push_23 (fun H locs hw => ?_)
  rw [show jr (nI nx + 1) 8 = nI ((nx + 1) % 8) from by rw [nI_1]; exact jr_nI (d := 8) (by omega) (by decide) (by decide)] at hw
  have hC := hC.sv (nx' := (nx + 1) % 8) (ct' := ct) (by omega) hct
  refine lv_aload_n hx hb dX3_push_26 rfl (lv_at hl 0 rfl) ?_
  refine lv_aload_n hx hb dX3_push_27 rfl (lv_at hl 0 rfl) ?_
  refine r_get cX inX3 hw hC.1.2.1 rfl 2 (by decide) wF_X3_26 rfl dX3_push_28 ?_
  refine lv_iconst (v := 1) hx hb dX3_push_31 (by decide) ?_
  refine lv_iadd hx hb dX3_push_32 ?_
  refine lv_bipush (v := 8) hx hb dX3_push_33 (by decide) ?_
  refine r_mmin (own := RX3) (index := 29) cX hl.1 wM_X3_29 (Nat.le_of_ble_eq_true rfl) (Nat.le_of_ble_eq_true rfl) (Nat.zero_le _) (Nat.zero_le _) dX3_push_35 ?_
  refine r_put (fs' := [.ref (ad 2), .int (nI ((nx + 1) % 8)), .int (if 8 < (nI ct) + 1 then 8 else (nI ct) + 1)]) cX inX3 tyX3 tyX3_ok nmX3 hw hC.1.2.1 rfl 2 (by decide) wF_X3_26 rfl rfl rfl rfl (Nat.le_of_ble_eq_true rfl) dX3_push_38 (fun H locs hw => ?_)
  rw [show (if (8 : Int32) < nI ct + 1 then 8 else nI ct + 1) = nI (min (ct + 1) 8) from min8 hct] at hw
  have hC := hC.sv (nx' := (nx + 1) % 8) (ct' := min (ct + 1) 8) (by omega) (by omega)
  exact r_vret cX hr hlocks hw hC dX3_push_41

set_option maxHeartbeats 4000000 in
set_option maxRecDepth 100000 in
theorem c_X3_popInto (l : Launch) (G : gG) {M : HM} {ad : Nat → Nat} {F : Nat → Nat → Int32} {nx ct : Nat} {fl T : Nat → Int32} {len : Nat} {tr : Nat → Int32} (hC0 : IsCl G M ad F nx ct fl T len tr) (hc : 0 < ct) : Cv l yX3_popInto cX3_popInto 2 (rd 2 0 0) G [.ref (ad 1), .ref (Lst ad 0 0)] M (fun M' => Cl G M M' ad (uF F 0 (F ((nx + 7) % 8 + 1))) ((nx + 7) % 8) (ct - 1) fl T len tr) := by
  have hnx := hC0.2.2.2.2.2.2.2.2.2.1
  have hct := hC0.2.2.2.2.2.2.2.2.2.2.1
  refine Cv.of (by decide) (Nat.le_of_ble_eq_true rfl) ?_
  intro p e s m args below meth c ls cX hw hlocks hr hnm hl
  have hx := cX.1
  have hb := cX.2.1
  have hl : lv_has ls 2 [(0, .ref (ad 1)), (1, .ref (Lst ad 0 0))] := hl
  have hC : Cl G M M ad F nx ct fl T len tr := ⟨hC0, OffC.rf M ad 359⟩
  have hI := (hC.1.sts 0 (by decide)).st
  refine lv_aload_n hx hb dX3_popInto_0 rfl (lv_at hl 0 rfl) ?_
  refine lv_aload_n hx hb dX3_popInto_1 rfl (lv_at hl 0 rfl) ?_
  refine r_get cX inX3 hw hC.1.2.1 rfl 1 (by decide) wF_X3_18 rfl dX3_popInto_2 ?_
  refine lv_bipush (v := 8) hx hb dX3_popInto_5 (by decide) ?_
  refine lv_iadd hx hb dX3_popInto_7 ?_
  refine lv_iconst (v := 1) hx hb dX3_popInto_8 (by decide) ?_
  refine lv_isub hx hb dX3_popInto_9 ?_
  refine lv_bipush (v := 8) hx hb dX3_popInto_10 (by decide) ?_
  refine r_irem hx hb dX3_popInto_12 (by decide) ?_
  refine r_put (fs' := [.ref (ad 2), .int (jr (((nI nx) + 8) - 1) 8), .int (nI ct)]) cX inX3 tyX3 tyX3_ok nmX3 hw hC.1.2.1 rfl 1 (by decide) wF_X3_18 rfl rfl rfl rfl (Nat.le_of_ble_eq_true rfl) dX3_popInto_13 (fun H locs hw => ?_)
  rw [show jr (nI nx + 8 - 1) 8 = nI ((nx + 7) % 8) from by rw [show nI nx + (8 : Int32) = nI (nx + 7 + 1) from nI_add nx 8, nI_pred]; exact jr_nI (d := 8) (by omega) (by decide) (by decide)] at hw
  have hC := hC.sv (nx' := (nx + 7) % 8) (ct' := ct) (by omega) hct
  refine lv_aload_n hx hb dX3_popInto_16 rfl (lv_at hl 0 rfl) ?_
  refine lv_dup hx hb dX3_popInto_17 rfl ?_
  refine r_get cX inX3 hw hC.1.2.1 rfl 2 (by decide) wF_X3_26 rfl dX3_popInto_18 ?_
  refine lv_iconst (v := 1) hx hb dX3_popInto_21 (by decide) ?_
  refine lv_isub hx hb dX3_popInto_22 ?_
  refine r_put (fs' := [.ref (ad 2), .int (nI ((nx + 7) % 8)), .int ((nI ct) - 1)]) cX inX3 tyX3 tyX3_ok nmX3 hw hC.1.2.1 rfl 2 (by decide) wF_X3_26 rfl rfl rfl rfl (Nat.le_of_ble_eq_true rfl) dX3_popInto_23 (fun H locs hw => ?_)
  rw [show nI ct - 1 = nI (ct - 1) from pk_sub (b := 1) hc] at hw
  have hC := hC.sv (nx' := (nx + 7) % 8) (ct' := ct - 1) (by omega) (by omega)
  refine lv_aload_n hx hb dX3_popInto_26 rfl (lv_at hl 1 rfl) ?_
  refine lv_aload_n hx hb dX3_popInto_27 rfl (lv_at hl 0 rfl) ?_
  refine r_get cX inX3 hw hC.1.2.1 rfl 0 (by decide) wF_X3_11 rfl dX3_popInto_28 ?_
  refine lv_aload_n hx hb dX3_popInto_31 rfl (lv_at hl 0 rfl) ?_
  refine r_get cX inX3 hw hC.1.2.1 rfl 1 (by decide) wF_X3_18 rfl dX3_popInto_32 ?_
  obtain ⟨g_38, hg_38, hg_38_⟩ := hC.1.2.2.1
  refine r_aald cX hw 5 rfl hg_38 ((nx + 7) % 8) rfl (by omega) (by decide) (hg_38_ ((nx + 7) % 8) (by omega)) dX3_popInto_35 ?_
  refine r_Vv cX hw (hC.1.sts 0 (by decide)).1 rfl [.ref (Lst ad (((nx + 7) % 8) + 1) 0)] (c_X4_copyFrom l G (hC.1.sts 0 (by decide)) (hC.1.sts ((nx + 7) % 8 + 1) (by omega)) (hC.1.apart (by omega) (by omega) (by omega))) wM_X3_22 mw_X4_copyFrom ⟨Nat.le_of_ble_eq_true rfl, Nat.le_of_ble_eq_true rfl⟩ rfl rfl hl.1 (Nat.le_of_ble_eq_true rfl) dX3_popInto_36 ⟨Nat.le_of_ble_eq_true rfl, Nat.le_of_ble_eq_true rfl⟩ (fun M1 H locs hp hw => ?_)
  have hC := hC.st 0 (by decide) hp
  exact r_vret cX hr hlocks hw hC dX3_popInto_39

set_option maxHeartbeats 4000000 in
set_option maxRecDepth 100000 in
theorem c_X3_discardAll (l : Launch) (G : gG) {M : HM} {ad : Nat → Nat} {F : Nat → Nat → Int32} {nx ct : Nat} {fl T : Nat → Int32} {len : Nat} {tr : Nat → Int32} (hC0 : IsCl G M ad F nx ct fl T len tr) : Cv l yX3_discardAll cX3_discardAll 1 (rd 0 0 0) G [.ref (ad 1)] M (fun M' => Cl G M M' ad (F) (nx) (0) fl T len tr) := by
  have hnx := hC0.2.2.2.2.2.2.2.2.2.1
  refine Cv.of (by decide) (Nat.le_of_ble_eq_true rfl) ?_
  intro p e s m args below meth c ls cX hw hlocks hr hnm hl
  have hx := cX.1
  have hb := cX.2.1
  have hl : lv_has ls 1 [(0, .ref (ad 1))] := hl
  have hC : Cl G M M ad F nx ct fl T len tr := ⟨hC0, OffC.rf M ad 359⟩
  have hI := (hC.1.sts 0 (by decide)).st
  refine lv_aload_n hx hb dX3_discardAll_0 rfl (lv_at hl 0 rfl) ?_
  refine lv_iconst (v := 0) hx hb dX3_discardAll_1 (by decide) ?_
  refine r_put (fs' := [.ref (ad 2), .int (nI nx), .int 0]) cX inX3 tyX3 tyX3_ok nmX3 hw hC.1.2.1 rfl 2 (by decide) wF_X3_26 rfl rfl rfl rfl (Nat.le_of_ble_eq_true rfl) dX3_discardAll_2 (fun H locs hw => ?_)
  skip
  have hC := hC.sv (nx' := nx) (ct' := 0) hnx (by omega)
  exact r_vret cX hr hlocks hw hC dX3_discardAll_5
end
