/-! ===== BEGIN printed: names, fields, word lists, decode rows ===== -/
def RX0 : String := "ShippedLog$Log"
def TX0 : u_T := fun k => match k with
  | 0 => ("ShippedLog$Log", "memory", "[B", true)
  | 1 => ("ShippedLog$Log", "disk", "[B", true)
  | 2 => ("ShippedLog$Log", "end", "I", false)
  | _ => ("ShippedLog$Log", "synced", "I", false)
def tyX0 : Nat → FieldType := fun k => match k with
  | 0 => .array .byte
  | 1 => .array .byte
  | 2 => .int
  | _ => .int
abbrev wsX00 : List Cond := u_ws RX0 TX0 4
theorem nmX0 : ∀ a, a < 4 → ∀ b, b < 4 → a ≠ b → (TX0 a).2.1 ≠ (TX0 b).2.1 := by decide +kernel
theorem tyX0_ok : ∀ k, k < 4 → parseFieldDescriptor (TX0 k).2.2.1 = some (tyX0 k) := by decide +kernel
abbrev cX0_init : ByteArray := prog_2_method_1_code
def yX0_init : MethodName := ⟨RX0, "<init>", "()V"⟩
abbrev cX0_isFull : ByteArray := prog_2_method_2_code
def yX0_isFull : MethodName := ⟨RX0, "isFull", "()Z"⟩
abbrev cX0_kindAt : ByteArray := prog_2_method_3_code
def yX0_kindAt : MethodName := ⟨RX0, "kindAt", "(I)I"⟩
abbrev cX0_timelineAt : ByteArray := prog_2_method_4_code
def yX0_timelineAt : MethodName := ⟨RX0, "timelineAt", "(I)I"⟩
abbrev cX0_keyAt : ByteArray := prog_2_method_5_code
def yX0_keyAt : MethodName := ⟨RX0, "keyAt", "(I)I"⟩
abbrev cX0_valueAt : ByteArray := prog_2_method_6_code
def yX0_valueAt : MethodName := ⟨RX0, "valueAt", "(I)I"⟩
abbrev cX0_lastTimeline : ByteArray := prog_2_method_7_code
def yX0_lastTimeline : MethodName := ⟨RX0, "lastTimeline", "()I"⟩
abbrev cX0_append : ByteArray := prog_2_method_8_code
def yX0_append : MethodName := ⟨RX0, "append", "(IIII)V"⟩
abbrev cX0_sync : ByteArray := prog_2_method_9_code
def yX0_sync : MethodName := ⟨RX0, "sync", "()V"⟩
abbrev cX0_saveFirst : ByteArray := prog_2_method_10_code
def yX0_saveFirst : MethodName := ⟨RX0, "saveFirst", "(I)I"⟩
abbrev cX0_loadFromDisk : ByteArray := prog_2_method_11_code
def yX0_loadFromDisk : MethodName := ⟨RX0, "loadFromDisk", "()V"⟩
abbrev cX0_receive : ByteArray := prog_2_method_12_code
def yX0_receive : MethodName := ⟨RX0, "receive", "(LShippedLog$Log;II)V"⟩
abbrev cX0_isBeginningOf : ByteArray := prog_2_method_13_code
def yX0_isBeginningOf : MethodName := ⟨RX0, "isBeginningOf", "(LShippedLog$Log;)Z"⟩
abbrev cX0_sharedWith : ByteArray := prog_2_method_14_code
def yX0_sharedWith : MethodName := ⟨RX0, "sharedWith", "(LShippedLog$Log;)I"⟩
abbrev cX0_cutTo : ByteArray := prog_2_method_15_code
def yX0_cutTo : MethodName := ⟨RX0, "cutTo", "(I)V"⟩
abbrev cX0_copy : ByteArray := prog_2_method_16_code
def yX0_copy : MethodName := ⟨RX0, "copy", "([B[BII)V"⟩
abbrev cX0_hasRecordOf : ByteArray := prog_2_method_17_code
def yX0_hasRecordOf : MethodName := ⟨RX0, "hasRecordOf", "(LShippedLog$Log;I)Z"⟩
abbrev cX0_hasGoodRecord : ByteArray := prog_2_method_18_code
def yX0_hasGoodRecord : MethodName := ⟨RX0, "hasGoodRecord", "(II)Z"⟩
abbrev cX0_checksumAt : ByteArray := prog_2_method_19_code
def yX0_checksumAt : MethodName := ⟨RX0, "checksumAt", "(I)I"⟩
abbrev cX0_byteOf : ByteArray := prog_2_method_20_code
def yX0_byteOf : MethodName := ⟨RX0, "byteOf", "(I)I"⟩
abbrev cX0_setByte : ByteArray := prog_2_method_21_code
def yX0_setByte : MethodName := ⟨RX0, "setByte", "(II)V"⟩
abbrev cX0_intAt : ByteArray := prog_2_method_22_code
def yX0_intAt : MethodName := ⟨RX0, "intAt", "(I)I"⟩
abbrev cX0_setInt : ByteArray := prog_2_method_23_code
def yX0_setInt : MethodName := ⟨RX0, "setInt", "(II)V"⟩
def RX1 : String := "ShippedLog$Node"
def TX1 : u_T := fun k => match k with
  | 0 => ("ShippedLog$Node", "log", "LShippedLog$Log;", true)
  | 1 => ("ShippedLog$Node", "role", "I", false)
  | 2 => ("ShippedLog$Node", "applied", "I", false)
  | 3 => ("ShippedLog$Node", "follows", "I", false)
  | 4 => ("ShippedLog$Node", "known", "I", false)
  | 5 => ("ShippedLog$Node", "standby", "I", false)
  | 6 => ("ShippedLog$Node", "acknowledged", "I", false)
  | _ => ("ShippedLog$Node", "promotedAt", "I", false)
def tyX1 : Nat → FieldType := fun k => match k with
  | 0 => .object "ShippedLog$Log"
  | 1 => .int
  | 2 => .int
  | 3 => .int
  | 4 => .int
  | 5 => .int
  | 6 => .int
  | _ => .int
abbrev wsX10 : List Cond := u_ws RX1 TX1 8
theorem nmX1 : ∀ a, a < 8 → ∀ b, b < 8 → a ≠ b → (TX1 a).2.1 ≠ (TX1 b).2.1 := by decide +kernel
theorem tyX1_ok : ∀ k, k < 8 → parseFieldDescriptor (TX1 k).2.2.1 = some (tyX1 k) := by decide +kernel
abbrev cX1_init : ByteArray := prog_3_method_1_code
def yX1_init : MethodName := ⟨RX1, "<init>", "()V"⟩
abbrev cX1_write : ByteArray := prog_3_method_2_code
def yX1_write : MethodName := ⟨RX1, "write", "(IIII)V"⟩
abbrev cX1_acknowledgeUpTo : ByteArray := prog_3_method_3_code
def yX1_acknowledgeUpTo : MethodName := ⟨RX1, "acknowledgeUpTo", "(I)V"⟩
abbrev cX1_committedValue : ByteArray := prog_3_method_4_code
def yX1_committedValue : MethodName := ⟨RX1, "committedValue", "(I)I"⟩
abbrev cX1_pendingPuts : ByteArray := prog_3_method_5_code
def yX1_pendingPuts : MethodName := ⟨RX1, "pendingPuts", "()I"⟩
def RX2 : String := "ShippedLog$Way"
def TX2 : u_T := fun k => match k with
  | 0 => ("ShippedLog$Way", "positions", "[I", true)
  | 1 => ("ShippedLog$Way", "bytes", "[I", true)
  | 2 => ("ShippedLog$Way", "oldest", "I", false)
  | _ => ("ShippedLog$Way", "count", "I", false)
def tyX2 : Nat → FieldType := fun k => match k with
  | 0 => .array .int
  | 1 => .array .int
  | 2 => .int
  | _ => .int
abbrev wsX20 : List Cond := u_ws RX2 TX2 4
theorem nmX2 : ∀ a, a < 4 → ∀ b, b < 4 → a ≠ b → (TX2 a).2.1 ≠ (TX2 b).2.1 := by decide +kernel
theorem tyX2_ok : ∀ k, k < 4 → parseFieldDescriptor (TX2 k).2.2.1 = some (tyX2 k) := by decide +kernel
abbrev cX2_init : ByteArray := prog_4_method_1_code
def yX2_init : MethodName := ⟨RX2, "<init>", "()V"⟩
abbrev cX2_isFull : ByteArray := prog_4_method_2_code
def yX2_isFull : MethodName := ⟨RX2, "isFull", "()Z"⟩
abbrev cX2_add : ByteArray := prog_4_method_3_code
def yX2_add : MethodName := ⟨RX2, "add", "(II)V"⟩
abbrev cX2_oldestPosition : ByteArray := prog_4_method_4_code
def yX2_oldestPosition : MethodName := ⟨RX2, "oldestPosition", "()I"⟩
abbrev cX2_oldestBytes : ByteArray := prog_4_method_5_code
def yX2_oldestBytes : MethodName := ⟨RX2, "oldestBytes", "()I"⟩
abbrev cX2_removeOldest : ByteArray := prog_4_method_6_code
def yX2_removeOldest : MethodName := ⟨RX2, "removeOldest", "()V"⟩
abbrev cX2_clear : ByteArray := prog_4_method_7_code
def yX2_clear : MethodName := ⟨RX2, "clear", "()V"⟩
abbrev cX2_slot : ByteArray := prog_4_method_8_code
def yX2_slot : MethodName := ⟨RX2, "slot", "(I)I"⟩
def RX3 : String := "ShippedLog"
def TX3 : u_T := fun k => match k with
  | 0 => ("ShippedLog", "nodes", "[LShippedLog$Node;", true)
  | 1 => ("ShippedLog", "ways", "[LShippedLog$Way;", true)
  | _ => ("ShippedLog", "greatestTimeline", "I", false)
def tyX3 : Nat → FieldType := fun k => match k with
  | 0 => .array (.object "ShippedLog$Node")
  | 1 => .array (.object "ShippedLog$Way")
  | _ => .int
abbrev wsX30 : List Cond := u_ws RX3 TX3 3
theorem nmX3 : ∀ a, a < 3 → ∀ b, b < 3 → a ≠ b → (TX3 a).2.1 ≠ (TX3 b).2.1 := by decide +kernel
theorem tyX3_ok : ∀ k, k < 3 → parseFieldDescriptor (TX3 k).2.2.1 = some (tyX3 k) := by decide +kernel
abbrev cX3_init : ByteArray := prog_1_method_1_code
def yX3_init : MethodName := ⟨RX3, "<init>", "()V"⟩
abbrev cX3_up : ByteArray := prog_1_method_2_code
def yX3_up : MethodName := ⟨RX3, "up", "(I)I"⟩
abbrev cX3_crash : ByteArray := prog_1_method_3_code
def yX3_crash : MethodName := ⟨RX3, "crash", "(II)I"⟩
abbrev cX3_promote : ByteArray := prog_1_method_4_code
def yX3_promote : MethodName := ⟨RX3, "promote", "(I)I"⟩
abbrev cX3_follow : ByteArray := prog_1_method_5_code
def yX3_follow : MethodName := ⟨RX3, "follow", "(II)V"⟩
abbrev cX3_rewind : ByteArray := prog_1_method_6_code
def yX3_rewind : MethodName := ⟨RX3, "rewind", "(II)I"⟩
abbrev cX3_put : ByteArray := prog_1_method_7_code
def yX3_put : MethodName := ⟨RX3, "put", "(III)I"⟩
abbrev cX3_commit : ByteArray := prog_1_method_8_code
def yX3_commit : MethodName := ⟨RX3, "commit", "(I)Z"⟩
abbrev cX3_standby : ByteArray := prog_1_method_9_code
def yX3_standby : MethodName := ⟨RX3, "standby", "(II)I"⟩
abbrev cX3_send : ByteArray := prog_1_method_10_code
def yX3_send : MethodName := ⟨RX3, "send", "(II)I"⟩
abbrev cX3_deliver : ByteArray := prog_1_method_11_code
def yX3_deliver : MethodName := ⟨RX3, "deliver", "(II)I"⟩
abbrev cX3_drop : ByteArray := prog_1_method_12_code
def yX3_drop : MethodName := ⟨RX3, "drop", "(II)I"⟩
abbrev cX3_apply : ByteArray := prog_1_method_13_code
def yX3_apply : MethodName := ⟨RX3, "apply", "(II)I"⟩
abbrev cX3_get : ByteArray := prog_1_method_14_code
def yX3_get : MethodName := ⟨RX3, "get", "(II)I"⟩
abbrev cX3_byteAt : ByteArray := prog_1_method_15_code
def yX3_byteAt : MethodName := ⟨RX3, "byteAt", "(III)I"⟩
abbrev cX3_node : ByteArray := prog_1_method_16_code
def yX3_node : MethodName := ⟨RX3, "node", "(II)I"⟩
abbrev cX3_link : ByteArray := prog_1_method_17_code
def yX3_link : MethodName := ⟨RX3, "link", "(III)I"⟩
abbrev cX3_isNode : ByteArray := prog_1_method_18_code
def yX3_isNode : MethodName := ⟨RX3, "isNode", "(I)Z"⟩
abbrev cX3_isKey : ByteArray := prog_1_method_19_code
def yX3_isKey : MethodName := ⟨RX3, "isKey", "(I)Z"⟩
abbrev cX3_nodeAt : ByteArray := prog_1_method_20_code
def yX3_nodeAt : MethodName := ⟨RX3, "nodeAt", "(I)LShippedLog$Node;"⟩
abbrev cX3_wayFrom : ByteArray := prog_1_method_21_code
def yX3_wayFrom : MethodName := ⟨RX3, "wayFrom", "(II)LShippedLog$Way;"⟩
abbrev cX3_isReplicaOf : ByteArray := prog_1_method_22_code
def yX3_isReplicaOf : MethodName := ⟨RX3, "isReplicaOf", "(II)Z"⟩
abbrev cX3_requirePrimary : ByteArray := prog_1_method_23_code
def yX3_requirePrimary : MethodName := ⟨RX3, "requirePrimary", "(LShippedLog$Node;)V"⟩
abbrev cX3_requireRoom : ByteArray := prog_1_method_24_code
def yX3_requireRoom : MethodName := ⟨RX3, "requireRoom", "(LShippedLog$Node;)V"⟩
abbrev cX3_requireLink : ByteArray := prog_1_method_25_code
def yX3_requireLink : MethodName := ⟨RX3, "requireLink", "(II)V"⟩
abbrev cX3_requireMessage : ByteArray := prog_1_method_26_code
def yX3_requireMessage : MethodName := ⟨RX3, "requireMessage", "(II)V"⟩
abbrev cX3_factOf : ByteArray := prog_1_method_27_code
def yX3_factOf : MethodName := ⟨RX3, "factOf", "(LShippedLog$Node;I)I"⟩
abbrev cX3_takeRole : ByteArray := prog_1_method_28_code
def yX3_takeRole : MethodName := ⟨RX3, "takeRole", "(III)V"⟩
abbrev cX3_changeRole : ByteArray := prog_1_method_29_code
def yX3_changeRole : MethodName := ⟨RX3, "changeRole", "(III)V"⟩
abbrev cX3_leaveStandby : ByteArray := prog_1_method_30_code
def yX3_leaveStandby : MethodName := ⟨RX3, "leaveStandby", "(I)V"⟩
abbrev cX3_releaseReplicas : ByteArray := prog_1_method_31_code
def yX3_releaseReplicas : MethodName := ⟨RX3, "releaseReplicas", "(I)V"⟩
abbrev cX3_loseMessages : ByteArray := prog_1_method_32_code
def yX3_loseMessages : MethodName := ⟨RX3, "loseMessages", "(I)V"⟩
abbrev cX3_safePosition : ByteArray := prog_1_method_33_code
def yX3_safePosition : MethodName := ⟨RX3, "safePosition", "(LShippedLog$Node;)I"⟩
abbrev cX3_deliverPosition : ByteArray := prog_1_method_34_code
def yX3_deliverPosition : MethodName := ⟨RX3, "deliverPosition", "(II)I"⟩
abbrev cX3_deliverRecords : ByteArray := prog_1_method_35_code
def yX3_deliverRecords : MethodName := ⟨RX3, "deliverRecords", "(II)I"⟩
def RX4 : String := "ShippedLogModel"
def TX4 : u_T := fun k => match k with
  | 0 => ("ShippedLogModel", "thrown", "I", false)
  | 1 => ("ShippedLogModel", "timelines", "I", false)
  | 2 => ("ShippedLogModel", "memory", "[I", true)
  | 3 => ("ShippedLogModel", "disk", "[I", true)
  | 4 => ("ShippedLogModel", "role", "[I", true)
  | 5 => ("ShippedLogModel", "end", "[I", true)
  | 6 => ("ShippedLogModel", "synced", "[I", true)
  | 7 => ("ShippedLogModel", "applied", "[I", true)
  | 8 => ("ShippedLogModel", "follows", "[I", true)
  | 9 => ("ShippedLogModel", "standby", "[I", true)
  | 10 => ("ShippedLogModel", "safe", "[I", true)
  | 11 => ("ShippedLogModel", "since", "[I", true)
  | 12 => ("ShippedLogModel", "known", "[I", true)
  | 13 => ("ShippedLogModel", "count", "[I", true)
  | 14 => ("ShippedLogModel", "position", "[I", true)
  | 15 => ("ShippedLogModel", "records", "[I", true)
  | 16 => ("ShippedLogModel", "bytes", "[I", true)
  | 17 => ("ShippedLogModel", "values", "[I", true)
  | 18 => ("ShippedLogModel", "puts", "[I", true)
  | 19 => ("ShippedLogModel", "isPut", "[Z", true)
  | _ => ("ShippedLogModel", "open", "I", false)
def tyX4 : Nat → FieldType := fun k => match k with
  | 0 => .int
  | 1 => .int
  | 2 => .array .int
  | 3 => .array .int
  | 4 => .array .int
  | 5 => .array .int
  | 6 => .array .int
  | 7 => .array .int
  | 8 => .array .int
  | 9 => .array .int
  | 10 => .array .int
  | 11 => .array .int
  | 12 => .array .int
  | 13 => .array .int
  | 14 => .array .int
  | 15 => .array .int
  | 16 => .array .int
  | 17 => .array .int
  | 18 => .array .int
  | 19 => .array .boolean
  | _ => .int
abbrev wsX40 : List Cond := u_ws RX4 TX4 21
theorem nmX4 : ∀ a, a < 21 → ∀ b, b < 21 → a ≠ b → (TX4 a).2.1 ≠ (TX4 b).2.1 := by decide +kernel
theorem tyX4_ok : ∀ k, k < 21 → parseFieldDescriptor (TX4 k).2.2.1 = some (tyX4 k) := by decide +kernel
abbrev cX4_init : ByteArray := prog_6_method_1_code
def yX4_init : MethodName := ⟨RX4, "<init>", "()V"⟩
abbrev cX4_thrown : ByteArray := prog_6_method_2_code
def yX4_thrown : MethodName := ⟨RX4, "thrown", "()I"⟩
abbrev cX4_fail : ByteArray := prog_6_method_3_code
def yX4_fail : MethodName := ⟨RX4, "fail", "(I)I"⟩
abbrev cX4_within : ByteArray := prog_6_method_4_code
def yX4_within : MethodName := ⟨RX4, "within", "(III)Z"⟩
abbrev cX4_isNode : ByteArray := prog_6_method_5_code
def yX4_isNode : MethodName := ⟨RX4, "isNode", "(I)Z"⟩
abbrev cX4_at : ByteArray := prog_6_method_6_code
def yX4_at : MethodName := ⟨RX4, "at", "(II)I"⟩
abbrev cX4_wordAt : ByteArray := prog_6_method_7_code
def yX4_wordAt : MethodName := ⟨RX4, "wordAt", "(II)I"⟩
abbrev cX4_sumAt : ByteArray := prog_6_method_8_code
def yX4_sumAt : MethodName := ⟨RX4, "sumAt", "(II)I"⟩
abbrev cX4_kindAt : ByteArray := prog_6_method_9_code
def yX4_kindAt : MethodName := ⟨RX4, "kindAt", "(II)I"⟩
abbrev cX4_timelineAt : ByteArray := prog_6_method_10_code
def yX4_timelineAt : MethodName := ⟨RX4, "timelineAt", "(II)I"⟩
abbrev cX4_isGood : ByteArray := prog_6_method_11_code
def yX4_isGood : MethodName := ⟨RX4, "isGood", "(II)Z"⟩
abbrev cX4_write : ByteArray := prog_6_method_12_code
def yX4_write : MethodName := ⟨RX4, "write", "(IIII)V"⟩
abbrev cX4_putWord : ByteArray := prog_6_method_13_code
def yX4_putWord : MethodName := ⟨RX4, "putWord", "(III)V"⟩
abbrev cX4_sync : ByteArray := prog_6_method_14_code
def yX4_sync : MethodName := ⟨RX4, "sync", "(I)V"⟩
abbrev cX4_forgetMessages : ByteArray := prog_6_method_15_code
def yX4_forgetMessages : MethodName := ⟨RX4, "forgetMessages", "(I)V"⟩
abbrev cX4_leave : ByteArray := prog_6_method_16_code
def yX4_leave : MethodName := ⟨RX4, "leave", "(I)V"⟩
abbrev cX4_up : ByteArray := prog_6_method_17_code
def yX4_up : MethodName := ⟨RX4, "up", "(I)I"⟩
abbrev cX4_crash : ByteArray := prog_6_method_18_code
def yX4_crash : MethodName := ⟨RX4, "crash", "(II)I"⟩
abbrev cX4_isFull : ByteArray := prog_6_method_19_code
def yX4_isFull : MethodName := ⟨RX4, "isFull", "(I)Z"⟩
abbrev cX4_promote : ByteArray := prog_6_method_20_code
def yX4_promote : MethodName := ⟨RX4, "promote", "(I)I"⟩
abbrev cX4_common : ByteArray := prog_6_method_21_code
def yX4_common : MethodName := ⟨RX4, "common", "(II)I"⟩
abbrev cX4_attach : ByteArray := prog_6_method_22_code
def yX4_attach : MethodName := ⟨RX4, "attach", "(II)V"⟩
abbrev cX4_follow : ByteArray := prog_6_method_23_code
def yX4_follow : MethodName := ⟨RX4, "follow", "(II)V"⟩
abbrev cX4_rewind : ByteArray := prog_6_method_24_code
def yX4_rewind : MethodName := ⟨RX4, "rewind", "(II)I"⟩
abbrev cX4_isPrimary : ByteArray := prog_6_method_25_code
def yX4_isPrimary : MethodName := ⟨RX4, "isPrimary", "(I)Z"⟩
abbrev cX4_put : ByteArray := prog_6_method_26_code
def yX4_put : MethodName := ⟨RX4, "put", "(III)I"⟩
abbrev cX4_count : ByteArray := prog_6_method_27_code
def yX4_count : MethodName := ⟨RX4, "count", "(I)V"⟩
abbrev cX4_commit : ByteArray := prog_6_method_28_code
def yX4_commit : MethodName := ⟨RX4, "commit", "(I)Z"⟩
abbrev cX4_isReplica : ByteArray := prog_6_method_29_code
def yX4_isReplica : MethodName := ⟨RX4, "isReplica", "(II)Z"⟩
abbrev cX4_standby : ByteArray := prog_6_method_30_code
def yX4_standby : MethodName := ⟨RX4, "standby", "(II)I"⟩
abbrev cX4_isLink : ByteArray := prog_6_method_31_code
def yX4_isLink : MethodName := ⟨RX4, "isLink", "(II)Z"⟩
abbrev cX4_slot : ByteArray := prog_6_method_32_code
def yX4_slot : MethodName := ⟨RX4, "slot", "(III)I"⟩
abbrev cX4_add : ByteArray := prog_6_method_33_code
def yX4_add : MethodName := ⟨RX4, "add", "(IIII)V"⟩
abbrev cX4_take : ByteArray := prog_6_method_34_code
def yX4_take : MethodName := ⟨RX4, "take", "(II)V"⟩
abbrev cX4_send : ByteArray := prog_6_method_35_code
def yX4_send : MethodName := ⟨RX4, "send", "(II)I"⟩
abbrev cX4_deliver : ByteArray := prog_6_method_36_code
def yX4_deliver : MethodName := ⟨RX4, "deliver", "(II)I"⟩
abbrev cX4_drop : ByteArray := prog_6_method_37_code
def yX4_drop : MethodName := ⟨RX4, "drop", "(II)I"⟩
abbrev cX4_apply : ByteArray := prog_6_method_38_code
def yX4_apply : MethodName := ⟨RX4, "apply", "(II)I"⟩
abbrev cX4_play : ByteArray := prog_6_method_39_code
def yX4_play : MethodName := ⟨RX4, "play", "(I)V"⟩
abbrev cX4_get : ByteArray := prog_6_method_40_code
def yX4_get : MethodName := ⟨RX4, "get", "(II)I"⟩
abbrev cX4_byteAt : ByteArray := prog_6_method_41_code
def yX4_byteAt : MethodName := ⟨RX4, "byteAt", "(III)I"⟩
abbrev cX4_node : ByteArray := prog_6_method_42_code
def yX4_node : MethodName := ⟨RX4, "node", "(II)I"⟩
abbrev cX4_link : ByteArray := prog_6_method_43_code
def yX4_link : MethodName := ⟨RX4, "link", "(III)I"⟩
def RJx145de : String := "java/io/Serializable"
def TJx145de : u_T := fun k => match k with
  | _ => ("", "", "", false)
def tyJx145de : Nat → FieldType := fun k => match k with
  | _ => .int
abbrev wsJx145de0 : List Cond := u_ws RJx145de TJx145de 0
theorem nmJx145de : ∀ a, a < 0 → ∀ b, b < 0 → a ≠ b → (TJx145de a).2.1 ≠ (TJx145de b).2.1 := by decide +kernel
theorem tyJx145de_ok : ∀ k, k < 0 → parseFieldDescriptor (TJx145de k).2.2.1 = some (tyJx145de k) := by decide +kernel
def RJ9 : String := "java/lang/Math"
def TJ9 : u_T := fun k => match k with
  | _ => ("", "", "", false)
def tyJ9 : Nat → FieldType := fun k => match k with
  | _ => .int
abbrev wsJ90 : List Cond := u_ws RJ9 TJ9 0
theorem nmJ9 : ∀ a, a < 0 → ∀ b, b < 0 → a ≠ b → (TJ9 a).2.1 ≠ (TJ9 b).2.1 := by decide +kernel
theorem tyJ9_ok : ∀ k, k < 0 → parseFieldDescriptor (TJ9 k).2.2.1 = some (tyJ9 k) := by decide +kernel
abbrev cJ9_floorMod_7cf53 : ByteArray := prog_12_method_50_code
def yJ9_floorMod_7cf53 : MethodName := ⟨RJ9, "floorMod", "(II)I"⟩
abbrev cJ9_max_7cf53 : ByteArray := prog_12_method_65_code
def yJ9_max_7cf53 : MethodName := ⟨RJ9, "max", "(II)I"⟩
abbrev cJ9_min_7cf53 : ByteArray := prog_12_method_69_code
def yJ9_min_7cf53 : MethodName := ⟨RJ9, "min", "(II)I"⟩
def RJ0 : String := "java/lang/String"
def TJ0 : u_T := fun k => match k with
  | _ => ("", "", "", false)
def tyJ0 : Nat → FieldType := fun k => match k with
  | _ => .int
abbrev wsJ00 : List Cond := u_ws RJ0 TJ0 0
theorem nmJ0 : ∀ a, a < 0 → ∀ b, b < 0 → a ≠ b → (TJ0 a).2.1 ≠ (TJ0 b).2.1 := by decide +kernel
theorem tyJ0_ok : ∀ k, k < 0 → parseFieldDescriptor (TJ0 k).2.2.1 = some (tyJ0 k) := by decide +kernel
def RJ10 : String := "java/lang/System"
def TJ10 : u_T := fun k => match k with
  | _ => ("", "", "", false)
def tyJ10 : Nat → FieldType := fun k => match k with
  | _ => .int
abbrev wsJ100 : List Cond := u_ws RJ10 TJ10 0
theorem nmJ10 : ∀ a, a < 0 → ∀ b, b < 0 → a ≠ b → (TJ10 a).2.1 ≠ (TJ10 b).2.1 := by decide +kernel
theorem tyJ10_ok : ∀ k, k < 0 → parseFieldDescriptor (TJ10 k).2.2.1 = some (tyJ10 k) := by decide +kernel
def RL : String := "ShippedLogLaw"
abbrev cL_up : ByteArray := method_3_code
def yL_up : MethodName := ⟨RL, "up", "(LShippedLog;I[J)I"⟩
abbrev cL_crash : ByteArray := method_4_code
def yL_crash : MethodName := ⟨RL, "crash", "(LShippedLog;II[J)I"⟩
abbrev cL_promote : ByteArray := method_5_code
def yL_promote : MethodName := ⟨RL, "promote", "(LShippedLog;I[J)I"⟩
abbrev cL_follow : ByteArray := method_6_code
def yL_follow : MethodName := ⟨RL, "follow", "(LShippedLog;II)I"⟩
abbrev cL_rewind : ByteArray := method_7_code
def yL_rewind : MethodName := ⟨RL, "rewind", "(LShippedLog;II[J)I"⟩
abbrev cL_put : ByteArray := method_8_code
def yL_put : MethodName := ⟨RL, "put", "(LShippedLog;III[J)I"⟩
abbrev cL_commit : ByteArray := method_9_code
def yL_commit : MethodName := ⟨RL, "commit", "(LShippedLog;I[J)I"⟩
abbrev cL_standby : ByteArray := method_10_code
def yL_standby : MethodName := ⟨RL, "standby", "(LShippedLog;II[J)I"⟩
abbrev cL_send : ByteArray := method_11_code
def yL_send : MethodName := ⟨RL, "send", "(LShippedLog;II[J)I"⟩
abbrev cL_deliver : ByteArray := method_12_code
def yL_deliver : MethodName := ⟨RL, "deliver", "(LShippedLog;II[J)I"⟩
abbrev cL_drop : ByteArray := method_13_code
def yL_drop : MethodName := ⟨RL, "drop", "(LShippedLog;II[J)I"⟩
abbrev cL_apply : ByteArray := method_14_code
def yL_apply : MethodName := ⟨RL, "apply", "(LShippedLog;II[J)I"⟩
abbrev cL_get : ByteArray := method_15_code
def yL_get : MethodName := ⟨RL, "get", "(LShippedLog;II[J)I"⟩
abbrev cL_byteAt : ByteArray := method_16_code
def yL_byteAt : MethodName := ⟨RL, "byteAt", "(LShippedLog;III[J)I"⟩
abbrev cL_node : ByteArray := method_17_code
def yL_node : MethodName := ⟨RL, "node", "(LShippedLog;II[J)I"⟩
abbrev cL_link : ByteArray := method_18_code
def yL_link : MethodName := ⟨RL, "link", "(LShippedLog;III[J)I"⟩
abbrev cL_law : ByteArray := code
def yL_law : MethodName := ⟨RL, "law", "([I)Z"⟩
def wsX0_init : List Cond := .code yX0_init cX0_init 1 none :: ([.methodLink RX0 3 objectInit, .instanceMethod objectInit, .code objectInit ⟨#[0xb1]⟩ 1 none, .arrayClass .byte, .fieldLink RX0 9 "ShippedLog$Log" "memory" "[B", .fieldLink RX0 15 "ShippedLog$Log" "disk" "[B", .fieldLink RX0 18 "ShippedLog$Log" "end" "I", .fieldLink RX0 22 "ShippedLog$Log" "synced" "I"] ++ wsX00)
def wsX0_isFull : List Cond := .code yX0_isFull cX0_isFull 1 (some .boolean) :: ([.fieldLink RX0 18 "ShippedLog$Log" "end" "I"] ++ wsX00)
def wsX0_byteOf : List Cond := .code yX0_byteOf cX0_byteOf 2 (some .int) :: ([.fieldLink RX0 9 "ShippedLog$Log" "memory" "[B"] ++ wsX00)
def wsX0_kindAt : List Cond := .code yX0_kindAt cX0_kindAt 2 (some .int) :: ([.methodLink RX0 25 yX0_byteOf, .instanceMethod yX0_byteOf, .selects RX0 yX0_byteOf yX0_byteOf, .initialized RX0, .code yX0_byteOf cX0_byteOf 2 (some .int), .fieldLink RX0 9 "ShippedLog$Log" "memory" "[B"] ++ wsX00)
def wsX0_timelineAt : List Cond := .code yX0_timelineAt cX0_timelineAt 2 (some .int) :: ([.methodLink RX0 25 yX0_byteOf, .instanceMethod yX0_byteOf, .selects RX0 yX0_byteOf yX0_byteOf, .initialized RX0, .code yX0_byteOf cX0_byteOf 2 (some .int), .fieldLink RX0 9 "ShippedLog$Log" "memory" "[B"] ++ wsX00)
def wsX0_keyAt : List Cond := .code yX0_keyAt cX0_keyAt 2 (some .int) :: ([.methodLink RX0 25 yX0_byteOf, .instanceMethod yX0_byteOf, .selects RX0 yX0_byteOf yX0_byteOf, .initialized RX0, .code yX0_byteOf cX0_byteOf 2 (some .int), .fieldLink RX0 9 "ShippedLog$Log" "memory" "[B"] ++ wsX00)
def wsX0_intAt : List Cond := .code yX0_intAt cX0_intAt 2 (some .int) :: ([.methodLink RX0 25 yX0_byteOf, .instanceMethod yX0_byteOf, .selects RX0 yX0_byteOf yX0_byteOf, .initialized RX0, .code yX0_byteOf cX0_byteOf 2 (some .int), .fieldLink RX0 9 "ShippedLog$Log" "memory" "[B"] ++ wsX00)
def wsX0_valueAt : List Cond := .code yX0_valueAt cX0_valueAt 2 (some .int) :: ([.methodLink RX0 29 yX0_intAt, .instanceMethod yX0_intAt, .selects RX0 yX0_intAt yX0_intAt, .initialized RX0, .code yX0_intAt cX0_intAt 2 (some .int), .methodLink RX0 25 yX0_byteOf, .instanceMethod yX0_byteOf, .selects RX0 yX0_byteOf yX0_byteOf, .code yX0_byteOf cX0_byteOf 2 (some .int), .fieldLink RX0 9 "ShippedLog$Log" "memory" "[B"] ++ wsX00)
def wsX0_lastTimeline : List Cond := .code yX0_lastTimeline cX0_lastTimeline 1 (some .int) :: ([.fieldLink RX0 18 "ShippedLog$Log" "end" "I", .methodLink RX0 32 yX0_timelineAt, .instanceMethod yX0_timelineAt, .selects RX0 yX0_timelineAt yX0_timelineAt, .initialized RX0, .code yX0_timelineAt cX0_timelineAt 2 (some .int), .methodLink RX0 25 yX0_byteOf, .instanceMethod yX0_byteOf, .selects RX0 yX0_byteOf yX0_byteOf, .code yX0_byteOf cX0_byteOf 2 (some .int), .fieldLink RX0 9 "ShippedLog$Log" "memory" "[B"] ++ wsX00)
def wsX0_setByte : List Cond := .code yX0_setByte cX0_setByte 3 none :: ([.fieldLink RX0 9 "ShippedLog$Log" "memory" "[B"] ++ wsX00)
def wsX0_setInt : List Cond := .code yX0_setInt cX0_setInt 3 none :: ([.methodLink RX0 39 yX0_setByte, .instanceMethod yX0_setByte, .selects RX0 yX0_setByte yX0_setByte, .initialized RX0, .code yX0_setByte cX0_setByte 3 none, .fieldLink RX0 9 "ShippedLog$Log" "memory" "[B"] ++ wsX00)
def wsX0_checksumAt : List Cond := .code yX0_checksumAt cX0_checksumAt 5 (some .int) :: ([.constant RX0 90 (-306674912), .methodLink RX0 25 yX0_byteOf, .instanceMethod yX0_byteOf, .selects RX0 yX0_byteOf yX0_byteOf, .initialized RX0, .code yX0_byteOf cX0_byteOf 2 (some .int), .fieldLink RX0 9 "ShippedLog$Log" "memory" "[B"] ++ wsX00)
def wsX0_append : List Cond := .code yX0_append cX0_append 5 none :: ([.fieldLink RX0 18 "ShippedLog$Log" "end" "I", .methodLink RX0 35 yX0_isFull, .instanceMethod yX0_isFull, .selects RX0 yX0_isFull yX0_isFull, .initialized RX0, .code yX0_isFull cX0_isFull 1 (some .boolean), .methodLink RX0 39 yX0_setByte, .instanceMethod yX0_setByte, .selects RX0 yX0_setByte yX0_setByte, .code yX0_setByte cX0_setByte 3 none, .fieldLink RX0 9 "ShippedLog$Log" "memory" "[B", .methodLink RX0 43 yX0_setInt, .instanceMethod yX0_setInt, .selects RX0 yX0_setInt yX0_setInt, .code yX0_setInt cX0_setInt 3 none, .methodLink RX0 46 yX0_checksumAt, .instanceMethod yX0_checksumAt, .selects RX0 yX0_checksumAt yX0_checksumAt, .code yX0_checksumAt cX0_checksumAt 5 (some .int), .constant RX0 90 (-306674912), .methodLink RX0 25 yX0_byteOf, .instanceMethod yX0_byteOf, .selects RX0 yX0_byteOf yX0_byteOf, .code yX0_byteOf cX0_byteOf 2 (some .int)] ++ wsX00)
def wsX0_copy : List Cond := .code yX0_copy cX0_copy 4 none :: ([.methodLink RX0 81 arraycopyName, .native arraycopyName, .static arraycopyName, .initialized "java/lang/System"])
def wsX0_saveFirst : List Cond := .code yX0_saveFirst cX0_saveFirst 3 (some .int) :: ([.fieldLink RX0 18 "ShippedLog$Log" "end" "I", .fieldLink RX0 22 "ShippedLog$Log" "synced" "I", .methodLink RX0 52 Lib.Math.min.name, .static Lib.Math.min.name, .initialized "java/lang/Math", .code Lib.Math.min.name Lib.Math.min.code 2 (some .int), .fieldLink RX0 9 "ShippedLog$Log" "memory" "[B", .fieldLink RX0 15 "ShippedLog$Log" "disk" "[B", .methodLink RX0 58 yX0_copy, .static yX0_copy, .initialized RX0, .code yX0_copy cX0_copy 4 none, .methodLink RX0 81 arraycopyName, .native arraycopyName, .static arraycopyName, .initialized "java/lang/System"] ++ wsX00)
def wsX0_sync : List Cond := .code yX0_sync cX0_sync 1 none :: ([.fieldLink RX0 18 "ShippedLog$Log" "end" "I", .fieldLink RX0 22 "ShippedLog$Log" "synced" "I", .methodLink RX0 49 yX0_saveFirst, .instanceMethod yX0_saveFirst, .selects RX0 yX0_saveFirst yX0_saveFirst, .initialized RX0, .code yX0_saveFirst cX0_saveFirst 3 (some .int), .methodLink RX0 52 Lib.Math.min.name, .static Lib.Math.min.name, .initialized "java/lang/Math", .code Lib.Math.min.name Lib.Math.min.code 2 (some .int), .fieldLink RX0 9 "ShippedLog$Log" "memory" "[B", .fieldLink RX0 15 "ShippedLog$Log" "disk" "[B", .methodLink RX0 58 yX0_copy, .static yX0_copy, .code yX0_copy cX0_copy 4 none, .methodLink RX0 81 arraycopyName, .native arraycopyName, .static arraycopyName, .initialized "java/lang/System"] ++ wsX00)
def wsX0_hasGoodRecord : List Cond := .code yX0_hasGoodRecord cX0_hasGoodRecord 7 (some .boolean) :: ([.methodLink RX0 87 yX0_kindAt, .instanceMethod yX0_kindAt, .selects RX0 yX0_kindAt yX0_kindAt, .initialized RX0, .code yX0_kindAt cX0_kindAt 2 (some .int), .methodLink RX0 25 yX0_byteOf, .instanceMethod yX0_byteOf, .selects RX0 yX0_byteOf yX0_byteOf, .code yX0_byteOf cX0_byteOf 2 (some .int), .fieldLink RX0 9 "ShippedLog$Log" "memory" "[B", .methodLink RX0 32 yX0_timelineAt, .instanceMethod yX0_timelineAt, .selects RX0 yX0_timelineAt yX0_timelineAt, .code yX0_timelineAt cX0_timelineAt 2 (some .int), .methodLink RX0 29 yX0_intAt, .instanceMethod yX0_intAt, .selects RX0 yX0_intAt yX0_intAt, .code yX0_intAt cX0_intAt 2 (some .int), .methodLink RX0 46 yX0_checksumAt, .instanceMethod yX0_checksumAt, .selects RX0 yX0_checksumAt yX0_checksumAt, .code yX0_checksumAt cX0_checksumAt 5 (some .int), .constant RX0 90 (-306674912)] ++ wsX00)
def wsX0_loadFromDisk_r1 : List Cond := [Cond.fieldLink RX0 15 "ShippedLog$Log" "disk" "[B", Cond.fieldLink RX0 9 "ShippedLog$Log" "memory" "[B", Cond.fieldLink RX0 18 "ShippedLog$Log" "end" "I", Cond.fieldLink RX0 22 "ShippedLog$Log" "synced" "I", Cond.methodLink RX0 58 yX0_copy, Cond.static yX0_copy, Cond.initialized RX0, Cond.code yX0_copy cX0_copy 4 none, Cond.methodLink RX0 81 arraycopyName, Cond.native arraycopyName, Cond.static arraycopyName, Cond.initialized "java/lang/System", Cond.methodLink RX0 62 yX0_lastTimeline, Cond.instanceMethod yX0_lastTimeline, Cond.selects RX0 yX0_lastTimeline yX0_lastTimeline, Cond.code yX0_lastTimeline cX0_lastTimeline 1 (some .int), Cond.methodLink RX0 32 yX0_timelineAt, Cond.instanceMethod yX0_timelineAt, Cond.selects RX0 yX0_timelineAt yX0_timelineAt, Cond.code yX0_timelineAt cX0_timelineAt 2 (some .int), Cond.methodLink RX0 25 yX0_byteOf, Cond.instanceMethod yX0_byteOf, Cond.selects RX0 yX0_byteOf yX0_byteOf, Cond.code yX0_byteOf cX0_byteOf 2 (some .int)]
def wsX0_loadFromDisk_r2 : List Cond := [Cond.methodLink RX0 66 yX0_hasGoodRecord, Cond.instanceMethod yX0_hasGoodRecord, Cond.selects RX0 yX0_hasGoodRecord yX0_hasGoodRecord, Cond.code yX0_hasGoodRecord cX0_hasGoodRecord 7 (some .boolean), Cond.methodLink RX0 87 yX0_kindAt, Cond.instanceMethod yX0_kindAt, Cond.selects RX0 yX0_kindAt yX0_kindAt, Cond.code yX0_kindAt cX0_kindAt 2 (some .int), Cond.methodLink RX0 29 yX0_intAt, Cond.instanceMethod yX0_intAt, Cond.selects RX0 yX0_intAt yX0_intAt, Cond.code yX0_intAt cX0_intAt 2 (some .int), Cond.methodLink RX0 46 yX0_checksumAt, Cond.instanceMethod yX0_checksumAt, Cond.selects RX0 yX0_checksumAt yX0_checksumAt, Cond.code yX0_checksumAt cX0_checksumAt 5 (some .int), Cond.constant RX0 90 (-306674912)]
def wsX0_loadFromDisk : List Cond := .code yX0_loadFromDisk cX0_loadFromDisk 1 none :: ((wsX0_loadFromDisk_r1 ++ wsX0_loadFromDisk_r2) ++ wsX00)
def wsX0_receive : List Cond := .code yX0_receive cX0_receive 4 none :: ([.fieldLink RX0 18 "ShippedLog$Log" "end" "I", .fieldLink RX0 9 "ShippedLog$Log" "memory" "[B", .methodLink RX0 58 yX0_copy, .static yX0_copy, .initialized RX0, .code yX0_copy cX0_copy 4 none, .methodLink RX0 81 arraycopyName, .native arraycopyName, .static arraycopyName, .initialized "java/lang/System", .methodLink RX0 70 yX0_sync, .instanceMethod yX0_sync, .selects RX0 yX0_sync yX0_sync, .code yX0_sync cX0_sync 1 none, .fieldLink RX0 22 "ShippedLog$Log" "synced" "I", .methodLink RX0 49 yX0_saveFirst, .instanceMethod yX0_saveFirst, .selects RX0 yX0_saveFirst yX0_saveFirst, .code yX0_saveFirst cX0_saveFirst 3 (some .int), .methodLink RX0 52 Lib.Math.min.name, .static Lib.Math.min.name, .initialized "java/lang/Math", .code Lib.Math.min.name Lib.Math.min.code 2 (some .int), .fieldLink RX0 15 "ShippedLog$Log" "disk" "[B"] ++ wsX00)
def wsX0_hasRecordOf : List Cond := .code yX0_hasRecordOf cX0_hasRecordOf 4 (some .boolean) :: ([.methodLink RX0 25 yX0_byteOf, .instanceMethod yX0_byteOf, .selects RX0 yX0_byteOf yX0_byteOf, .initialized RX0, .code yX0_byteOf cX0_byteOf 2 (some .int), .fieldLink RX0 9 "ShippedLog$Log" "memory" "[B"] ++ wsX00)
def wsX0_sharedWith : List Cond := .code yX0_sharedWith cX0_sharedWith 4 (some .int) :: ([.fieldLink RX0 18 "ShippedLog$Log" "end" "I", .methodLink RX0 52 Lib.Math.min.name, .static Lib.Math.min.name, .initialized "java/lang/Math", .code Lib.Math.min.name Lib.Math.min.code 2 (some .int), .methodLink RX0 77 yX0_hasRecordOf, .instanceMethod yX0_hasRecordOf, .selects RX0 yX0_hasRecordOf yX0_hasRecordOf, .initialized RX0, .code yX0_hasRecordOf cX0_hasRecordOf 4 (some .boolean), .methodLink RX0 25 yX0_byteOf, .instanceMethod yX0_byteOf, .selects RX0 yX0_byteOf yX0_byteOf, .code yX0_byteOf cX0_byteOf 2 (some .int), .fieldLink RX0 9 "ShippedLog$Log" "memory" "[B"] ++ wsX00)
def wsX0_isBeginningOf : List Cond := .code yX0_isBeginningOf cX0_isBeginningOf 2 (some .boolean) :: ([.fieldLink RX0 18 "ShippedLog$Log" "end" "I", .methodLink RX0 73 yX0_sharedWith, .instanceMethod yX0_sharedWith, .selects RX0 yX0_sharedWith yX0_sharedWith, .initialized RX0, .code yX0_sharedWith cX0_sharedWith 4 (some .int), .methodLink RX0 52 Lib.Math.min.name, .static Lib.Math.min.name, .initialized "java/lang/Math", .code Lib.Math.min.name Lib.Math.min.code 2 (some .int), .methodLink RX0 77 yX0_hasRecordOf, .instanceMethod yX0_hasRecordOf, .selects RX0 yX0_hasRecordOf yX0_hasRecordOf, .code yX0_hasRecordOf cX0_hasRecordOf 4 (some .boolean), .methodLink RX0 25 yX0_byteOf, .instanceMethod yX0_byteOf, .selects RX0 yX0_byteOf yX0_byteOf, .code yX0_byteOf cX0_byteOf 2 (some .int), .fieldLink RX0 9 "ShippedLog$Log" "memory" "[B"] ++ wsX00)
def wsX0_cutTo : List Cond := .code yX0_cutTo cX0_cutTo 3 none :: ([.fieldLink RX0 18 "ShippedLog$Log" "end" "I", .fieldLink RX0 22 "ShippedLog$Log" "synced" "I", .fieldLink RX0 9 "ShippedLog$Log" "memory" "[B", .fieldLink RX0 15 "ShippedLog$Log" "disk" "[B", .methodLink RX0 39 yX0_setByte, .instanceMethod yX0_setByte, .selects RX0 yX0_setByte yX0_setByte, .initialized RX0, .code yX0_setByte cX0_setByte 3 none, .methodLink RX0 58 yX0_copy, .static yX0_copy, .code yX0_copy cX0_copy 4 none, .methodLink RX0 81 arraycopyName, .native arraycopyName, .static arraycopyName, .initialized "java/lang/System"] ++ wsX00)
def wsX1_init : List Cond := .code yX1_init cX1_init 1 none :: ([.methodLink RX1 3 objectInit, .instanceMethod objectInit, .code objectInit ⟨#[0xb1]⟩ 1 none, .classLink RX1 9 RX0, .instantiable RX0 4, .initialized RX0, .fieldLink RX1 12 "ShippedLog$Node" "log" "LShippedLog$Log;", .fieldLink RX1 18 "ShippedLog$Node" "role" "I", .fieldLink RX1 22 "ShippedLog$Node" "applied" "I", .fieldLink RX1 25 "ShippedLog$Node" "follows" "I", .fieldLink RX1 28 "ShippedLog$Node" "known" "I", .fieldLink RX1 31 "ShippedLog$Node" "standby" "I", .fieldLink RX1 34 "ShippedLog$Node" "acknowledged" "I", .fieldLink RX1 37 "ShippedLog$Node" "promotedAt" "I", .instanceMethod yX0_init, .code yX0_init cX0_init 1 none, .methodLink RX0 3 objectInit, .arrayClass .byte, .fieldLink RX0 9 "ShippedLog$Log" "memory" "[B", .fieldLink RX0 15 "ShippedLog$Log" "disk" "[B", .fieldLink RX0 18 "ShippedLog$Log" "end" "I", .fieldLink RX0 22 "ShippedLog$Log" "synced" "I"] ++ wsX00 ++ wsX10)
def wsX1_write_r1 : List Cond := [Cond.fieldLink RX1 12 "ShippedLog$Node" "log" "LShippedLog$Log;", Cond.fieldLink RX1 44 "ShippedLog$Log" "end" "I", Cond.fieldLink RX1 22 "ShippedLog$Node" "applied" "I", Cond.methodLink RX1 40 yX0_append, Cond.instanceMethod yX0_append, Cond.selects RX0 yX0_append yX0_append, Cond.initialized RX0, Cond.code yX0_append cX0_append 5 none, Cond.fieldLink RX0 18 "ShippedLog$Log" "end" "I", Cond.methodLink RX0 35 yX0_isFull, Cond.instanceMethod yX0_isFull, Cond.selects RX0 yX0_isFull yX0_isFull, Cond.code yX0_isFull cX0_isFull 1 (some .boolean), Cond.methodLink RX0 39 yX0_setByte, Cond.instanceMethod yX0_setByte, Cond.selects RX0 yX0_setByte yX0_setByte, Cond.code yX0_setByte cX0_setByte 3 none, Cond.fieldLink RX0 9 "ShippedLog$Log" "memory" "[B", Cond.methodLink RX0 43 yX0_setInt, Cond.instanceMethod yX0_setInt, Cond.selects RX0 yX0_setInt yX0_setInt, Cond.code yX0_setInt cX0_setInt 3 none, Cond.methodLink RX0 46 yX0_checksumAt, Cond.instanceMethod yX0_checksumAt]
def wsX1_write_r2 : List Cond := [Cond.selects RX0 yX0_checksumAt yX0_checksumAt, Cond.code yX0_checksumAt cX0_checksumAt 5 (some .int), Cond.constant RX0 90 (-306674912), Cond.methodLink RX0 25 yX0_byteOf, Cond.instanceMethod yX0_byteOf, Cond.selects RX0 yX0_byteOf yX0_byteOf, Cond.code yX0_byteOf cX0_byteOf 2 (some .int)]
def wsX1_write : List Cond := .code yX1_write cX1_write 5 none :: ((wsX1_write_r1 ++ wsX1_write_r2) ++ wsX10 ++ wsX00)
def wsX1_acknowledgeUpTo : List Cond := .code yX1_acknowledgeUpTo cX1_acknowledgeUpTo 4 none :: ([.fieldLink RX1 12 "ShippedLog$Node" "log" "LShippedLog$Log;", .fieldLink RX1 44 "ShippedLog$Log" "end" "I", .methodLink RX1 47 Lib.Math.min.name, .static Lib.Math.min.name, .initialized "java/lang/Math", .code Lib.Math.min.name Lib.Math.min.code 2 (some .int), .fieldLink RX1 37 "ShippedLog$Node" "promotedAt" "I", .fieldLink RX1 34 "ShippedLog$Node" "acknowledged" "I", .methodLink RX1 57 Lib.Math.max.name, .static Lib.Math.max.name, .code Lib.Math.max.name Lib.Math.max.code 2 (some .int), .methodLink RX1 53 yX0_kindAt, .instanceMethod yX0_kindAt, .selects RX0 yX0_kindAt yX0_kindAt, .initialized RX0, .code yX0_kindAt cX0_kindAt 2 (some .int), .methodLink RX0 25 yX0_byteOf, .instanceMethod yX0_byteOf, .selects RX0 yX0_byteOf yX0_byteOf, .code yX0_byteOf cX0_byteOf 2 (some .int), .fieldLink RX0 9 "ShippedLog$Log" "memory" "[B"] ++ wsX10 ++ wsX00)
def wsX1_committedValue : List Cond := .code yX1_committedValue cX1_committedValue 6 (some .int) :: ([.fieldLink RX1 22 "ShippedLog$Node" "applied" "I", .fieldLink RX1 12 "ShippedLog$Node" "log" "LShippedLog$Log;", .methodLink RX1 53 yX0_kindAt, .instanceMethod yX0_kindAt, .selects RX0 yX0_kindAt yX0_kindAt, .initialized RX0, .code yX0_kindAt cX0_kindAt 2 (some .int), .methodLink RX0 25 yX0_byteOf, .instanceMethod yX0_byteOf, .selects RX0 yX0_byteOf yX0_byteOf, .code yX0_byteOf cX0_byteOf 2 (some .int), .fieldLink RX0 9 "ShippedLog$Log" "memory" "[B", .methodLink RX1 60 yX0_keyAt, .instanceMethod yX0_keyAt, .selects RX0 yX0_keyAt yX0_keyAt, .code yX0_keyAt cX0_keyAt 2 (some .int), .methodLink RX1 63 yX0_valueAt, .instanceMethod yX0_valueAt, .selects RX0 yX0_valueAt yX0_valueAt, .code yX0_valueAt cX0_valueAt 2 (some .int), .methodLink RX0 29 yX0_intAt, .instanceMethod yX0_intAt, .selects RX0 yX0_intAt yX0_intAt, .code yX0_intAt cX0_intAt 2 (some .int)] ++ wsX10 ++ wsX00)
def wsX1_pendingPuts : List Cond := .code yX1_pendingPuts cX1_pendingPuts 3 (some .int) :: ([.fieldLink RX1 22 "ShippedLog$Node" "applied" "I", .fieldLink RX1 12 "ShippedLog$Node" "log" "LShippedLog$Log;", .methodLink RX1 53 yX0_kindAt, .instanceMethod yX0_kindAt, .selects RX0 yX0_kindAt yX0_kindAt, .initialized RX0, .code yX0_kindAt cX0_kindAt 2 (some .int), .methodLink RX0 25 yX0_byteOf, .instanceMethod yX0_byteOf, .selects RX0 yX0_byteOf yX0_byteOf, .code yX0_byteOf cX0_byteOf 2 (some .int), .fieldLink RX0 9 "ShippedLog$Log" "memory" "[B"] ++ wsX10 ++ wsX00)
def wsX2_init : List Cond := .code yX2_init cX2_init 1 none :: ([.methodLink RX2 3 objectInit, .instanceMethod objectInit, .code objectInit ⟨#[0xb1]⟩ 1 none, .arrayClass .int, .fieldLink RX2 9 "ShippedLog$Way" "positions" "[I", .fieldLink RX2 15 "ShippedLog$Way" "bytes" "[I", .fieldLink RX2 18 "ShippedLog$Way" "oldest" "I", .fieldLink RX2 22 "ShippedLog$Way" "count" "I"] ++ wsX20)
def wsX2_isFull : List Cond := .code yX2_isFull cX2_isFull 1 (some .boolean) :: ([.fieldLink RX2 22 "ShippedLog$Way" "count" "I"] ++ wsX20)
def wsJ9_floorMod_7cf53 : List Cond := .code yJ9_floorMod_7cf53 cJ9_floorMod_7cf53 3 (some .int) :: ([])
def wsX2_slot : List Cond := .code yX2_slot cX2_slot 2 (some .int) :: ([.fieldLink RX2 18 "ShippedLog$Way" "oldest" "I", .methodLink RX2 33 yJ9_floorMod_7cf53, .static yJ9_floorMod_7cf53, .initialized RJ9, .code yJ9_floorMod_7cf53 cJ9_floorMod_7cf53 3 (some .int)] ++ wsX20)
def wsX2_add : List Cond := .code yX2_add cX2_add 4 none :: ([.fieldLink RX2 22 "ShippedLog$Way" "count" "I", .fieldLink RX2 9 "ShippedLog$Way" "positions" "[I", .fieldLink RX2 15 "ShippedLog$Way" "bytes" "[I", .methodLink RX2 25 yX2_isFull, .instanceMethod yX2_isFull, .selects RX2 yX2_isFull yX2_isFull, .initialized RX2, .code yX2_isFull cX2_isFull 1 (some .boolean), .methodLink RX2 29 yX2_slot, .instanceMethod yX2_slot, .selects RX2 yX2_slot yX2_slot, .code yX2_slot cX2_slot 2 (some .int), .fieldLink RX2 18 "ShippedLog$Way" "oldest" "I", .methodLink RX2 33 yJ9_floorMod_7cf53, .static yJ9_floorMod_7cf53, .initialized RJ9, .code yJ9_floorMod_7cf53 cJ9_floorMod_7cf53 3 (some .int)] ++ wsX20)
def wsX2_oldestPosition : List Cond := .code yX2_oldestPosition cX2_oldestPosition 1 (some .int) :: ([.fieldLink RX2 9 "ShippedLog$Way" "positions" "[I", .methodLink RX2 29 yX2_slot, .instanceMethod yX2_slot, .selects RX2 yX2_slot yX2_slot, .initialized RX2, .code yX2_slot cX2_slot 2 (some .int), .fieldLink RX2 18 "ShippedLog$Way" "oldest" "I", .methodLink RX2 33 yJ9_floorMod_7cf53, .static yJ9_floorMod_7cf53, .initialized RJ9, .code yJ9_floorMod_7cf53 cJ9_floorMod_7cf53 3 (some .int)] ++ wsX20)
def wsX2_oldestBytes : List Cond := .code yX2_oldestBytes cX2_oldestBytes 1 (some .int) :: ([.fieldLink RX2 15 "ShippedLog$Way" "bytes" "[I", .methodLink RX2 29 yX2_slot, .instanceMethod yX2_slot, .selects RX2 yX2_slot yX2_slot, .initialized RX2, .code yX2_slot cX2_slot 2 (some .int), .fieldLink RX2 18 "ShippedLog$Way" "oldest" "I", .methodLink RX2 33 yJ9_floorMod_7cf53, .static yJ9_floorMod_7cf53, .initialized RJ9, .code yJ9_floorMod_7cf53 cJ9_floorMod_7cf53 3 (some .int)] ++ wsX20)
def wsX2_removeOldest : List Cond := .code yX2_removeOldest cX2_removeOldest 1 none :: ([.fieldLink RX2 22 "ShippedLog$Way" "count" "I", .fieldLink RX2 18 "ShippedLog$Way" "oldest" "I", .methodLink RX2 29 yX2_slot, .instanceMethod yX2_slot, .selects RX2 yX2_slot yX2_slot, .initialized RX2, .code yX2_slot cX2_slot 2 (some .int), .methodLink RX2 33 yJ9_floorMod_7cf53, .static yJ9_floorMod_7cf53, .initialized RJ9, .code yJ9_floorMod_7cf53 cJ9_floorMod_7cf53 3 (some .int)] ++ wsX20)
def wsX2_clear : List Cond := .code yX2_clear cX2_clear 1 none :: ([.fieldLink RX2 18 "ShippedLog$Way" "oldest" "I", .fieldLink RX2 22 "ShippedLog$Way" "count" "I"] ++ wsX20)
def wsX3_init_r1 : List Cond := [Cond.methodLink RX3 3 objectInit, Cond.instanceMethod objectInit, Cond.code objectInit ⟨#[0xb1]⟩ 1 none, Cond.classLink RX3 9 RX1, Cond.fieldLink RX3 11 "ShippedLog" "nodes" "[LShippedLog$Node;", Cond.instantiable RX1 8, Cond.initialized RX1, Cond.classLink RX3 16 RX2, Cond.fieldLink RX3 18 "ShippedLog" "ways" "[LShippedLog$Way;", Cond.instantiable RX2 4, Cond.initialized RX2, Cond.fieldLink RX3 23 "ShippedLog" "greatestTimeline" "I", Cond.instanceMethod yX1_init, Cond.code yX1_init cX1_init 1 none, Cond.methodLink RX1 3 objectInit, Cond.classLink RX1 9 RX0, Cond.instantiable RX0 4, Cond.initialized RX0, Cond.fieldLink RX1 12 "ShippedLog$Node" "log" "LShippedLog$Log;", Cond.fieldLink RX1 18 "ShippedLog$Node" "role" "I", Cond.fieldLink RX1 22 "ShippedLog$Node" "applied" "I", Cond.fieldLink RX1 25 "ShippedLog$Node" "follows" "I", Cond.fieldLink RX1 28 "ShippedLog$Node" "known" "I", Cond.fieldLink RX1 31 "ShippedLog$Node" "standby" "I"]
def wsX3_init_r2 : List Cond := [Cond.fieldLink RX1 34 "ShippedLog$Node" "acknowledged" "I", Cond.fieldLink RX1 37 "ShippedLog$Node" "promotedAt" "I", Cond.instanceMethod yX0_init, Cond.code yX0_init cX0_init 1 none, Cond.methodLink RX0 3 objectInit, Cond.arrayClass .byte, Cond.fieldLink RX0 9 "ShippedLog$Log" "memory" "[B", Cond.fieldLink RX0 15 "ShippedLog$Log" "disk" "[B", Cond.fieldLink RX0 18 "ShippedLog$Log" "end" "I", Cond.fieldLink RX0 22 "ShippedLog$Log" "synced" "I", Cond.instanceMethod yX2_init, Cond.code yX2_init cX2_init 1 none, Cond.methodLink RX2 3 objectInit, Cond.arrayClass .int, Cond.fieldLink RX2 9 "ShippedLog$Way" "positions" "[I", Cond.fieldLink RX2 15 "ShippedLog$Way" "bytes" "[I", Cond.fieldLink RX2 18 "ShippedLog$Way" "oldest" "I", Cond.fieldLink RX2 22 "ShippedLog$Way" "count" "I"]
def wsX3_init : List Cond := .code yX3_init cX3_init 2 none :: ((wsX3_init_r1 ++ wsX3_init_r2) ++ wsX30 ++ wsX10 ++ wsX20 ++ wsX00)
def wsX3_isNode : List Cond := .code yX3_isNode cX3_isNode 1 (some .boolean) :: ([])
def wsX3_nodeAt : List Cond := .code yX3_nodeAt cX3_nodeAt 2 (some (.object "ShippedLog$Node")) :: ([.classLink RX3 134 "java/lang/IndexOutOfBoundsException", .initialized "java/lang/IndexOutOfBoundsException", .fieldLink RX3 11 "ShippedLog" "nodes" "[LShippedLog$Node;", .methodLink RX3 131 yX3_isNode, .static yX3_isNode, .initialized RX3, .code yX3_isNode cX3_isNode 1 (some .boolean)] ++ wsX30 ++ (vx_atS RX3 138 "java/lang/IndexOutOfBoundsException" ["java/lang/RuntimeException", "java/lang/Exception"]).filter goodWord)
def wsX3_leaveStandby : List Cond := .code yX3_leaveStandby cX3_leaveStandby 3 none :: ([.fieldLink RX3 11 "ShippedLog" "nodes" "[LShippedLog$Node;", .fieldLink RX3 145 "ShippedLog$Node" "standby" "I"] ++ wsX30 ++ wsX10)
def wsX3_isReplicaOf : List Cond := .code yX3_isReplicaOf cX3_isReplicaOf 4 (some .boolean) :: ([.fieldLink RX3 31 "ShippedLog$Node" "role" "I", .fieldLink RX3 222 "ShippedLog$Node" "follows" "I", .methodLink RX3 27 yX3_nodeAt, .instanceMethod yX3_nodeAt, .selects RX3 yX3_nodeAt yX3_nodeAt, .initialized RX3, .code yX3_nodeAt cX3_nodeAt 2 (some (.object "ShippedLog$Node")), .classLink RX3 134 "java/lang/IndexOutOfBoundsException", .initialized "java/lang/IndexOutOfBoundsException", .fieldLink RX3 11 "ShippedLog" "nodes" "[LShippedLog$Node;", .methodLink RX3 131 yX3_isNode, .static yX3_isNode, .code yX3_isNode cX3_isNode 1 (some .boolean)] ++ wsX10 ++ wsX30 ++ (vx_atS RX3 138 "java/lang/IndexOutOfBoundsException" ["java/lang/RuntimeException", "java/lang/Exception"]).filter goodWord)
def wsX3_wayFrom : List Cond := .code yX3_wayFrom cX3_wayFrom 3 (some (.object "ShippedLog$Way")) :: ([.classLink RX3 134 "java/lang/IndexOutOfBoundsException", .initialized "java/lang/IndexOutOfBoundsException", .fieldLink RX3 18 "ShippedLog" "ways" "[LShippedLog$Way;", .methodLink RX3 131 yX3_isNode, .static yX3_isNode, .initialized RX3, .code yX3_isNode cX3_isNode 1 (some .boolean)] ++ wsX30 ++ (vx_atS RX3 138 "java/lang/IndexOutOfBoundsException" ["java/lang/RuntimeException", "java/lang/Exception"]).filter goodWord)
def wsX3_loseMessages : List Cond := .code yX3_loseMessages cX3_loseMessages 3 none :: ([.methodLink RX3 152 yX3_wayFrom, .instanceMethod yX3_wayFrom, .selects RX3 yX3_wayFrom yX3_wayFrom, .initialized RX3, .code yX3_wayFrom cX3_wayFrom 3 (some (.object "ShippedLog$Way")), .classLink RX3 134 "java/lang/IndexOutOfBoundsException", .initialized "java/lang/IndexOutOfBoundsException", .fieldLink RX3 18 "ShippedLog" "ways" "[LShippedLog$Way;", .methodLink RX3 131 yX3_isNode, .static yX3_isNode, .code yX3_isNode cX3_isNode 1 (some .boolean), .methodLink RX3 252 yX2_clear, .instanceMethod yX2_clear, .selects RX2 yX2_clear yX2_clear, .initialized RX2, .code yX2_clear cX2_clear 1 none, .fieldLink RX2 18 "ShippedLog$Way" "oldest" "I", .fieldLink RX2 22 "ShippedLog$Way" "count" "I"] ++ wsX30 ++ wsX20 ++ (vx_atS RX3 138 "java/lang/IndexOutOfBoundsException" ["java/lang/RuntimeException", "java/lang/Exception"]).filter goodWord)
def wsX3_changeRole_r1 : List Cond := [Cond.fieldLink RX3 31 "ShippedLog$Node" "role" "I", Cond.fieldLink RX3 222 "ShippedLog$Node" "follows" "I", Cond.methodLink RX3 27 yX3_nodeAt, Cond.instanceMethod yX3_nodeAt, Cond.selects RX3 yX3_nodeAt yX3_nodeAt, Cond.initialized RX3, Cond.code yX3_nodeAt cX3_nodeAt 2 (some (.object "ShippedLog$Node")), Cond.classLink RX3 134 "java/lang/IndexOutOfBoundsException", Cond.initialized "java/lang/IndexOutOfBoundsException", Cond.fieldLink RX3 11 "ShippedLog" "nodes" "[LShippedLog$Node;", Cond.methodLink RX3 131 yX3_isNode, Cond.static yX3_isNode, Cond.code yX3_isNode cX3_isNode 1 (some .boolean), Cond.methodLink RX3 249 yX3_loseMessages, Cond.instanceMethod yX3_loseMessages, Cond.selects RX3 yX3_loseMessages yX3_loseMessages, Cond.code yX3_loseMessages cX3_loseMessages 3 none, Cond.methodLink RX3 152 yX3_wayFrom, Cond.instanceMethod yX3_wayFrom, Cond.selects RX3 yX3_wayFrom yX3_wayFrom, Cond.code yX3_wayFrom cX3_wayFrom 3 (some (.object "ShippedLog$Way")), Cond.fieldLink RX3 18 "ShippedLog" "ways" "[LShippedLog$Way;", Cond.methodLink RX3 252 yX2_clear, Cond.instanceMethod yX2_clear]
def wsX3_changeRole_r2 : List Cond := [Cond.selects RX2 yX2_clear yX2_clear, Cond.initialized RX2, Cond.code yX2_clear cX2_clear 1 none, Cond.fieldLink RX2 18 "ShippedLog$Way" "oldest" "I", Cond.fieldLink RX2 22 "ShippedLog$Way" "count" "I"]
def wsX3_changeRole : List Cond := .code yX3_changeRole cX3_changeRole 5 none :: ((wsX3_changeRole_r1 ++ wsX3_changeRole_r2) ++ wsX10 ++ wsX30 ++ wsX20 ++ (vx_atS RX3 138 "java/lang/IndexOutOfBoundsException" ["java/lang/RuntimeException", "java/lang/Exception"]).filter goodWord)
def wsX3_releaseReplicas_r1 : List Cond := [Cond.methodLink RX3 139 yX3_isReplicaOf, Cond.instanceMethod yX3_isReplicaOf, Cond.selects RX3 yX3_isReplicaOf yX3_isReplicaOf, Cond.initialized RX3, Cond.code yX3_isReplicaOf cX3_isReplicaOf 4 (some .boolean), Cond.fieldLink RX3 31 "ShippedLog$Node" "role" "I", Cond.fieldLink RX3 222 "ShippedLog$Node" "follows" "I", Cond.methodLink RX3 27 yX3_nodeAt, Cond.instanceMethod yX3_nodeAt, Cond.selects RX3 yX3_nodeAt yX3_nodeAt, Cond.code yX3_nodeAt cX3_nodeAt 2 (some (.object "ShippedLog$Node")), Cond.classLink RX3 134 "java/lang/IndexOutOfBoundsException", Cond.initialized "java/lang/IndexOutOfBoundsException", Cond.fieldLink RX3 11 "ShippedLog" "nodes" "[LShippedLog$Node;", Cond.methodLink RX3 131 yX3_isNode, Cond.static yX3_isNode, Cond.code yX3_isNode cX3_isNode 1 (some .boolean), Cond.methodLink RX3 246 yX3_changeRole, Cond.instanceMethod yX3_changeRole, Cond.selects RX3 yX3_changeRole yX3_changeRole, Cond.code yX3_changeRole cX3_changeRole 5 none, Cond.methodLink RX3 249 yX3_loseMessages, Cond.instanceMethod yX3_loseMessages, Cond.selects RX3 yX3_loseMessages yX3_loseMessages]
def wsX3_releaseReplicas_r2 : List Cond := [Cond.code yX3_loseMessages cX3_loseMessages 3 none, Cond.methodLink RX3 152 yX3_wayFrom, Cond.instanceMethod yX3_wayFrom, Cond.selects RX3 yX3_wayFrom yX3_wayFrom, Cond.code yX3_wayFrom cX3_wayFrom 3 (some (.object "ShippedLog$Way")), Cond.fieldLink RX3 18 "ShippedLog" "ways" "[LShippedLog$Way;", Cond.methodLink RX3 252 yX2_clear, Cond.instanceMethod yX2_clear, Cond.selects RX2 yX2_clear yX2_clear, Cond.initialized RX2, Cond.code yX2_clear cX2_clear 1 none, Cond.fieldLink RX2 18 "ShippedLog$Way" "oldest" "I", Cond.fieldLink RX2 22 "ShippedLog$Way" "count" "I"]
def wsX3_releaseReplicas : List Cond := .code yX3_releaseReplicas cX3_releaseReplicas 3 none :: ((wsX3_releaseReplicas_r1 ++ wsX3_releaseReplicas_r2) ++ wsX10 ++ wsX30 ++ wsX20 ++ (vx_atS RX3 138 "java/lang/IndexOutOfBoundsException" ["java/lang/RuntimeException", "java/lang/Exception"]).filter goodWord)
def wsX3_takeRole_r1 : List Cond := [Cond.fieldLink RX3 31 "ShippedLog$Node" "role" "I", Cond.fieldLink RX3 145 "ShippedLog$Node" "standby" "I", Cond.fieldLink RX3 128 "ShippedLog$Node" "acknowledged" "I", Cond.fieldLink RX3 45 "ShippedLog$Node" "log" "LShippedLog$Log;", Cond.fieldLink RX3 54 "ShippedLog$Log" "end" "I", Cond.fieldLink RX3 162 "ShippedLog$Node" "known" "I", Cond.methodLink RX3 27 yX3_nodeAt, Cond.instanceMethod yX3_nodeAt, Cond.selects RX3 yX3_nodeAt yX3_nodeAt, Cond.initialized RX3, Cond.code yX3_nodeAt cX3_nodeAt 2 (some (.object "ShippedLog$Node")), Cond.classLink RX3 134 "java/lang/IndexOutOfBoundsException", Cond.initialized "java/lang/IndexOutOfBoundsException", Cond.fieldLink RX3 11 "ShippedLog" "nodes" "[LShippedLog$Node;", Cond.methodLink RX3 131 yX3_isNode, Cond.static yX3_isNode, Cond.code yX3_isNode cX3_isNode 1 (some .boolean), Cond.methodLink RX3 240 yX3_leaveStandby, Cond.instanceMethod yX3_leaveStandby, Cond.selects RX3 yX3_leaveStandby yX3_leaveStandby, Cond.code yX3_leaveStandby cX3_leaveStandby 3 none, Cond.methodLink RX3 243 yX3_releaseReplicas, Cond.instanceMethod yX3_releaseReplicas, Cond.selects RX3 yX3_releaseReplicas yX3_releaseReplicas]
def wsX3_takeRole_r2 : List Cond := [Cond.code yX3_releaseReplicas cX3_releaseReplicas 3 none, Cond.methodLink RX3 139 yX3_isReplicaOf, Cond.instanceMethod yX3_isReplicaOf, Cond.selects RX3 yX3_isReplicaOf yX3_isReplicaOf, Cond.code yX3_isReplicaOf cX3_isReplicaOf 4 (some .boolean), Cond.fieldLink RX3 222 "ShippedLog$Node" "follows" "I", Cond.methodLink RX3 246 yX3_changeRole, Cond.instanceMethod yX3_changeRole, Cond.selects RX3 yX3_changeRole yX3_changeRole, Cond.code yX3_changeRole cX3_changeRole 5 none, Cond.methodLink RX3 249 yX3_loseMessages, Cond.instanceMethod yX3_loseMessages, Cond.selects RX3 yX3_loseMessages yX3_loseMessages, Cond.code yX3_loseMessages cX3_loseMessages 3 none, Cond.methodLink RX3 152 yX3_wayFrom, Cond.instanceMethod yX3_wayFrom, Cond.selects RX3 yX3_wayFrom yX3_wayFrom, Cond.code yX3_wayFrom cX3_wayFrom 3 (some (.object "ShippedLog$Way")), Cond.fieldLink RX3 18 "ShippedLog" "ways" "[LShippedLog$Way;", Cond.methodLink RX3 252 yX2_clear, Cond.instanceMethod yX2_clear, Cond.selects RX2 yX2_clear yX2_clear, Cond.initialized RX2, Cond.code yX2_clear cX2_clear 1 none]
def wsX3_takeRole_r3 : List Cond := [Cond.fieldLink RX2 18 "ShippedLog$Way" "oldest" "I", Cond.fieldLink RX2 22 "ShippedLog$Way" "count" "I"]
def wsX3_takeRole : List Cond := .code yX3_takeRole cX3_takeRole 5 none :: ((wsX3_takeRole_r1 ++ (wsX3_takeRole_r2 ++ wsX3_takeRole_r3)) ++ wsX10 ++ wsX00 ++ wsX30 ++ wsX20 ++ (vx_atS RX3 138 "java/lang/IndexOutOfBoundsException" ["java/lang/RuntimeException", "java/lang/Exception"]).filter goodWord)
def wsX3_up_r1 : List Cond := [Cond.classLink RX3 34 "java/lang/IllegalStateException", Cond.initialized "java/lang/IllegalStateException", Cond.fieldLink RX3 31 "ShippedLog$Node" "role" "I", Cond.fieldLink RX3 45 "ShippedLog$Node" "log" "LShippedLog$Log;", Cond.fieldLink RX3 54 "ShippedLog$Log" "end" "I", Cond.fieldLink RX3 57 "ShippedLog$Node" "applied" "I", Cond.methodLink RX3 27 yX3_nodeAt, Cond.instanceMethod yX3_nodeAt, Cond.selects RX3 yX3_nodeAt yX3_nodeAt, Cond.initialized RX3, Cond.code yX3_nodeAt cX3_nodeAt 2 (some (.object "ShippedLog$Node")), Cond.classLink RX3 134 "java/lang/IndexOutOfBoundsException", Cond.initialized "java/lang/IndexOutOfBoundsException", Cond.fieldLink RX3 11 "ShippedLog" "nodes" "[LShippedLog$Node;", Cond.methodLink RX3 131 yX3_isNode, Cond.static yX3_isNode, Cond.code yX3_isNode cX3_isNode 1 (some .boolean), Cond.methodLink RX3 41 yX3_takeRole, Cond.instanceMethod yX3_takeRole, Cond.selects RX3 yX3_takeRole yX3_takeRole, Cond.code yX3_takeRole cX3_takeRole 5 none, Cond.fieldLink RX3 145 "ShippedLog$Node" "standby" "I", Cond.fieldLink RX3 128 "ShippedLog$Node" "acknowledged" "I", Cond.fieldLink RX3 162 "ShippedLog$Node" "known" "I"]
def wsX3_up_r2 : List Cond := [Cond.methodLink RX3 240 yX3_leaveStandby, Cond.instanceMethod yX3_leaveStandby, Cond.selects RX3 yX3_leaveStandby yX3_leaveStandby, Cond.code yX3_leaveStandby cX3_leaveStandby 3 none, Cond.methodLink RX3 243 yX3_releaseReplicas, Cond.instanceMethod yX3_releaseReplicas, Cond.selects RX3 yX3_releaseReplicas yX3_releaseReplicas, Cond.code yX3_releaseReplicas cX3_releaseReplicas 3 none, Cond.methodLink RX3 139 yX3_isReplicaOf, Cond.instanceMethod yX3_isReplicaOf, Cond.selects RX3 yX3_isReplicaOf yX3_isReplicaOf, Cond.code yX3_isReplicaOf cX3_isReplicaOf 4 (some .boolean), Cond.fieldLink RX3 222 "ShippedLog$Node" "follows" "I", Cond.methodLink RX3 246 yX3_changeRole, Cond.instanceMethod yX3_changeRole, Cond.selects RX3 yX3_changeRole yX3_changeRole, Cond.code yX3_changeRole cX3_changeRole 5 none, Cond.methodLink RX3 249 yX3_loseMessages, Cond.instanceMethod yX3_loseMessages, Cond.selects RX3 yX3_loseMessages yX3_loseMessages, Cond.code yX3_loseMessages cX3_loseMessages 3 none, Cond.methodLink RX3 152 yX3_wayFrom, Cond.instanceMethod yX3_wayFrom, Cond.selects RX3 yX3_wayFrom yX3_wayFrom]
def wsX3_up_r3 : List Cond := [Cond.code yX3_wayFrom cX3_wayFrom 3 (some (.object "ShippedLog$Way")), Cond.fieldLink RX3 18 "ShippedLog" "ways" "[LShippedLog$Way;", Cond.methodLink RX3 252 yX2_clear, Cond.instanceMethod yX2_clear, Cond.selects RX2 yX2_clear yX2_clear, Cond.initialized RX2, Cond.code yX2_clear cX2_clear 1 none, Cond.fieldLink RX2 18 "ShippedLog$Way" "oldest" "I", Cond.fieldLink RX2 22 "ShippedLog$Way" "count" "I", Cond.methodLink RX3 49 yX0_loadFromDisk, Cond.instanceMethod yX0_loadFromDisk, Cond.selects RX0 yX0_loadFromDisk yX0_loadFromDisk, Cond.initialized RX0, Cond.code yX0_loadFromDisk cX0_loadFromDisk 1 none, Cond.fieldLink RX0 15 "ShippedLog$Log" "disk" "[B", Cond.fieldLink RX0 9 "ShippedLog$Log" "memory" "[B", Cond.fieldLink RX0 18 "ShippedLog$Log" "end" "I", Cond.fieldLink RX0 22 "ShippedLog$Log" "synced" "I", Cond.methodLink RX0 58 yX0_copy, Cond.static yX0_copy, Cond.code yX0_copy cX0_copy 4 none, Cond.methodLink RX0 81 arraycopyName, Cond.native arraycopyName, Cond.static arraycopyName]
def wsX3_up_r4 : List Cond := [Cond.initialized "java/lang/System", Cond.methodLink RX0 62 yX0_lastTimeline, Cond.instanceMethod yX0_lastTimeline, Cond.selects RX0 yX0_lastTimeline yX0_lastTimeline, Cond.code yX0_lastTimeline cX0_lastTimeline 1 (some .int), Cond.methodLink RX0 32 yX0_timelineAt, Cond.instanceMethod yX0_timelineAt, Cond.selects RX0 yX0_timelineAt yX0_timelineAt, Cond.code yX0_timelineAt cX0_timelineAt 2 (some .int), Cond.methodLink RX0 25 yX0_byteOf, Cond.instanceMethod yX0_byteOf, Cond.selects RX0 yX0_byteOf yX0_byteOf, Cond.code yX0_byteOf cX0_byteOf 2 (some .int), Cond.methodLink RX0 66 yX0_hasGoodRecord, Cond.instanceMethod yX0_hasGoodRecord, Cond.selects RX0 yX0_hasGoodRecord yX0_hasGoodRecord, Cond.code yX0_hasGoodRecord cX0_hasGoodRecord 7 (some .boolean), Cond.methodLink RX0 87 yX0_kindAt, Cond.instanceMethod yX0_kindAt, Cond.selects RX0 yX0_kindAt yX0_kindAt, Cond.code yX0_kindAt cX0_kindAt 2 (some .int), Cond.methodLink RX0 29 yX0_intAt, Cond.instanceMethod yX0_intAt, Cond.selects RX0 yX0_intAt yX0_intAt]
def wsX3_up_r5 : List Cond := [Cond.code yX0_intAt cX0_intAt 2 (some .int), Cond.methodLink RX0 46 yX0_checksumAt, Cond.instanceMethod yX0_checksumAt, Cond.selects RX0 yX0_checksumAt yX0_checksumAt, Cond.code yX0_checksumAt cX0_checksumAt 5 (some .int), Cond.constant RX0 90 (-306674912)]
def wsX3_up : List Cond := .code yX3_up cX3_up 3 (some .int) :: ((wsX3_up_r1 ++ (wsX3_up_r2 ++ (wsX3_up_r3 ++ (wsX3_up_r4 ++ wsX3_up_r5)))) ++ wsX10 ++ wsX00 ++ wsX30 ++ wsX20 ++ (vx_atS RX3 38 "java/lang/IllegalStateException" ["java/lang/RuntimeException", "java/lang/Exception"]).filter goodWord ++ (vx_atS RX3 138 "java/lang/IndexOutOfBoundsException" ["java/lang/RuntimeException", "java/lang/Exception"]).filter goodWord)
def wsX3_crash_r1 : List Cond := [Cond.classLink RX3 60 "java/lang/IllegalArgumentException", Cond.initialized "java/lang/IllegalArgumentException", Cond.classLink RX3 34 "java/lang/IllegalStateException", Cond.initialized "java/lang/IllegalStateException", Cond.fieldLink RX3 31 "ShippedLog$Node" "role" "I", Cond.fieldLink RX3 45 "ShippedLog$Node" "log" "LShippedLog$Log;", Cond.methodLink RX3 27 yX3_nodeAt, Cond.instanceMethod yX3_nodeAt, Cond.selects RX3 yX3_nodeAt yX3_nodeAt, Cond.initialized RX3, Cond.code yX3_nodeAt cX3_nodeAt 2 (some (.object "ShippedLog$Node")), Cond.classLink RX3 134 "java/lang/IndexOutOfBoundsException", Cond.initialized "java/lang/IndexOutOfBoundsException", Cond.fieldLink RX3 11 "ShippedLog" "nodes" "[LShippedLog$Node;", Cond.methodLink RX3 131 yX3_isNode, Cond.static yX3_isNode, Cond.code yX3_isNode cX3_isNode 1 (some .boolean), Cond.methodLink RX3 67 yX0_saveFirst, Cond.instanceMethod yX0_saveFirst, Cond.selects RX0 yX0_saveFirst yX0_saveFirst, Cond.initialized RX0, Cond.code yX0_saveFirst cX0_saveFirst 3 (some .int), Cond.fieldLink RX0 18 "ShippedLog$Log" "end" "I", Cond.fieldLink RX0 22 "ShippedLog$Log" "synced" "I"]
def wsX3_crash_r2 : List Cond := [Cond.methodLink RX0 52 Lib.Math.min.name, Cond.static Lib.Math.min.name, Cond.initialized "java/lang/Math", Cond.code Lib.Math.min.name Lib.Math.min.code 2 (some .int), Cond.fieldLink RX0 9 "ShippedLog$Log" "memory" "[B", Cond.fieldLink RX0 15 "ShippedLog$Log" "disk" "[B", Cond.methodLink RX0 58 yX0_copy, Cond.static yX0_copy, Cond.code yX0_copy cX0_copy 4 none, Cond.methodLink RX0 81 arraycopyName, Cond.native arraycopyName, Cond.static arraycopyName, Cond.initialized "java/lang/System", Cond.methodLink RX3 41 yX3_takeRole, Cond.instanceMethod yX3_takeRole, Cond.selects RX3 yX3_takeRole yX3_takeRole, Cond.code yX3_takeRole cX3_takeRole 5 none, Cond.fieldLink RX3 145 "ShippedLog$Node" "standby" "I", Cond.fieldLink RX3 128 "ShippedLog$Node" "acknowledged" "I", Cond.fieldLink RX3 54 "ShippedLog$Log" "end" "I", Cond.fieldLink RX3 162 "ShippedLog$Node" "known" "I", Cond.methodLink RX3 240 yX3_leaveStandby, Cond.instanceMethod yX3_leaveStandby, Cond.selects RX3 yX3_leaveStandby yX3_leaveStandby]
def wsX3_crash_r3 : List Cond := [Cond.code yX3_leaveStandby cX3_leaveStandby 3 none, Cond.methodLink RX3 243 yX3_releaseReplicas, Cond.instanceMethod yX3_releaseReplicas, Cond.selects RX3 yX3_releaseReplicas yX3_releaseReplicas, Cond.code yX3_releaseReplicas cX3_releaseReplicas 3 none, Cond.methodLink RX3 139 yX3_isReplicaOf, Cond.instanceMethod yX3_isReplicaOf, Cond.selects RX3 yX3_isReplicaOf yX3_isReplicaOf, Cond.code yX3_isReplicaOf cX3_isReplicaOf 4 (some .boolean), Cond.fieldLink RX3 222 "ShippedLog$Node" "follows" "I", Cond.methodLink RX3 246 yX3_changeRole, Cond.instanceMethod yX3_changeRole, Cond.selects RX3 yX3_changeRole yX3_changeRole, Cond.code yX3_changeRole cX3_changeRole 5 none, Cond.methodLink RX3 249 yX3_loseMessages, Cond.instanceMethod yX3_loseMessages, Cond.selects RX3 yX3_loseMessages yX3_loseMessages, Cond.code yX3_loseMessages cX3_loseMessages 3 none, Cond.methodLink RX3 152 yX3_wayFrom, Cond.instanceMethod yX3_wayFrom, Cond.selects RX3 yX3_wayFrom yX3_wayFrom, Cond.code yX3_wayFrom cX3_wayFrom 3 (some (.object "ShippedLog$Way")), Cond.fieldLink RX3 18 "ShippedLog" "ways" "[LShippedLog$Way;", Cond.methodLink RX3 252 yX2_clear]
def wsX3_crash_r4 : List Cond := [Cond.instanceMethod yX2_clear, Cond.selects RX2 yX2_clear yX2_clear, Cond.initialized RX2, Cond.code yX2_clear cX2_clear 1 none, Cond.fieldLink RX2 18 "ShippedLog$Way" "oldest" "I", Cond.fieldLink RX2 22 "ShippedLog$Way" "count" "I"]
def wsX3_crash : List Cond := .code yX3_crash cX3_crash 5 (some .int) :: ((wsX3_crash_r1 ++ (wsX3_crash_r2 ++ (wsX3_crash_r3 ++ wsX3_crash_r4))) ++ wsX10 ++ wsX30 ++ wsX00 ++ wsX20 ++ (vx_atS RX3 64 "java/lang/IllegalArgumentException" ["java/lang/RuntimeException", "java/lang/Exception"]).filter goodWord ++ (vx_atS RX3 38 "java/lang/IllegalStateException" ["java/lang/RuntimeException", "java/lang/Exception"]).filter goodWord ++ (vx_atS RX3 138 "java/lang/IndexOutOfBoundsException" ["java/lang/RuntimeException", "java/lang/Exception"]).filter goodWord)
def wsX3_requireRoom : List Cond := .code yX3_requireRoom cX3_requireRoom 1 none :: ([.classLink RX3 77 "java/lang/UnsupportedOperationException", .initialized "java/lang/UnsupportedOperationException", .fieldLink RX3 45 "ShippedLog$Node" "log" "LShippedLog$Log;", .methodLink RX3 227 yX0_isFull, .instanceMethod yX0_isFull, .selects RX0 yX0_isFull yX0_isFull, .initialized RX0, .code yX0_isFull cX0_isFull 1 (some .boolean), .fieldLink RX0 18 "ShippedLog$Log" "end" "I"] ++ wsX10 ++ wsX00 ++ (vx_atS RX3 81 "java/lang/UnsupportedOperationException" ["java/lang/RuntimeException", "java/lang/Exception"]).filter goodWord)
def wsX3_promote_r1 : List Cond := [Cond.classLink RX3 34 "java/lang/IllegalStateException", Cond.initialized "java/lang/IllegalStateException", Cond.classLink RX3 77 "java/lang/UnsupportedOperationException", Cond.initialized "java/lang/UnsupportedOperationException", Cond.fieldLink RX3 31 "ShippedLog$Node" "role" "I", Cond.fieldLink RX3 23 "ShippedLog" "greatestTimeline" "I", Cond.fieldLink RX3 45 "ShippedLog$Node" "log" "LShippedLog$Log;", Cond.fieldLink RX3 54 "ShippedLog$Log" "end" "I", Cond.fieldLink RX3 82 "ShippedLog$Node" "promotedAt" "I", Cond.methodLink RX3 27 yX3_nodeAt, Cond.instanceMethod yX3_nodeAt, Cond.selects RX3 yX3_nodeAt yX3_nodeAt, Cond.initialized RX3, Cond.code yX3_nodeAt cX3_nodeAt 2 (some (.object "ShippedLog$Node")), Cond.classLink RX3 134 "java/lang/IndexOutOfBoundsException", Cond.initialized "java/lang/IndexOutOfBoundsException", Cond.fieldLink RX3 11 "ShippedLog" "nodes" "[LShippedLog$Node;", Cond.methodLink RX3 131 yX3_isNode, Cond.static yX3_isNode, Cond.code yX3_isNode cX3_isNode 1 (some .boolean), Cond.methodLink RX3 73 yX3_requireRoom, Cond.static yX3_requireRoom, Cond.code yX3_requireRoom cX3_requireRoom 1 none, Cond.methodLink RX3 227 yX0_isFull]
def wsX3_promote_r2 : List Cond := [Cond.instanceMethod yX0_isFull, Cond.selects RX0 yX0_isFull yX0_isFull, Cond.initialized RX0, Cond.code yX0_isFull cX0_isFull 1 (some .boolean), Cond.fieldLink RX0 18 "ShippedLog$Log" "end" "I", Cond.methodLink RX3 41 yX3_takeRole, Cond.instanceMethod yX3_takeRole, Cond.selects RX3 yX3_takeRole yX3_takeRole, Cond.code yX3_takeRole cX3_takeRole 5 none, Cond.fieldLink RX3 145 "ShippedLog$Node" "standby" "I", Cond.fieldLink RX3 128 "ShippedLog$Node" "acknowledged" "I", Cond.fieldLink RX3 162 "ShippedLog$Node" "known" "I", Cond.methodLink RX3 240 yX3_leaveStandby, Cond.instanceMethod yX3_leaveStandby, Cond.selects RX3 yX3_leaveStandby yX3_leaveStandby, Cond.code yX3_leaveStandby cX3_leaveStandby 3 none, Cond.methodLink RX3 243 yX3_releaseReplicas, Cond.instanceMethod yX3_releaseReplicas, Cond.selects RX3 yX3_releaseReplicas yX3_releaseReplicas, Cond.code yX3_releaseReplicas cX3_releaseReplicas 3 none, Cond.methodLink RX3 139 yX3_isReplicaOf, Cond.instanceMethod yX3_isReplicaOf, Cond.selects RX3 yX3_isReplicaOf yX3_isReplicaOf, Cond.code yX3_isReplicaOf cX3_isReplicaOf 4 (some .boolean)]
def wsX3_promote_r3 : List Cond := [Cond.fieldLink RX3 222 "ShippedLog$Node" "follows" "I", Cond.methodLink RX3 246 yX3_changeRole, Cond.instanceMethod yX3_changeRole, Cond.selects RX3 yX3_changeRole yX3_changeRole, Cond.code yX3_changeRole cX3_changeRole 5 none, Cond.methodLink RX3 249 yX3_loseMessages, Cond.instanceMethod yX3_loseMessages, Cond.selects RX3 yX3_loseMessages yX3_loseMessages, Cond.code yX3_loseMessages cX3_loseMessages 3 none, Cond.methodLink RX3 152 yX3_wayFrom, Cond.instanceMethod yX3_wayFrom, Cond.selects RX3 yX3_wayFrom yX3_wayFrom, Cond.code yX3_wayFrom cX3_wayFrom 3 (some (.object "ShippedLog$Way")), Cond.fieldLink RX3 18 "ShippedLog" "ways" "[LShippedLog$Way;", Cond.methodLink RX3 252 yX2_clear, Cond.instanceMethod yX2_clear, Cond.selects RX2 yX2_clear yX2_clear, Cond.initialized RX2, Cond.code yX2_clear cX2_clear 1 none, Cond.fieldLink RX2 18 "ShippedLog$Way" "oldest" "I", Cond.fieldLink RX2 22 "ShippedLog$Way" "count" "I", Cond.methodLink RX3 85 yX1_write, Cond.instanceMethod yX1_write, Cond.selects RX1 yX1_write yX1_write]
def wsX3_promote_r4 : List Cond := [Cond.initialized RX1, Cond.code yX1_write cX1_write 5 none, Cond.fieldLink RX1 12 "ShippedLog$Node" "log" "LShippedLog$Log;", Cond.fieldLink RX1 44 "ShippedLog$Log" "end" "I", Cond.fieldLink RX1 22 "ShippedLog$Node" "applied" "I", Cond.methodLink RX1 40 yX0_append, Cond.instanceMethod yX0_append, Cond.selects RX0 yX0_append yX0_append, Cond.code yX0_append cX0_append 5 none, Cond.methodLink RX0 35 yX0_isFull, Cond.methodLink RX0 39 yX0_setByte, Cond.instanceMethod yX0_setByte, Cond.selects RX0 yX0_setByte yX0_setByte, Cond.code yX0_setByte cX0_setByte 3 none, Cond.fieldLink RX0 9 "ShippedLog$Log" "memory" "[B", Cond.methodLink RX0 43 yX0_setInt, Cond.instanceMethod yX0_setInt, Cond.selects RX0 yX0_setInt yX0_setInt, Cond.code yX0_setInt cX0_setInt 3 none, Cond.methodLink RX0 46 yX0_checksumAt, Cond.instanceMethod yX0_checksumAt, Cond.selects RX0 yX0_checksumAt yX0_checksumAt, Cond.code yX0_checksumAt cX0_checksumAt 5 (some .int), Cond.constant RX0 90 (-306674912)]
def wsX3_promote_r5 : List Cond := [Cond.methodLink RX0 25 yX0_byteOf, Cond.instanceMethod yX0_byteOf, Cond.selects RX0 yX0_byteOf yX0_byteOf, Cond.code yX0_byteOf cX0_byteOf 2 (some .int), Cond.methodLink RX3 89 yX0_sync, Cond.instanceMethod yX0_sync, Cond.selects RX0 yX0_sync yX0_sync, Cond.code yX0_sync cX0_sync 1 none, Cond.fieldLink RX0 22 "ShippedLog$Log" "synced" "I", Cond.methodLink RX0 49 yX0_saveFirst, Cond.instanceMethod yX0_saveFirst, Cond.selects RX0 yX0_saveFirst yX0_saveFirst, Cond.code yX0_saveFirst cX0_saveFirst 3 (some .int), Cond.methodLink RX0 52 Lib.Math.min.name, Cond.static Lib.Math.min.name, Cond.initialized "java/lang/Math", Cond.code Lib.Math.min.name Lib.Math.min.code 2 (some .int), Cond.fieldLink RX0 15 "ShippedLog$Log" "disk" "[B", Cond.methodLink RX0 58 yX0_copy, Cond.static yX0_copy, Cond.code yX0_copy cX0_copy 4 none, Cond.methodLink RX0 81 arraycopyName, Cond.native arraycopyName, Cond.static arraycopyName]
def wsX3_promote_r6 : List Cond := [Cond.initialized "java/lang/System"]
def wsX3_promote : List Cond := .code yX3_promote cX3_promote 3 (some .int) :: ((wsX3_promote_r1 ++ (wsX3_promote_r2 ++ (wsX3_promote_r3 ++ (wsX3_promote_r4 ++ (wsX3_promote_r5 ++ wsX3_promote_r6))))) ++ wsX10 ++ wsX30 ++ wsX00 ++ wsX20 ++ (vx_atS RX3 38 "java/lang/IllegalStateException" ["java/lang/RuntimeException", "java/lang/Exception"]).filter goodWord ++ (vx_atS RX3 81 "java/lang/UnsupportedOperationException" ["java/lang/RuntimeException", "java/lang/Exception"]).filter goodWord ++ (vx_atS RX3 138 "java/lang/IndexOutOfBoundsException" ["java/lang/RuntimeException", "java/lang/Exception"]).filter goodWord)
def wsX3_requirePrimary : List Cond := .code yX3_requirePrimary cX3_requirePrimary 1 none :: ([.classLink RX3 34 "java/lang/IllegalStateException", .initialized "java/lang/IllegalStateException", .fieldLink RX3 31 "ShippedLog$Node" "role" "I"] ++ wsX10 ++ (vx_atS RX3 38 "java/lang/IllegalStateException" ["java/lang/RuntimeException", "java/lang/Exception"]).filter goodWord)
def wsX3_follow_r1 : List Cond := [Cond.classLink RX3 34 "java/lang/IllegalStateException", Cond.initialized "java/lang/IllegalStateException", Cond.classLink RX3 60 "java/lang/IllegalArgumentException", Cond.initialized "java/lang/IllegalArgumentException", Cond.fieldLink RX3 31 "ShippedLog$Node" "role" "I", Cond.fieldLink RX3 45 "ShippedLog$Node" "log" "LShippedLog$Log;", Cond.methodLink RX3 27 yX3_nodeAt, Cond.instanceMethod yX3_nodeAt, Cond.selects RX3 yX3_nodeAt yX3_nodeAt, Cond.initialized RX3, Cond.code yX3_nodeAt cX3_nodeAt 2 (some (.object "ShippedLog$Node")), Cond.classLink RX3 134 "java/lang/IndexOutOfBoundsException", Cond.initialized "java/lang/IndexOutOfBoundsException", Cond.fieldLink RX3 11 "ShippedLog" "nodes" "[LShippedLog$Node;", Cond.methodLink RX3 131 yX3_isNode, Cond.static yX3_isNode, Cond.code yX3_isNode cX3_isNode 1 (some .boolean), Cond.methodLink RX3 92 yX3_requirePrimary, Cond.static yX3_requirePrimary, Cond.code yX3_requirePrimary cX3_requirePrimary 1 none, Cond.methodLink RX3 95 yX0_isBeginningOf, Cond.instanceMethod yX0_isBeginningOf, Cond.selects RX0 yX0_isBeginningOf yX0_isBeginningOf, Cond.initialized RX0]
def wsX3_follow_r2 : List Cond := [Cond.code yX0_isBeginningOf cX0_isBeginningOf 2 (some .boolean), Cond.fieldLink RX0 18 "ShippedLog$Log" "end" "I", Cond.methodLink RX0 73 yX0_sharedWith, Cond.instanceMethod yX0_sharedWith, Cond.selects RX0 yX0_sharedWith yX0_sharedWith, Cond.code yX0_sharedWith cX0_sharedWith 4 (some .int), Cond.methodLink RX0 52 Lib.Math.min.name, Cond.static Lib.Math.min.name, Cond.initialized "java/lang/Math", Cond.code Lib.Math.min.name Lib.Math.min.code 2 (some .int), Cond.methodLink RX0 77 yX0_hasRecordOf, Cond.instanceMethod yX0_hasRecordOf, Cond.selects RX0 yX0_hasRecordOf yX0_hasRecordOf, Cond.code yX0_hasRecordOf cX0_hasRecordOf 4 (some .boolean), Cond.methodLink RX0 25 yX0_byteOf, Cond.instanceMethod yX0_byteOf, Cond.selects RX0 yX0_byteOf yX0_byteOf, Cond.code yX0_byteOf cX0_byteOf 2 (some .int), Cond.fieldLink RX0 9 "ShippedLog$Log" "memory" "[B", Cond.methodLink RX3 41 yX3_takeRole, Cond.instanceMethod yX3_takeRole, Cond.selects RX3 yX3_takeRole yX3_takeRole, Cond.code yX3_takeRole cX3_takeRole 5 none, Cond.fieldLink RX3 145 "ShippedLog$Node" "standby" "I"]
def wsX3_follow_r3 : List Cond := [Cond.fieldLink RX3 128 "ShippedLog$Node" "acknowledged" "I", Cond.fieldLink RX3 54 "ShippedLog$Log" "end" "I", Cond.fieldLink RX3 162 "ShippedLog$Node" "known" "I", Cond.methodLink RX3 240 yX3_leaveStandby, Cond.instanceMethod yX3_leaveStandby, Cond.selects RX3 yX3_leaveStandby yX3_leaveStandby, Cond.code yX3_leaveStandby cX3_leaveStandby 3 none, Cond.methodLink RX3 243 yX3_releaseReplicas, Cond.instanceMethod yX3_releaseReplicas, Cond.selects RX3 yX3_releaseReplicas yX3_releaseReplicas, Cond.code yX3_releaseReplicas cX3_releaseReplicas 3 none, Cond.methodLink RX3 139 yX3_isReplicaOf, Cond.instanceMethod yX3_isReplicaOf, Cond.selects RX3 yX3_isReplicaOf yX3_isReplicaOf, Cond.code yX3_isReplicaOf cX3_isReplicaOf 4 (some .boolean), Cond.fieldLink RX3 222 "ShippedLog$Node" "follows" "I", Cond.methodLink RX3 246 yX3_changeRole, Cond.instanceMethod yX3_changeRole, Cond.selects RX3 yX3_changeRole yX3_changeRole, Cond.code yX3_changeRole cX3_changeRole 5 none, Cond.methodLink RX3 249 yX3_loseMessages, Cond.instanceMethod yX3_loseMessages, Cond.selects RX3 yX3_loseMessages yX3_loseMessages, Cond.code yX3_loseMessages cX3_loseMessages 3 none]
def wsX3_follow_r4 : List Cond := [Cond.methodLink RX3 152 yX3_wayFrom, Cond.instanceMethod yX3_wayFrom, Cond.selects RX3 yX3_wayFrom yX3_wayFrom, Cond.code yX3_wayFrom cX3_wayFrom 3 (some (.object "ShippedLog$Way")), Cond.fieldLink RX3 18 "ShippedLog" "ways" "[LShippedLog$Way;", Cond.methodLink RX3 252 yX2_clear, Cond.instanceMethod yX2_clear, Cond.selects RX2 yX2_clear yX2_clear, Cond.initialized RX2, Cond.code yX2_clear cX2_clear 1 none, Cond.fieldLink RX2 18 "ShippedLog$Way" "oldest" "I", Cond.fieldLink RX2 22 "ShippedLog$Way" "count" "I"]
def wsX3_follow : List Cond := .code yX3_follow cX3_follow 5 none :: ((wsX3_follow_r1 ++ (wsX3_follow_r2 ++ (wsX3_follow_r3 ++ wsX3_follow_r4))) ++ wsX10 ++ wsX30 ++ wsX00 ++ wsX20 ++ (vx_atS RX3 38 "java/lang/IllegalStateException" ["java/lang/RuntimeException", "java/lang/Exception"]).filter goodWord ++ (vx_atS RX3 64 "java/lang/IllegalArgumentException" ["java/lang/RuntimeException", "java/lang/Exception"]).filter goodWord ++ (vx_atS RX3 138 "java/lang/IndexOutOfBoundsException" ["java/lang/RuntimeException", "java/lang/Exception"]).filter goodWord)
def wsX3_rewind_r1 : List Cond := [Cond.classLink RX3 34 "java/lang/IllegalStateException", Cond.initialized "java/lang/IllegalStateException", Cond.fieldLink RX3 31 "ShippedLog$Node" "role" "I", Cond.fieldLink RX3 45 "ShippedLog$Node" "log" "LShippedLog$Log;", Cond.fieldLink RX3 54 "ShippedLog$Log" "end" "I", Cond.fieldLink RX3 57 "ShippedLog$Node" "applied" "I", Cond.methodLink RX3 27 yX3_nodeAt, Cond.instanceMethod yX3_nodeAt, Cond.selects RX3 yX3_nodeAt yX3_nodeAt, Cond.initialized RX3, Cond.code yX3_nodeAt cX3_nodeAt 2 (some (.object "ShippedLog$Node")), Cond.classLink RX3 134 "java/lang/IndexOutOfBoundsException", Cond.initialized "java/lang/IndexOutOfBoundsException", Cond.fieldLink RX3 11 "ShippedLog" "nodes" "[LShippedLog$Node;", Cond.methodLink RX3 131 yX3_isNode, Cond.static yX3_isNode, Cond.code yX3_isNode cX3_isNode 1 (some .boolean), Cond.methodLink RX3 92 yX3_requirePrimary, Cond.static yX3_requirePrimary, Cond.code yX3_requirePrimary cX3_requirePrimary 1 none, Cond.methodLink RX3 103 yX0_sharedWith, Cond.instanceMethod yX0_sharedWith, Cond.selects RX0 yX0_sharedWith yX0_sharedWith, Cond.initialized RX0]
def wsX3_rewind_r2 : List Cond := [Cond.code yX0_sharedWith cX0_sharedWith 4 (some .int), Cond.fieldLink RX0 18 "ShippedLog$Log" "end" "I", Cond.methodLink RX0 52 Lib.Math.min.name, Cond.static Lib.Math.min.name, Cond.initialized "java/lang/Math", Cond.code Lib.Math.min.name Lib.Math.min.code 2 (some .int), Cond.methodLink RX0 77 yX0_hasRecordOf, Cond.instanceMethod yX0_hasRecordOf, Cond.selects RX0 yX0_hasRecordOf yX0_hasRecordOf, Cond.code yX0_hasRecordOf cX0_hasRecordOf 4 (some .boolean), Cond.methodLink RX0 25 yX0_byteOf, Cond.instanceMethod yX0_byteOf, Cond.selects RX0 yX0_byteOf yX0_byteOf, Cond.code yX0_byteOf cX0_byteOf 2 (some .int), Cond.fieldLink RX0 9 "ShippedLog$Log" "memory" "[B", Cond.methodLink RX3 107 yX0_cutTo, Cond.instanceMethod yX0_cutTo, Cond.selects RX0 yX0_cutTo yX0_cutTo, Cond.code yX0_cutTo cX0_cutTo 3 none, Cond.fieldLink RX0 22 "ShippedLog$Log" "synced" "I", Cond.fieldLink RX0 15 "ShippedLog$Log" "disk" "[B", Cond.methodLink RX0 39 yX0_setByte, Cond.instanceMethod yX0_setByte, Cond.selects RX0 yX0_setByte yX0_setByte]
def wsX3_rewind_r3 : List Cond := [Cond.code yX0_setByte cX0_setByte 3 none, Cond.methodLink RX0 58 yX0_copy, Cond.static yX0_copy, Cond.code yX0_copy cX0_copy 4 none, Cond.methodLink RX0 81 arraycopyName, Cond.native arraycopyName, Cond.static arraycopyName, Cond.initialized "java/lang/System", Cond.methodLink RX3 41 yX3_takeRole, Cond.instanceMethod yX3_takeRole, Cond.selects RX3 yX3_takeRole yX3_takeRole, Cond.code yX3_takeRole cX3_takeRole 5 none, Cond.fieldLink RX3 145 "ShippedLog$Node" "standby" "I", Cond.fieldLink RX3 128 "ShippedLog$Node" "acknowledged" "I", Cond.fieldLink RX3 162 "ShippedLog$Node" "known" "I", Cond.methodLink RX3 240 yX3_leaveStandby, Cond.instanceMethod yX3_leaveStandby, Cond.selects RX3 yX3_leaveStandby yX3_leaveStandby, Cond.code yX3_leaveStandby cX3_leaveStandby 3 none, Cond.methodLink RX3 243 yX3_releaseReplicas, Cond.instanceMethod yX3_releaseReplicas, Cond.selects RX3 yX3_releaseReplicas yX3_releaseReplicas, Cond.code yX3_releaseReplicas cX3_releaseReplicas 3 none, Cond.methodLink RX3 139 yX3_isReplicaOf]
def wsX3_rewind_r4 : List Cond := [Cond.instanceMethod yX3_isReplicaOf, Cond.selects RX3 yX3_isReplicaOf yX3_isReplicaOf, Cond.code yX3_isReplicaOf cX3_isReplicaOf 4 (some .boolean), Cond.fieldLink RX3 222 "ShippedLog$Node" "follows" "I", Cond.methodLink RX3 246 yX3_changeRole, Cond.instanceMethod yX3_changeRole, Cond.selects RX3 yX3_changeRole yX3_changeRole, Cond.code yX3_changeRole cX3_changeRole 5 none, Cond.methodLink RX3 249 yX3_loseMessages, Cond.instanceMethod yX3_loseMessages, Cond.selects RX3 yX3_loseMessages yX3_loseMessages, Cond.code yX3_loseMessages cX3_loseMessages 3 none, Cond.methodLink RX3 152 yX3_wayFrom, Cond.instanceMethod yX3_wayFrom, Cond.selects RX3 yX3_wayFrom yX3_wayFrom, Cond.code yX3_wayFrom cX3_wayFrom 3 (some (.object "ShippedLog$Way")), Cond.fieldLink RX3 18 "ShippedLog" "ways" "[LShippedLog$Way;", Cond.methodLink RX3 252 yX2_clear, Cond.instanceMethod yX2_clear, Cond.selects RX2 yX2_clear yX2_clear, Cond.initialized RX2, Cond.code yX2_clear cX2_clear 1 none, Cond.fieldLink RX2 18 "ShippedLog$Way" "oldest" "I", Cond.fieldLink RX2 22 "ShippedLog$Way" "count" "I"]
def wsX3_rewind : List Cond := .code yX3_rewind cX3_rewind 6 (some .int) :: ((wsX3_rewind_r1 ++ (wsX3_rewind_r2 ++ (wsX3_rewind_r3 ++ wsX3_rewind_r4))) ++ wsX10 ++ wsX00 ++ wsX30 ++ wsX20 ++ (vx_atS RX3 38 "java/lang/IllegalStateException" ["java/lang/RuntimeException", "java/lang/Exception"]).filter goodWord ++ (vx_atS RX3 138 "java/lang/IndexOutOfBoundsException" ["java/lang/RuntimeException", "java/lang/Exception"]).filter goodWord)
def wsX3_isKey : List Cond := .code yX3_isKey cX3_isKey 1 (some .boolean) :: ([])
def wsX3_put_r1 : List Cond := [Cond.classLink RX3 60 "java/lang/IllegalArgumentException", Cond.initialized "java/lang/IllegalArgumentException", Cond.fieldLink RX3 45 "ShippedLog$Node" "log" "LShippedLog$Log;", Cond.fieldLink RX3 54 "ShippedLog$Log" "end" "I", Cond.methodLink RX3 27 yX3_nodeAt, Cond.instanceMethod yX3_nodeAt, Cond.selects RX3 yX3_nodeAt yX3_nodeAt, Cond.initialized RX3, Cond.code yX3_nodeAt cX3_nodeAt 2 (some (.object "ShippedLog$Node")), Cond.classLink RX3 134 "java/lang/IndexOutOfBoundsException", Cond.initialized "java/lang/IndexOutOfBoundsException", Cond.fieldLink RX3 11 "ShippedLog" "nodes" "[LShippedLog$Node;", Cond.methodLink RX3 131 yX3_isNode, Cond.static yX3_isNode, Cond.code yX3_isNode cX3_isNode 1 (some .boolean), Cond.methodLink RX3 92 yX3_requirePrimary, Cond.static yX3_requirePrimary, Cond.code yX3_requirePrimary cX3_requirePrimary 1 none, Cond.classLink RX3 34 "java/lang/IllegalStateException", Cond.initialized "java/lang/IllegalStateException", Cond.fieldLink RX3 31 "ShippedLog$Node" "role" "I", Cond.methodLink RX3 111 yX3_isKey, Cond.static yX3_isKey, Cond.code yX3_isKey cX3_isKey 1 (some .boolean)]
def wsX3_put_r2 : List Cond := [Cond.methodLink RX3 73 yX3_requireRoom, Cond.static yX3_requireRoom, Cond.code yX3_requireRoom cX3_requireRoom 1 none, Cond.classLink RX3 77 "java/lang/UnsupportedOperationException", Cond.initialized "java/lang/UnsupportedOperationException", Cond.methodLink RX3 227 yX0_isFull, Cond.instanceMethod yX0_isFull, Cond.selects RX0 yX0_isFull yX0_isFull, Cond.initialized RX0, Cond.code yX0_isFull cX0_isFull 1 (some .boolean), Cond.fieldLink RX0 18 "ShippedLog$Log" "end" "I", Cond.methodLink RX3 117 yX0_lastTimeline, Cond.instanceMethod yX0_lastTimeline, Cond.selects RX0 yX0_lastTimeline yX0_lastTimeline, Cond.code yX0_lastTimeline cX0_lastTimeline 1 (some .int), Cond.methodLink RX0 32 yX0_timelineAt, Cond.instanceMethod yX0_timelineAt, Cond.selects RX0 yX0_timelineAt yX0_timelineAt, Cond.code yX0_timelineAt cX0_timelineAt 2 (some .int), Cond.methodLink RX0 25 yX0_byteOf, Cond.instanceMethod yX0_byteOf, Cond.selects RX0 yX0_byteOf yX0_byteOf, Cond.code yX0_byteOf cX0_byteOf 2 (some .int), Cond.fieldLink RX0 9 "ShippedLog$Log" "memory" "[B"]
def wsX3_put_r3 : List Cond := [Cond.methodLink RX3 85 yX1_write, Cond.instanceMethod yX1_write, Cond.selects RX1 yX1_write yX1_write, Cond.initialized RX1, Cond.code yX1_write cX1_write 5 none, Cond.fieldLink RX1 12 "ShippedLog$Node" "log" "LShippedLog$Log;", Cond.fieldLink RX1 44 "ShippedLog$Log" "end" "I", Cond.fieldLink RX1 22 "ShippedLog$Node" "applied" "I", Cond.methodLink RX1 40 yX0_append, Cond.instanceMethod yX0_append, Cond.selects RX0 yX0_append yX0_append, Cond.code yX0_append cX0_append 5 none, Cond.methodLink RX0 35 yX0_isFull, Cond.methodLink RX0 39 yX0_setByte, Cond.instanceMethod yX0_setByte, Cond.selects RX0 yX0_setByte yX0_setByte, Cond.code yX0_setByte cX0_setByte 3 none, Cond.methodLink RX0 43 yX0_setInt, Cond.instanceMethod yX0_setInt, Cond.selects RX0 yX0_setInt yX0_setInt, Cond.code yX0_setInt cX0_setInt 3 none, Cond.methodLink RX0 46 yX0_checksumAt, Cond.instanceMethod yX0_checksumAt, Cond.selects RX0 yX0_checksumAt yX0_checksumAt]
def wsX3_put_r4 : List Cond := [Cond.code yX0_checksumAt cX0_checksumAt 5 (some .int), Cond.constant RX0 90 (-306674912)]
def wsX3_put : List Cond := .code yX3_put cX3_put 6 (some .int) :: ((wsX3_put_r1 ++ (wsX3_put_r2 ++ (wsX3_put_r3 ++ wsX3_put_r4))) ++ wsX10 ++ wsX00 ++ wsX30 ++ (vx_atS RX3 64 "java/lang/IllegalArgumentException" ["java/lang/RuntimeException", "java/lang/Exception"]).filter goodWord ++ (vx_atS RX3 138 "java/lang/IndexOutOfBoundsException" ["java/lang/RuntimeException", "java/lang/Exception"]).filter goodWord ++ (vx_atS RX3 38 "java/lang/IllegalStateException" ["java/lang/RuntimeException", "java/lang/Exception"]).filter goodWord ++ (vx_atS RX3 81 "java/lang/UnsupportedOperationException" ["java/lang/RuntimeException", "java/lang/Exception"]).filter goodWord)
def wsX3_safePosition : List Cond := .code yX3_safePosition cX3_safePosition 2 (some .int) :: ([.fieldLink RX3 145 "ShippedLog$Node" "standby" "I", .fieldLink RX3 45 "ShippedLog$Node" "log" "LShippedLog$Log;", .fieldLink RX3 54 "ShippedLog$Log" "end" "I", .fieldLink RX3 162 "ShippedLog$Node" "known" "I", .methodLink RX3 27 yX3_nodeAt, .instanceMethod yX3_nodeAt, .selects RX3 yX3_nodeAt yX3_nodeAt, .initialized RX3, .code yX3_nodeAt cX3_nodeAt 2 (some (.object "ShippedLog$Node")), .classLink RX3 134 "java/lang/IndexOutOfBoundsException", .initialized "java/lang/IndexOutOfBoundsException", .fieldLink RX3 11 "ShippedLog" "nodes" "[LShippedLog$Node;", .methodLink RX3 131 yX3_isNode, .static yX3_isNode, .code yX3_isNode cX3_isNode 1 (some .boolean)] ++ wsX10 ++ wsX00 ++ wsX30 ++ (vx_atS RX3 138 "java/lang/IndexOutOfBoundsException" ["java/lang/RuntimeException", "java/lang/Exception"]).filter goodWord)
def wsX3_commit_r1 : List Cond := [Cond.fieldLink RX3 45 "ShippedLog$Node" "log" "LShippedLog$Log;", Cond.fieldLink RX3 128 "ShippedLog$Node" "acknowledged" "I", Cond.fieldLink RX3 54 "ShippedLog$Log" "end" "I", Cond.methodLink RX3 27 yX3_nodeAt, Cond.instanceMethod yX3_nodeAt, Cond.selects RX3 yX3_nodeAt yX3_nodeAt, Cond.initialized RX3, Cond.code yX3_nodeAt cX3_nodeAt 2 (some (.object "ShippedLog$Node")), Cond.classLink RX3 134 "java/lang/IndexOutOfBoundsException", Cond.initialized "java/lang/IndexOutOfBoundsException", Cond.fieldLink RX3 11 "ShippedLog" "nodes" "[LShippedLog$Node;", Cond.methodLink RX3 131 yX3_isNode, Cond.static yX3_isNode, Cond.code yX3_isNode cX3_isNode 1 (some .boolean), Cond.methodLink RX3 92 yX3_requirePrimary, Cond.static yX3_requirePrimary, Cond.code yX3_requirePrimary cX3_requirePrimary 1 none, Cond.classLink RX3 34 "java/lang/IllegalStateException", Cond.initialized "java/lang/IllegalStateException", Cond.fieldLink RX3 31 "ShippedLog$Node" "role" "I", Cond.methodLink RX3 73 yX3_requireRoom, Cond.static yX3_requireRoom, Cond.code yX3_requireRoom cX3_requireRoom 1 none, Cond.classLink RX3 77 "java/lang/UnsupportedOperationException"]
def wsX3_commit_r2 : List Cond := [Cond.initialized "java/lang/UnsupportedOperationException", Cond.methodLink RX3 227 yX0_isFull, Cond.instanceMethod yX0_isFull, Cond.selects RX0 yX0_isFull yX0_isFull, Cond.initialized RX0, Cond.code yX0_isFull cX0_isFull 1 (some .boolean), Cond.fieldLink RX0 18 "ShippedLog$Log" "end" "I", Cond.methodLink RX3 117 yX0_lastTimeline, Cond.instanceMethod yX0_lastTimeline, Cond.selects RX0 yX0_lastTimeline yX0_lastTimeline, Cond.code yX0_lastTimeline cX0_lastTimeline 1 (some .int), Cond.methodLink RX0 32 yX0_timelineAt, Cond.instanceMethod yX0_timelineAt, Cond.selects RX0 yX0_timelineAt yX0_timelineAt, Cond.code yX0_timelineAt cX0_timelineAt 2 (some .int), Cond.methodLink RX0 25 yX0_byteOf, Cond.instanceMethod yX0_byteOf, Cond.selects RX0 yX0_byteOf yX0_byteOf, Cond.code yX0_byteOf cX0_byteOf 2 (some .int), Cond.fieldLink RX0 9 "ShippedLog$Log" "memory" "[B", Cond.methodLink RX3 85 yX1_write, Cond.instanceMethod yX1_write, Cond.selects RX1 yX1_write yX1_write, Cond.initialized RX1]
def wsX3_commit_r3 : List Cond := [Cond.code yX1_write cX1_write 5 none, Cond.fieldLink RX1 12 "ShippedLog$Node" "log" "LShippedLog$Log;", Cond.fieldLink RX1 44 "ShippedLog$Log" "end" "I", Cond.fieldLink RX1 22 "ShippedLog$Node" "applied" "I", Cond.methodLink RX1 40 yX0_append, Cond.instanceMethod yX0_append, Cond.selects RX0 yX0_append yX0_append, Cond.code yX0_append cX0_append 5 none, Cond.methodLink RX0 35 yX0_isFull, Cond.methodLink RX0 39 yX0_setByte, Cond.instanceMethod yX0_setByte, Cond.selects RX0 yX0_setByte yX0_setByte, Cond.code yX0_setByte cX0_setByte 3 none, Cond.methodLink RX0 43 yX0_setInt, Cond.instanceMethod yX0_setInt, Cond.selects RX0 yX0_setInt yX0_setInt, Cond.code yX0_setInt cX0_setInt 3 none, Cond.methodLink RX0 46 yX0_checksumAt, Cond.instanceMethod yX0_checksumAt, Cond.selects RX0 yX0_checksumAt yX0_checksumAt, Cond.code yX0_checksumAt cX0_checksumAt 5 (some .int), Cond.constant RX0 90 (-306674912), Cond.methodLink RX3 89 yX0_sync, Cond.instanceMethod yX0_sync]
def wsX3_commit_r4 : List Cond := [Cond.selects RX0 yX0_sync yX0_sync, Cond.code yX0_sync cX0_sync 1 none, Cond.fieldLink RX0 22 "ShippedLog$Log" "synced" "I", Cond.methodLink RX0 49 yX0_saveFirst, Cond.instanceMethod yX0_saveFirst, Cond.selects RX0 yX0_saveFirst yX0_saveFirst, Cond.code yX0_saveFirst cX0_saveFirst 3 (some .int), Cond.methodLink RX0 52 Lib.Math.min.name, Cond.static Lib.Math.min.name, Cond.initialized "java/lang/Math", Cond.code Lib.Math.min.name Lib.Math.min.code 2 (some .int), Cond.fieldLink RX0 15 "ShippedLog$Log" "disk" "[B", Cond.methodLink RX0 58 yX0_copy, Cond.static yX0_copy, Cond.code yX0_copy cX0_copy 4 none, Cond.methodLink RX0 81 arraycopyName, Cond.native arraycopyName, Cond.static arraycopyName, Cond.initialized "java/lang/System", Cond.methodLink RX3 121 yX3_safePosition, Cond.instanceMethod yX3_safePosition, Cond.selects RX3 yX3_safePosition yX3_safePosition, Cond.code yX3_safePosition cX3_safePosition 2 (some .int), Cond.fieldLink RX3 145 "ShippedLog$Node" "standby" "I"]
def wsX3_commit_r5 : List Cond := [Cond.fieldLink RX3 162 "ShippedLog$Node" "known" "I", Cond.methodLink RX3 125 yX1_acknowledgeUpTo, Cond.instanceMethod yX1_acknowledgeUpTo, Cond.selects RX1 yX1_acknowledgeUpTo yX1_acknowledgeUpTo, Cond.code yX1_acknowledgeUpTo cX1_acknowledgeUpTo 4 none, Cond.methodLink RX1 47 Lib.Math.min.name, Cond.fieldLink RX1 37 "ShippedLog$Node" "promotedAt" "I", Cond.fieldLink RX1 34 "ShippedLog$Node" "acknowledged" "I", Cond.methodLink RX1 57 Lib.Math.max.name, Cond.static Lib.Math.max.name, Cond.code Lib.Math.max.name Lib.Math.max.code 2 (some .int), Cond.methodLink RX1 53 yX0_kindAt, Cond.instanceMethod yX0_kindAt, Cond.selects RX0 yX0_kindAt yX0_kindAt, Cond.code yX0_kindAt cX0_kindAt 2 (some .int)]
def wsX3_commit : List Cond := .code yX3_commit cX3_commit 3 (some .boolean) :: ((wsX3_commit_r1 ++ (wsX3_commit_r2 ++ (wsX3_commit_r3 ++ (wsX3_commit_r4 ++ wsX3_commit_r5)))) ++ wsX10 ++ wsX00 ++ wsX30 ++ (vx_atS RX3 138 "java/lang/IndexOutOfBoundsException" ["java/lang/RuntimeException", "java/lang/Exception"]).filter goodWord ++ (vx_atS RX3 38 "java/lang/IllegalStateException" ["java/lang/RuntimeException", "java/lang/Exception"]).filter goodWord ++ (vx_atS RX3 81 "java/lang/UnsupportedOperationException" ["java/lang/RuntimeException", "java/lang/Exception"]).filter goodWord)
def wsX3_standby_r1 : List Cond := [Cond.classLink RX3 134 "java/lang/IndexOutOfBoundsException", Cond.initialized "java/lang/IndexOutOfBoundsException", Cond.classLink RX3 60 "java/lang/IllegalArgumentException", Cond.initialized "java/lang/IllegalArgumentException", Cond.fieldLink RX3 145 "ShippedLog$Node" "standby" "I", Cond.methodLink RX3 27 yX3_nodeAt, Cond.instanceMethod yX3_nodeAt, Cond.selects RX3 yX3_nodeAt yX3_nodeAt, Cond.initialized RX3, Cond.code yX3_nodeAt cX3_nodeAt 2 (some (.object "ShippedLog$Node")), Cond.fieldLink RX3 11 "ShippedLog" "nodes" "[LShippedLog$Node;", Cond.methodLink RX3 131 yX3_isNode, Cond.static yX3_isNode, Cond.code yX3_isNode cX3_isNode 1 (some .boolean), Cond.methodLink RX3 92 yX3_requirePrimary, Cond.static yX3_requirePrimary, Cond.code yX3_requirePrimary cX3_requirePrimary 1 none, Cond.classLink RX3 34 "java/lang/IllegalStateException", Cond.initialized "java/lang/IllegalStateException", Cond.fieldLink RX3 31 "ShippedLog$Node" "role" "I", Cond.methodLink RX3 139 yX3_isReplicaOf, Cond.instanceMethod yX3_isReplicaOf, Cond.selects RX3 yX3_isReplicaOf yX3_isReplicaOf, Cond.code yX3_isReplicaOf cX3_isReplicaOf 4 (some .boolean)]
def wsX3_standby_r2 : List Cond := [Cond.fieldLink RX3 222 "ShippedLog$Node" "follows" "I", Cond.methodLink RX3 121 yX3_safePosition, Cond.instanceMethod yX3_safePosition, Cond.selects RX3 yX3_safePosition yX3_safePosition, Cond.code yX3_safePosition cX3_safePosition 2 (some .int), Cond.fieldLink RX3 45 "ShippedLog$Node" "log" "LShippedLog$Log;", Cond.fieldLink RX3 54 "ShippedLog$Log" "end" "I", Cond.fieldLink RX3 162 "ShippedLog$Node" "known" "I", Cond.methodLink RX3 125 yX1_acknowledgeUpTo, Cond.instanceMethod yX1_acknowledgeUpTo, Cond.selects RX1 yX1_acknowledgeUpTo yX1_acknowledgeUpTo, Cond.initialized RX1, Cond.code yX1_acknowledgeUpTo cX1_acknowledgeUpTo 4 none, Cond.fieldLink RX1 12 "ShippedLog$Node" "log" "LShippedLog$Log;", Cond.fieldLink RX1 44 "ShippedLog$Log" "end" "I", Cond.methodLink RX1 47 Lib.Math.min.name, Cond.static Lib.Math.min.name, Cond.initialized "java/lang/Math", Cond.code Lib.Math.min.name Lib.Math.min.code 2 (some .int), Cond.fieldLink RX1 37 "ShippedLog$Node" "promotedAt" "I", Cond.fieldLink RX1 34 "ShippedLog$Node" "acknowledged" "I", Cond.methodLink RX1 57 Lib.Math.max.name, Cond.static Lib.Math.max.name, Cond.code Lib.Math.max.name Lib.Math.max.code 2 (some .int)]
def wsX3_standby_r3 : List Cond := [Cond.methodLink RX1 53 yX0_kindAt, Cond.instanceMethod yX0_kindAt, Cond.selects RX0 yX0_kindAt yX0_kindAt, Cond.initialized RX0, Cond.code yX0_kindAt cX0_kindAt 2 (some .int), Cond.methodLink RX0 25 yX0_byteOf, Cond.instanceMethod yX0_byteOf, Cond.selects RX0 yX0_byteOf yX0_byteOf, Cond.code yX0_byteOf cX0_byteOf 2 (some .int), Cond.fieldLink RX0 9 "ShippedLog$Log" "memory" "[B"]
def wsX3_standby : List Cond := .code yX3_standby cX3_standby 5 (some .int) :: ((wsX3_standby_r1 ++ (wsX3_standby_r2 ++ wsX3_standby_r3)) ++ wsX10 ++ wsX30 ++ wsX00 ++ (vx_atS RX3 138 "java/lang/IndexOutOfBoundsException" ["java/lang/RuntimeException", "java/lang/Exception"]).filter goodWord ++ (vx_atS RX3 64 "java/lang/IllegalArgumentException" ["java/lang/RuntimeException", "java/lang/Exception"]).filter goodWord ++ (vx_atS RX3 38 "java/lang/IllegalStateException" ["java/lang/RuntimeException", "java/lang/Exception"]).filter goodWord)
def wsX3_requireLink : List Cond := .code yX3_requireLink cX3_requireLink 3 none :: ([.classLink RX3 34 "java/lang/IllegalStateException", .initialized "java/lang/IllegalStateException", .methodLink RX3 139 yX3_isReplicaOf, .instanceMethod yX3_isReplicaOf, .selects RX3 yX3_isReplicaOf yX3_isReplicaOf, .initialized RX3, .code yX3_isReplicaOf cX3_isReplicaOf 4 (some .boolean), .fieldLink RX3 31 "ShippedLog$Node" "role" "I", .fieldLink RX3 222 "ShippedLog$Node" "follows" "I", .methodLink RX3 27 yX3_nodeAt, .instanceMethod yX3_nodeAt, .selects RX3 yX3_nodeAt yX3_nodeAt, .code yX3_nodeAt cX3_nodeAt 2 (some (.object "ShippedLog$Node")), .classLink RX3 134 "java/lang/IndexOutOfBoundsException", .initialized "java/lang/IndexOutOfBoundsException", .fieldLink RX3 11 "ShippedLog" "nodes" "[LShippedLog$Node;", .methodLink RX3 131 yX3_isNode, .static yX3_isNode, .code yX3_isNode cX3_isNode 1 (some .boolean)] ++ wsX10 ++ wsX30 ++ (vx_atS RX3 38 "java/lang/IllegalStateException" ["java/lang/RuntimeException", "java/lang/Exception"]).filter goodWord ++ (vx_atS RX3 138 "java/lang/IndexOutOfBoundsException" ["java/lang/RuntimeException", "java/lang/Exception"]).filter goodWord)
def wsX3_send_r1 : List Cond := [Cond.classLink RX3 77 "java/lang/UnsupportedOperationException", Cond.initialized "java/lang/UnsupportedOperationException", Cond.classLink RX3 171 "java/util/NoSuchElementException", Cond.initialized "java/util/NoSuchElementException", Cond.fieldLink RX3 45 "ShippedLog$Node" "log" "LShippedLog$Log;", Cond.fieldLink RX3 54 "ShippedLog$Log" "end" "I", Cond.fieldLink RX3 162 "ShippedLog$Node" "known" "I", Cond.methodLink RX3 165 Lib.Math.min.name, Cond.static Lib.Math.min.name, Cond.initialized "java/lang/Math", Cond.code Lib.Math.min.name Lib.Math.min.code 2 (some .int), Cond.methodLink RX3 27 yX3_nodeAt, Cond.instanceMethod yX3_nodeAt, Cond.selects RX3 yX3_nodeAt yX3_nodeAt, Cond.initialized RX3, Cond.code yX3_nodeAt cX3_nodeAt 2 (some (.object "ShippedLog$Node")), Cond.classLink RX3 134 "java/lang/IndexOutOfBoundsException", Cond.initialized "java/lang/IndexOutOfBoundsException", Cond.fieldLink RX3 11 "ShippedLog" "nodes" "[LShippedLog$Node;", Cond.methodLink RX3 131 yX3_isNode, Cond.static yX3_isNode, Cond.code yX3_isNode cX3_isNode 1 (some .boolean), Cond.methodLink RX3 148 yX3_requireLink, Cond.instanceMethod yX3_requireLink]
def wsX3_send_r2 : List Cond := [Cond.selects RX3 yX3_requireLink yX3_requireLink, Cond.code yX3_requireLink cX3_requireLink 3 none, Cond.classLink RX3 34 "java/lang/IllegalStateException", Cond.initialized "java/lang/IllegalStateException", Cond.methodLink RX3 139 yX3_isReplicaOf, Cond.instanceMethod yX3_isReplicaOf, Cond.selects RX3 yX3_isReplicaOf yX3_isReplicaOf, Cond.code yX3_isReplicaOf cX3_isReplicaOf 4 (some .boolean), Cond.fieldLink RX3 31 "ShippedLog$Node" "role" "I", Cond.fieldLink RX3 222 "ShippedLog$Node" "follows" "I", Cond.methodLink RX3 152 yX3_wayFrom, Cond.instanceMethod yX3_wayFrom, Cond.selects RX3 yX3_wayFrom yX3_wayFrom, Cond.code yX3_wayFrom cX3_wayFrom 3 (some (.object "ShippedLog$Way")), Cond.fieldLink RX3 18 "ShippedLog" "ways" "[LShippedLog$Way;", Cond.methodLink RX3 156 yX2_isFull, Cond.instanceMethod yX2_isFull, Cond.selects RX2 yX2_isFull yX2_isFull, Cond.initialized RX2, Cond.code yX2_isFull cX2_isFull 1 (some .boolean), Cond.fieldLink RX2 22 "ShippedLog$Way" "count" "I", Cond.methodLink RX3 176 yX2_add, Cond.instanceMethod yX2_add, Cond.selects RX2 yX2_add yX2_add]
def wsX3_send_r3 : List Cond := [Cond.code yX2_add cX2_add 4 none, Cond.fieldLink RX2 9 "ShippedLog$Way" "positions" "[I", Cond.fieldLink RX2 15 "ShippedLog$Way" "bytes" "[I", Cond.methodLink RX2 25 yX2_isFull, Cond.methodLink RX2 29 yX2_slot, Cond.instanceMethod yX2_slot, Cond.selects RX2 yX2_slot yX2_slot, Cond.code yX2_slot cX2_slot 2 (some .int), Cond.fieldLink RX2 18 "ShippedLog$Way" "oldest" "I", Cond.methodLink RX2 33 yJ9_floorMod_7cf53, Cond.static yJ9_floorMod_7cf53, Cond.initialized RJ9, Cond.code yJ9_floorMod_7cf53 cJ9_floorMod_7cf53 3 (some .int)]
def wsX3_send : List Cond := .code yX3_send cX3_send 7 (some .int) :: ((wsX3_send_r1 ++ (wsX3_send_r2 ++ wsX3_send_r3)) ++ wsX10 ++ wsX00 ++ wsX30 ++ wsX20 ++ (vx_atS RX3 81 "java/lang/UnsupportedOperationException" ["java/lang/RuntimeException", "java/lang/Exception"]).filter goodWord ++ (nz_at RX3 175 "java/util/NoSuchElementException" 13 nz_code ["java/lang/RuntimeException", "java/lang/Exception"]).filter goodWord ++ (vx_atS RX3 138 "java/lang/IndexOutOfBoundsException" ["java/lang/RuntimeException", "java/lang/Exception"]).filter goodWord ++ (vx_atS RX3 38 "java/lang/IllegalStateException" ["java/lang/RuntimeException", "java/lang/Exception"]).filter goodWord)
def wsX3_requireMessage : List Cond := .code yX3_requireMessage cX3_requireMessage 3 none :: ([.classLink RX3 171 "java/util/NoSuchElementException", .initialized "java/util/NoSuchElementException", .fieldLink RX3 191 "ShippedLog$Way" "count" "I", .methodLink RX3 152 yX3_wayFrom, .instanceMethod yX3_wayFrom, .selects RX3 yX3_wayFrom yX3_wayFrom, .initialized RX3, .code yX3_wayFrom cX3_wayFrom 3 (some (.object "ShippedLog$Way")), .classLink RX3 134 "java/lang/IndexOutOfBoundsException", .initialized "java/lang/IndexOutOfBoundsException", .fieldLink RX3 18 "ShippedLog" "ways" "[LShippedLog$Way;", .methodLink RX3 131 yX3_isNode, .static yX3_isNode, .code yX3_isNode cX3_isNode 1 (some .boolean)] ++ wsX20 ++ wsX30 ++ (nz_at RX3 175 "java/util/NoSuchElementException" 13 nz_code ["java/lang/RuntimeException", "java/lang/Exception"]).filter goodWord ++ (vx_atS RX3 138 "java/lang/IndexOutOfBoundsException" ["java/lang/RuntimeException", "java/lang/Exception"]).filter goodWord)
def wsX3_deliverPosition_r1 : List Cond := [Cond.fieldLink RX3 162 "ShippedLog$Node" "known" "I", Cond.fieldLink RX3 145 "ShippedLog$Node" "standby" "I", Cond.methodLink RX3 27 yX3_nodeAt, Cond.instanceMethod yX3_nodeAt, Cond.selects RX3 yX3_nodeAt yX3_nodeAt, Cond.initialized RX3, Cond.code yX3_nodeAt cX3_nodeAt 2 (some (.object "ShippedLog$Node")), Cond.classLink RX3 134 "java/lang/IndexOutOfBoundsException", Cond.initialized "java/lang/IndexOutOfBoundsException", Cond.fieldLink RX3 11 "ShippedLog" "nodes" "[LShippedLog$Node;", Cond.methodLink RX3 131 yX3_isNode, Cond.static yX3_isNode, Cond.code yX3_isNode cX3_isNode 1 (some .boolean), Cond.methodLink RX3 152 yX3_wayFrom, Cond.instanceMethod yX3_wayFrom, Cond.selects RX3 yX3_wayFrom yX3_wayFrom, Cond.code yX3_wayFrom cX3_wayFrom 3 (some (.object "ShippedLog$Way")), Cond.fieldLink RX3 18 "ShippedLog" "ways" "[LShippedLog$Way;", Cond.methodLink RX3 255 yX2_oldestPosition, Cond.instanceMethod yX2_oldestPosition, Cond.selects RX2 yX2_oldestPosition yX2_oldestPosition, Cond.initialized RX2, Cond.code yX2_oldestPosition cX2_oldestPosition 1 (some .int), Cond.fieldLink RX2 9 "ShippedLog$Way" "positions" "[I"]
def wsX3_deliverPosition_r2 : List Cond := [Cond.methodLink RX2 29 yX2_slot, Cond.instanceMethod yX2_slot, Cond.selects RX2 yX2_slot yX2_slot, Cond.code yX2_slot cX2_slot 2 (some .int), Cond.fieldLink RX2 18 "ShippedLog$Way" "oldest" "I", Cond.methodLink RX2 33 yJ9_floorMod_7cf53, Cond.static yJ9_floorMod_7cf53, Cond.initialized RJ9, Cond.code yJ9_floorMod_7cf53 cJ9_floorMod_7cf53 3 (some .int), Cond.methodLink RX3 188 yX2_removeOldest, Cond.instanceMethod yX2_removeOldest, Cond.selects RX2 yX2_removeOldest yX2_removeOldest, Cond.code yX2_removeOldest cX2_removeOldest 1 none, Cond.fieldLink RX2 22 "ShippedLog$Way" "count" "I", Cond.methodLink RX3 125 yX1_acknowledgeUpTo, Cond.instanceMethod yX1_acknowledgeUpTo, Cond.selects RX1 yX1_acknowledgeUpTo yX1_acknowledgeUpTo, Cond.initialized RX1, Cond.code yX1_acknowledgeUpTo cX1_acknowledgeUpTo 4 none, Cond.fieldLink RX1 12 "ShippedLog$Node" "log" "LShippedLog$Log;", Cond.fieldLink RX1 44 "ShippedLog$Log" "end" "I", Cond.methodLink RX1 47 Lib.Math.min.name, Cond.static Lib.Math.min.name, Cond.initialized "java/lang/Math"]
def wsX3_deliverPosition_r3 : List Cond := [Cond.code Lib.Math.min.name Lib.Math.min.code 2 (some .int), Cond.fieldLink RX1 37 "ShippedLog$Node" "promotedAt" "I", Cond.fieldLink RX1 34 "ShippedLog$Node" "acknowledged" "I", Cond.methodLink RX1 57 Lib.Math.max.name, Cond.static Lib.Math.max.name, Cond.code Lib.Math.max.name Lib.Math.max.code 2 (some .int), Cond.methodLink RX1 53 yX0_kindAt, Cond.instanceMethod yX0_kindAt, Cond.selects RX0 yX0_kindAt yX0_kindAt, Cond.initialized RX0, Cond.code yX0_kindAt cX0_kindAt 2 (some .int), Cond.methodLink RX0 25 yX0_byteOf, Cond.instanceMethod yX0_byteOf, Cond.selects RX0 yX0_byteOf yX0_byteOf, Cond.code yX0_byteOf cX0_byteOf 2 (some .int), Cond.fieldLink RX0 9 "ShippedLog$Log" "memory" "[B"]
def wsX3_deliverPosition : List Cond := .code yX3_deliverPosition cX3_deliverPosition 6 (some .int) :: ((wsX3_deliverPosition_r1 ++ (wsX3_deliverPosition_r2 ++ wsX3_deliverPosition_r3)) ++ wsX10 ++ wsX30 ++ wsX20 ++ wsX00 ++ (vx_atS RX3 138 "java/lang/IndexOutOfBoundsException" ["java/lang/RuntimeException", "java/lang/Exception"]).filter goodWord)
def wsX3_deliverRecords_r1 : List Cond := [Cond.classLink RX3 77 "java/lang/UnsupportedOperationException", Cond.initialized "java/lang/UnsupportedOperationException", Cond.fieldLink RX3 45 "ShippedLog$Node" "log" "LShippedLog$Log;", Cond.fieldLink RX3 54 "ShippedLog$Log" "end" "I", Cond.methodLink RX3 27 yX3_nodeAt, Cond.instanceMethod yX3_nodeAt, Cond.selects RX3 yX3_nodeAt yX3_nodeAt, Cond.initialized RX3, Cond.code yX3_nodeAt cX3_nodeAt 2 (some (.object "ShippedLog$Node")), Cond.classLink RX3 134 "java/lang/IndexOutOfBoundsException", Cond.initialized "java/lang/IndexOutOfBoundsException", Cond.fieldLink RX3 11 "ShippedLog" "nodes" "[LShippedLog$Node;", Cond.methodLink RX3 131 yX3_isNode, Cond.static yX3_isNode, Cond.code yX3_isNode cX3_isNode 1 (some .boolean), Cond.methodLink RX3 152 yX3_wayFrom, Cond.instanceMethod yX3_wayFrom, Cond.selects RX3 yX3_wayFrom yX3_wayFrom, Cond.code yX3_wayFrom cX3_wayFrom 3 (some (.object "ShippedLog$Way")), Cond.fieldLink RX3 18 "ShippedLog" "ways" "[LShippedLog$Way;", Cond.methodLink RX3 156 yX2_isFull, Cond.instanceMethod yX2_isFull, Cond.selects RX2 yX2_isFull yX2_isFull, Cond.initialized RX2]
def wsX3_deliverRecords_r2 : List Cond := [Cond.code yX2_isFull cX2_isFull 1 (some .boolean), Cond.fieldLink RX2 22 "ShippedLog$Way" "count" "I", Cond.methodLink RX3 255 yX2_oldestPosition, Cond.instanceMethod yX2_oldestPosition, Cond.selects RX2 yX2_oldestPosition yX2_oldestPosition, Cond.code yX2_oldestPosition cX2_oldestPosition 1 (some .int), Cond.fieldLink RX2 9 "ShippedLog$Way" "positions" "[I", Cond.methodLink RX2 29 yX2_slot, Cond.instanceMethod yX2_slot, Cond.selects RX2 yX2_slot yX2_slot, Cond.code yX2_slot cX2_slot 2 (some .int), Cond.fieldLink RX2 18 "ShippedLog$Way" "oldest" "I", Cond.methodLink RX2 33 yJ9_floorMod_7cf53, Cond.static yJ9_floorMod_7cf53, Cond.initialized RJ9, Cond.code yJ9_floorMod_7cf53 cJ9_floorMod_7cf53 3 (some .int), Cond.methodLink RX3 260 yX2_oldestBytes, Cond.instanceMethod yX2_oldestBytes, Cond.selects RX2 yX2_oldestBytes yX2_oldestBytes, Cond.code yX2_oldestBytes cX2_oldestBytes 1 (some .int), Cond.fieldLink RX2 15 "ShippedLog$Way" "bytes" "[I", Cond.methodLink RX3 263 yX0_receive, Cond.instanceMethod yX0_receive, Cond.selects RX0 yX0_receive yX0_receive]
def wsX3_deliverRecords_r3 : List Cond := [Cond.initialized RX0, Cond.code yX0_receive cX0_receive 4 none, Cond.fieldLink RX0 18 "ShippedLog$Log" "end" "I", Cond.fieldLink RX0 9 "ShippedLog$Log" "memory" "[B", Cond.methodLink RX0 58 yX0_copy, Cond.static yX0_copy, Cond.code yX0_copy cX0_copy 4 none, Cond.methodLink RX0 81 arraycopyName, Cond.native arraycopyName, Cond.static arraycopyName, Cond.initialized "java/lang/System", Cond.methodLink RX0 70 yX0_sync, Cond.instanceMethod yX0_sync, Cond.selects RX0 yX0_sync yX0_sync, Cond.code yX0_sync cX0_sync 1 none, Cond.fieldLink RX0 22 "ShippedLog$Log" "synced" "I", Cond.methodLink RX0 49 yX0_saveFirst, Cond.instanceMethod yX0_saveFirst, Cond.selects RX0 yX0_saveFirst yX0_saveFirst, Cond.code yX0_saveFirst cX0_saveFirst 3 (some .int), Cond.methodLink RX0 52 Lib.Math.min.name, Cond.static Lib.Math.min.name, Cond.initialized "java/lang/Math", Cond.code Lib.Math.min.name Lib.Math.min.code 2 (some .int)]
def wsX3_deliverRecords_r4 : List Cond := [Cond.fieldLink RX0 15 "ShippedLog$Log" "disk" "[B", Cond.methodLink RX3 188 yX2_removeOldest, Cond.instanceMethod yX2_removeOldest, Cond.selects RX2 yX2_removeOldest yX2_removeOldest, Cond.code yX2_removeOldest cX2_removeOldest 1 none, Cond.methodLink RX3 176 yX2_add, Cond.instanceMethod yX2_add, Cond.selects RX2 yX2_add yX2_add, Cond.code yX2_add cX2_add 4 none, Cond.methodLink RX2 25 yX2_isFull]
def wsX3_deliverRecords : List Cond := .code yX3_deliverRecords cX3_deliverRecords 7 (some .int) :: ((wsX3_deliverRecords_r1 ++ (wsX3_deliverRecords_r2 ++ (wsX3_deliverRecords_r3 ++ wsX3_deliverRecords_r4))) ++ wsX10 ++ wsX00 ++ wsX30 ++ wsX20 ++ (vx_atS RX3 81 "java/lang/UnsupportedOperationException" ["java/lang/RuntimeException", "java/lang/Exception"]).filter goodWord ++ (vx_atS RX3 138 "java/lang/IndexOutOfBoundsException" ["java/lang/RuntimeException", "java/lang/Exception"]).filter goodWord)
def wsX3_deliver_r1 : List Cond := [Cond.methodLink RX3 179 yX3_requireMessage, Cond.instanceMethod yX3_requireMessage, Cond.selects RX3 yX3_requireMessage yX3_requireMessage, Cond.initialized RX3, Cond.code yX3_requireMessage cX3_requireMessage 3 none, Cond.classLink RX3 171 "java/util/NoSuchElementException", Cond.initialized "java/util/NoSuchElementException", Cond.fieldLink RX3 191 "ShippedLog$Way" "count" "I", Cond.methodLink RX3 152 yX3_wayFrom, Cond.instanceMethod yX3_wayFrom, Cond.selects RX3 yX3_wayFrom yX3_wayFrom, Cond.code yX3_wayFrom cX3_wayFrom 3 (some (.object "ShippedLog$Way")), Cond.classLink RX3 134 "java/lang/IndexOutOfBoundsException", Cond.initialized "java/lang/IndexOutOfBoundsException", Cond.fieldLink RX3 18 "ShippedLog" "ways" "[LShippedLog$Way;", Cond.methodLink RX3 131 yX3_isNode, Cond.static yX3_isNode, Cond.code yX3_isNode cX3_isNode 1 (some .boolean), Cond.methodLink RX3 139 yX3_isReplicaOf, Cond.instanceMethod yX3_isReplicaOf, Cond.selects RX3 yX3_isReplicaOf yX3_isReplicaOf, Cond.code yX3_isReplicaOf cX3_isReplicaOf 4 (some .boolean), Cond.fieldLink RX3 31 "ShippedLog$Node" "role" "I", Cond.fieldLink RX3 222 "ShippedLog$Node" "follows" "I"]
def wsX3_deliver_r2 : List Cond := [Cond.methodLink RX3 27 yX3_nodeAt, Cond.instanceMethod yX3_nodeAt, Cond.selects RX3 yX3_nodeAt yX3_nodeAt, Cond.code yX3_nodeAt cX3_nodeAt 2 (some (.object "ShippedLog$Node")), Cond.fieldLink RX3 11 "ShippedLog" "nodes" "[LShippedLog$Node;", Cond.methodLink RX3 182 yX3_deliverPosition, Cond.instanceMethod yX3_deliverPosition, Cond.selects RX3 yX3_deliverPosition yX3_deliverPosition, Cond.code yX3_deliverPosition cX3_deliverPosition 6 (some .int), Cond.fieldLink RX3 162 "ShippedLog$Node" "known" "I", Cond.fieldLink RX3 145 "ShippedLog$Node" "standby" "I", Cond.methodLink RX3 255 yX2_oldestPosition, Cond.instanceMethod yX2_oldestPosition, Cond.selects RX2 yX2_oldestPosition yX2_oldestPosition, Cond.initialized RX2, Cond.code yX2_oldestPosition cX2_oldestPosition 1 (some .int), Cond.fieldLink RX2 9 "ShippedLog$Way" "positions" "[I", Cond.methodLink RX2 29 yX2_slot, Cond.instanceMethod yX2_slot, Cond.selects RX2 yX2_slot yX2_slot, Cond.code yX2_slot cX2_slot 2 (some .int), Cond.fieldLink RX2 18 "ShippedLog$Way" "oldest" "I", Cond.methodLink RX2 33 yJ9_floorMod_7cf53, Cond.static yJ9_floorMod_7cf53]
def wsX3_deliver_r3 : List Cond := [Cond.initialized RJ9, Cond.code yJ9_floorMod_7cf53 cJ9_floorMod_7cf53 3 (some .int), Cond.methodLink RX3 188 yX2_removeOldest, Cond.instanceMethod yX2_removeOldest, Cond.selects RX2 yX2_removeOldest yX2_removeOldest, Cond.code yX2_removeOldest cX2_removeOldest 1 none, Cond.fieldLink RX2 22 "ShippedLog$Way" "count" "I", Cond.methodLink RX3 125 yX1_acknowledgeUpTo, Cond.instanceMethod yX1_acknowledgeUpTo, Cond.selects RX1 yX1_acknowledgeUpTo yX1_acknowledgeUpTo, Cond.initialized RX1, Cond.code yX1_acknowledgeUpTo cX1_acknowledgeUpTo 4 none, Cond.fieldLink RX1 12 "ShippedLog$Node" "log" "LShippedLog$Log;", Cond.fieldLink RX1 44 "ShippedLog$Log" "end" "I", Cond.methodLink RX1 47 Lib.Math.min.name, Cond.static Lib.Math.min.name, Cond.initialized "java/lang/Math", Cond.code Lib.Math.min.name Lib.Math.min.code 2 (some .int), Cond.fieldLink RX1 37 "ShippedLog$Node" "promotedAt" "I", Cond.fieldLink RX1 34 "ShippedLog$Node" "acknowledged" "I", Cond.methodLink RX1 57 Lib.Math.max.name, Cond.static Lib.Math.max.name, Cond.code Lib.Math.max.name Lib.Math.max.code 2 (some .int), Cond.methodLink RX1 53 yX0_kindAt]
def wsX3_deliver_r4 : List Cond := [Cond.instanceMethod yX0_kindAt, Cond.selects RX0 yX0_kindAt yX0_kindAt, Cond.initialized RX0, Cond.code yX0_kindAt cX0_kindAt 2 (some .int), Cond.methodLink RX0 25 yX0_byteOf, Cond.instanceMethod yX0_byteOf, Cond.selects RX0 yX0_byteOf yX0_byteOf, Cond.code yX0_byteOf cX0_byteOf 2 (some .int), Cond.fieldLink RX0 9 "ShippedLog$Log" "memory" "[B", Cond.methodLink RX3 185 yX3_deliverRecords, Cond.instanceMethod yX3_deliverRecords, Cond.selects RX3 yX3_deliverRecords yX3_deliverRecords, Cond.code yX3_deliverRecords cX3_deliverRecords 7 (some .int), Cond.classLink RX3 77 "java/lang/UnsupportedOperationException", Cond.initialized "java/lang/UnsupportedOperationException", Cond.fieldLink RX3 45 "ShippedLog$Node" "log" "LShippedLog$Log;", Cond.fieldLink RX3 54 "ShippedLog$Log" "end" "I", Cond.methodLink RX3 156 yX2_isFull, Cond.instanceMethod yX2_isFull, Cond.selects RX2 yX2_isFull yX2_isFull, Cond.code yX2_isFull cX2_isFull 1 (some .boolean), Cond.methodLink RX3 260 yX2_oldestBytes, Cond.instanceMethod yX2_oldestBytes, Cond.selects RX2 yX2_oldestBytes yX2_oldestBytes]
def wsX3_deliver_r5 : List Cond := [Cond.code yX2_oldestBytes cX2_oldestBytes 1 (some .int), Cond.fieldLink RX2 15 "ShippedLog$Way" "bytes" "[I", Cond.methodLink RX3 263 yX0_receive, Cond.instanceMethod yX0_receive, Cond.selects RX0 yX0_receive yX0_receive, Cond.code yX0_receive cX0_receive 4 none, Cond.fieldLink RX0 18 "ShippedLog$Log" "end" "I", Cond.methodLink RX0 58 yX0_copy, Cond.static yX0_copy, Cond.code yX0_copy cX0_copy 4 none, Cond.methodLink RX0 81 arraycopyName, Cond.native arraycopyName, Cond.static arraycopyName, Cond.initialized "java/lang/System", Cond.methodLink RX0 70 yX0_sync, Cond.instanceMethod yX0_sync, Cond.selects RX0 yX0_sync yX0_sync, Cond.code yX0_sync cX0_sync 1 none, Cond.fieldLink RX0 22 "ShippedLog$Log" "synced" "I", Cond.methodLink RX0 49 yX0_saveFirst, Cond.instanceMethod yX0_saveFirst, Cond.selects RX0 yX0_saveFirst yX0_saveFirst, Cond.code yX0_saveFirst cX0_saveFirst 3 (some .int), Cond.methodLink RX0 52 Lib.Math.min.name]
def wsX3_deliver_r6 : List Cond := [Cond.fieldLink RX0 15 "ShippedLog$Log" "disk" "[B", Cond.methodLink RX3 176 yX2_add, Cond.instanceMethod yX2_add, Cond.selects RX2 yX2_add yX2_add, Cond.code yX2_add cX2_add 4 none, Cond.methodLink RX2 25 yX2_isFull]
def wsX3_deliver : List Cond := .code yX3_deliver cX3_deliver 3 (some .int) :: ((wsX3_deliver_r1 ++ (wsX3_deliver_r2 ++ (wsX3_deliver_r3 ++ (wsX3_deliver_r4 ++ (wsX3_deliver_r5 ++ wsX3_deliver_r6))))) ++ wsX20 ++ wsX30 ++ wsX10 ++ wsX00 ++ (nz_at RX3 175 "java/util/NoSuchElementException" 13 nz_code ["java/lang/RuntimeException", "java/lang/Exception"]).filter goodWord ++ (vx_atS RX3 138 "java/lang/IndexOutOfBoundsException" ["java/lang/RuntimeException", "java/lang/Exception"]).filter goodWord ++ (vx_atS RX3 81 "java/lang/UnsupportedOperationException" ["java/lang/RuntimeException", "java/lang/Exception"]).filter goodWord)
def wsX3_drop_r1 : List Cond := [Cond.fieldLink RX3 191 "ShippedLog$Way" "count" "I", Cond.methodLink RX3 179 yX3_requireMessage, Cond.instanceMethod yX3_requireMessage, Cond.selects RX3 yX3_requireMessage yX3_requireMessage, Cond.initialized RX3, Cond.code yX3_requireMessage cX3_requireMessage 3 none, Cond.classLink RX3 171 "java/util/NoSuchElementException", Cond.initialized "java/util/NoSuchElementException", Cond.methodLink RX3 152 yX3_wayFrom, Cond.instanceMethod yX3_wayFrom, Cond.selects RX3 yX3_wayFrom yX3_wayFrom, Cond.code yX3_wayFrom cX3_wayFrom 3 (some (.object "ShippedLog$Way")), Cond.classLink RX3 134 "java/lang/IndexOutOfBoundsException", Cond.initialized "java/lang/IndexOutOfBoundsException", Cond.fieldLink RX3 18 "ShippedLog" "ways" "[LShippedLog$Way;", Cond.methodLink RX3 131 yX3_isNode, Cond.static yX3_isNode, Cond.code yX3_isNode cX3_isNode 1 (some .boolean), Cond.methodLink RX3 188 yX2_removeOldest, Cond.instanceMethod yX2_removeOldest, Cond.selects RX2 yX2_removeOldest yX2_removeOldest, Cond.initialized RX2, Cond.code yX2_removeOldest cX2_removeOldest 1 none, Cond.fieldLink RX2 22 "ShippedLog$Way" "count" "I"]
def wsX3_drop_r2 : List Cond := [Cond.fieldLink RX2 18 "ShippedLog$Way" "oldest" "I", Cond.methodLink RX2 29 yX2_slot, Cond.instanceMethod yX2_slot, Cond.selects RX2 yX2_slot yX2_slot, Cond.code yX2_slot cX2_slot 2 (some .int), Cond.methodLink RX2 33 yJ9_floorMod_7cf53, Cond.static yJ9_floorMod_7cf53, Cond.initialized RJ9, Cond.code yJ9_floorMod_7cf53 cJ9_floorMod_7cf53 3 (some .int)]
def wsX3_drop : List Cond := .code yX3_drop cX3_drop 4 (some .int) :: ((wsX3_drop_r1 ++ wsX3_drop_r2) ++ wsX20 ++ wsX30 ++ (nz_at RX3 175 "java/util/NoSuchElementException" 13 nz_code ["java/lang/RuntimeException", "java/lang/Exception"]).filter goodWord ++ (vx_atS RX3 138 "java/lang/IndexOutOfBoundsException" ["java/lang/RuntimeException", "java/lang/Exception"]).filter goodWord)
def wsX3_apply : List Cond := .code yX3_apply cX3_apply 5 (some .int) :: ([.classLink RX3 60 "java/lang/IllegalArgumentException", .initialized "java/lang/IllegalArgumentException", .classLink RX3 34 "java/lang/IllegalStateException", .initialized "java/lang/IllegalStateException", .fieldLink RX3 31 "ShippedLog$Node" "role" "I", .fieldLink RX3 45 "ShippedLog$Node" "log" "LShippedLog$Log;", .fieldLink RX3 54 "ShippedLog$Log" "end" "I", .fieldLink RX3 57 "ShippedLog$Node" "applied" "I", .methodLink RX3 165 Lib.Math.min.name, .static Lib.Math.min.name, .initialized "java/lang/Math", .code Lib.Math.min.name Lib.Math.min.code 2 (some .int), .methodLink RX3 27 yX3_nodeAt, .instanceMethod yX3_nodeAt, .selects RX3 yX3_nodeAt yX3_nodeAt, .initialized RX3, .code yX3_nodeAt cX3_nodeAt 2 (some (.object "ShippedLog$Node")), .classLink RX3 134 "java/lang/IndexOutOfBoundsException", .initialized "java/lang/IndexOutOfBoundsException", .fieldLink RX3 11 "ShippedLog" "nodes" "[LShippedLog$Node;", .methodLink RX3 131 yX3_isNode, .static yX3_isNode, .code yX3_isNode cX3_isNode 1 (some .boolean)] ++ wsX10 ++ wsX00 ++ wsX30 ++ (vx_atS RX3 64 "java/lang/IllegalArgumentException" ["java/lang/RuntimeException", "java/lang/Exception"]).filter goodWord ++ (vx_atS RX3 38 "java/lang/IllegalStateException" ["java/lang/RuntimeException", "java/lang/Exception"]).filter goodWord ++ (vx_atS RX3 138 "java/lang/IndexOutOfBoundsException" ["java/lang/RuntimeException", "java/lang/Exception"]).filter goodWord)
def wsX3_get_r1 : List Cond := [Cond.classLink RX3 134 "java/lang/IndexOutOfBoundsException", Cond.initialized "java/lang/IndexOutOfBoundsException", Cond.classLink RX3 34 "java/lang/IllegalStateException", Cond.initialized "java/lang/IllegalStateException", Cond.fieldLink RX3 31 "ShippedLog$Node" "role" "I", Cond.methodLink RX3 27 yX3_nodeAt, Cond.instanceMethod yX3_nodeAt, Cond.selects RX3 yX3_nodeAt yX3_nodeAt, Cond.initialized RX3, Cond.code yX3_nodeAt cX3_nodeAt 2 (some (.object "ShippedLog$Node")), Cond.fieldLink RX3 11 "ShippedLog" "nodes" "[LShippedLog$Node;", Cond.methodLink RX3 131 yX3_isNode, Cond.static yX3_isNode, Cond.code yX3_isNode cX3_isNode 1 (some .boolean), Cond.methodLink RX3 111 yX3_isKey, Cond.static yX3_isKey, Cond.code yX3_isKey cX3_isKey 1 (some .boolean), Cond.methodLink RX3 198 yX1_committedValue, Cond.instanceMethod yX1_committedValue, Cond.selects RX1 yX1_committedValue yX1_committedValue, Cond.initialized RX1, Cond.code yX1_committedValue cX1_committedValue 6 (some .int), Cond.fieldLink RX1 22 "ShippedLog$Node" "applied" "I", Cond.fieldLink RX1 12 "ShippedLog$Node" "log" "LShippedLog$Log;"]
def wsX3_get_r2 : List Cond := [Cond.methodLink RX1 53 yX0_kindAt, Cond.instanceMethod yX0_kindAt, Cond.selects RX0 yX0_kindAt yX0_kindAt, Cond.initialized RX0, Cond.code yX0_kindAt cX0_kindAt 2 (some .int), Cond.methodLink RX0 25 yX0_byteOf, Cond.instanceMethod yX0_byteOf, Cond.selects RX0 yX0_byteOf yX0_byteOf, Cond.code yX0_byteOf cX0_byteOf 2 (some .int), Cond.fieldLink RX0 9 "ShippedLog$Log" "memory" "[B", Cond.methodLink RX1 60 yX0_keyAt, Cond.instanceMethod yX0_keyAt, Cond.selects RX0 yX0_keyAt yX0_keyAt, Cond.code yX0_keyAt cX0_keyAt 2 (some .int), Cond.methodLink RX1 63 yX0_valueAt, Cond.instanceMethod yX0_valueAt, Cond.selects RX0 yX0_valueAt yX0_valueAt, Cond.code yX0_valueAt cX0_valueAt 2 (some .int), Cond.methodLink RX0 29 yX0_intAt, Cond.instanceMethod yX0_intAt, Cond.selects RX0 yX0_intAt yX0_intAt, Cond.code yX0_intAt cX0_intAt 2 (some .int)]
def wsX3_get : List Cond := .code yX3_get cX3_get 4 (some .int) :: ((wsX3_get_r1 ++ wsX3_get_r2) ++ wsX10 ++ wsX30 ++ wsX00 ++ (vx_atS RX3 138 "java/lang/IndexOutOfBoundsException" ["java/lang/RuntimeException", "java/lang/Exception"]).filter goodWord ++ (vx_atS RX3 38 "java/lang/IllegalStateException" ["java/lang/RuntimeException", "java/lang/Exception"]).filter goodWord)
def wsX3_byteAt : List Cond := .code yX3_byteAt cX3_byteAt 5 (some .int) :: ([.classLink RX3 134 "java/lang/IndexOutOfBoundsException", .initialized "java/lang/IndexOutOfBoundsException", .fieldLink RX3 45 "ShippedLog$Node" "log" "LShippedLog$Log;", .fieldLink RX3 203 "ShippedLog$Log" "memory" "[B", .fieldLink RX3 207 "ShippedLog$Log" "disk" "[B", .methodLink RX3 27 yX3_nodeAt, .instanceMethod yX3_nodeAt, .selects RX3 yX3_nodeAt yX3_nodeAt, .initialized RX3, .code yX3_nodeAt cX3_nodeAt 2 (some (.object "ShippedLog$Node")), .fieldLink RX3 11 "ShippedLog" "nodes" "[LShippedLog$Node;", .methodLink RX3 131 yX3_isNode, .static yX3_isNode, .code yX3_isNode cX3_isNode 1 (some .boolean)] ++ wsX10 ++ wsX00 ++ wsX30 ++ (vx_atS RX3 138 "java/lang/IndexOutOfBoundsException" ["java/lang/RuntimeException", "java/lang/Exception"]).filter goodWord)
def wsX3_factOf_r1 : List Cond := [Cond.fieldLink RX3 31 "ShippedLog$Node" "role" "I", Cond.fieldLink RX3 45 "ShippedLog$Node" "log" "LShippedLog$Log;", Cond.fieldLink RX3 54 "ShippedLog$Log" "end" "I", Cond.fieldLink RX3 234 "ShippedLog$Log" "synced" "I", Cond.fieldLink RX3 57 "ShippedLog$Node" "applied" "I", Cond.fieldLink RX3 222 "ShippedLog$Node" "follows" "I", Cond.fieldLink RX3 128 "ShippedLog$Node" "acknowledged" "I", Cond.fieldLink RX3 145 "ShippedLog$Node" "standby" "I", Cond.methodLink RX3 117 yX0_lastTimeline, Cond.instanceMethod yX0_lastTimeline, Cond.selects RX0 yX0_lastTimeline yX0_lastTimeline, Cond.initialized RX0, Cond.code yX0_lastTimeline cX0_lastTimeline 1 (some .int), Cond.fieldLink RX0 18 "ShippedLog$Log" "end" "I", Cond.methodLink RX0 32 yX0_timelineAt, Cond.instanceMethod yX0_timelineAt, Cond.selects RX0 yX0_timelineAt yX0_timelineAt, Cond.code yX0_timelineAt cX0_timelineAt 2 (some .int), Cond.methodLink RX0 25 yX0_byteOf, Cond.instanceMethod yX0_byteOf, Cond.selects RX0 yX0_byteOf yX0_byteOf, Cond.code yX0_byteOf cX0_byteOf 2 (some .int), Cond.fieldLink RX0 9 "ShippedLog$Log" "memory" "[B", Cond.methodLink RX3 237 yX1_pendingPuts]
def wsX3_factOf_r2 : List Cond := [Cond.instanceMethod yX1_pendingPuts, Cond.selects RX1 yX1_pendingPuts yX1_pendingPuts, Cond.initialized RX1, Cond.code yX1_pendingPuts cX1_pendingPuts 3 (some .int), Cond.fieldLink RX1 22 "ShippedLog$Node" "applied" "I", Cond.fieldLink RX1 12 "ShippedLog$Node" "log" "LShippedLog$Log;", Cond.methodLink RX1 53 yX0_kindAt, Cond.instanceMethod yX0_kindAt, Cond.selects RX0 yX0_kindAt yX0_kindAt, Cond.code yX0_kindAt cX0_kindAt 2 (some .int)]
def wsX3_factOf : List Cond := .code yX3_factOf cX3_factOf 2 (some .int) :: ((wsX3_factOf_r1 ++ wsX3_factOf_r2) ++ wsX10 ++ wsX00)
def wsX3_node_r1 : List Cond := [Cond.classLink RX3 134 "java/lang/IndexOutOfBoundsException", Cond.initialized "java/lang/IndexOutOfBoundsException", Cond.fieldLink RX3 31 "ShippedLog$Node" "role" "I", Cond.methodLink RX3 27 yX3_nodeAt, Cond.instanceMethod yX3_nodeAt, Cond.selects RX3 yX3_nodeAt yX3_nodeAt, Cond.initialized RX3, Cond.code yX3_nodeAt cX3_nodeAt 2 (some (.object "ShippedLog$Node")), Cond.fieldLink RX3 11 "ShippedLog" "nodes" "[LShippedLog$Node;", Cond.methodLink RX3 131 yX3_isNode, Cond.static yX3_isNode, Cond.code yX3_isNode cX3_isNode 1 (some .boolean), Cond.methodLink RX3 214 yX3_factOf, Cond.static yX3_factOf, Cond.code yX3_factOf cX3_factOf 2 (some .int), Cond.fieldLink RX3 45 "ShippedLog$Node" "log" "LShippedLog$Log;", Cond.fieldLink RX3 54 "ShippedLog$Log" "end" "I", Cond.fieldLink RX3 234 "ShippedLog$Log" "synced" "I", Cond.fieldLink RX3 57 "ShippedLog$Node" "applied" "I", Cond.fieldLink RX3 222 "ShippedLog$Node" "follows" "I", Cond.fieldLink RX3 128 "ShippedLog$Node" "acknowledged" "I", Cond.fieldLink RX3 145 "ShippedLog$Node" "standby" "I", Cond.methodLink RX3 117 yX0_lastTimeline, Cond.instanceMethod yX0_lastTimeline]
def wsX3_node_r2 : List Cond := [Cond.selects RX0 yX0_lastTimeline yX0_lastTimeline, Cond.initialized RX0, Cond.code yX0_lastTimeline cX0_lastTimeline 1 (some .int), Cond.fieldLink RX0 18 "ShippedLog$Log" "end" "I", Cond.methodLink RX0 32 yX0_timelineAt, Cond.instanceMethod yX0_timelineAt, Cond.selects RX0 yX0_timelineAt yX0_timelineAt, Cond.code yX0_timelineAt cX0_timelineAt 2 (some .int), Cond.methodLink RX0 25 yX0_byteOf, Cond.instanceMethod yX0_byteOf, Cond.selects RX0 yX0_byteOf yX0_byteOf, Cond.code yX0_byteOf cX0_byteOf 2 (some .int), Cond.fieldLink RX0 9 "ShippedLog$Log" "memory" "[B", Cond.methodLink RX3 237 yX1_pendingPuts, Cond.instanceMethod yX1_pendingPuts, Cond.selects RX1 yX1_pendingPuts yX1_pendingPuts, Cond.initialized RX1, Cond.code yX1_pendingPuts cX1_pendingPuts 3 (some .int), Cond.fieldLink RX1 22 "ShippedLog$Node" "applied" "I", Cond.fieldLink RX1 12 "ShippedLog$Node" "log" "LShippedLog$Log;", Cond.methodLink RX1 53 yX0_kindAt, Cond.instanceMethod yX0_kindAt, Cond.selects RX0 yX0_kindAt yX0_kindAt, Cond.code yX0_kindAt cX0_kindAt 2 (some .int)]
def wsX3_node : List Cond := .code yX3_node cX3_node 4 (some .int) :: ((wsX3_node_r1 ++ wsX3_node_r2) ++ wsX10 ++ wsX30 ++ wsX00 ++ (vx_atS RX3 138 "java/lang/IndexOutOfBoundsException" ["java/lang/RuntimeException", "java/lang/Exception"]).filter goodWord)
def wsX3_link_r1 : List Cond := [Cond.classLink RX3 134 "java/lang/IndexOutOfBoundsException", Cond.initialized "java/lang/IndexOutOfBoundsException", Cond.fieldLink RX3 191 "ShippedLog$Way" "count" "I", Cond.fieldLink RX3 162 "ShippedLog$Node" "known" "I", Cond.methodLink RX3 27 yX3_nodeAt, Cond.instanceMethod yX3_nodeAt, Cond.selects RX3 yX3_nodeAt yX3_nodeAt, Cond.initialized RX3, Cond.code yX3_nodeAt cX3_nodeAt 2 (some (.object "ShippedLog$Node")), Cond.fieldLink RX3 11 "ShippedLog" "nodes" "[LShippedLog$Node;", Cond.methodLink RX3 131 yX3_isNode, Cond.static yX3_isNode, Cond.code yX3_isNode cX3_isNode 1 (some .boolean), Cond.methodLink RX3 152 yX3_wayFrom, Cond.instanceMethod yX3_wayFrom, Cond.selects RX3 yX3_wayFrom yX3_wayFrom, Cond.code yX3_wayFrom cX3_wayFrom 3 (some (.object "ShippedLog$Way")), Cond.fieldLink RX3 18 "ShippedLog" "ways" "[LShippedLog$Way;", Cond.methodLink RX3 148 yX3_requireLink, Cond.instanceMethod yX3_requireLink, Cond.selects RX3 yX3_requireLink yX3_requireLink, Cond.code yX3_requireLink cX3_requireLink 3 none, Cond.classLink RX3 34 "java/lang/IllegalStateException", Cond.initialized "java/lang/IllegalStateException"]
def wsX3_link_r2 : List Cond := [Cond.methodLink RX3 139 yX3_isReplicaOf, Cond.instanceMethod yX3_isReplicaOf, Cond.selects RX3 yX3_isReplicaOf yX3_isReplicaOf, Cond.code yX3_isReplicaOf cX3_isReplicaOf 4 (some .boolean), Cond.fieldLink RX3 31 "ShippedLog$Node" "role" "I", Cond.fieldLink RX3 222 "ShippedLog$Node" "follows" "I"]
def wsX3_link : List Cond := .code yX3_link cX3_link 5 (some .int) :: ((wsX3_link_r1 ++ wsX3_link_r2) ++ wsX20 ++ wsX10 ++ wsX30 ++ (vx_atS RX3 138 "java/lang/IndexOutOfBoundsException" ["java/lang/RuntimeException", "java/lang/Exception"]).filter goodWord ++ (vx_atS RX3 38 "java/lang/IllegalStateException" ["java/lang/RuntimeException", "java/lang/Exception"]).filter goodWord)
def wsX4_init : List Cond := .code yX4_init cX4_init 1 none :: ([.methodLink RX4 1 objectInit, .instanceMethod objectInit, .code objectInit ⟨#[0xb1]⟩ 1 none, .arrayClass .int, .fieldLink RX4 7 "ShippedLogModel" "memory" "[I", .fieldLink RX4 13 "ShippedLogModel" "disk" "[I", .fieldLink RX4 16 "ShippedLogModel" "role" "[I", .fieldLink RX4 19 "ShippedLogModel" "end" "[I", .fieldLink RX4 22 "ShippedLogModel" "synced" "[I", .fieldLink RX4 25 "ShippedLogModel" "applied" "[I", .fieldLink RX4 28 "ShippedLogModel" "follows" "[I", .fieldLink RX4 31 "ShippedLogModel" "standby" "[I", .fieldLink RX4 34 "ShippedLogModel" "safe" "[I", .fieldLink RX4 37 "ShippedLogModel" "since" "[I", .fieldLink RX4 40 "ShippedLogModel" "known" "[I", .fieldLink RX4 43 "ShippedLogModel" "count" "[I", .fieldLink RX4 46 "ShippedLogModel" "position" "[I", .fieldLink RX4 49 "ShippedLogModel" "records" "[I", .fieldLink RX4 52 "ShippedLogModel" "bytes" "[I", .fieldLink RX4 55 "ShippedLogModel" "values" "[I", .fieldLink RX4 58 "ShippedLogModel" "puts" "[I", .arrayClass .boolean, .fieldLink RX4 61 "ShippedLogModel" "isPut" "[Z"] ++ wsX40)
def wsX4_thrown : List Cond := .code yX4_thrown cX4_thrown 1 (some .int) :: ([.fieldLink RX4 65 "ShippedLogModel" "thrown" "I"] ++ wsX40)
def wsX4_fail : List Cond := .code yX4_fail cX4_fail 2 (some .int) :: ([.fieldLink RX4 65 "ShippedLogModel" "thrown" "I"] ++ wsX40)
def wsX4_within : List Cond := .code yX4_within cX4_within 3 (some .boolean) :: ([])
def wsX4_isNode : List Cond := .code yX4_isNode cX4_isNode 1 (some .boolean) :: ([.methodLink RX4 69 yX4_within, .static yX4_within, .initialized RX4, .code yX4_within cX4_within 3 (some .boolean)])
def wsX4_at : List Cond := .code yX4_at cX4_at 2 (some .int) :: ([])
def wsX4_wordAt : List Cond := .code yX4_wordAt cX4_wordAt 5 (some .int) :: ([.fieldLink RX4 7 "ShippedLogModel" "memory" "[I", .methodLink RX4 73 yX4_at, .static yX4_at, .initialized RX4, .code yX4_at cX4_at 2 (some .int)] ++ wsX40)
def wsX4_sumAt : List Cond := .code yX4_sumAt cX4_sumAt 6 (some .int) :: ([.fieldLink RX4 7 "ShippedLogModel" "memory" "[I", .constant RX4 77 (-306674912), .methodLink RX4 73 yX4_at, .static yX4_at, .initialized RX4, .code yX4_at cX4_at 2 (some .int)] ++ wsX40)
def wsX4_kindAt : List Cond := .code yX4_kindAt cX4_kindAt 3 (some .int) :: ([.fieldLink RX4 7 "ShippedLogModel" "memory" "[I", .methodLink RX4 73 yX4_at, .static yX4_at, .initialized RX4, .code yX4_at cX4_at 2 (some .int)] ++ wsX40)
def wsX4_timelineAt : List Cond := .code yX4_timelineAt cX4_timelineAt 3 (some .int) :: ([.fieldLink RX4 7 "ShippedLogModel" "memory" "[I", .methodLink RX4 73 yX4_at, .static yX4_at, .initialized RX4, .code yX4_at cX4_at 2 (some .int)] ++ wsX40)
def wsX4_isGood_r1 : List Cond := [Cond.methodLink RX4 78 yX4_sumAt, Cond.instanceMethod yX4_sumAt, Cond.selects RX4 yX4_sumAt yX4_sumAt, Cond.initialized RX4, Cond.code yX4_sumAt cX4_sumAt 6 (some .int), Cond.fieldLink RX4 7 "ShippedLogModel" "memory" "[I", Cond.constant RX4 77 (-306674912), Cond.methodLink RX4 73 yX4_at, Cond.static yX4_at, Cond.code yX4_at cX4_at 2 (some .int), Cond.methodLink RX4 81 yX4_wordAt, Cond.instanceMethod yX4_wordAt, Cond.selects RX4 yX4_wordAt yX4_wordAt, Cond.code yX4_wordAt cX4_wordAt 5 (some .int), Cond.methodLink RX4 84 yX4_kindAt, Cond.instanceMethod yX4_kindAt, Cond.selects RX4 yX4_kindAt yX4_kindAt, Cond.code yX4_kindAt cX4_kindAt 3 (some .int), Cond.methodLink RX4 69 yX4_within, Cond.static yX4_within, Cond.code yX4_within cX4_within 3 (some .boolean), Cond.methodLink RX4 87 yX4_timelineAt, Cond.instanceMethod yX4_timelineAt, Cond.selects RX4 yX4_timelineAt yX4_timelineAt]
def wsX4_isGood_r2 : List Cond := [Cond.code yX4_timelineAt cX4_timelineAt 3 (some .int)]
def wsX4_isGood : List Cond := .code yX4_isGood cX4_isGood 5 (some .boolean) :: ((wsX4_isGood_r1 ++ wsX4_isGood_r2) ++ wsX40)
def wsX4_putWord : List Cond := .code yX4_putWord cX4_putWord 5 none :: ([.fieldLink RX4 7 "ShippedLogModel" "memory" "[I", .methodLink RX4 73 yX4_at, .static yX4_at, .initialized RX4, .code yX4_at cX4_at 2 (some .int)] ++ wsX40)
def wsX4_write : List Cond := .code yX4_write cX4_write 7 none :: ([.fieldLink RX4 19 "ShippedLogModel" "end" "[I", .fieldLink RX4 90 "ShippedLogModel" "timelines" "I", .fieldLink RX4 7 "ShippedLogModel" "memory" "[I", .fieldLink RX4 25 "ShippedLogModel" "applied" "[I", .methodLink RX4 87 yX4_timelineAt, .instanceMethod yX4_timelineAt, .selects RX4 yX4_timelineAt yX4_timelineAt, .initialized RX4, .code yX4_timelineAt cX4_timelineAt 3 (some .int), .methodLink RX4 73 yX4_at, .static yX4_at, .code yX4_at cX4_at 2 (some .int), .methodLink RX4 93 yX4_putWord, .instanceMethod yX4_putWord, .selects RX4 yX4_putWord yX4_putWord, .code yX4_putWord cX4_putWord 5 none, .methodLink RX4 78 yX4_sumAt, .instanceMethod yX4_sumAt, .selects RX4 yX4_sumAt yX4_sumAt, .code yX4_sumAt cX4_sumAt 6 (some .int), .constant RX4 77 (-306674912)] ++ wsX40)
def wsX4_sync : List Cond := .code yX4_sync cX4_sync 3 none :: ([.fieldLink RX4 22 "ShippedLogModel" "synced" "[I", .fieldLink RX4 19 "ShippedLogModel" "end" "[I", .fieldLink RX4 13 "ShippedLogModel" "disk" "[I", .fieldLink RX4 7 "ShippedLogModel" "memory" "[I", .methodLink RX4 73 yX4_at, .static yX4_at, .initialized RX4, .code yX4_at cX4_at 2 (some .int)] ++ wsX40)
def wsX4_forgetMessages : List Cond := .code yX4_forgetMessages cX4_forgetMessages 3 none :: ([.fieldLink RX4 43 "ShippedLogModel" "count" "[I"] ++ wsX40)
def wsX4_leave : List Cond := .code yX4_leave cX4_leave 3 none :: ([.fieldLink RX4 16 "ShippedLogModel" "role" "[I", .fieldLink RX4 28 "ShippedLogModel" "follows" "[I", .fieldLink RX4 31 "ShippedLogModel" "standby" "[I", .fieldLink RX4 34 "ShippedLogModel" "safe" "[I", .methodLink RX4 97 yX4_forgetMessages, .instanceMethod yX4_forgetMessages, .selects RX4 yX4_forgetMessages yX4_forgetMessages, .initialized RX4, .code yX4_forgetMessages cX4_forgetMessages 3 none, .fieldLink RX4 43 "ShippedLogModel" "count" "[I"] ++ wsX40)
def wsX4_up_r1 : List Cond := [Cond.fieldLink RX4 65 "ShippedLogModel" "thrown" "I", Cond.fieldLink RX4 16 "ShippedLogModel" "role" "[I", Cond.fieldLink RX4 7 "ShippedLogModel" "memory" "[I", Cond.fieldLink RX4 13 "ShippedLogModel" "disk" "[I", Cond.fieldLink RX4 19 "ShippedLogModel" "end" "[I", Cond.fieldLink RX4 22 "ShippedLogModel" "synced" "[I", Cond.fieldLink RX4 25 "ShippedLogModel" "applied" "[I", Cond.methodLink RX4 101 yX4_isNode, Cond.static yX4_isNode, Cond.initialized RX4, Cond.code yX4_isNode cX4_isNode 1 (some .boolean), Cond.methodLink RX4 69 yX4_within, Cond.static yX4_within, Cond.code yX4_within cX4_within 3 (some .boolean), Cond.methodLink RX4 105 yX4_fail, Cond.instanceMethod yX4_fail, Cond.selects RX4 yX4_fail yX4_fail, Cond.code yX4_fail cX4_fail 2 (some .int), Cond.methodLink RX4 73 yX4_at, Cond.static yX4_at, Cond.code yX4_at cX4_at 2 (some .int), Cond.methodLink RX4 109 yX4_isGood, Cond.instanceMethod yX4_isGood, Cond.selects RX4 yX4_isGood yX4_isGood]
def wsX4_up_r2 : List Cond := [Cond.code yX4_isGood cX4_isGood 5 (some .boolean), Cond.methodLink RX4 78 yX4_sumAt, Cond.instanceMethod yX4_sumAt, Cond.selects RX4 yX4_sumAt yX4_sumAt, Cond.code yX4_sumAt cX4_sumAt 6 (some .int), Cond.constant RX4 77 (-306674912), Cond.methodLink RX4 81 yX4_wordAt, Cond.instanceMethod yX4_wordAt, Cond.selects RX4 yX4_wordAt yX4_wordAt, Cond.code yX4_wordAt cX4_wordAt 5 (some .int), Cond.methodLink RX4 84 yX4_kindAt, Cond.instanceMethod yX4_kindAt, Cond.selects RX4 yX4_kindAt yX4_kindAt, Cond.code yX4_kindAt cX4_kindAt 3 (some .int), Cond.methodLink RX4 87 yX4_timelineAt, Cond.instanceMethod yX4_timelineAt, Cond.selects RX4 yX4_timelineAt yX4_timelineAt, Cond.code yX4_timelineAt cX4_timelineAt 3 (some .int)]
def wsX4_up : List Cond := .code yX4_up cX4_up 3 (some .int) :: ((wsX4_up_r1 ++ wsX4_up_r2) ++ wsX40)
def wsX4_crash_r1 : List Cond := [Cond.fieldLink RX4 65 "ShippedLogModel" "thrown" "I", Cond.fieldLink RX4 16 "ShippedLogModel" "role" "[I", Cond.fieldLink RX4 19 "ShippedLogModel" "end" "[I", Cond.fieldLink RX4 22 "ShippedLogModel" "synced" "[I", Cond.fieldLink RX4 13 "ShippedLogModel" "disk" "[I", Cond.fieldLink RX4 7 "ShippedLogModel" "memory" "[I", Cond.methodLink RX4 101 yX4_isNode, Cond.static yX4_isNode, Cond.initialized RX4, Cond.code yX4_isNode cX4_isNode 1 (some .boolean), Cond.methodLink RX4 69 yX4_within, Cond.static yX4_within, Cond.code yX4_within cX4_within 3 (some .boolean), Cond.methodLink RX4 105 yX4_fail, Cond.instanceMethod yX4_fail, Cond.selects RX4 yX4_fail yX4_fail, Cond.code yX4_fail cX4_fail 2 (some .int), Cond.methodLink RX4 73 yX4_at, Cond.static yX4_at, Cond.code yX4_at cX4_at 2 (some .int), Cond.methodLink RX4 113 yX4_leave, Cond.instanceMethod yX4_leave, Cond.selects RX4 yX4_leave yX4_leave, Cond.code yX4_leave cX4_leave 3 none]
def wsX4_crash_r2 : List Cond := [Cond.fieldLink RX4 28 "ShippedLogModel" "follows" "[I", Cond.fieldLink RX4 31 "ShippedLogModel" "standby" "[I", Cond.fieldLink RX4 34 "ShippedLogModel" "safe" "[I", Cond.methodLink RX4 97 yX4_forgetMessages, Cond.instanceMethod yX4_forgetMessages, Cond.selects RX4 yX4_forgetMessages yX4_forgetMessages, Cond.code yX4_forgetMessages cX4_forgetMessages 3 none, Cond.fieldLink RX4 43 "ShippedLogModel" "count" "[I"]
def wsX4_crash : List Cond := .code yX4_crash cX4_crash 5 (some .int) :: ((wsX4_crash_r1 ++ wsX4_crash_r2) ++ wsX40)
def wsX4_isFull : List Cond := .code yX4_isFull cX4_isFull 2 (some .boolean) :: ([.fieldLink RX4 19 "ShippedLogModel" "end" "[I"] ++ wsX40)
def wsX4_promote_r1 : List Cond := [Cond.fieldLink RX4 65 "ShippedLogModel" "thrown" "I", Cond.fieldLink RX4 16 "ShippedLogModel" "role" "[I", Cond.fieldLink RX4 90 "ShippedLogModel" "timelines" "I", Cond.fieldLink RX4 37 "ShippedLogModel" "since" "[I", Cond.fieldLink RX4 19 "ShippedLogModel" "end" "[I", Cond.methodLink RX4 101 yX4_isNode, Cond.static yX4_isNode, Cond.initialized RX4, Cond.code yX4_isNode cX4_isNode 1 (some .boolean), Cond.methodLink RX4 69 yX4_within, Cond.static yX4_within, Cond.code yX4_within cX4_within 3 (some .boolean), Cond.methodLink RX4 105 yX4_fail, Cond.instanceMethod yX4_fail, Cond.selects RX4 yX4_fail yX4_fail, Cond.code yX4_fail cX4_fail 2 (some .int), Cond.methodLink RX4 116 yX4_isFull, Cond.instanceMethod yX4_isFull, Cond.selects RX4 yX4_isFull yX4_isFull, Cond.code yX4_isFull cX4_isFull 2 (some .boolean), Cond.methodLink RX4 113 yX4_leave, Cond.instanceMethod yX4_leave, Cond.selects RX4 yX4_leave yX4_leave, Cond.code yX4_leave cX4_leave 3 none]
def wsX4_promote_r2 : List Cond := [Cond.fieldLink RX4 28 "ShippedLogModel" "follows" "[I", Cond.fieldLink RX4 31 "ShippedLogModel" "standby" "[I", Cond.fieldLink RX4 34 "ShippedLogModel" "safe" "[I", Cond.methodLink RX4 97 yX4_forgetMessages, Cond.instanceMethod yX4_forgetMessages, Cond.selects RX4 yX4_forgetMessages yX4_forgetMessages, Cond.code yX4_forgetMessages cX4_forgetMessages 3 none, Cond.fieldLink RX4 43 "ShippedLogModel" "count" "[I", Cond.methodLink RX4 119 yX4_write, Cond.instanceMethod yX4_write, Cond.selects RX4 yX4_write yX4_write, Cond.code yX4_write cX4_write 7 none, Cond.fieldLink RX4 7 "ShippedLogModel" "memory" "[I", Cond.fieldLink RX4 25 "ShippedLogModel" "applied" "[I", Cond.methodLink RX4 87 yX4_timelineAt, Cond.instanceMethod yX4_timelineAt, Cond.selects RX4 yX4_timelineAt yX4_timelineAt, Cond.code yX4_timelineAt cX4_timelineAt 3 (some .int), Cond.methodLink RX4 73 yX4_at, Cond.static yX4_at, Cond.code yX4_at cX4_at 2 (some .int), Cond.methodLink RX4 93 yX4_putWord, Cond.instanceMethod yX4_putWord, Cond.selects RX4 yX4_putWord yX4_putWord]
def wsX4_promote_r3 : List Cond := [Cond.code yX4_putWord cX4_putWord 5 none, Cond.methodLink RX4 78 yX4_sumAt, Cond.instanceMethod yX4_sumAt, Cond.selects RX4 yX4_sumAt yX4_sumAt, Cond.code yX4_sumAt cX4_sumAt 6 (some .int), Cond.constant RX4 77 (-306674912), Cond.methodLink RX4 123 yX4_sync, Cond.instanceMethod yX4_sync, Cond.selects RX4 yX4_sync yX4_sync, Cond.code yX4_sync cX4_sync 3 none, Cond.fieldLink RX4 22 "ShippedLogModel" "synced" "[I", Cond.fieldLink RX4 13 "ShippedLogModel" "disk" "[I"]
def wsX4_promote : List Cond := .code yX4_promote cX4_promote 2 (some .int) :: ((wsX4_promote_r1 ++ (wsX4_promote_r2 ++ wsX4_promote_r3)) ++ wsX40)
def wsX4_common : List Cond := .code yX4_common cX4_common 6 (some .int) :: ([.fieldLink RX4 19 "ShippedLogModel" "end" "[I", .fieldLink RX4 7 "ShippedLogModel" "memory" "[I", .methodLink RX4 73 yX4_at, .static yX4_at, .initialized RX4, .code yX4_at cX4_at 2 (some .int)] ++ wsX40)
def wsX4_attach : List Cond := .code yX4_attach cX4_attach 3 none :: ([.fieldLink RX4 16 "ShippedLogModel" "role" "[I", .fieldLink RX4 28 "ShippedLogModel" "follows" "[I", .fieldLink RX4 40 "ShippedLogModel" "known" "[I", .fieldLink RX4 19 "ShippedLogModel" "end" "[I", .methodLink RX4 113 yX4_leave, .instanceMethod yX4_leave, .selects RX4 yX4_leave yX4_leave, .initialized RX4, .code yX4_leave cX4_leave 3 none, .fieldLink RX4 31 "ShippedLogModel" "standby" "[I", .fieldLink RX4 34 "ShippedLogModel" "safe" "[I", .methodLink RX4 97 yX4_forgetMessages, .instanceMethod yX4_forgetMessages, .selects RX4 yX4_forgetMessages yX4_forgetMessages, .code yX4_forgetMessages cX4_forgetMessages 3 none, .fieldLink RX4 43 "ShippedLogModel" "count" "[I"] ++ wsX40)
def wsX4_follow_r1 : List Cond := [Cond.fieldLink RX4 16 "ShippedLogModel" "role" "[I", Cond.fieldLink RX4 19 "ShippedLogModel" "end" "[I", Cond.fieldLink RX4 65 "ShippedLogModel" "thrown" "I", Cond.methodLink RX4 101 yX4_isNode, Cond.static yX4_isNode, Cond.initialized RX4, Cond.code yX4_isNode cX4_isNode 1 (some .boolean), Cond.methodLink RX4 69 yX4_within, Cond.static yX4_within, Cond.code yX4_within cX4_within 3 (some .boolean), Cond.methodLink RX4 126 yX4_common, Cond.instanceMethod yX4_common, Cond.selects RX4 yX4_common yX4_common, Cond.code yX4_common cX4_common 6 (some .int), Cond.fieldLink RX4 7 "ShippedLogModel" "memory" "[I", Cond.methodLink RX4 73 yX4_at, Cond.static yX4_at, Cond.code yX4_at cX4_at 2 (some .int), Cond.methodLink RX4 129 yX4_attach, Cond.instanceMethod yX4_attach, Cond.selects RX4 yX4_attach yX4_attach, Cond.code yX4_attach cX4_attach 3 none, Cond.fieldLink RX4 28 "ShippedLogModel" "follows" "[I", Cond.fieldLink RX4 40 "ShippedLogModel" "known" "[I"]
def wsX4_follow_r2 : List Cond := [Cond.methodLink RX4 113 yX4_leave, Cond.instanceMethod yX4_leave, Cond.selects RX4 yX4_leave yX4_leave, Cond.code yX4_leave cX4_leave 3 none, Cond.fieldLink RX4 31 "ShippedLogModel" "standby" "[I", Cond.fieldLink RX4 34 "ShippedLogModel" "safe" "[I", Cond.methodLink RX4 97 yX4_forgetMessages, Cond.instanceMethod yX4_forgetMessages, Cond.selects RX4 yX4_forgetMessages yX4_forgetMessages, Cond.code yX4_forgetMessages cX4_forgetMessages 3 none, Cond.fieldLink RX4 43 "ShippedLogModel" "count" "[I"]
def wsX4_follow : List Cond := .code yX4_follow cX4_follow 3 none :: ((wsX4_follow_r1 ++ wsX4_follow_r2) ++ wsX40)
def wsX4_rewind_r1 : List Cond := [Cond.fieldLink RX4 65 "ShippedLogModel" "thrown" "I", Cond.fieldLink RX4 16 "ShippedLogModel" "role" "[I", Cond.fieldLink RX4 19 "ShippedLogModel" "end" "[I", Cond.fieldLink RX4 22 "ShippedLogModel" "synced" "[I", Cond.fieldLink RX4 7 "ShippedLogModel" "memory" "[I", Cond.fieldLink RX4 13 "ShippedLogModel" "disk" "[I", Cond.fieldLink RX4 25 "ShippedLogModel" "applied" "[I", Cond.methodLink RX4 101 yX4_isNode, Cond.static yX4_isNode, Cond.initialized RX4, Cond.code yX4_isNode cX4_isNode 1 (some .boolean), Cond.methodLink RX4 69 yX4_within, Cond.static yX4_within, Cond.code yX4_within cX4_within 3 (some .boolean), Cond.methodLink RX4 105 yX4_fail, Cond.instanceMethod yX4_fail, Cond.selects RX4 yX4_fail yX4_fail, Cond.code yX4_fail cX4_fail 2 (some .int), Cond.methodLink RX4 126 yX4_common, Cond.instanceMethod yX4_common, Cond.selects RX4 yX4_common yX4_common, Cond.code yX4_common cX4_common 6 (some .int), Cond.methodLink RX4 73 yX4_at, Cond.static yX4_at]
def wsX4_rewind_r2 : List Cond := [Cond.code yX4_at cX4_at 2 (some .int), Cond.methodLink RX4 123 yX4_sync, Cond.instanceMethod yX4_sync, Cond.selects RX4 yX4_sync yX4_sync, Cond.code yX4_sync cX4_sync 3 none, Cond.methodLink RX4 129 yX4_attach, Cond.instanceMethod yX4_attach, Cond.selects RX4 yX4_attach yX4_attach, Cond.code yX4_attach cX4_attach 3 none, Cond.fieldLink RX4 28 "ShippedLogModel" "follows" "[I", Cond.fieldLink RX4 40 "ShippedLogModel" "known" "[I", Cond.methodLink RX4 113 yX4_leave, Cond.instanceMethod yX4_leave, Cond.selects RX4 yX4_leave yX4_leave, Cond.code yX4_leave cX4_leave 3 none, Cond.fieldLink RX4 31 "ShippedLogModel" "standby" "[I", Cond.fieldLink RX4 34 "ShippedLogModel" "safe" "[I", Cond.methodLink RX4 97 yX4_forgetMessages, Cond.instanceMethod yX4_forgetMessages, Cond.selects RX4 yX4_forgetMessages yX4_forgetMessages, Cond.code yX4_forgetMessages cX4_forgetMessages 3 none, Cond.fieldLink RX4 43 "ShippedLogModel" "count" "[I"]
def wsX4_rewind : List Cond := .code yX4_rewind cX4_rewind 6 (some .int) :: ((wsX4_rewind_r1 ++ wsX4_rewind_r2) ++ wsX40)
def wsX4_isPrimary : List Cond := .code yX4_isPrimary cX4_isPrimary 2 (some .boolean) :: ([.fieldLink RX4 16 "ShippedLogModel" "role" "[I"] ++ wsX40)
def wsX4_put_r1 : List Cond := [Cond.fieldLink RX4 65 "ShippedLogModel" "thrown" "I", Cond.fieldLink RX4 19 "ShippedLogModel" "end" "[I", Cond.methodLink RX4 101 yX4_isNode, Cond.static yX4_isNode, Cond.initialized RX4, Cond.code yX4_isNode cX4_isNode 1 (some .boolean), Cond.methodLink RX4 69 yX4_within, Cond.static yX4_within, Cond.code yX4_within cX4_within 3 (some .boolean), Cond.methodLink RX4 105 yX4_fail, Cond.instanceMethod yX4_fail, Cond.selects RX4 yX4_fail yX4_fail, Cond.code yX4_fail cX4_fail 2 (some .int), Cond.methodLink RX4 133 yX4_isPrimary, Cond.instanceMethod yX4_isPrimary, Cond.selects RX4 yX4_isPrimary yX4_isPrimary, Cond.code yX4_isPrimary cX4_isPrimary 2 (some .boolean), Cond.fieldLink RX4 16 "ShippedLogModel" "role" "[I", Cond.methodLink RX4 116 yX4_isFull, Cond.instanceMethod yX4_isFull, Cond.selects RX4 yX4_isFull yX4_isFull, Cond.code yX4_isFull cX4_isFull 2 (some .boolean), Cond.methodLink RX4 119 yX4_write, Cond.instanceMethod yX4_write]
def wsX4_put_r2 : List Cond := [Cond.selects RX4 yX4_write yX4_write, Cond.code yX4_write cX4_write 7 none, Cond.fieldLink RX4 90 "ShippedLogModel" "timelines" "I", Cond.fieldLink RX4 7 "ShippedLogModel" "memory" "[I", Cond.fieldLink RX4 25 "ShippedLogModel" "applied" "[I", Cond.methodLink RX4 87 yX4_timelineAt, Cond.instanceMethod yX4_timelineAt, Cond.selects RX4 yX4_timelineAt yX4_timelineAt, Cond.code yX4_timelineAt cX4_timelineAt 3 (some .int), Cond.methodLink RX4 73 yX4_at, Cond.static yX4_at, Cond.code yX4_at cX4_at 2 (some .int), Cond.methodLink RX4 93 yX4_putWord, Cond.instanceMethod yX4_putWord, Cond.selects RX4 yX4_putWord yX4_putWord, Cond.code yX4_putWord cX4_putWord 5 none, Cond.methodLink RX4 78 yX4_sumAt, Cond.instanceMethod yX4_sumAt, Cond.selects RX4 yX4_sumAt yX4_sumAt, Cond.code yX4_sumAt cX4_sumAt 6 (some .int), Cond.constant RX4 77 (-306674912)]
def wsX4_put : List Cond := .code yX4_put cX4_put 4 (some .int) :: ((wsX4_put_r1 ++ wsX4_put_r2) ++ wsX40)
def wsX4_count : List Cond := .code yX4_count cX4_count 4 none :: ([.fieldLink RX4 31 "ShippedLogModel" "standby" "[I", .fieldLink RX4 19 "ShippedLogModel" "end" "[I", .fieldLink RX4 40 "ShippedLogModel" "known" "[I", .fieldLink RX4 37 "ShippedLogModel" "since" "[I", .fieldLink RX4 34 "ShippedLogModel" "safe" "[I", .methodLink RX4 84 yX4_kindAt, .instanceMethod yX4_kindAt, .selects RX4 yX4_kindAt yX4_kindAt, .initialized RX4, .code yX4_kindAt cX4_kindAt 3 (some .int), .fieldLink RX4 7 "ShippedLogModel" "memory" "[I", .methodLink RX4 73 yX4_at, .static yX4_at, .code yX4_at cX4_at 2 (some .int)] ++ wsX40)
def wsX4_commit_r1 : List Cond := [Cond.fieldLink RX4 65 "ShippedLogModel" "thrown" "I", Cond.fieldLink RX4 34 "ShippedLogModel" "safe" "[I", Cond.fieldLink RX4 19 "ShippedLogModel" "end" "[I", Cond.methodLink RX4 101 yX4_isNode, Cond.static yX4_isNode, Cond.initialized RX4, Cond.code yX4_isNode cX4_isNode 1 (some .boolean), Cond.methodLink RX4 69 yX4_within, Cond.static yX4_within, Cond.code yX4_within cX4_within 3 (some .boolean), Cond.methodLink RX4 105 yX4_fail, Cond.instanceMethod yX4_fail, Cond.selects RX4 yX4_fail yX4_fail, Cond.code yX4_fail cX4_fail 2 (some .int), Cond.methodLink RX4 133 yX4_isPrimary, Cond.instanceMethod yX4_isPrimary, Cond.selects RX4 yX4_isPrimary yX4_isPrimary, Cond.code yX4_isPrimary cX4_isPrimary 2 (some .boolean), Cond.fieldLink RX4 16 "ShippedLogModel" "role" "[I", Cond.methodLink RX4 116 yX4_isFull, Cond.instanceMethod yX4_isFull, Cond.selects RX4 yX4_isFull yX4_isFull, Cond.code yX4_isFull cX4_isFull 2 (some .boolean), Cond.methodLink RX4 119 yX4_write]
def wsX4_commit_r2 : List Cond := [Cond.instanceMethod yX4_write, Cond.selects RX4 yX4_write yX4_write, Cond.code yX4_write cX4_write 7 none, Cond.fieldLink RX4 90 "ShippedLogModel" "timelines" "I", Cond.fieldLink RX4 7 "ShippedLogModel" "memory" "[I", Cond.fieldLink RX4 25 "ShippedLogModel" "applied" "[I", Cond.methodLink RX4 87 yX4_timelineAt, Cond.instanceMethod yX4_timelineAt, Cond.selects RX4 yX4_timelineAt yX4_timelineAt, Cond.code yX4_timelineAt cX4_timelineAt 3 (some .int), Cond.methodLink RX4 73 yX4_at, Cond.static yX4_at, Cond.code yX4_at cX4_at 2 (some .int), Cond.methodLink RX4 93 yX4_putWord, Cond.instanceMethod yX4_putWord, Cond.selects RX4 yX4_putWord yX4_putWord, Cond.code yX4_putWord cX4_putWord 5 none, Cond.methodLink RX4 78 yX4_sumAt, Cond.instanceMethod yX4_sumAt, Cond.selects RX4 yX4_sumAt yX4_sumAt, Cond.code yX4_sumAt cX4_sumAt 6 (some .int), Cond.constant RX4 77 (-306674912), Cond.methodLink RX4 123 yX4_sync, Cond.instanceMethod yX4_sync]
def wsX4_commit_r3 : List Cond := [Cond.selects RX4 yX4_sync yX4_sync, Cond.code yX4_sync cX4_sync 3 none, Cond.fieldLink RX4 22 "ShippedLogModel" "synced" "[I", Cond.fieldLink RX4 13 "ShippedLogModel" "disk" "[I", Cond.methodLink RX4 136 yX4_count, Cond.instanceMethod yX4_count, Cond.selects RX4 yX4_count yX4_count, Cond.code yX4_count cX4_count 4 none, Cond.fieldLink RX4 31 "ShippedLogModel" "standby" "[I", Cond.fieldLink RX4 40 "ShippedLogModel" "known" "[I", Cond.fieldLink RX4 37 "ShippedLogModel" "since" "[I", Cond.methodLink RX4 84 yX4_kindAt, Cond.instanceMethod yX4_kindAt, Cond.selects RX4 yX4_kindAt yX4_kindAt, Cond.code yX4_kindAt cX4_kindAt 3 (some .int)]
def wsX4_commit : List Cond := .code yX4_commit cX4_commit 2 (some .boolean) :: ((wsX4_commit_r1 ++ (wsX4_commit_r2 ++ wsX4_commit_r3)) ++ wsX40)
def wsX4_isReplica : List Cond := .code yX4_isReplica cX4_isReplica 3 (some .boolean) :: ([.fieldLink RX4 16 "ShippedLogModel" "role" "[I", .fieldLink RX4 28 "ShippedLogModel" "follows" "[I"] ++ wsX40)
def wsX4_standby_r1 : List Cond := [Cond.fieldLink RX4 65 "ShippedLogModel" "thrown" "I", Cond.fieldLink RX4 31 "ShippedLogModel" "standby" "[I", Cond.methodLink RX4 101 yX4_isNode, Cond.static yX4_isNode, Cond.initialized RX4, Cond.code yX4_isNode cX4_isNode 1 (some .boolean), Cond.methodLink RX4 69 yX4_within, Cond.static yX4_within, Cond.code yX4_within cX4_within 3 (some .boolean), Cond.methodLink RX4 105 yX4_fail, Cond.instanceMethod yX4_fail, Cond.selects RX4 yX4_fail yX4_fail, Cond.code yX4_fail cX4_fail 2 (some .int), Cond.methodLink RX4 133 yX4_isPrimary, Cond.instanceMethod yX4_isPrimary, Cond.selects RX4 yX4_isPrimary yX4_isPrimary, Cond.code yX4_isPrimary cX4_isPrimary 2 (some .boolean), Cond.fieldLink RX4 16 "ShippedLogModel" "role" "[I", Cond.methodLink RX4 138 yX4_isReplica, Cond.instanceMethod yX4_isReplica, Cond.selects RX4 yX4_isReplica yX4_isReplica, Cond.code yX4_isReplica cX4_isReplica 3 (some .boolean), Cond.fieldLink RX4 28 "ShippedLogModel" "follows" "[I", Cond.methodLink RX4 136 yX4_count]
def wsX4_standby_r2 : List Cond := [Cond.instanceMethod yX4_count, Cond.selects RX4 yX4_count yX4_count, Cond.code yX4_count cX4_count 4 none, Cond.fieldLink RX4 19 "ShippedLogModel" "end" "[I", Cond.fieldLink RX4 40 "ShippedLogModel" "known" "[I", Cond.fieldLink RX4 37 "ShippedLogModel" "since" "[I", Cond.fieldLink RX4 34 "ShippedLogModel" "safe" "[I", Cond.methodLink RX4 84 yX4_kindAt, Cond.instanceMethod yX4_kindAt, Cond.selects RX4 yX4_kindAt yX4_kindAt, Cond.code yX4_kindAt cX4_kindAt 3 (some .int), Cond.fieldLink RX4 7 "ShippedLogModel" "memory" "[I", Cond.methodLink RX4 73 yX4_at, Cond.static yX4_at, Cond.code yX4_at cX4_at 2 (some .int)]
def wsX4_standby : List Cond := .code yX4_standby cX4_standby 4 (some .int) :: ((wsX4_standby_r1 ++ wsX4_standby_r2) ++ wsX40)
def wsX4_isLink : List Cond := .code yX4_isLink cX4_isLink 3 (some .boolean) :: ([.fieldLink RX4 16 "ShippedLogModel" "role" "[I", .methodLink RX4 138 yX4_isReplica, .instanceMethod yX4_isReplica, .selects RX4 yX4_isReplica yX4_isReplica, .initialized RX4, .code yX4_isReplica cX4_isReplica 3 (some .boolean), .fieldLink RX4 28 "ShippedLogModel" "follows" "[I"] ++ wsX40)
def wsX4_slot : List Cond := .code yX4_slot cX4_slot 4 (some .int) :: ([])
def wsX4_add : List Cond := .code yX4_add cX4_add 7 none :: ([.fieldLink RX4 43 "ShippedLogModel" "count" "[I", .fieldLink RX4 46 "ShippedLogModel" "position" "[I", .fieldLink RX4 49 "ShippedLogModel" "records" "[I", .fieldLink RX4 52 "ShippedLogModel" "bytes" "[I", .fieldLink RX4 7 "ShippedLogModel" "memory" "[I", .methodLink RX4 141 yX4_slot, .instanceMethod yX4_slot, .selects RX4 yX4_slot yX4_slot, .initialized RX4, .code yX4_slot cX4_slot 4 (some .int), .methodLink RX4 73 yX4_at, .static yX4_at, .code yX4_at cX4_at 2 (some .int)] ++ wsX40)
def wsX4_take : List Cond := .code yX4_take cX4_take 7 none :: ([.fieldLink RX4 43 "ShippedLogModel" "count" "[I", .fieldLink RX4 46 "ShippedLogModel" "position" "[I", .fieldLink RX4 49 "ShippedLogModel" "records" "[I", .fieldLink RX4 52 "ShippedLogModel" "bytes" "[I", .methodLink RX4 141 yX4_slot, .instanceMethod yX4_slot, .selects RX4 yX4_slot yX4_slot, .initialized RX4, .code yX4_slot cX4_slot 4 (some .int)] ++ wsX40)
def wsX4_send_r1 : List Cond := [Cond.fieldLink RX4 65 "ShippedLogModel" "thrown" "I", Cond.fieldLink RX4 43 "ShippedLogModel" "count" "[I", Cond.fieldLink RX4 40 "ShippedLogModel" "known" "[I", Cond.fieldLink RX4 19 "ShippedLogModel" "end" "[I", Cond.methodLink RX4 101 yX4_isNode, Cond.static yX4_isNode, Cond.initialized RX4, Cond.code yX4_isNode cX4_isNode 1 (some .boolean), Cond.methodLink RX4 69 yX4_within, Cond.static yX4_within, Cond.code yX4_within cX4_within 3 (some .boolean), Cond.methodLink RX4 105 yX4_fail, Cond.instanceMethod yX4_fail, Cond.selects RX4 yX4_fail yX4_fail, Cond.code yX4_fail cX4_fail 2 (some .int), Cond.methodLink RX4 145 yX4_isLink, Cond.instanceMethod yX4_isLink, Cond.selects RX4 yX4_isLink yX4_isLink, Cond.code yX4_isLink cX4_isLink 3 (some .boolean), Cond.fieldLink RX4 16 "ShippedLogModel" "role" "[I", Cond.methodLink RX4 138 yX4_isReplica, Cond.instanceMethod yX4_isReplica, Cond.selects RX4 yX4_isReplica yX4_isReplica, Cond.code yX4_isReplica cX4_isReplica 3 (some .boolean)]
def wsX4_send_r2 : List Cond := [Cond.fieldLink RX4 28 "ShippedLogModel" "follows" "[I", Cond.methodLink RX4 148 yX4_add, Cond.instanceMethod yX4_add, Cond.selects RX4 yX4_add yX4_add, Cond.code yX4_add cX4_add 7 none, Cond.fieldLink RX4 46 "ShippedLogModel" "position" "[I", Cond.fieldLink RX4 49 "ShippedLogModel" "records" "[I", Cond.fieldLink RX4 52 "ShippedLogModel" "bytes" "[I", Cond.fieldLink RX4 7 "ShippedLogModel" "memory" "[I", Cond.methodLink RX4 141 yX4_slot, Cond.instanceMethod yX4_slot, Cond.selects RX4 yX4_slot yX4_slot, Cond.code yX4_slot cX4_slot 4 (some .int), Cond.methodLink RX4 73 yX4_at, Cond.static yX4_at, Cond.code yX4_at cX4_at 2 (some .int)]
def wsX4_send : List Cond := .code yX4_send cX4_send 5 (some .int) :: ((wsX4_send_r1 ++ wsX4_send_r2) ++ wsX40)
def wsX4_deliver_r1 : List Cond := [Cond.fieldLink RX4 65 "ShippedLogModel" "thrown" "I", Cond.fieldLink RX4 43 "ShippedLogModel" "count" "[I", Cond.fieldLink RX4 49 "ShippedLogModel" "records" "[I", Cond.fieldLink RX4 40 "ShippedLogModel" "known" "[I", Cond.fieldLink RX4 46 "ShippedLogModel" "position" "[I", Cond.fieldLink RX4 31 "ShippedLogModel" "standby" "[I", Cond.fieldLink RX4 19 "ShippedLogModel" "end" "[I", Cond.fieldLink RX4 7 "ShippedLogModel" "memory" "[I", Cond.fieldLink RX4 52 "ShippedLogModel" "bytes" "[I", Cond.methodLink RX4 101 yX4_isNode, Cond.static yX4_isNode, Cond.initialized RX4, Cond.code yX4_isNode cX4_isNode 1 (some .boolean), Cond.methodLink RX4 69 yX4_within, Cond.static yX4_within, Cond.code yX4_within cX4_within 3 (some .boolean), Cond.methodLink RX4 105 yX4_fail, Cond.instanceMethod yX4_fail, Cond.selects RX4 yX4_fail yX4_fail, Cond.code yX4_fail cX4_fail 2 (some .int), Cond.methodLink RX4 141 yX4_slot, Cond.instanceMethod yX4_slot, Cond.selects RX4 yX4_slot yX4_slot, Cond.code yX4_slot cX4_slot 4 (some .int)]
def wsX4_deliver_r2 : List Cond := [Cond.methodLink RX4 151 yX4_take, Cond.instanceMethod yX4_take, Cond.selects RX4 yX4_take yX4_take, Cond.code yX4_take cX4_take 7 none, Cond.methodLink RX4 136 yX4_count, Cond.instanceMethod yX4_count, Cond.selects RX4 yX4_count yX4_count, Cond.code yX4_count cX4_count 4 none, Cond.fieldLink RX4 37 "ShippedLogModel" "since" "[I", Cond.fieldLink RX4 34 "ShippedLogModel" "safe" "[I", Cond.methodLink RX4 84 yX4_kindAt, Cond.instanceMethod yX4_kindAt, Cond.selects RX4 yX4_kindAt yX4_kindAt, Cond.code yX4_kindAt cX4_kindAt 3 (some .int), Cond.methodLink RX4 73 yX4_at, Cond.static yX4_at, Cond.code yX4_at cX4_at 2 (some .int), Cond.methodLink RX4 123 yX4_sync, Cond.instanceMethod yX4_sync, Cond.selects RX4 yX4_sync yX4_sync, Cond.code yX4_sync cX4_sync 3 none, Cond.fieldLink RX4 22 "ShippedLogModel" "synced" "[I", Cond.fieldLink RX4 13 "ShippedLogModel" "disk" "[I", Cond.methodLink RX4 148 yX4_add]
def wsX4_deliver_r3 : List Cond := [Cond.instanceMethod yX4_add, Cond.selects RX4 yX4_add yX4_add, Cond.code yX4_add cX4_add 7 none]
def wsX4_deliver : List Cond := .code yX4_deliver cX4_deliver 5 (some .int) :: ((wsX4_deliver_r1 ++ (wsX4_deliver_r2 ++ wsX4_deliver_r3)) ++ wsX40)
def wsX4_drop : List Cond := .code yX4_drop cX4_drop 3 (some .int) :: ([.fieldLink RX4 65 "ShippedLogModel" "thrown" "I", .fieldLink RX4 43 "ShippedLogModel" "count" "[I", .methodLink RX4 101 yX4_isNode, .static yX4_isNode, .initialized RX4, .code yX4_isNode cX4_isNode 1 (some .boolean), .methodLink RX4 69 yX4_within, .static yX4_within, .code yX4_within cX4_within 3 (some .boolean), .methodLink RX4 105 yX4_fail, .instanceMethod yX4_fail, .selects RX4 yX4_fail yX4_fail, .code yX4_fail cX4_fail 2 (some .int), .methodLink RX4 151 yX4_take, .instanceMethod yX4_take, .selects RX4 yX4_take yX4_take, .code yX4_take cX4_take 7 none, .fieldLink RX4 46 "ShippedLogModel" "position" "[I", .fieldLink RX4 49 "ShippedLogModel" "records" "[I", .fieldLink RX4 52 "ShippedLogModel" "bytes" "[I", .methodLink RX4 141 yX4_slot, .instanceMethod yX4_slot, .selects RX4 yX4_slot yX4_slot, .code yX4_slot cX4_slot 4 (some .int)] ++ wsX40)
def wsX4_apply : List Cond := .code yX4_apply cX4_apply 4 (some .int) :: ([.fieldLink RX4 65 "ShippedLogModel" "thrown" "I", .fieldLink RX4 16 "ShippedLogModel" "role" "[I", .fieldLink RX4 19 "ShippedLogModel" "end" "[I", .fieldLink RX4 25 "ShippedLogModel" "applied" "[I", .methodLink RX4 101 yX4_isNode, .static yX4_isNode, .initialized RX4, .code yX4_isNode cX4_isNode 1 (some .boolean), .methodLink RX4 69 yX4_within, .static yX4_within, .code yX4_within cX4_within 3 (some .boolean), .methodLink RX4 105 yX4_fail, .instanceMethod yX4_fail, .selects RX4 yX4_fail yX4_fail, .code yX4_fail cX4_fail 2 (some .int)] ++ wsX40)
def wsX4_play : List Cond := .code yX4_play cX4_play 5 none :: ([.fieldLink RX4 154 "ShippedLogModel" "open" "I", .fieldLink RX4 55 "ShippedLogModel" "values" "[I", .fieldLink RX4 61 "ShippedLogModel" "isPut" "[Z", .fieldLink RX4 25 "ShippedLogModel" "applied" "[I", .fieldLink RX4 7 "ShippedLogModel" "memory" "[I", .fieldLink RX4 58 "ShippedLogModel" "puts" "[I", .methodLink RX4 84 yX4_kindAt, .instanceMethod yX4_kindAt, .selects RX4 yX4_kindAt yX4_kindAt, .initialized RX4, .code yX4_kindAt cX4_kindAt 3 (some .int), .methodLink RX4 73 yX4_at, .static yX4_at, .code yX4_at cX4_at 2 (some .int), .methodLink RX4 81 yX4_wordAt, .instanceMethod yX4_wordAt, .selects RX4 yX4_wordAt yX4_wordAt, .code yX4_wordAt cX4_wordAt 5 (some .int)] ++ wsX40)
def wsX4_get_r1 : List Cond := [Cond.fieldLink RX4 65 "ShippedLogModel" "thrown" "I", Cond.fieldLink RX4 16 "ShippedLogModel" "role" "[I", Cond.fieldLink RX4 55 "ShippedLogModel" "values" "[I", Cond.methodLink RX4 101 yX4_isNode, Cond.static yX4_isNode, Cond.initialized RX4, Cond.code yX4_isNode cX4_isNode 1 (some .boolean), Cond.methodLink RX4 69 yX4_within, Cond.static yX4_within, Cond.code yX4_within cX4_within 3 (some .boolean), Cond.methodLink RX4 105 yX4_fail, Cond.instanceMethod yX4_fail, Cond.selects RX4 yX4_fail yX4_fail, Cond.code yX4_fail cX4_fail 2 (some .int), Cond.methodLink RX4 157 yX4_play, Cond.instanceMethod yX4_play, Cond.selects RX4 yX4_play yX4_play, Cond.code yX4_play cX4_play 5 none, Cond.fieldLink RX4 154 "ShippedLogModel" "open" "I", Cond.fieldLink RX4 61 "ShippedLogModel" "isPut" "[Z", Cond.fieldLink RX4 25 "ShippedLogModel" "applied" "[I", Cond.fieldLink RX4 7 "ShippedLogModel" "memory" "[I", Cond.fieldLink RX4 58 "ShippedLogModel" "puts" "[I", Cond.methodLink RX4 84 yX4_kindAt]
def wsX4_get_r2 : List Cond := [Cond.instanceMethod yX4_kindAt, Cond.selects RX4 yX4_kindAt yX4_kindAt, Cond.code yX4_kindAt cX4_kindAt 3 (some .int), Cond.methodLink RX4 73 yX4_at, Cond.static yX4_at, Cond.code yX4_at cX4_at 2 (some .int), Cond.methodLink RX4 81 yX4_wordAt, Cond.instanceMethod yX4_wordAt, Cond.selects RX4 yX4_wordAt yX4_wordAt, Cond.code yX4_wordAt cX4_wordAt 5 (some .int)]
def wsX4_get : List Cond := .code yX4_get cX4_get 3 (some .int) :: ((wsX4_get_r1 ++ wsX4_get_r2) ++ wsX40)
def wsX4_byteAt : List Cond := .code yX4_byteAt cX4_byteAt 4 (some .int) :: ([.fieldLink RX4 65 "ShippedLogModel" "thrown" "I", .fieldLink RX4 7 "ShippedLogModel" "memory" "[I", .fieldLink RX4 13 "ShippedLogModel" "disk" "[I", .methodLink RX4 101 yX4_isNode, .static yX4_isNode, .initialized RX4, .code yX4_isNode cX4_isNode 1 (some .boolean), .methodLink RX4 69 yX4_within, .static yX4_within, .code yX4_within cX4_within 3 (some .boolean), .methodLink RX4 105 yX4_fail, .instanceMethod yX4_fail, .selects RX4 yX4_fail yX4_fail, .code yX4_fail cX4_fail 2 (some .int), .methodLink RX4 73 yX4_at, .static yX4_at, .code yX4_at cX4_at 2 (some .int)] ++ wsX40)
def wsX4_node_r1 : List Cond := [Cond.fieldLink RX4 65 "ShippedLogModel" "thrown" "I", Cond.fieldLink RX4 16 "ShippedLogModel" "role" "[I", Cond.fieldLink RX4 19 "ShippedLogModel" "end" "[I", Cond.fieldLink RX4 22 "ShippedLogModel" "synced" "[I", Cond.fieldLink RX4 25 "ShippedLogModel" "applied" "[I", Cond.fieldLink RX4 28 "ShippedLogModel" "follows" "[I", Cond.fieldLink RX4 34 "ShippedLogModel" "safe" "[I", Cond.fieldLink RX4 31 "ShippedLogModel" "standby" "[I", Cond.fieldLink RX4 154 "ShippedLogModel" "open" "I", Cond.methodLink RX4 101 yX4_isNode, Cond.static yX4_isNode, Cond.initialized RX4, Cond.code yX4_isNode cX4_isNode 1 (some .boolean), Cond.methodLink RX4 69 yX4_within, Cond.static yX4_within, Cond.code yX4_within cX4_within 3 (some .boolean), Cond.methodLink RX4 105 yX4_fail, Cond.instanceMethod yX4_fail, Cond.selects RX4 yX4_fail yX4_fail, Cond.code yX4_fail cX4_fail 2 (some .int), Cond.methodLink RX4 87 yX4_timelineAt, Cond.instanceMethod yX4_timelineAt, Cond.selects RX4 yX4_timelineAt yX4_timelineAt, Cond.code yX4_timelineAt cX4_timelineAt 3 (some .int)]
def wsX4_node_r2 : List Cond := [Cond.fieldLink RX4 7 "ShippedLogModel" "memory" "[I", Cond.methodLink RX4 73 yX4_at, Cond.static yX4_at, Cond.code yX4_at cX4_at 2 (some .int), Cond.methodLink RX4 157 yX4_play, Cond.instanceMethod yX4_play, Cond.selects RX4 yX4_play yX4_play, Cond.code yX4_play cX4_play 5 none, Cond.fieldLink RX4 55 "ShippedLogModel" "values" "[I", Cond.fieldLink RX4 61 "ShippedLogModel" "isPut" "[Z", Cond.fieldLink RX4 58 "ShippedLogModel" "puts" "[I", Cond.methodLink RX4 84 yX4_kindAt, Cond.instanceMethod yX4_kindAt, Cond.selects RX4 yX4_kindAt yX4_kindAt, Cond.code yX4_kindAt cX4_kindAt 3 (some .int), Cond.methodLink RX4 81 yX4_wordAt, Cond.instanceMethod yX4_wordAt, Cond.selects RX4 yX4_wordAt yX4_wordAt, Cond.code yX4_wordAt cX4_wordAt 5 (some .int)]
def wsX4_node : List Cond := .code yX4_node cX4_node 3 (some .int) :: ((wsX4_node_r1 ++ wsX4_node_r2) ++ wsX40)
def wsX4_link : List Cond := .code yX4_link cX4_link 4 (some .int) :: ([.fieldLink RX4 65 "ShippedLogModel" "thrown" "I", .fieldLink RX4 43 "ShippedLogModel" "count" "[I", .fieldLink RX4 40 "ShippedLogModel" "known" "[I", .methodLink RX4 101 yX4_isNode, .static yX4_isNode, .initialized RX4, .code yX4_isNode cX4_isNode 1 (some .boolean), .methodLink RX4 69 yX4_within, .static yX4_within, .code yX4_within cX4_within 3 (some .boolean), .methodLink RX4 105 yX4_fail, .instanceMethod yX4_fail, .selects RX4 yX4_fail yX4_fail, .code yX4_fail cX4_fail 2 (some .int), .methodLink RX4 145 yX4_isLink, .instanceMethod yX4_isLink, .selects RX4 yX4_isLink yX4_isLink, .code yX4_isLink cX4_isLink 3 (some .boolean), .fieldLink RX4 16 "ShippedLogModel" "role" "[I", .methodLink RX4 138 yX4_isReplica, .instanceMethod yX4_isReplica, .selects RX4 yX4_isReplica yX4_isReplica, .code yX4_isReplica cX4_isReplica 3 (some .boolean), .fieldLink RX4 28 "ShippedLogModel" "follows" "[I"] ++ wsX40)
def wsJ9_max_7cf53 : List Cond := .code yJ9_max_7cf53 cJ9_max_7cf53 2 (some .int) :: ([])
def wsJ9_min_7cf53 : List Cond := .code yJ9_min_7cf53 cJ9_min_7cf53 2 (some .int) :: ([])
def wsL_up_r1 : List Cond := [Cond.classLink RL 13 "java/lang/IndexOutOfBoundsException", Cond.classLink RL 15 "java/lang/IllegalStateException", Cond.methodLink RL 7 yX3_up, Cond.instanceMethod yX3_up, Cond.selects RX3 yX3_up yX3_up, Cond.initialized RX3, Cond.code yX3_up cX3_up 3 (some .int), Cond.classLink RX3 34 "java/lang/IllegalStateException", Cond.initialized "java/lang/IllegalStateException", Cond.fieldLink RX3 31 "ShippedLog$Node" "role" "I", Cond.fieldLink RX3 45 "ShippedLog$Node" "log" "LShippedLog$Log;", Cond.fieldLink RX3 54 "ShippedLog$Log" "end" "I", Cond.fieldLink RX3 57 "ShippedLog$Node" "applied" "I", Cond.methodLink RX3 27 yX3_nodeAt, Cond.instanceMethod yX3_nodeAt, Cond.selects RX3 yX3_nodeAt yX3_nodeAt, Cond.code yX3_nodeAt cX3_nodeAt 2 (some (.object "ShippedLog$Node")), Cond.classLink RX3 134 "java/lang/IndexOutOfBoundsException", Cond.initialized "java/lang/IndexOutOfBoundsException", Cond.fieldLink RX3 11 "ShippedLog" "nodes" "[LShippedLog$Node;", Cond.methodLink RX3 131 yX3_isNode, Cond.static yX3_isNode, Cond.code yX3_isNode cX3_isNode 1 (some .boolean), Cond.methodLink RX3 41 yX3_takeRole]
def wsL_up_r2 : List Cond := [Cond.instanceMethod yX3_takeRole, Cond.selects RX3 yX3_takeRole yX3_takeRole, Cond.code yX3_takeRole cX3_takeRole 5 none, Cond.fieldLink RX3 145 "ShippedLog$Node" "standby" "I", Cond.fieldLink RX3 128 "ShippedLog$Node" "acknowledged" "I", Cond.fieldLink RX3 162 "ShippedLog$Node" "known" "I", Cond.methodLink RX3 240 yX3_leaveStandby, Cond.instanceMethod yX3_leaveStandby, Cond.selects RX3 yX3_leaveStandby yX3_leaveStandby, Cond.code yX3_leaveStandby cX3_leaveStandby 3 none, Cond.methodLink RX3 243 yX3_releaseReplicas, Cond.instanceMethod yX3_releaseReplicas, Cond.selects RX3 yX3_releaseReplicas yX3_releaseReplicas, Cond.code yX3_releaseReplicas cX3_releaseReplicas 3 none, Cond.methodLink RX3 139 yX3_isReplicaOf, Cond.instanceMethod yX3_isReplicaOf, Cond.selects RX3 yX3_isReplicaOf yX3_isReplicaOf, Cond.code yX3_isReplicaOf cX3_isReplicaOf 4 (some .boolean), Cond.fieldLink RX3 222 "ShippedLog$Node" "follows" "I", Cond.methodLink RX3 246 yX3_changeRole, Cond.instanceMethod yX3_changeRole, Cond.selects RX3 yX3_changeRole yX3_changeRole, Cond.code yX3_changeRole cX3_changeRole 5 none, Cond.methodLink RX3 249 yX3_loseMessages]
def wsL_up_r3 : List Cond := [Cond.instanceMethod yX3_loseMessages, Cond.selects RX3 yX3_loseMessages yX3_loseMessages, Cond.code yX3_loseMessages cX3_loseMessages 3 none, Cond.methodLink RX3 152 yX3_wayFrom, Cond.instanceMethod yX3_wayFrom, Cond.selects RX3 yX3_wayFrom yX3_wayFrom, Cond.code yX3_wayFrom cX3_wayFrom 3 (some (.object "ShippedLog$Way")), Cond.fieldLink RX3 18 "ShippedLog" "ways" "[LShippedLog$Way;", Cond.methodLink RX3 252 yX2_clear, Cond.instanceMethod yX2_clear, Cond.selects RX2 yX2_clear yX2_clear, Cond.initialized RX2, Cond.code yX2_clear cX2_clear 1 none, Cond.fieldLink RX2 18 "ShippedLog$Way" "oldest" "I", Cond.fieldLink RX2 22 "ShippedLog$Way" "count" "I", Cond.methodLink RX3 49 yX0_loadFromDisk, Cond.instanceMethod yX0_loadFromDisk, Cond.selects RX0 yX0_loadFromDisk yX0_loadFromDisk, Cond.initialized RX0, Cond.code yX0_loadFromDisk cX0_loadFromDisk 1 none, Cond.fieldLink RX0 15 "ShippedLog$Log" "disk" "[B", Cond.fieldLink RX0 9 "ShippedLog$Log" "memory" "[B", Cond.fieldLink RX0 18 "ShippedLog$Log" "end" "I", Cond.fieldLink RX0 22 "ShippedLog$Log" "synced" "I"]
def wsL_up_r4 : List Cond := [Cond.methodLink RX0 58 yX0_copy, Cond.static yX0_copy, Cond.code yX0_copy cX0_copy 4 none, Cond.methodLink RX0 81 arraycopyName, Cond.native arraycopyName, Cond.static arraycopyName, Cond.initialized "java/lang/System", Cond.methodLink RX0 62 yX0_lastTimeline, Cond.instanceMethod yX0_lastTimeline, Cond.selects RX0 yX0_lastTimeline yX0_lastTimeline, Cond.code yX0_lastTimeline cX0_lastTimeline 1 (some .int), Cond.methodLink RX0 32 yX0_timelineAt, Cond.instanceMethod yX0_timelineAt, Cond.selects RX0 yX0_timelineAt yX0_timelineAt, Cond.code yX0_timelineAt cX0_timelineAt 2 (some .int), Cond.methodLink RX0 25 yX0_byteOf, Cond.instanceMethod yX0_byteOf, Cond.selects RX0 yX0_byteOf yX0_byteOf, Cond.code yX0_byteOf cX0_byteOf 2 (some .int), Cond.methodLink RX0 66 yX0_hasGoodRecord, Cond.instanceMethod yX0_hasGoodRecord, Cond.selects RX0 yX0_hasGoodRecord yX0_hasGoodRecord, Cond.code yX0_hasGoodRecord cX0_hasGoodRecord 7 (some .boolean), Cond.methodLink RX0 87 yX0_kindAt]
def wsL_up_r5 : List Cond := [Cond.instanceMethod yX0_kindAt, Cond.selects RX0 yX0_kindAt yX0_kindAt, Cond.code yX0_kindAt cX0_kindAt 2 (some .int), Cond.methodLink RX0 29 yX0_intAt, Cond.instanceMethod yX0_intAt, Cond.selects RX0 yX0_intAt yX0_intAt, Cond.code yX0_intAt cX0_intAt 2 (some .int), Cond.methodLink RX0 46 yX0_checksumAt, Cond.instanceMethod yX0_checksumAt, Cond.selects RX0 yX0_checksumAt yX0_checksumAt, Cond.code yX0_checksumAt cX0_checksumAt 5 (some .int), Cond.constant RX0 90 (-306674912)]
def wsL_up : List Cond := .codeWith yL_up cL_up 4 (some .int) [(0, 9, 12, 13), (0, 9, 15, 15)] :: ((wsL_up_r1 ++ (wsL_up_r2 ++ (wsL_up_r3 ++ (wsL_up_r4 ++ wsL_up_r5)))) ++ wsX10 ++ wsX00 ++ wsX30 ++ wsX20 ++ (vx_atS RX3 38 "java/lang/IllegalStateException" ["java/lang/RuntimeException", "java/lang/Exception"]).filter goodWord ++ (vx_atS RX3 138 "java/lang/IndexOutOfBoundsException" ["java/lang/RuntimeException", "java/lang/Exception"]).filter goodWord)
def wsL_crash_r1 : List Cond := [Cond.classLink RL 13 "java/lang/IndexOutOfBoundsException", Cond.classLink RL 21 "java/lang/IllegalArgumentException", Cond.classLink RL 15 "java/lang/IllegalStateException", Cond.methodLink RL 17 yX3_crash, Cond.instanceMethod yX3_crash, Cond.selects RX3 yX3_crash yX3_crash, Cond.initialized RX3, Cond.code yX3_crash cX3_crash 5 (some .int), Cond.classLink RX3 60 "java/lang/IllegalArgumentException", Cond.initialized "java/lang/IllegalArgumentException", Cond.classLink RX3 34 "java/lang/IllegalStateException", Cond.initialized "java/lang/IllegalStateException", Cond.fieldLink RX3 31 "ShippedLog$Node" "role" "I", Cond.fieldLink RX3 45 "ShippedLog$Node" "log" "LShippedLog$Log;", Cond.methodLink RX3 27 yX3_nodeAt, Cond.instanceMethod yX3_nodeAt, Cond.selects RX3 yX3_nodeAt yX3_nodeAt, Cond.code yX3_nodeAt cX3_nodeAt 2 (some (.object "ShippedLog$Node")), Cond.classLink RX3 134 "java/lang/IndexOutOfBoundsException", Cond.initialized "java/lang/IndexOutOfBoundsException", Cond.fieldLink RX3 11 "ShippedLog" "nodes" "[LShippedLog$Node;", Cond.methodLink RX3 131 yX3_isNode, Cond.static yX3_isNode, Cond.code yX3_isNode cX3_isNode 1 (some .boolean)]
def wsL_crash_r2 : List Cond := [Cond.methodLink RX3 67 yX0_saveFirst, Cond.instanceMethod yX0_saveFirst, Cond.selects RX0 yX0_saveFirst yX0_saveFirst, Cond.initialized RX0, Cond.code yX0_saveFirst cX0_saveFirst 3 (some .int), Cond.fieldLink RX0 18 "ShippedLog$Log" "end" "I", Cond.fieldLink RX0 22 "ShippedLog$Log" "synced" "I", Cond.methodLink RX0 52 Lib.Math.min.name, Cond.static Lib.Math.min.name, Cond.initialized "java/lang/Math", Cond.code Lib.Math.min.name Lib.Math.min.code 2 (some .int), Cond.fieldLink RX0 9 "ShippedLog$Log" "memory" "[B", Cond.fieldLink RX0 15 "ShippedLog$Log" "disk" "[B", Cond.methodLink RX0 58 yX0_copy, Cond.static yX0_copy, Cond.code yX0_copy cX0_copy 4 none, Cond.methodLink RX0 81 arraycopyName, Cond.native arraycopyName, Cond.static arraycopyName, Cond.initialized "java/lang/System", Cond.methodLink RX3 41 yX3_takeRole, Cond.instanceMethod yX3_takeRole, Cond.selects RX3 yX3_takeRole yX3_takeRole, Cond.code yX3_takeRole cX3_takeRole 5 none]
def wsL_crash_r3 : List Cond := [Cond.fieldLink RX3 145 "ShippedLog$Node" "standby" "I", Cond.fieldLink RX3 128 "ShippedLog$Node" "acknowledged" "I", Cond.fieldLink RX3 54 "ShippedLog$Log" "end" "I", Cond.fieldLink RX3 162 "ShippedLog$Node" "known" "I", Cond.methodLink RX3 240 yX3_leaveStandby, Cond.instanceMethod yX3_leaveStandby, Cond.selects RX3 yX3_leaveStandby yX3_leaveStandby, Cond.code yX3_leaveStandby cX3_leaveStandby 3 none, Cond.methodLink RX3 243 yX3_releaseReplicas, Cond.instanceMethod yX3_releaseReplicas, Cond.selects RX3 yX3_releaseReplicas yX3_releaseReplicas, Cond.code yX3_releaseReplicas cX3_releaseReplicas 3 none, Cond.methodLink RX3 139 yX3_isReplicaOf, Cond.instanceMethod yX3_isReplicaOf, Cond.selects RX3 yX3_isReplicaOf yX3_isReplicaOf, Cond.code yX3_isReplicaOf cX3_isReplicaOf 4 (some .boolean), Cond.fieldLink RX3 222 "ShippedLog$Node" "follows" "I", Cond.methodLink RX3 246 yX3_changeRole, Cond.instanceMethod yX3_changeRole, Cond.selects RX3 yX3_changeRole yX3_changeRole, Cond.code yX3_changeRole cX3_changeRole 5 none, Cond.methodLink RX3 249 yX3_loseMessages, Cond.instanceMethod yX3_loseMessages, Cond.selects RX3 yX3_loseMessages yX3_loseMessages]
def wsL_crash_r4 : List Cond := [Cond.code yX3_loseMessages cX3_loseMessages 3 none, Cond.methodLink RX3 152 yX3_wayFrom, Cond.instanceMethod yX3_wayFrom, Cond.selects RX3 yX3_wayFrom yX3_wayFrom, Cond.code yX3_wayFrom cX3_wayFrom 3 (some (.object "ShippedLog$Way")), Cond.fieldLink RX3 18 "ShippedLog" "ways" "[LShippedLog$Way;", Cond.methodLink RX3 252 yX2_clear, Cond.instanceMethod yX2_clear, Cond.selects RX2 yX2_clear yX2_clear, Cond.initialized RX2, Cond.code yX2_clear cX2_clear 1 none, Cond.fieldLink RX2 18 "ShippedLog$Way" "oldest" "I", Cond.fieldLink RX2 22 "ShippedLog$Way" "count" "I"]
def wsL_crash : List Cond := .codeWith yL_crash cL_crash 5 (some .int) [(0, 10, 13, 13), (0, 10, 17, 21), (0, 10, 21, 15)] :: ((wsL_crash_r1 ++ (wsL_crash_r2 ++ (wsL_crash_r3 ++ wsL_crash_r4))) ++ wsX10 ++ wsX30 ++ wsX00 ++ wsX20 ++ (vx_atS RX3 64 "java/lang/IllegalArgumentException" ["java/lang/RuntimeException", "java/lang/Exception"]).filter goodWord ++ (vx_atS RX3 38 "java/lang/IllegalStateException" ["java/lang/RuntimeException", "java/lang/Exception"]).filter goodWord ++ (vx_atS RX3 138 "java/lang/IndexOutOfBoundsException" ["java/lang/RuntimeException", "java/lang/Exception"]).filter goodWord)
def wsL_promote_r1 : List Cond := [Cond.classLink RL 13 "java/lang/IndexOutOfBoundsException", Cond.classLink RL 15 "java/lang/IllegalStateException", Cond.classLink RL 26 "java/lang/UnsupportedOperationException", Cond.methodLink RL 23 yX3_promote, Cond.instanceMethod yX3_promote, Cond.selects RX3 yX3_promote yX3_promote, Cond.initialized RX3, Cond.code yX3_promote cX3_promote 3 (some .int), Cond.classLink RX3 34 "java/lang/IllegalStateException", Cond.initialized "java/lang/IllegalStateException", Cond.classLink RX3 77 "java/lang/UnsupportedOperationException", Cond.initialized "java/lang/UnsupportedOperationException", Cond.fieldLink RX3 31 "ShippedLog$Node" "role" "I", Cond.fieldLink RX3 23 "ShippedLog" "greatestTimeline" "I", Cond.fieldLink RX3 45 "ShippedLog$Node" "log" "LShippedLog$Log;", Cond.fieldLink RX3 54 "ShippedLog$Log" "end" "I", Cond.fieldLink RX3 82 "ShippedLog$Node" "promotedAt" "I", Cond.methodLink RX3 27 yX3_nodeAt, Cond.instanceMethod yX3_nodeAt, Cond.selects RX3 yX3_nodeAt yX3_nodeAt, Cond.code yX3_nodeAt cX3_nodeAt 2 (some (.object "ShippedLog$Node")), Cond.classLink RX3 134 "java/lang/IndexOutOfBoundsException", Cond.initialized "java/lang/IndexOutOfBoundsException", Cond.fieldLink RX3 11 "ShippedLog" "nodes" "[LShippedLog$Node;"]
def wsL_promote_r2 : List Cond := [Cond.methodLink RX3 131 yX3_isNode, Cond.static yX3_isNode, Cond.code yX3_isNode cX3_isNode 1 (some .boolean), Cond.methodLink RX3 73 yX3_requireRoom, Cond.static yX3_requireRoom, Cond.code yX3_requireRoom cX3_requireRoom 1 none, Cond.methodLink RX3 227 yX0_isFull, Cond.instanceMethod yX0_isFull, Cond.selects RX0 yX0_isFull yX0_isFull, Cond.initialized RX0, Cond.code yX0_isFull cX0_isFull 1 (some .boolean), Cond.fieldLink RX0 18 "ShippedLog$Log" "end" "I", Cond.methodLink RX3 41 yX3_takeRole, Cond.instanceMethod yX3_takeRole, Cond.selects RX3 yX3_takeRole yX3_takeRole, Cond.code yX3_takeRole cX3_takeRole 5 none, Cond.fieldLink RX3 145 "ShippedLog$Node" "standby" "I", Cond.fieldLink RX3 128 "ShippedLog$Node" "acknowledged" "I", Cond.fieldLink RX3 162 "ShippedLog$Node" "known" "I", Cond.methodLink RX3 240 yX3_leaveStandby, Cond.instanceMethod yX3_leaveStandby, Cond.selects RX3 yX3_leaveStandby yX3_leaveStandby, Cond.code yX3_leaveStandby cX3_leaveStandby 3 none, Cond.methodLink RX3 243 yX3_releaseReplicas]
def wsL_promote_r3 : List Cond := [Cond.instanceMethod yX3_releaseReplicas, Cond.selects RX3 yX3_releaseReplicas yX3_releaseReplicas, Cond.code yX3_releaseReplicas cX3_releaseReplicas 3 none, Cond.methodLink RX3 139 yX3_isReplicaOf, Cond.instanceMethod yX3_isReplicaOf, Cond.selects RX3 yX3_isReplicaOf yX3_isReplicaOf, Cond.code yX3_isReplicaOf cX3_isReplicaOf 4 (some .boolean), Cond.fieldLink RX3 222 "ShippedLog$Node" "follows" "I", Cond.methodLink RX3 246 yX3_changeRole, Cond.instanceMethod yX3_changeRole, Cond.selects RX3 yX3_changeRole yX3_changeRole, Cond.code yX3_changeRole cX3_changeRole 5 none, Cond.methodLink RX3 249 yX3_loseMessages, Cond.instanceMethod yX3_loseMessages, Cond.selects RX3 yX3_loseMessages yX3_loseMessages, Cond.code yX3_loseMessages cX3_loseMessages 3 none, Cond.methodLink RX3 152 yX3_wayFrom, Cond.instanceMethod yX3_wayFrom, Cond.selects RX3 yX3_wayFrom yX3_wayFrom, Cond.code yX3_wayFrom cX3_wayFrom 3 (some (.object "ShippedLog$Way")), Cond.fieldLink RX3 18 "ShippedLog" "ways" "[LShippedLog$Way;", Cond.methodLink RX3 252 yX2_clear, Cond.instanceMethod yX2_clear, Cond.selects RX2 yX2_clear yX2_clear]
def wsL_promote_r4 : List Cond := [Cond.initialized RX2, Cond.code yX2_clear cX2_clear 1 none, Cond.fieldLink RX2 18 "ShippedLog$Way" "oldest" "I", Cond.fieldLink RX2 22 "ShippedLog$Way" "count" "I", Cond.methodLink RX3 85 yX1_write, Cond.instanceMethod yX1_write, Cond.selects RX1 yX1_write yX1_write, Cond.initialized RX1, Cond.code yX1_write cX1_write 5 none, Cond.fieldLink RX1 12 "ShippedLog$Node" "log" "LShippedLog$Log;", Cond.fieldLink RX1 44 "ShippedLog$Log" "end" "I", Cond.fieldLink RX1 22 "ShippedLog$Node" "applied" "I", Cond.methodLink RX1 40 yX0_append, Cond.instanceMethod yX0_append, Cond.selects RX0 yX0_append yX0_append, Cond.code yX0_append cX0_append 5 none, Cond.methodLink RX0 35 yX0_isFull, Cond.methodLink RX0 39 yX0_setByte, Cond.instanceMethod yX0_setByte, Cond.selects RX0 yX0_setByte yX0_setByte, Cond.code yX0_setByte cX0_setByte 3 none, Cond.fieldLink RX0 9 "ShippedLog$Log" "memory" "[B", Cond.methodLink RX0 43 yX0_setInt, Cond.instanceMethod yX0_setInt]
def wsL_promote_r5 : List Cond := [Cond.selects RX0 yX0_setInt yX0_setInt, Cond.code yX0_setInt cX0_setInt 3 none, Cond.methodLink RX0 46 yX0_checksumAt, Cond.instanceMethod yX0_checksumAt, Cond.selects RX0 yX0_checksumAt yX0_checksumAt, Cond.code yX0_checksumAt cX0_checksumAt 5 (some .int), Cond.constant RX0 90 (-306674912), Cond.methodLink RX0 25 yX0_byteOf, Cond.instanceMethod yX0_byteOf, Cond.selects RX0 yX0_byteOf yX0_byteOf, Cond.code yX0_byteOf cX0_byteOf 2 (some .int), Cond.methodLink RX3 89 yX0_sync, Cond.instanceMethod yX0_sync, Cond.selects RX0 yX0_sync yX0_sync, Cond.code yX0_sync cX0_sync 1 none, Cond.fieldLink RX0 22 "ShippedLog$Log" "synced" "I", Cond.methodLink RX0 49 yX0_saveFirst, Cond.instanceMethod yX0_saveFirst, Cond.selects RX0 yX0_saveFirst yX0_saveFirst, Cond.code yX0_saveFirst cX0_saveFirst 3 (some .int), Cond.methodLink RX0 52 Lib.Math.min.name, Cond.static Lib.Math.min.name, Cond.initialized "java/lang/Math", Cond.code Lib.Math.min.name Lib.Math.min.code 2 (some .int)]
def wsL_promote_r6 : List Cond := [Cond.fieldLink RX0 15 "ShippedLog$Log" "disk" "[B", Cond.methodLink RX0 58 yX0_copy, Cond.static yX0_copy, Cond.code yX0_copy cX0_copy 4 none, Cond.methodLink RX0 81 arraycopyName, Cond.native arraycopyName, Cond.static arraycopyName, Cond.initialized "java/lang/System"]
def wsL_promote : List Cond := .codeWith yL_promote cL_promote 4 (some .int) [(0, 9, 12, 13), (0, 9, 15, 15), (0, 9, 18, 26)] :: ((wsL_promote_r1 ++ (wsL_promote_r2 ++ (wsL_promote_r3 ++ (wsL_promote_r4 ++ (wsL_promote_r5 ++ wsL_promote_r6))))) ++ wsX10 ++ wsX30 ++ wsX00 ++ wsX20 ++ (vx_atS RX3 38 "java/lang/IllegalStateException" ["java/lang/RuntimeException", "java/lang/Exception"]).filter goodWord ++ (vx_atS RX3 81 "java/lang/UnsupportedOperationException" ["java/lang/RuntimeException", "java/lang/Exception"]).filter goodWord ++ (vx_atS RX3 138 "java/lang/IndexOutOfBoundsException" ["java/lang/RuntimeException", "java/lang/Exception"]).filter goodWord)
def wsL_follow_r1 : List Cond := [Cond.classLink RL 13 "java/lang/IndexOutOfBoundsException", Cond.classLink RL 15 "java/lang/IllegalStateException", Cond.classLink RL 21 "java/lang/IllegalArgumentException", Cond.methodLink RL 28 yX3_follow, Cond.instanceMethod yX3_follow, Cond.selects RX3 yX3_follow yX3_follow, Cond.initialized RX3, Cond.code yX3_follow cX3_follow 5 none, Cond.classLink RX3 34 "java/lang/IllegalStateException", Cond.initialized "java/lang/IllegalStateException", Cond.classLink RX3 60 "java/lang/IllegalArgumentException", Cond.initialized "java/lang/IllegalArgumentException", Cond.fieldLink RX3 31 "ShippedLog$Node" "role" "I", Cond.fieldLink RX3 45 "ShippedLog$Node" "log" "LShippedLog$Log;", Cond.methodLink RX3 27 yX3_nodeAt, Cond.instanceMethod yX3_nodeAt, Cond.selects RX3 yX3_nodeAt yX3_nodeAt, Cond.code yX3_nodeAt cX3_nodeAt 2 (some (.object "ShippedLog$Node")), Cond.classLink RX3 134 "java/lang/IndexOutOfBoundsException", Cond.initialized "java/lang/IndexOutOfBoundsException", Cond.fieldLink RX3 11 "ShippedLog" "nodes" "[LShippedLog$Node;", Cond.methodLink RX3 131 yX3_isNode, Cond.static yX3_isNode, Cond.code yX3_isNode cX3_isNode 1 (some .boolean)]
def wsL_follow_r2 : List Cond := [Cond.methodLink RX3 92 yX3_requirePrimary, Cond.static yX3_requirePrimary, Cond.code yX3_requirePrimary cX3_requirePrimary 1 none, Cond.methodLink RX3 95 yX0_isBeginningOf, Cond.instanceMethod yX0_isBeginningOf, Cond.selects RX0 yX0_isBeginningOf yX0_isBeginningOf, Cond.initialized RX0, Cond.code yX0_isBeginningOf cX0_isBeginningOf 2 (some .boolean), Cond.fieldLink RX0 18 "ShippedLog$Log" "end" "I", Cond.methodLink RX0 73 yX0_sharedWith, Cond.instanceMethod yX0_sharedWith, Cond.selects RX0 yX0_sharedWith yX0_sharedWith, Cond.code yX0_sharedWith cX0_sharedWith 4 (some .int), Cond.methodLink RX0 52 Lib.Math.min.name, Cond.static Lib.Math.min.name, Cond.initialized "java/lang/Math", Cond.code Lib.Math.min.name Lib.Math.min.code 2 (some .int), Cond.methodLink RX0 77 yX0_hasRecordOf, Cond.instanceMethod yX0_hasRecordOf, Cond.selects RX0 yX0_hasRecordOf yX0_hasRecordOf, Cond.code yX0_hasRecordOf cX0_hasRecordOf 4 (some .boolean), Cond.methodLink RX0 25 yX0_byteOf, Cond.instanceMethod yX0_byteOf, Cond.selects RX0 yX0_byteOf yX0_byteOf]
def wsL_follow_r3 : List Cond := [Cond.code yX0_byteOf cX0_byteOf 2 (some .int), Cond.fieldLink RX0 9 "ShippedLog$Log" "memory" "[B", Cond.methodLink RX3 41 yX3_takeRole, Cond.instanceMethod yX3_takeRole, Cond.selects RX3 yX3_takeRole yX3_takeRole, Cond.code yX3_takeRole cX3_takeRole 5 none, Cond.fieldLink RX3 145 "ShippedLog$Node" "standby" "I", Cond.fieldLink RX3 128 "ShippedLog$Node" "acknowledged" "I", Cond.fieldLink RX3 54 "ShippedLog$Log" "end" "I", Cond.fieldLink RX3 162 "ShippedLog$Node" "known" "I", Cond.methodLink RX3 240 yX3_leaveStandby, Cond.instanceMethod yX3_leaveStandby, Cond.selects RX3 yX3_leaveStandby yX3_leaveStandby, Cond.code yX3_leaveStandby cX3_leaveStandby 3 none, Cond.methodLink RX3 243 yX3_releaseReplicas, Cond.instanceMethod yX3_releaseReplicas, Cond.selects RX3 yX3_releaseReplicas yX3_releaseReplicas, Cond.code yX3_releaseReplicas cX3_releaseReplicas 3 none, Cond.methodLink RX3 139 yX3_isReplicaOf, Cond.instanceMethod yX3_isReplicaOf, Cond.selects RX3 yX3_isReplicaOf yX3_isReplicaOf, Cond.code yX3_isReplicaOf cX3_isReplicaOf 4 (some .boolean), Cond.fieldLink RX3 222 "ShippedLog$Node" "follows" "I", Cond.methodLink RX3 246 yX3_changeRole]
def wsL_follow_r4 : List Cond := [Cond.instanceMethod yX3_changeRole, Cond.selects RX3 yX3_changeRole yX3_changeRole, Cond.code yX3_changeRole cX3_changeRole 5 none, Cond.methodLink RX3 249 yX3_loseMessages, Cond.instanceMethod yX3_loseMessages, Cond.selects RX3 yX3_loseMessages yX3_loseMessages, Cond.code yX3_loseMessages cX3_loseMessages 3 none, Cond.methodLink RX3 152 yX3_wayFrom, Cond.instanceMethod yX3_wayFrom, Cond.selects RX3 yX3_wayFrom yX3_wayFrom, Cond.code yX3_wayFrom cX3_wayFrom 3 (some (.object "ShippedLog$Way")), Cond.fieldLink RX3 18 "ShippedLog" "ways" "[LShippedLog$Way;", Cond.methodLink RX3 252 yX2_clear, Cond.instanceMethod yX2_clear, Cond.selects RX2 yX2_clear yX2_clear, Cond.initialized RX2, Cond.code yX2_clear cX2_clear 1 none, Cond.fieldLink RX2 18 "ShippedLog$Way" "oldest" "I", Cond.fieldLink RX2 22 "ShippedLog$Way" "count" "I"]
def wsL_follow : List Cond := .codeWith yL_follow cL_follow 4 (some .int) [(0, 6, 9, 13), (0, 6, 12, 15), (0, 6, 15, 21)] :: ((wsL_follow_r1 ++ (wsL_follow_r2 ++ (wsL_follow_r3 ++ wsL_follow_r4))) ++ wsX10 ++ wsX30 ++ wsX00 ++ wsX20 ++ (vx_atS RX3 38 "java/lang/IllegalStateException" ["java/lang/RuntimeException", "java/lang/Exception"]).filter goodWord ++ (vx_atS RX3 64 "java/lang/IllegalArgumentException" ["java/lang/RuntimeException", "java/lang/Exception"]).filter goodWord ++ (vx_atS RX3 138 "java/lang/IndexOutOfBoundsException" ["java/lang/RuntimeException", "java/lang/Exception"]).filter goodWord)
def wsL_rewind_r1 : List Cond := [Cond.classLink RL 13 "java/lang/IndexOutOfBoundsException", Cond.classLink RL 15 "java/lang/IllegalStateException", Cond.methodLink RL 32 yX3_rewind, Cond.instanceMethod yX3_rewind, Cond.selects RX3 yX3_rewind yX3_rewind, Cond.initialized RX3, Cond.code yX3_rewind cX3_rewind 6 (some .int), Cond.classLink RX3 34 "java/lang/IllegalStateException", Cond.initialized "java/lang/IllegalStateException", Cond.fieldLink RX3 31 "ShippedLog$Node" "role" "I", Cond.fieldLink RX3 45 "ShippedLog$Node" "log" "LShippedLog$Log;", Cond.fieldLink RX3 54 "ShippedLog$Log" "end" "I", Cond.fieldLink RX3 57 "ShippedLog$Node" "applied" "I", Cond.methodLink RX3 27 yX3_nodeAt, Cond.instanceMethod yX3_nodeAt, Cond.selects RX3 yX3_nodeAt yX3_nodeAt, Cond.code yX3_nodeAt cX3_nodeAt 2 (some (.object "ShippedLog$Node")), Cond.classLink RX3 134 "java/lang/IndexOutOfBoundsException", Cond.initialized "java/lang/IndexOutOfBoundsException", Cond.fieldLink RX3 11 "ShippedLog" "nodes" "[LShippedLog$Node;", Cond.methodLink RX3 131 yX3_isNode, Cond.static yX3_isNode, Cond.code yX3_isNode cX3_isNode 1 (some .boolean), Cond.methodLink RX3 92 yX3_requirePrimary]
def wsL_rewind_r2 : List Cond := [Cond.static yX3_requirePrimary, Cond.code yX3_requirePrimary cX3_requirePrimary 1 none, Cond.methodLink RX3 103 yX0_sharedWith, Cond.instanceMethod yX0_sharedWith, Cond.selects RX0 yX0_sharedWith yX0_sharedWith, Cond.initialized RX0, Cond.code yX0_sharedWith cX0_sharedWith 4 (some .int), Cond.fieldLink RX0 18 "ShippedLog$Log" "end" "I", Cond.methodLink RX0 52 Lib.Math.min.name, Cond.static Lib.Math.min.name, Cond.initialized "java/lang/Math", Cond.code Lib.Math.min.name Lib.Math.min.code 2 (some .int), Cond.methodLink RX0 77 yX0_hasRecordOf, Cond.instanceMethod yX0_hasRecordOf, Cond.selects RX0 yX0_hasRecordOf yX0_hasRecordOf, Cond.code yX0_hasRecordOf cX0_hasRecordOf 4 (some .boolean), Cond.methodLink RX0 25 yX0_byteOf, Cond.instanceMethod yX0_byteOf, Cond.selects RX0 yX0_byteOf yX0_byteOf, Cond.code yX0_byteOf cX0_byteOf 2 (some .int), Cond.fieldLink RX0 9 "ShippedLog$Log" "memory" "[B", Cond.methodLink RX3 107 yX0_cutTo, Cond.instanceMethod yX0_cutTo, Cond.selects RX0 yX0_cutTo yX0_cutTo]
def wsL_rewind_r3 : List Cond := [Cond.code yX0_cutTo cX0_cutTo 3 none, Cond.fieldLink RX0 22 "ShippedLog$Log" "synced" "I", Cond.fieldLink RX0 15 "ShippedLog$Log" "disk" "[B", Cond.methodLink RX0 39 yX0_setByte, Cond.instanceMethod yX0_setByte, Cond.selects RX0 yX0_setByte yX0_setByte, Cond.code yX0_setByte cX0_setByte 3 none, Cond.methodLink RX0 58 yX0_copy, Cond.static yX0_copy, Cond.code yX0_copy cX0_copy 4 none, Cond.methodLink RX0 81 arraycopyName, Cond.native arraycopyName, Cond.static arraycopyName, Cond.initialized "java/lang/System", Cond.methodLink RX3 41 yX3_takeRole, Cond.instanceMethod yX3_takeRole, Cond.selects RX3 yX3_takeRole yX3_takeRole, Cond.code yX3_takeRole cX3_takeRole 5 none, Cond.fieldLink RX3 145 "ShippedLog$Node" "standby" "I", Cond.fieldLink RX3 128 "ShippedLog$Node" "acknowledged" "I", Cond.fieldLink RX3 162 "ShippedLog$Node" "known" "I", Cond.methodLink RX3 240 yX3_leaveStandby, Cond.instanceMethod yX3_leaveStandby, Cond.selects RX3 yX3_leaveStandby yX3_leaveStandby]
def wsL_rewind_r4 : List Cond := [Cond.code yX3_leaveStandby cX3_leaveStandby 3 none, Cond.methodLink RX3 243 yX3_releaseReplicas, Cond.instanceMethod yX3_releaseReplicas, Cond.selects RX3 yX3_releaseReplicas yX3_releaseReplicas, Cond.code yX3_releaseReplicas cX3_releaseReplicas 3 none, Cond.methodLink RX3 139 yX3_isReplicaOf, Cond.instanceMethod yX3_isReplicaOf, Cond.selects RX3 yX3_isReplicaOf yX3_isReplicaOf, Cond.code yX3_isReplicaOf cX3_isReplicaOf 4 (some .boolean), Cond.fieldLink RX3 222 "ShippedLog$Node" "follows" "I", Cond.methodLink RX3 246 yX3_changeRole, Cond.instanceMethod yX3_changeRole, Cond.selects RX3 yX3_changeRole yX3_changeRole, Cond.code yX3_changeRole cX3_changeRole 5 none, Cond.methodLink RX3 249 yX3_loseMessages, Cond.instanceMethod yX3_loseMessages, Cond.selects RX3 yX3_loseMessages yX3_loseMessages, Cond.code yX3_loseMessages cX3_loseMessages 3 none, Cond.methodLink RX3 152 yX3_wayFrom, Cond.instanceMethod yX3_wayFrom, Cond.selects RX3 yX3_wayFrom yX3_wayFrom, Cond.code yX3_wayFrom cX3_wayFrom 3 (some (.object "ShippedLog$Way")), Cond.fieldLink RX3 18 "ShippedLog" "ways" "[LShippedLog$Way;", Cond.methodLink RX3 252 yX2_clear]
def wsL_rewind_r5 : List Cond := [Cond.instanceMethod yX2_clear, Cond.selects RX2 yX2_clear yX2_clear, Cond.initialized RX2, Cond.code yX2_clear cX2_clear 1 none, Cond.fieldLink RX2 18 "ShippedLog$Way" "oldest" "I", Cond.fieldLink RX2 22 "ShippedLog$Way" "count" "I"]
def wsL_rewind : List Cond := .codeWith yL_rewind cL_rewind 5 (some .int) [(0, 10, 13, 13), (0, 10, 17, 15)] :: ((wsL_rewind_r1 ++ (wsL_rewind_r2 ++ (wsL_rewind_r3 ++ (wsL_rewind_r4 ++ wsL_rewind_r5)))) ++ wsX10 ++ wsX00 ++ wsX30 ++ wsX20 ++ (vx_atS RX3 38 "java/lang/IllegalStateException" ["java/lang/RuntimeException", "java/lang/Exception"]).filter goodWord ++ (vx_atS RX3 138 "java/lang/IndexOutOfBoundsException" ["java/lang/RuntimeException", "java/lang/Exception"]).filter goodWord)
def wsL_put_r1 : List Cond := [Cond.classLink RL 13 "java/lang/IndexOutOfBoundsException", Cond.classLink RL 15 "java/lang/IllegalStateException", Cond.classLink RL 21 "java/lang/IllegalArgumentException", Cond.classLink RL 26 "java/lang/UnsupportedOperationException", Cond.methodLink RL 35 yX3_put, Cond.instanceMethod yX3_put, Cond.selects RX3 yX3_put yX3_put, Cond.initialized RX3, Cond.code yX3_put cX3_put 6 (some .int), Cond.classLink RX3 60 "java/lang/IllegalArgumentException", Cond.initialized "java/lang/IllegalArgumentException", Cond.fieldLink RX3 45 "ShippedLog$Node" "log" "LShippedLog$Log;", Cond.fieldLink RX3 54 "ShippedLog$Log" "end" "I", Cond.methodLink RX3 27 yX3_nodeAt, Cond.instanceMethod yX3_nodeAt, Cond.selects RX3 yX3_nodeAt yX3_nodeAt, Cond.code yX3_nodeAt cX3_nodeAt 2 (some (.object "ShippedLog$Node")), Cond.classLink RX3 134 "java/lang/IndexOutOfBoundsException", Cond.initialized "java/lang/IndexOutOfBoundsException", Cond.fieldLink RX3 11 "ShippedLog" "nodes" "[LShippedLog$Node;", Cond.methodLink RX3 131 yX3_isNode, Cond.static yX3_isNode, Cond.code yX3_isNode cX3_isNode 1 (some .boolean), Cond.methodLink RX3 92 yX3_requirePrimary]
def wsL_put_r2 : List Cond := [Cond.static yX3_requirePrimary, Cond.code yX3_requirePrimary cX3_requirePrimary 1 none, Cond.classLink RX3 34 "java/lang/IllegalStateException", Cond.initialized "java/lang/IllegalStateException", Cond.fieldLink RX3 31 "ShippedLog$Node" "role" "I", Cond.methodLink RX3 111 yX3_isKey, Cond.static yX3_isKey, Cond.code yX3_isKey cX3_isKey 1 (some .boolean), Cond.methodLink RX3 73 yX3_requireRoom, Cond.static yX3_requireRoom, Cond.code yX3_requireRoom cX3_requireRoom 1 none, Cond.classLink RX3 77 "java/lang/UnsupportedOperationException", Cond.initialized "java/lang/UnsupportedOperationException", Cond.methodLink RX3 227 yX0_isFull, Cond.instanceMethod yX0_isFull, Cond.selects RX0 yX0_isFull yX0_isFull, Cond.initialized RX0, Cond.code yX0_isFull cX0_isFull 1 (some .boolean), Cond.fieldLink RX0 18 "ShippedLog$Log" "end" "I", Cond.methodLink RX3 117 yX0_lastTimeline, Cond.instanceMethod yX0_lastTimeline, Cond.selects RX0 yX0_lastTimeline yX0_lastTimeline, Cond.code yX0_lastTimeline cX0_lastTimeline 1 (some .int), Cond.methodLink RX0 32 yX0_timelineAt]
def wsL_put_r3 : List Cond := [Cond.instanceMethod yX0_timelineAt, Cond.selects RX0 yX0_timelineAt yX0_timelineAt, Cond.code yX0_timelineAt cX0_timelineAt 2 (some .int), Cond.methodLink RX0 25 yX0_byteOf, Cond.instanceMethod yX0_byteOf, Cond.selects RX0 yX0_byteOf yX0_byteOf, Cond.code yX0_byteOf cX0_byteOf 2 (some .int), Cond.fieldLink RX0 9 "ShippedLog$Log" "memory" "[B", Cond.methodLink RX3 85 yX1_write, Cond.instanceMethod yX1_write, Cond.selects RX1 yX1_write yX1_write, Cond.initialized RX1, Cond.code yX1_write cX1_write 5 none, Cond.fieldLink RX1 12 "ShippedLog$Node" "log" "LShippedLog$Log;", Cond.fieldLink RX1 44 "ShippedLog$Log" "end" "I", Cond.fieldLink RX1 22 "ShippedLog$Node" "applied" "I", Cond.methodLink RX1 40 yX0_append, Cond.instanceMethod yX0_append, Cond.selects RX0 yX0_append yX0_append, Cond.code yX0_append cX0_append 5 none, Cond.methodLink RX0 35 yX0_isFull, Cond.methodLink RX0 39 yX0_setByte, Cond.instanceMethod yX0_setByte, Cond.selects RX0 yX0_setByte yX0_setByte]
def wsL_put_r4 : List Cond := [Cond.code yX0_setByte cX0_setByte 3 none, Cond.methodLink RX0 43 yX0_setInt, Cond.instanceMethod yX0_setInt, Cond.selects RX0 yX0_setInt yX0_setInt, Cond.code yX0_setInt cX0_setInt 3 none, Cond.methodLink RX0 46 yX0_checksumAt, Cond.instanceMethod yX0_checksumAt, Cond.selects RX0 yX0_checksumAt yX0_checksumAt, Cond.code yX0_checksumAt cX0_checksumAt 5 (some .int), Cond.constant RX0 90 (-306674912)]
def wsL_put : List Cond := .codeWith yL_put cL_put 6 (some .int) [(0, 12, 15, 13), (0, 12, 19, 15), (0, 12, 23, 21), (0, 12, 27, 26)] :: ((wsL_put_r1 ++ (wsL_put_r2 ++ (wsL_put_r3 ++ wsL_put_r4))) ++ wsX10 ++ wsX00 ++ wsX30 ++ (vx_atS RX3 64 "java/lang/IllegalArgumentException" ["java/lang/RuntimeException", "java/lang/Exception"]).filter goodWord ++ (vx_atS RX3 138 "java/lang/IndexOutOfBoundsException" ["java/lang/RuntimeException", "java/lang/Exception"]).filter goodWord ++ (vx_atS RX3 38 "java/lang/IllegalStateException" ["java/lang/RuntimeException", "java/lang/Exception"]).filter goodWord ++ (vx_atS RX3 81 "java/lang/UnsupportedOperationException" ["java/lang/RuntimeException", "java/lang/Exception"]).filter goodWord)
def wsL_commit_r1 : List Cond := [Cond.classLink RL 13 "java/lang/IndexOutOfBoundsException", Cond.classLink RL 15 "java/lang/IllegalStateException", Cond.classLink RL 26 "java/lang/UnsupportedOperationException", Cond.methodLink RL 39 yX3_commit, Cond.instanceMethod yX3_commit, Cond.selects RX3 yX3_commit yX3_commit, Cond.initialized RX3, Cond.code yX3_commit cX3_commit 3 (some .boolean), Cond.fieldLink RX3 45 "ShippedLog$Node" "log" "LShippedLog$Log;", Cond.fieldLink RX3 128 "ShippedLog$Node" "acknowledged" "I", Cond.fieldLink RX3 54 "ShippedLog$Log" "end" "I", Cond.methodLink RX3 27 yX3_nodeAt, Cond.instanceMethod yX3_nodeAt, Cond.selects RX3 yX3_nodeAt yX3_nodeAt, Cond.code yX3_nodeAt cX3_nodeAt 2 (some (.object "ShippedLog$Node")), Cond.classLink RX3 134 "java/lang/IndexOutOfBoundsException", Cond.initialized "java/lang/IndexOutOfBoundsException", Cond.fieldLink RX3 11 "ShippedLog" "nodes" "[LShippedLog$Node;", Cond.methodLink RX3 131 yX3_isNode, Cond.static yX3_isNode, Cond.code yX3_isNode cX3_isNode 1 (some .boolean), Cond.methodLink RX3 92 yX3_requirePrimary, Cond.static yX3_requirePrimary, Cond.code yX3_requirePrimary cX3_requirePrimary 1 none]
def wsL_commit_r2 : List Cond := [Cond.classLink RX3 34 "java/lang/IllegalStateException", Cond.initialized "java/lang/IllegalStateException", Cond.fieldLink RX3 31 "ShippedLog$Node" "role" "I", Cond.methodLink RX3 73 yX3_requireRoom, Cond.static yX3_requireRoom, Cond.code yX3_requireRoom cX3_requireRoom 1 none, Cond.classLink RX3 77 "java/lang/UnsupportedOperationException", Cond.initialized "java/lang/UnsupportedOperationException", Cond.methodLink RX3 227 yX0_isFull, Cond.instanceMethod yX0_isFull, Cond.selects RX0 yX0_isFull yX0_isFull, Cond.initialized RX0, Cond.code yX0_isFull cX0_isFull 1 (some .boolean), Cond.fieldLink RX0 18 "ShippedLog$Log" "end" "I", Cond.methodLink RX3 117 yX0_lastTimeline, Cond.instanceMethod yX0_lastTimeline, Cond.selects RX0 yX0_lastTimeline yX0_lastTimeline, Cond.code yX0_lastTimeline cX0_lastTimeline 1 (some .int), Cond.methodLink RX0 32 yX0_timelineAt, Cond.instanceMethod yX0_timelineAt, Cond.selects RX0 yX0_timelineAt yX0_timelineAt, Cond.code yX0_timelineAt cX0_timelineAt 2 (some .int), Cond.methodLink RX0 25 yX0_byteOf, Cond.instanceMethod yX0_byteOf]
def wsL_commit_r3 : List Cond := [Cond.selects RX0 yX0_byteOf yX0_byteOf, Cond.code yX0_byteOf cX0_byteOf 2 (some .int), Cond.fieldLink RX0 9 "ShippedLog$Log" "memory" "[B", Cond.methodLink RX3 85 yX1_write, Cond.instanceMethod yX1_write, Cond.selects RX1 yX1_write yX1_write, Cond.initialized RX1, Cond.code yX1_write cX1_write 5 none, Cond.fieldLink RX1 12 "ShippedLog$Node" "log" "LShippedLog$Log;", Cond.fieldLink RX1 44 "ShippedLog$Log" "end" "I", Cond.fieldLink RX1 22 "ShippedLog$Node" "applied" "I", Cond.methodLink RX1 40 yX0_append, Cond.instanceMethod yX0_append, Cond.selects RX0 yX0_append yX0_append, Cond.code yX0_append cX0_append 5 none, Cond.methodLink RX0 35 yX0_isFull, Cond.methodLink RX0 39 yX0_setByte, Cond.instanceMethod yX0_setByte, Cond.selects RX0 yX0_setByte yX0_setByte, Cond.code yX0_setByte cX0_setByte 3 none, Cond.methodLink RX0 43 yX0_setInt, Cond.instanceMethod yX0_setInt, Cond.selects RX0 yX0_setInt yX0_setInt, Cond.code yX0_setInt cX0_setInt 3 none]
def wsL_commit_r4 : List Cond := [Cond.methodLink RX0 46 yX0_checksumAt, Cond.instanceMethod yX0_checksumAt, Cond.selects RX0 yX0_checksumAt yX0_checksumAt, Cond.code yX0_checksumAt cX0_checksumAt 5 (some .int), Cond.constant RX0 90 (-306674912), Cond.methodLink RX3 89 yX0_sync, Cond.instanceMethod yX0_sync, Cond.selects RX0 yX0_sync yX0_sync, Cond.code yX0_sync cX0_sync 1 none, Cond.fieldLink RX0 22 "ShippedLog$Log" "synced" "I", Cond.methodLink RX0 49 yX0_saveFirst, Cond.instanceMethod yX0_saveFirst, Cond.selects RX0 yX0_saveFirst yX0_saveFirst, Cond.code yX0_saveFirst cX0_saveFirst 3 (some .int), Cond.methodLink RX0 52 Lib.Math.min.name, Cond.static Lib.Math.min.name, Cond.initialized "java/lang/Math", Cond.code Lib.Math.min.name Lib.Math.min.code 2 (some .int), Cond.fieldLink RX0 15 "ShippedLog$Log" "disk" "[B", Cond.methodLink RX0 58 yX0_copy, Cond.static yX0_copy, Cond.code yX0_copy cX0_copy 4 none, Cond.methodLink RX0 81 arraycopyName, Cond.native arraycopyName]
def wsL_commit_r5 : List Cond := [Cond.static arraycopyName, Cond.initialized "java/lang/System", Cond.methodLink RX3 121 yX3_safePosition, Cond.instanceMethod yX3_safePosition, Cond.selects RX3 yX3_safePosition yX3_safePosition, Cond.code yX3_safePosition cX3_safePosition 2 (some .int), Cond.fieldLink RX3 145 "ShippedLog$Node" "standby" "I", Cond.fieldLink RX3 162 "ShippedLog$Node" "known" "I", Cond.methodLink RX3 125 yX1_acknowledgeUpTo, Cond.instanceMethod yX1_acknowledgeUpTo, Cond.selects RX1 yX1_acknowledgeUpTo yX1_acknowledgeUpTo, Cond.code yX1_acknowledgeUpTo cX1_acknowledgeUpTo 4 none, Cond.methodLink RX1 47 Lib.Math.min.name, Cond.fieldLink RX1 37 "ShippedLog$Node" "promotedAt" "I", Cond.fieldLink RX1 34 "ShippedLog$Node" "acknowledged" "I", Cond.methodLink RX1 57 Lib.Math.max.name, Cond.static Lib.Math.max.name, Cond.code Lib.Math.max.name Lib.Math.max.code 2 (some .int), Cond.methodLink RX1 53 yX0_kindAt, Cond.instanceMethod yX0_kindAt, Cond.selects RX0 yX0_kindAt yX0_kindAt, Cond.code yX0_kindAt cX0_kindAt 2 (some .int)]
def wsL_commit : List Cond := .codeWith yL_commit cL_commit 4 (some .int) [(0, 16, 19, 13), (0, 16, 22, 15), (0, 16, 25, 26)] :: ((wsL_commit_r1 ++ (wsL_commit_r2 ++ (wsL_commit_r3 ++ (wsL_commit_r4 ++ wsL_commit_r5)))) ++ wsX10 ++ wsX00 ++ wsX30 ++ (vx_atS RX3 138 "java/lang/IndexOutOfBoundsException" ["java/lang/RuntimeException", "java/lang/Exception"]).filter goodWord ++ (vx_atS RX3 38 "java/lang/IllegalStateException" ["java/lang/RuntimeException", "java/lang/Exception"]).filter goodWord ++ (vx_atS RX3 81 "java/lang/UnsupportedOperationException" ["java/lang/RuntimeException", "java/lang/Exception"]).filter goodWord)
def wsL_standby_r1 : List Cond := [Cond.classLink RL 13 "java/lang/IndexOutOfBoundsException", Cond.classLink RL 15 "java/lang/IllegalStateException", Cond.classLink RL 21 "java/lang/IllegalArgumentException", Cond.methodLink RL 43 yX3_standby, Cond.instanceMethod yX3_standby, Cond.selects RX3 yX3_standby yX3_standby, Cond.initialized RX3, Cond.code yX3_standby cX3_standby 5 (some .int), Cond.classLink RX3 134 "java/lang/IndexOutOfBoundsException", Cond.initialized "java/lang/IndexOutOfBoundsException", Cond.classLink RX3 60 "java/lang/IllegalArgumentException", Cond.initialized "java/lang/IllegalArgumentException", Cond.fieldLink RX3 145 "ShippedLog$Node" "standby" "I", Cond.methodLink RX3 27 yX3_nodeAt, Cond.instanceMethod yX3_nodeAt, Cond.selects RX3 yX3_nodeAt yX3_nodeAt, Cond.code yX3_nodeAt cX3_nodeAt 2 (some (.object "ShippedLog$Node")), Cond.fieldLink RX3 11 "ShippedLog" "nodes" "[LShippedLog$Node;", Cond.methodLink RX3 131 yX3_isNode, Cond.static yX3_isNode, Cond.code yX3_isNode cX3_isNode 1 (some .boolean), Cond.methodLink RX3 92 yX3_requirePrimary, Cond.static yX3_requirePrimary, Cond.code yX3_requirePrimary cX3_requirePrimary 1 none]
def wsL_standby_r2 : List Cond := [Cond.classLink RX3 34 "java/lang/IllegalStateException", Cond.initialized "java/lang/IllegalStateException", Cond.fieldLink RX3 31 "ShippedLog$Node" "role" "I", Cond.methodLink RX3 139 yX3_isReplicaOf, Cond.instanceMethod yX3_isReplicaOf, Cond.selects RX3 yX3_isReplicaOf yX3_isReplicaOf, Cond.code yX3_isReplicaOf cX3_isReplicaOf 4 (some .boolean), Cond.fieldLink RX3 222 "ShippedLog$Node" "follows" "I", Cond.methodLink RX3 121 yX3_safePosition, Cond.instanceMethod yX3_safePosition, Cond.selects RX3 yX3_safePosition yX3_safePosition, Cond.code yX3_safePosition cX3_safePosition 2 (some .int), Cond.fieldLink RX3 45 "ShippedLog$Node" "log" "LShippedLog$Log;", Cond.fieldLink RX3 54 "ShippedLog$Log" "end" "I", Cond.fieldLink RX3 162 "ShippedLog$Node" "known" "I", Cond.methodLink RX3 125 yX1_acknowledgeUpTo, Cond.instanceMethod yX1_acknowledgeUpTo, Cond.selects RX1 yX1_acknowledgeUpTo yX1_acknowledgeUpTo, Cond.initialized RX1, Cond.code yX1_acknowledgeUpTo cX1_acknowledgeUpTo 4 none, Cond.fieldLink RX1 12 "ShippedLog$Node" "log" "LShippedLog$Log;", Cond.fieldLink RX1 44 "ShippedLog$Log" "end" "I", Cond.methodLink RX1 47 Lib.Math.min.name, Cond.static Lib.Math.min.name]
def wsL_standby_r3 : List Cond := [Cond.initialized "java/lang/Math", Cond.code Lib.Math.min.name Lib.Math.min.code 2 (some .int), Cond.fieldLink RX1 37 "ShippedLog$Node" "promotedAt" "I", Cond.fieldLink RX1 34 "ShippedLog$Node" "acknowledged" "I", Cond.methodLink RX1 57 Lib.Math.max.name, Cond.static Lib.Math.max.name, Cond.code Lib.Math.max.name Lib.Math.max.code 2 (some .int), Cond.methodLink RX1 53 yX0_kindAt, Cond.instanceMethod yX0_kindAt, Cond.selects RX0 yX0_kindAt yX0_kindAt, Cond.initialized RX0, Cond.code yX0_kindAt cX0_kindAt 2 (some .int), Cond.methodLink RX0 25 yX0_byteOf, Cond.instanceMethod yX0_byteOf, Cond.selects RX0 yX0_byteOf yX0_byteOf, Cond.code yX0_byteOf cX0_byteOf 2 (some .int), Cond.fieldLink RX0 9 "ShippedLog$Log" "memory" "[B"]
def wsL_standby : List Cond := .codeWith yL_standby cL_standby 5 (some .int) [(0, 10, 13, 13), (0, 10, 17, 15), (0, 10, 21, 21)] :: ((wsL_standby_r1 ++ (wsL_standby_r2 ++ wsL_standby_r3)) ++ wsX10 ++ wsX30 ++ wsX00 ++ (vx_atS RX3 138 "java/lang/IndexOutOfBoundsException" ["java/lang/RuntimeException", "java/lang/Exception"]).filter goodWord ++ (vx_atS RX3 64 "java/lang/IllegalArgumentException" ["java/lang/RuntimeException", "java/lang/Exception"]).filter goodWord ++ (vx_atS RX3 38 "java/lang/IllegalStateException" ["java/lang/RuntimeException", "java/lang/Exception"]).filter goodWord)
def wsL_send_r1 : List Cond := [Cond.classLink RL 13 "java/lang/IndexOutOfBoundsException", Cond.classLink RL 15 "java/lang/IllegalStateException", Cond.classLink RL 26 "java/lang/UnsupportedOperationException", Cond.classLink RL 49 "java/util/NoSuchElementException", Cond.methodLink RL 46 yX3_send, Cond.instanceMethod yX3_send, Cond.selects RX3 yX3_send yX3_send, Cond.initialized RX3, Cond.code yX3_send cX3_send 7 (some .int), Cond.classLink RX3 77 "java/lang/UnsupportedOperationException", Cond.initialized "java/lang/UnsupportedOperationException", Cond.classLink RX3 171 "java/util/NoSuchElementException", Cond.initialized "java/util/NoSuchElementException", Cond.fieldLink RX3 45 "ShippedLog$Node" "log" "LShippedLog$Log;", Cond.fieldLink RX3 54 "ShippedLog$Log" "end" "I", Cond.fieldLink RX3 162 "ShippedLog$Node" "known" "I", Cond.methodLink RX3 165 Lib.Math.min.name, Cond.static Lib.Math.min.name, Cond.initialized "java/lang/Math", Cond.code Lib.Math.min.name Lib.Math.min.code 2 (some .int), Cond.methodLink RX3 27 yX3_nodeAt, Cond.instanceMethod yX3_nodeAt, Cond.selects RX3 yX3_nodeAt yX3_nodeAt, Cond.code yX3_nodeAt cX3_nodeAt 2 (some (.object "ShippedLog$Node"))]
def wsL_send_r2 : List Cond := [Cond.classLink RX3 134 "java/lang/IndexOutOfBoundsException", Cond.initialized "java/lang/IndexOutOfBoundsException", Cond.fieldLink RX3 11 "ShippedLog" "nodes" "[LShippedLog$Node;", Cond.methodLink RX3 131 yX3_isNode, Cond.static yX3_isNode, Cond.code yX3_isNode cX3_isNode 1 (some .boolean), Cond.methodLink RX3 148 yX3_requireLink, Cond.instanceMethod yX3_requireLink, Cond.selects RX3 yX3_requireLink yX3_requireLink, Cond.code yX3_requireLink cX3_requireLink 3 none, Cond.classLink RX3 34 "java/lang/IllegalStateException", Cond.initialized "java/lang/IllegalStateException", Cond.methodLink RX3 139 yX3_isReplicaOf, Cond.instanceMethod yX3_isReplicaOf, Cond.selects RX3 yX3_isReplicaOf yX3_isReplicaOf, Cond.code yX3_isReplicaOf cX3_isReplicaOf 4 (some .boolean), Cond.fieldLink RX3 31 "ShippedLog$Node" "role" "I", Cond.fieldLink RX3 222 "ShippedLog$Node" "follows" "I", Cond.methodLink RX3 152 yX3_wayFrom, Cond.instanceMethod yX3_wayFrom, Cond.selects RX3 yX3_wayFrom yX3_wayFrom, Cond.code yX3_wayFrom cX3_wayFrom 3 (some (.object "ShippedLog$Way")), Cond.fieldLink RX3 18 "ShippedLog" "ways" "[LShippedLog$Way;", Cond.methodLink RX3 156 yX2_isFull]
def wsL_send_r3 : List Cond := [Cond.instanceMethod yX2_isFull, Cond.selects RX2 yX2_isFull yX2_isFull, Cond.initialized RX2, Cond.code yX2_isFull cX2_isFull 1 (some .boolean), Cond.fieldLink RX2 22 "ShippedLog$Way" "count" "I", Cond.methodLink RX3 176 yX2_add, Cond.instanceMethod yX2_add, Cond.selects RX2 yX2_add yX2_add, Cond.code yX2_add cX2_add 4 none, Cond.fieldLink RX2 9 "ShippedLog$Way" "positions" "[I", Cond.fieldLink RX2 15 "ShippedLog$Way" "bytes" "[I", Cond.methodLink RX2 25 yX2_isFull, Cond.methodLink RX2 29 yX2_slot, Cond.instanceMethod yX2_slot, Cond.selects RX2 yX2_slot yX2_slot, Cond.code yX2_slot cX2_slot 2 (some .int), Cond.fieldLink RX2 18 "ShippedLog$Way" "oldest" "I", Cond.methodLink RX2 33 yJ9_floorMod_7cf53, Cond.static yJ9_floorMod_7cf53, Cond.initialized RJ9, Cond.code yJ9_floorMod_7cf53 cJ9_floorMod_7cf53 3 (some .int)]
def wsL_send : List Cond := .codeWith yL_send cL_send 5 (some .int) [(0, 10, 13, 13), (0, 10, 17, 15), (0, 10, 21, 26), (0, 10, 25, 49)] :: ((wsL_send_r1 ++ (wsL_send_r2 ++ wsL_send_r3)) ++ wsX10 ++ wsX00 ++ wsX30 ++ wsX20 ++ (vx_atS RX3 81 "java/lang/UnsupportedOperationException" ["java/lang/RuntimeException", "java/lang/Exception"]).filter goodWord ++ (nz_at RX3 175 "java/util/NoSuchElementException" 13 nz_code ["java/lang/RuntimeException", "java/lang/Exception"]).filter goodWord ++ (vx_atS RX3 138 "java/lang/IndexOutOfBoundsException" ["java/lang/RuntimeException", "java/lang/Exception"]).filter goodWord ++ (vx_atS RX3 38 "java/lang/IllegalStateException" ["java/lang/RuntimeException", "java/lang/Exception"]).filter goodWord)
def wsL_deliver_r1 : List Cond := [Cond.classLink RL 13 "java/lang/IndexOutOfBoundsException", Cond.classLink RL 49 "java/util/NoSuchElementException", Cond.classLink RL 26 "java/lang/UnsupportedOperationException", Cond.methodLink RL 51 yX3_deliver, Cond.instanceMethod yX3_deliver, Cond.selects RX3 yX3_deliver yX3_deliver, Cond.initialized RX3, Cond.code yX3_deliver cX3_deliver 3 (some .int), Cond.methodLink RX3 179 yX3_requireMessage, Cond.instanceMethod yX3_requireMessage, Cond.selects RX3 yX3_requireMessage yX3_requireMessage, Cond.code yX3_requireMessage cX3_requireMessage 3 none, Cond.classLink RX3 171 "java/util/NoSuchElementException", Cond.initialized "java/util/NoSuchElementException", Cond.fieldLink RX3 191 "ShippedLog$Way" "count" "I", Cond.methodLink RX3 152 yX3_wayFrom, Cond.instanceMethod yX3_wayFrom, Cond.selects RX3 yX3_wayFrom yX3_wayFrom, Cond.code yX3_wayFrom cX3_wayFrom 3 (some (.object "ShippedLog$Way")), Cond.classLink RX3 134 "java/lang/IndexOutOfBoundsException", Cond.initialized "java/lang/IndexOutOfBoundsException", Cond.fieldLink RX3 18 "ShippedLog" "ways" "[LShippedLog$Way;", Cond.methodLink RX3 131 yX3_isNode, Cond.static yX3_isNode]
def wsL_deliver_r2 : List Cond := [Cond.code yX3_isNode cX3_isNode 1 (some .boolean), Cond.methodLink RX3 139 yX3_isReplicaOf, Cond.instanceMethod yX3_isReplicaOf, Cond.selects RX3 yX3_isReplicaOf yX3_isReplicaOf, Cond.code yX3_isReplicaOf cX3_isReplicaOf 4 (some .boolean), Cond.fieldLink RX3 31 "ShippedLog$Node" "role" "I", Cond.fieldLink RX3 222 "ShippedLog$Node" "follows" "I", Cond.methodLink RX3 27 yX3_nodeAt, Cond.instanceMethod yX3_nodeAt, Cond.selects RX3 yX3_nodeAt yX3_nodeAt, Cond.code yX3_nodeAt cX3_nodeAt 2 (some (.object "ShippedLog$Node")), Cond.fieldLink RX3 11 "ShippedLog" "nodes" "[LShippedLog$Node;", Cond.methodLink RX3 182 yX3_deliverPosition, Cond.instanceMethod yX3_deliverPosition, Cond.selects RX3 yX3_deliverPosition yX3_deliverPosition, Cond.code yX3_deliverPosition cX3_deliverPosition 6 (some .int), Cond.fieldLink RX3 162 "ShippedLog$Node" "known" "I", Cond.fieldLink RX3 145 "ShippedLog$Node" "standby" "I", Cond.methodLink RX3 255 yX2_oldestPosition, Cond.instanceMethod yX2_oldestPosition, Cond.selects RX2 yX2_oldestPosition yX2_oldestPosition, Cond.initialized RX2, Cond.code yX2_oldestPosition cX2_oldestPosition 1 (some .int), Cond.fieldLink RX2 9 "ShippedLog$Way" "positions" "[I"]
def wsL_deliver_r3 : List Cond := [Cond.methodLink RX2 29 yX2_slot, Cond.instanceMethod yX2_slot, Cond.selects RX2 yX2_slot yX2_slot, Cond.code yX2_slot cX2_slot 2 (some .int), Cond.fieldLink RX2 18 "ShippedLog$Way" "oldest" "I", Cond.methodLink RX2 33 yJ9_floorMod_7cf53, Cond.static yJ9_floorMod_7cf53, Cond.initialized RJ9, Cond.code yJ9_floorMod_7cf53 cJ9_floorMod_7cf53 3 (some .int), Cond.methodLink RX3 188 yX2_removeOldest, Cond.instanceMethod yX2_removeOldest, Cond.selects RX2 yX2_removeOldest yX2_removeOldest, Cond.code yX2_removeOldest cX2_removeOldest 1 none, Cond.fieldLink RX2 22 "ShippedLog$Way" "count" "I", Cond.methodLink RX3 125 yX1_acknowledgeUpTo, Cond.instanceMethod yX1_acknowledgeUpTo, Cond.selects RX1 yX1_acknowledgeUpTo yX1_acknowledgeUpTo, Cond.initialized RX1, Cond.code yX1_acknowledgeUpTo cX1_acknowledgeUpTo 4 none, Cond.fieldLink RX1 12 "ShippedLog$Node" "log" "LShippedLog$Log;", Cond.fieldLink RX1 44 "ShippedLog$Log" "end" "I", Cond.methodLink RX1 47 Lib.Math.min.name, Cond.static Lib.Math.min.name, Cond.initialized "java/lang/Math"]
def wsL_deliver_r4 : List Cond := [Cond.code Lib.Math.min.name Lib.Math.min.code 2 (some .int), Cond.fieldLink RX1 37 "ShippedLog$Node" "promotedAt" "I", Cond.fieldLink RX1 34 "ShippedLog$Node" "acknowledged" "I", Cond.methodLink RX1 57 Lib.Math.max.name, Cond.static Lib.Math.max.name, Cond.code Lib.Math.max.name Lib.Math.max.code 2 (some .int), Cond.methodLink RX1 53 yX0_kindAt, Cond.instanceMethod yX0_kindAt, Cond.selects RX0 yX0_kindAt yX0_kindAt, Cond.initialized RX0, Cond.code yX0_kindAt cX0_kindAt 2 (some .int), Cond.methodLink RX0 25 yX0_byteOf, Cond.instanceMethod yX0_byteOf, Cond.selects RX0 yX0_byteOf yX0_byteOf, Cond.code yX0_byteOf cX0_byteOf 2 (some .int), Cond.fieldLink RX0 9 "ShippedLog$Log" "memory" "[B", Cond.methodLink RX3 185 yX3_deliverRecords, Cond.instanceMethod yX3_deliverRecords, Cond.selects RX3 yX3_deliverRecords yX3_deliverRecords, Cond.code yX3_deliverRecords cX3_deliverRecords 7 (some .int), Cond.classLink RX3 77 "java/lang/UnsupportedOperationException", Cond.initialized "java/lang/UnsupportedOperationException", Cond.fieldLink RX3 45 "ShippedLog$Node" "log" "LShippedLog$Log;", Cond.fieldLink RX3 54 "ShippedLog$Log" "end" "I"]
def wsL_deliver_r5 : List Cond := [Cond.methodLink RX3 156 yX2_isFull, Cond.instanceMethod yX2_isFull, Cond.selects RX2 yX2_isFull yX2_isFull, Cond.code yX2_isFull cX2_isFull 1 (some .boolean), Cond.methodLink RX3 260 yX2_oldestBytes, Cond.instanceMethod yX2_oldestBytes, Cond.selects RX2 yX2_oldestBytes yX2_oldestBytes, Cond.code yX2_oldestBytes cX2_oldestBytes 1 (some .int), Cond.fieldLink RX2 15 "ShippedLog$Way" "bytes" "[I", Cond.methodLink RX3 263 yX0_receive, Cond.instanceMethod yX0_receive, Cond.selects RX0 yX0_receive yX0_receive, Cond.code yX0_receive cX0_receive 4 none, Cond.fieldLink RX0 18 "ShippedLog$Log" "end" "I", Cond.methodLink RX0 58 yX0_copy, Cond.static yX0_copy, Cond.code yX0_copy cX0_copy 4 none, Cond.methodLink RX0 81 arraycopyName, Cond.native arraycopyName, Cond.static arraycopyName, Cond.initialized "java/lang/System", Cond.methodLink RX0 70 yX0_sync, Cond.instanceMethod yX0_sync, Cond.selects RX0 yX0_sync yX0_sync]
def wsL_deliver_r6 : List Cond := [Cond.code yX0_sync cX0_sync 1 none, Cond.fieldLink RX0 22 "ShippedLog$Log" "synced" "I", Cond.methodLink RX0 49 yX0_saveFirst, Cond.instanceMethod yX0_saveFirst, Cond.selects RX0 yX0_saveFirst yX0_saveFirst, Cond.code yX0_saveFirst cX0_saveFirst 3 (some .int), Cond.methodLink RX0 52 Lib.Math.min.name, Cond.fieldLink RX0 15 "ShippedLog$Log" "disk" "[B", Cond.methodLink RX3 176 yX2_add, Cond.instanceMethod yX2_add, Cond.selects RX2 yX2_add yX2_add, Cond.code yX2_add cX2_add 4 none, Cond.methodLink RX2 25 yX2_isFull]
def wsL_deliver : List Cond := .codeWith yL_deliver cL_deliver 5 (some .int) [(0, 10, 13, 13), (0, 10, 17, 49), (0, 10, 21, 26)] :: ((wsL_deliver_r1 ++ (wsL_deliver_r2 ++ (wsL_deliver_r3 ++ (wsL_deliver_r4 ++ (wsL_deliver_r5 ++ wsL_deliver_r6))))) ++ wsX20 ++ wsX30 ++ wsX10 ++ wsX00 ++ (nz_at RX3 175 "java/util/NoSuchElementException" 13 nz_code ["java/lang/RuntimeException", "java/lang/Exception"]).filter goodWord ++ (vx_atS RX3 138 "java/lang/IndexOutOfBoundsException" ["java/lang/RuntimeException", "java/lang/Exception"]).filter goodWord ++ (vx_atS RX3 81 "java/lang/UnsupportedOperationException" ["java/lang/RuntimeException", "java/lang/Exception"]).filter goodWord)
def wsL_drop_r1 : List Cond := [Cond.classLink RL 13 "java/lang/IndexOutOfBoundsException", Cond.classLink RL 49 "java/util/NoSuchElementException", Cond.methodLink RL 54 yX3_drop, Cond.instanceMethod yX3_drop, Cond.selects RX3 yX3_drop yX3_drop, Cond.initialized RX3, Cond.code yX3_drop cX3_drop 4 (some .int), Cond.fieldLink RX3 191 "ShippedLog$Way" "count" "I", Cond.methodLink RX3 179 yX3_requireMessage, Cond.instanceMethod yX3_requireMessage, Cond.selects RX3 yX3_requireMessage yX3_requireMessage, Cond.code yX3_requireMessage cX3_requireMessage 3 none, Cond.classLink RX3 171 "java/util/NoSuchElementException", Cond.initialized "java/util/NoSuchElementException", Cond.methodLink RX3 152 yX3_wayFrom, Cond.instanceMethod yX3_wayFrom, Cond.selects RX3 yX3_wayFrom yX3_wayFrom, Cond.code yX3_wayFrom cX3_wayFrom 3 (some (.object "ShippedLog$Way")), Cond.classLink RX3 134 "java/lang/IndexOutOfBoundsException", Cond.initialized "java/lang/IndexOutOfBoundsException", Cond.fieldLink RX3 18 "ShippedLog" "ways" "[LShippedLog$Way;", Cond.methodLink RX3 131 yX3_isNode, Cond.static yX3_isNode, Cond.code yX3_isNode cX3_isNode 1 (some .boolean)]
def wsL_drop_r2 : List Cond := [Cond.methodLink RX3 188 yX2_removeOldest, Cond.instanceMethod yX2_removeOldest, Cond.selects RX2 yX2_removeOldest yX2_removeOldest, Cond.initialized RX2, Cond.code yX2_removeOldest cX2_removeOldest 1 none, Cond.fieldLink RX2 22 "ShippedLog$Way" "count" "I", Cond.fieldLink RX2 18 "ShippedLog$Way" "oldest" "I", Cond.methodLink RX2 29 yX2_slot, Cond.instanceMethod yX2_slot, Cond.selects RX2 yX2_slot yX2_slot, Cond.code yX2_slot cX2_slot 2 (some .int), Cond.methodLink RX2 33 yJ9_floorMod_7cf53, Cond.static yJ9_floorMod_7cf53, Cond.initialized RJ9, Cond.code yJ9_floorMod_7cf53 cJ9_floorMod_7cf53 3 (some .int)]
def wsL_drop : List Cond := .codeWith yL_drop cL_drop 5 (some .int) [(0, 10, 13, 13), (0, 10, 17, 49)] :: ((wsL_drop_r1 ++ wsL_drop_r2) ++ wsX20 ++ wsX30 ++ (nz_at RX3 175 "java/util/NoSuchElementException" 13 nz_code ["java/lang/RuntimeException", "java/lang/Exception"]).filter goodWord ++ (vx_atS RX3 138 "java/lang/IndexOutOfBoundsException" ["java/lang/RuntimeException", "java/lang/Exception"]).filter goodWord)
def wsL_apply_r1 : List Cond := [Cond.classLink RL 13 "java/lang/IndexOutOfBoundsException", Cond.classLink RL 21 "java/lang/IllegalArgumentException", Cond.classLink RL 15 "java/lang/IllegalStateException", Cond.methodLink RL 57 yX3_apply, Cond.instanceMethod yX3_apply, Cond.selects RX3 yX3_apply yX3_apply, Cond.initialized RX3, Cond.code yX3_apply cX3_apply 5 (some .int), Cond.classLink RX3 60 "java/lang/IllegalArgumentException", Cond.initialized "java/lang/IllegalArgumentException", Cond.classLink RX3 34 "java/lang/IllegalStateException", Cond.initialized "java/lang/IllegalStateException", Cond.fieldLink RX3 31 "ShippedLog$Node" "role" "I", Cond.fieldLink RX3 45 "ShippedLog$Node" "log" "LShippedLog$Log;", Cond.fieldLink RX3 54 "ShippedLog$Log" "end" "I", Cond.fieldLink RX3 57 "ShippedLog$Node" "applied" "I", Cond.methodLink RX3 165 Lib.Math.min.name, Cond.static Lib.Math.min.name, Cond.initialized "java/lang/Math", Cond.code Lib.Math.min.name Lib.Math.min.code 2 (some .int), Cond.methodLink RX3 27 yX3_nodeAt, Cond.instanceMethod yX3_nodeAt, Cond.selects RX3 yX3_nodeAt yX3_nodeAt, Cond.code yX3_nodeAt cX3_nodeAt 2 (some (.object "ShippedLog$Node"))]
def wsL_apply_r2 : List Cond := [Cond.classLink RX3 134 "java/lang/IndexOutOfBoundsException", Cond.initialized "java/lang/IndexOutOfBoundsException", Cond.fieldLink RX3 11 "ShippedLog" "nodes" "[LShippedLog$Node;", Cond.methodLink RX3 131 yX3_isNode, Cond.static yX3_isNode, Cond.code yX3_isNode cX3_isNode 1 (some .boolean)]
def wsL_apply : List Cond := .codeWith yL_apply cL_apply 5 (some .int) [(0, 10, 13, 13), (0, 10, 17, 21), (0, 10, 21, 15)] :: ((wsL_apply_r1 ++ wsL_apply_r2) ++ wsX10 ++ wsX00 ++ wsX30 ++ (vx_atS RX3 64 "java/lang/IllegalArgumentException" ["java/lang/RuntimeException", "java/lang/Exception"]).filter goodWord ++ (vx_atS RX3 38 "java/lang/IllegalStateException" ["java/lang/RuntimeException", "java/lang/Exception"]).filter goodWord ++ (vx_atS RX3 138 "java/lang/IndexOutOfBoundsException" ["java/lang/RuntimeException", "java/lang/Exception"]).filter goodWord)
def wsL_get_r1 : List Cond := [Cond.classLink RL 13 "java/lang/IndexOutOfBoundsException", Cond.classLink RL 15 "java/lang/IllegalStateException", Cond.methodLink RL 60 yX3_get, Cond.instanceMethod yX3_get, Cond.selects RX3 yX3_get yX3_get, Cond.initialized RX3, Cond.code yX3_get cX3_get 4 (some .int), Cond.classLink RX3 134 "java/lang/IndexOutOfBoundsException", Cond.initialized "java/lang/IndexOutOfBoundsException", Cond.classLink RX3 34 "java/lang/IllegalStateException", Cond.initialized "java/lang/IllegalStateException", Cond.fieldLink RX3 31 "ShippedLog$Node" "role" "I", Cond.methodLink RX3 27 yX3_nodeAt, Cond.instanceMethod yX3_nodeAt, Cond.selects RX3 yX3_nodeAt yX3_nodeAt, Cond.code yX3_nodeAt cX3_nodeAt 2 (some (.object "ShippedLog$Node")), Cond.fieldLink RX3 11 "ShippedLog" "nodes" "[LShippedLog$Node;", Cond.methodLink RX3 131 yX3_isNode, Cond.static yX3_isNode, Cond.code yX3_isNode cX3_isNode 1 (some .boolean), Cond.methodLink RX3 111 yX3_isKey, Cond.static yX3_isKey, Cond.code yX3_isKey cX3_isKey 1 (some .boolean), Cond.methodLink RX3 198 yX1_committedValue]
def wsL_get_r2 : List Cond := [Cond.instanceMethod yX1_committedValue, Cond.selects RX1 yX1_committedValue yX1_committedValue, Cond.initialized RX1, Cond.code yX1_committedValue cX1_committedValue 6 (some .int), Cond.fieldLink RX1 22 "ShippedLog$Node" "applied" "I", Cond.fieldLink RX1 12 "ShippedLog$Node" "log" "LShippedLog$Log;", Cond.methodLink RX1 53 yX0_kindAt, Cond.instanceMethod yX0_kindAt, Cond.selects RX0 yX0_kindAt yX0_kindAt, Cond.initialized RX0, Cond.code yX0_kindAt cX0_kindAt 2 (some .int), Cond.methodLink RX0 25 yX0_byteOf, Cond.instanceMethod yX0_byteOf, Cond.selects RX0 yX0_byteOf yX0_byteOf, Cond.code yX0_byteOf cX0_byteOf 2 (some .int), Cond.fieldLink RX0 9 "ShippedLog$Log" "memory" "[B", Cond.methodLink RX1 60 yX0_keyAt, Cond.instanceMethod yX0_keyAt, Cond.selects RX0 yX0_keyAt yX0_keyAt, Cond.code yX0_keyAt cX0_keyAt 2 (some .int), Cond.methodLink RX1 63 yX0_valueAt, Cond.instanceMethod yX0_valueAt, Cond.selects RX0 yX0_valueAt yX0_valueAt, Cond.code yX0_valueAt cX0_valueAt 2 (some .int)]
def wsL_get_r3 : List Cond := [Cond.methodLink RX0 29 yX0_intAt, Cond.instanceMethod yX0_intAt, Cond.selects RX0 yX0_intAt yX0_intAt, Cond.code yX0_intAt cX0_intAt 2 (some .int)]
def wsL_get : List Cond := .codeWith yL_get cL_get 5 (some .int) [(0, 10, 13, 13), (0, 10, 17, 15)] :: ((wsL_get_r1 ++ (wsL_get_r2 ++ wsL_get_r3)) ++ wsX10 ++ wsX30 ++ wsX00 ++ (vx_atS RX3 138 "java/lang/IndexOutOfBoundsException" ["java/lang/RuntimeException", "java/lang/Exception"]).filter goodWord ++ (vx_atS RX3 38 "java/lang/IllegalStateException" ["java/lang/RuntimeException", "java/lang/Exception"]).filter goodWord)
def wsL_byteAt : List Cond := .codeWith yL_byteAt cL_byteAt 6 (some .int) [(0, 12, 15, 13)] :: ([.classLink RL 13 "java/lang/IndexOutOfBoundsException", .methodLink RL 63 yX3_byteAt, .instanceMethod yX3_byteAt, .selects RX3 yX3_byteAt yX3_byteAt, .initialized RX3, .code yX3_byteAt cX3_byteAt 5 (some .int), .classLink RX3 134 "java/lang/IndexOutOfBoundsException", .initialized "java/lang/IndexOutOfBoundsException", .fieldLink RX3 45 "ShippedLog$Node" "log" "LShippedLog$Log;", .fieldLink RX3 203 "ShippedLog$Log" "memory" "[B", .fieldLink RX3 207 "ShippedLog$Log" "disk" "[B", .methodLink RX3 27 yX3_nodeAt, .instanceMethod yX3_nodeAt, .selects RX3 yX3_nodeAt yX3_nodeAt, .code yX3_nodeAt cX3_nodeAt 2 (some (.object "ShippedLog$Node")), .fieldLink RX3 11 "ShippedLog" "nodes" "[LShippedLog$Node;", .methodLink RX3 131 yX3_isNode, .static yX3_isNode, .code yX3_isNode cX3_isNode 1 (some .boolean)] ++ wsX10 ++ wsX00 ++ wsX30 ++ (vx_atS RX3 138 "java/lang/IndexOutOfBoundsException" ["java/lang/RuntimeException", "java/lang/Exception"]).filter goodWord)
def wsL_node_r1 : List Cond := [Cond.classLink RL 13 "java/lang/IndexOutOfBoundsException", Cond.methodLink RL 66 yX3_node, Cond.instanceMethod yX3_node, Cond.selects RX3 yX3_node yX3_node, Cond.initialized RX3, Cond.code yX3_node cX3_node 4 (some .int), Cond.classLink RX3 134 "java/lang/IndexOutOfBoundsException", Cond.initialized "java/lang/IndexOutOfBoundsException", Cond.fieldLink RX3 31 "ShippedLog$Node" "role" "I", Cond.methodLink RX3 27 yX3_nodeAt, Cond.instanceMethod yX3_nodeAt, Cond.selects RX3 yX3_nodeAt yX3_nodeAt, Cond.code yX3_nodeAt cX3_nodeAt 2 (some (.object "ShippedLog$Node")), Cond.fieldLink RX3 11 "ShippedLog" "nodes" "[LShippedLog$Node;", Cond.methodLink RX3 131 yX3_isNode, Cond.static yX3_isNode, Cond.code yX3_isNode cX3_isNode 1 (some .boolean), Cond.methodLink RX3 214 yX3_factOf, Cond.static yX3_factOf, Cond.code yX3_factOf cX3_factOf 2 (some .int), Cond.fieldLink RX3 45 "ShippedLog$Node" "log" "LShippedLog$Log;", Cond.fieldLink RX3 54 "ShippedLog$Log" "end" "I", Cond.fieldLink RX3 234 "ShippedLog$Log" "synced" "I", Cond.fieldLink RX3 57 "ShippedLog$Node" "applied" "I"]
def wsL_node_r2 : List Cond := [Cond.fieldLink RX3 222 "ShippedLog$Node" "follows" "I", Cond.fieldLink RX3 128 "ShippedLog$Node" "acknowledged" "I", Cond.fieldLink RX3 145 "ShippedLog$Node" "standby" "I", Cond.methodLink RX3 117 yX0_lastTimeline, Cond.instanceMethod yX0_lastTimeline, Cond.selects RX0 yX0_lastTimeline yX0_lastTimeline, Cond.initialized RX0, Cond.code yX0_lastTimeline cX0_lastTimeline 1 (some .int), Cond.fieldLink RX0 18 "ShippedLog$Log" "end" "I", Cond.methodLink RX0 32 yX0_timelineAt, Cond.instanceMethod yX0_timelineAt, Cond.selects RX0 yX0_timelineAt yX0_timelineAt, Cond.code yX0_timelineAt cX0_timelineAt 2 (some .int), Cond.methodLink RX0 25 yX0_byteOf, Cond.instanceMethod yX0_byteOf, Cond.selects RX0 yX0_byteOf yX0_byteOf, Cond.code yX0_byteOf cX0_byteOf 2 (some .int), Cond.fieldLink RX0 9 "ShippedLog$Log" "memory" "[B", Cond.methodLink RX3 237 yX1_pendingPuts, Cond.instanceMethod yX1_pendingPuts, Cond.selects RX1 yX1_pendingPuts yX1_pendingPuts, Cond.initialized RX1, Cond.code yX1_pendingPuts cX1_pendingPuts 3 (some .int), Cond.fieldLink RX1 22 "ShippedLog$Node" "applied" "I"]
def wsL_node_r3 : List Cond := [Cond.fieldLink RX1 12 "ShippedLog$Node" "log" "LShippedLog$Log;", Cond.methodLink RX1 53 yX0_kindAt, Cond.instanceMethod yX0_kindAt, Cond.selects RX0 yX0_kindAt yX0_kindAt, Cond.code yX0_kindAt cX0_kindAt 2 (some .int)]
def wsL_node : List Cond := .codeWith yL_node cL_node 5 (some .int) [(0, 10, 13, 13)] :: ((wsL_node_r1 ++ (wsL_node_r2 ++ wsL_node_r3)) ++ wsX10 ++ wsX30 ++ wsX00 ++ (vx_atS RX3 138 "java/lang/IndexOutOfBoundsException" ["java/lang/RuntimeException", "java/lang/Exception"]).filter goodWord)
def wsL_link_r1 : List Cond := [Cond.classLink RL 13 "java/lang/IndexOutOfBoundsException", Cond.classLink RL 15 "java/lang/IllegalStateException", Cond.methodLink RL 69 yX3_link, Cond.instanceMethod yX3_link, Cond.selects RX3 yX3_link yX3_link, Cond.initialized RX3, Cond.code yX3_link cX3_link 5 (some .int), Cond.classLink RX3 134 "java/lang/IndexOutOfBoundsException", Cond.initialized "java/lang/IndexOutOfBoundsException", Cond.fieldLink RX3 191 "ShippedLog$Way" "count" "I", Cond.fieldLink RX3 162 "ShippedLog$Node" "known" "I", Cond.methodLink RX3 27 yX3_nodeAt, Cond.instanceMethod yX3_nodeAt, Cond.selects RX3 yX3_nodeAt yX3_nodeAt, Cond.code yX3_nodeAt cX3_nodeAt 2 (some (.object "ShippedLog$Node")), Cond.fieldLink RX3 11 "ShippedLog" "nodes" "[LShippedLog$Node;", Cond.methodLink RX3 131 yX3_isNode, Cond.static yX3_isNode, Cond.code yX3_isNode cX3_isNode 1 (some .boolean), Cond.methodLink RX3 152 yX3_wayFrom, Cond.instanceMethod yX3_wayFrom, Cond.selects RX3 yX3_wayFrom yX3_wayFrom, Cond.code yX3_wayFrom cX3_wayFrom 3 (some (.object "ShippedLog$Way")), Cond.fieldLink RX3 18 "ShippedLog" "ways" "[LShippedLog$Way;"]
def wsL_link_r2 : List Cond := [Cond.methodLink RX3 148 yX3_requireLink, Cond.instanceMethod yX3_requireLink, Cond.selects RX3 yX3_requireLink yX3_requireLink, Cond.code yX3_requireLink cX3_requireLink 3 none, Cond.classLink RX3 34 "java/lang/IllegalStateException", Cond.initialized "java/lang/IllegalStateException", Cond.methodLink RX3 139 yX3_isReplicaOf, Cond.instanceMethod yX3_isReplicaOf, Cond.selects RX3 yX3_isReplicaOf yX3_isReplicaOf, Cond.code yX3_isReplicaOf cX3_isReplicaOf 4 (some .boolean), Cond.fieldLink RX3 31 "ShippedLog$Node" "role" "I", Cond.fieldLink RX3 222 "ShippedLog$Node" "follows" "I"]
def wsL_link : List Cond := .codeWith yL_link cL_link 6 (some .int) [(0, 12, 15, 13), (0, 12, 19, 15)] :: ((wsL_link_r1 ++ wsL_link_r2) ++ wsX20 ++ wsX10 ++ wsX30 ++ (vx_atS RX3 138 "java/lang/IndexOutOfBoundsException" ["java/lang/RuntimeException", "java/lang/Exception"]).filter goodWord ++ (vx_atS RX3 38 "java/lang/IllegalStateException" ["java/lang/RuntimeException", "java/lang/Exception"]).filter goodWord)
def wsL_law0_r1 : List Cond := [Cond.classLink RL 8 RX3, Cond.instantiable RX3 3, Cond.initialized RX3, Cond.classLink RL 73 RX4, Cond.instantiable RX4 21, Cond.initialized RX4, Cond.arrayClass .long, Cond.methodLink RL 72 yX3_init, Cond.instanceMethod yX3_init, Cond.code yX3_init cX3_init 2 none, Cond.methodLink RX3 3 objectInit, Cond.instanceMethod objectInit, Cond.code objectInit ⟨#[0xb1]⟩ 1 none, Cond.classLink RX3 9 RX1, Cond.fieldLink RX3 11 "ShippedLog" "nodes" "[LShippedLog$Node;", Cond.instantiable RX1 8, Cond.initialized RX1, Cond.classLink RX3 16 RX2, Cond.fieldLink RX3 18 "ShippedLog" "ways" "[LShippedLog$Way;", Cond.instantiable RX2 4, Cond.initialized RX2, Cond.fieldLink RX3 23 "ShippedLog" "greatestTimeline" "I", Cond.instanceMethod yX1_init, Cond.code yX1_init cX1_init 1 none]
def wsL_law0_r2 : List Cond := [Cond.methodLink RX1 3 objectInit, Cond.classLink RX1 9 RX0, Cond.instantiable RX0 4, Cond.initialized RX0, Cond.fieldLink RX1 12 "ShippedLog$Node" "log" "LShippedLog$Log;", Cond.fieldLink RX1 18 "ShippedLog$Node" "role" "I", Cond.fieldLink RX1 22 "ShippedLog$Node" "applied" "I", Cond.fieldLink RX1 25 "ShippedLog$Node" "follows" "I", Cond.fieldLink RX1 28 "ShippedLog$Node" "known" "I", Cond.fieldLink RX1 31 "ShippedLog$Node" "standby" "I", Cond.fieldLink RX1 34 "ShippedLog$Node" "acknowledged" "I", Cond.fieldLink RX1 37 "ShippedLog$Node" "promotedAt" "I", Cond.instanceMethod yX0_init, Cond.code yX0_init cX0_init 1 none, Cond.methodLink RX0 3 objectInit, Cond.arrayClass .byte, Cond.fieldLink RX0 9 "ShippedLog$Log" "memory" "[B", Cond.fieldLink RX0 15 "ShippedLog$Log" "disk" "[B", Cond.fieldLink RX0 18 "ShippedLog$Log" "end" "I", Cond.fieldLink RX0 22 "ShippedLog$Log" "synced" "I", Cond.instanceMethod yX2_init, Cond.code yX2_init cX2_init 1 none, Cond.methodLink RX2 3 objectInit, Cond.arrayClass .int]
def wsL_law0_r3 : List Cond := [Cond.fieldLink RX2 9 "ShippedLog$Way" "positions" "[I", Cond.fieldLink RX2 15 "ShippedLog$Way" "bytes" "[I", Cond.fieldLink RX2 18 "ShippedLog$Way" "oldest" "I", Cond.fieldLink RX2 22 "ShippedLog$Way" "count" "I", Cond.methodLink RL 75 yX4_init, Cond.instanceMethod yX4_init, Cond.code yX4_init cX4_init 1 none, Cond.methodLink RX4 1 objectInit, Cond.fieldLink RX4 7 "ShippedLogModel" "memory" "[I", Cond.fieldLink RX4 13 "ShippedLogModel" "disk" "[I", Cond.fieldLink RX4 16 "ShippedLogModel" "role" "[I", Cond.fieldLink RX4 19 "ShippedLogModel" "end" "[I", Cond.fieldLink RX4 22 "ShippedLogModel" "synced" "[I", Cond.fieldLink RX4 25 "ShippedLogModel" "applied" "[I", Cond.fieldLink RX4 28 "ShippedLogModel" "follows" "[I", Cond.fieldLink RX4 31 "ShippedLogModel" "standby" "[I", Cond.fieldLink RX4 34 "ShippedLogModel" "safe" "[I", Cond.fieldLink RX4 37 "ShippedLogModel" "since" "[I", Cond.fieldLink RX4 40 "ShippedLogModel" "known" "[I", Cond.fieldLink RX4 43 "ShippedLogModel" "count" "[I", Cond.fieldLink RX4 46 "ShippedLogModel" "position" "[I", Cond.fieldLink RX4 49 "ShippedLogModel" "records" "[I", Cond.fieldLink RX4 52 "ShippedLogModel" "bytes" "[I", Cond.fieldLink RX4 55 "ShippedLogModel" "values" "[I"]
def wsL_law0_r4 : List Cond := [Cond.fieldLink RX4 58 "ShippedLogModel" "puts" "[I", Cond.arrayClass .boolean, Cond.fieldLink RX4 61 "ShippedLogModel" "isPut" "[Z", Cond.methodLink RL 76 yL_up, Cond.static yL_up, Cond.initialized RL, Cond.codeWith yL_up cL_up 4 (some .int) [(0, 9, 12, 13), (0, 9, 15, 15)], Cond.classLink RL 13 "java/lang/IndexOutOfBoundsException", Cond.classLink RL 15 "java/lang/IllegalStateException", Cond.methodLink RL 7 yX3_up, Cond.instanceMethod yX3_up, Cond.selects RX3 yX3_up yX3_up, Cond.code yX3_up cX3_up 3 (some .int), Cond.classLink RX3 34 "java/lang/IllegalStateException", Cond.initialized "java/lang/IllegalStateException", Cond.fieldLink RX3 31 "ShippedLog$Node" "role" "I", Cond.fieldLink RX3 45 "ShippedLog$Node" "log" "LShippedLog$Log;", Cond.fieldLink RX3 54 "ShippedLog$Log" "end" "I", Cond.fieldLink RX3 57 "ShippedLog$Node" "applied" "I", Cond.methodLink RX3 27 yX3_nodeAt, Cond.instanceMethod yX3_nodeAt, Cond.selects RX3 yX3_nodeAt yX3_nodeAt, Cond.code yX3_nodeAt cX3_nodeAt 2 (some (.object "ShippedLog$Node")), Cond.classLink RX3 134 "java/lang/IndexOutOfBoundsException"]
def wsL_law0_r5 : List Cond := [Cond.initialized "java/lang/IndexOutOfBoundsException", Cond.methodLink RX3 131 yX3_isNode, Cond.static yX3_isNode, Cond.code yX3_isNode cX3_isNode 1 (some .boolean), Cond.methodLink RX3 41 yX3_takeRole, Cond.instanceMethod yX3_takeRole, Cond.selects RX3 yX3_takeRole yX3_takeRole, Cond.code yX3_takeRole cX3_takeRole 5 none, Cond.fieldLink RX3 145 "ShippedLog$Node" "standby" "I", Cond.fieldLink RX3 128 "ShippedLog$Node" "acknowledged" "I", Cond.fieldLink RX3 162 "ShippedLog$Node" "known" "I", Cond.methodLink RX3 240 yX3_leaveStandby, Cond.instanceMethod yX3_leaveStandby, Cond.selects RX3 yX3_leaveStandby yX3_leaveStandby, Cond.code yX3_leaveStandby cX3_leaveStandby 3 none, Cond.methodLink RX3 243 yX3_releaseReplicas, Cond.instanceMethod yX3_releaseReplicas, Cond.selects RX3 yX3_releaseReplicas yX3_releaseReplicas, Cond.code yX3_releaseReplicas cX3_releaseReplicas 3 none, Cond.methodLink RX3 139 yX3_isReplicaOf, Cond.instanceMethod yX3_isReplicaOf, Cond.selects RX3 yX3_isReplicaOf yX3_isReplicaOf, Cond.code yX3_isReplicaOf cX3_isReplicaOf 4 (some .boolean), Cond.fieldLink RX3 222 "ShippedLog$Node" "follows" "I"]
def wsL_law0_r6 : List Cond := [Cond.methodLink RX3 246 yX3_changeRole, Cond.instanceMethod yX3_changeRole, Cond.selects RX3 yX3_changeRole yX3_changeRole, Cond.code yX3_changeRole cX3_changeRole 5 none, Cond.methodLink RX3 249 yX3_loseMessages, Cond.instanceMethod yX3_loseMessages, Cond.selects RX3 yX3_loseMessages yX3_loseMessages, Cond.code yX3_loseMessages cX3_loseMessages 3 none, Cond.methodLink RX3 152 yX3_wayFrom, Cond.instanceMethod yX3_wayFrom, Cond.selects RX3 yX3_wayFrom yX3_wayFrom, Cond.code yX3_wayFrom cX3_wayFrom 3 (some (.object "ShippedLog$Way")), Cond.methodLink RX3 252 yX2_clear, Cond.instanceMethod yX2_clear, Cond.selects RX2 yX2_clear yX2_clear, Cond.code yX2_clear cX2_clear 1 none, Cond.methodLink RX3 49 yX0_loadFromDisk, Cond.instanceMethod yX0_loadFromDisk, Cond.selects RX0 yX0_loadFromDisk yX0_loadFromDisk, Cond.code yX0_loadFromDisk cX0_loadFromDisk 1 none, Cond.methodLink RX0 58 yX0_copy, Cond.static yX0_copy, Cond.code yX0_copy cX0_copy 4 none, Cond.methodLink RX0 81 arraycopyName]
def wsL_law0_r7 : List Cond := [Cond.native arraycopyName, Cond.static arraycopyName, Cond.initialized "java/lang/System", Cond.methodLink RX0 62 yX0_lastTimeline, Cond.instanceMethod yX0_lastTimeline, Cond.selects RX0 yX0_lastTimeline yX0_lastTimeline, Cond.code yX0_lastTimeline cX0_lastTimeline 1 (some .int), Cond.methodLink RX0 32 yX0_timelineAt, Cond.instanceMethod yX0_timelineAt, Cond.selects RX0 yX0_timelineAt yX0_timelineAt, Cond.code yX0_timelineAt cX0_timelineAt 2 (some .int), Cond.methodLink RX0 25 yX0_byteOf, Cond.instanceMethod yX0_byteOf, Cond.selects RX0 yX0_byteOf yX0_byteOf, Cond.code yX0_byteOf cX0_byteOf 2 (some .int), Cond.methodLink RX0 66 yX0_hasGoodRecord, Cond.instanceMethod yX0_hasGoodRecord, Cond.selects RX0 yX0_hasGoodRecord yX0_hasGoodRecord, Cond.code yX0_hasGoodRecord cX0_hasGoodRecord 7 (some .boolean), Cond.methodLink RX0 87 yX0_kindAt, Cond.instanceMethod yX0_kindAt, Cond.selects RX0 yX0_kindAt yX0_kindAt, Cond.code yX0_kindAt cX0_kindAt 2 (some .int), Cond.methodLink RX0 29 yX0_intAt]
def wsL_law0_r8 : List Cond := [Cond.instanceMethod yX0_intAt, Cond.selects RX0 yX0_intAt yX0_intAt, Cond.code yX0_intAt cX0_intAt 2 (some .int), Cond.methodLink RX0 46 yX0_checksumAt, Cond.instanceMethod yX0_checksumAt, Cond.selects RX0 yX0_checksumAt yX0_checksumAt, Cond.code yX0_checksumAt cX0_checksumAt 5 (some .int), Cond.constant RX0 90 (-306674912), Cond.methodLink RL 81 yX4_up, Cond.instanceMethod yX4_up, Cond.selects RX4 yX4_up yX4_up, Cond.code yX4_up cX4_up 3 (some .int), Cond.fieldLink RX4 65 "ShippedLogModel" "thrown" "I", Cond.methodLink RX4 101 yX4_isNode, Cond.static yX4_isNode, Cond.code yX4_isNode cX4_isNode 1 (some .boolean), Cond.methodLink RX4 69 yX4_within, Cond.static yX4_within, Cond.code yX4_within cX4_within 3 (some .boolean), Cond.methodLink RX4 105 yX4_fail, Cond.instanceMethod yX4_fail, Cond.selects RX4 yX4_fail yX4_fail, Cond.code yX4_fail cX4_fail 2 (some .int), Cond.methodLink RX4 73 yX4_at]
def wsL_law0_r9 : List Cond := [Cond.static yX4_at, Cond.code yX4_at cX4_at 2 (some .int), Cond.methodLink RX4 109 yX4_isGood, Cond.instanceMethod yX4_isGood, Cond.selects RX4 yX4_isGood yX4_isGood, Cond.code yX4_isGood cX4_isGood 5 (some .boolean), Cond.methodLink RX4 78 yX4_sumAt, Cond.instanceMethod yX4_sumAt, Cond.selects RX4 yX4_sumAt yX4_sumAt, Cond.code yX4_sumAt cX4_sumAt 6 (some .int), Cond.constant RX4 77 (-306674912), Cond.methodLink RX4 81 yX4_wordAt, Cond.instanceMethod yX4_wordAt, Cond.selects RX4 yX4_wordAt yX4_wordAt, Cond.code yX4_wordAt cX4_wordAt 5 (some .int), Cond.methodLink RX4 84 yX4_kindAt, Cond.instanceMethod yX4_kindAt, Cond.selects RX4 yX4_kindAt yX4_kindAt, Cond.code yX4_kindAt cX4_kindAt 3 (some .int), Cond.methodLink RX4 87 yX4_timelineAt, Cond.instanceMethod yX4_timelineAt, Cond.selects RX4 yX4_timelineAt yX4_timelineAt, Cond.code yX4_timelineAt cX4_timelineAt 3 (some .int), Cond.methodLink RL 82 yX4_thrown]
def wsL_law0_r10 : List Cond := [Cond.instanceMethod yX4_thrown, Cond.selects RX4 yX4_thrown yX4_thrown, Cond.code yX4_thrown cX4_thrown 1 (some .int), Cond.methodLink RL 86 yL_crash, Cond.static yL_crash, Cond.codeWith yL_crash cL_crash 5 (some .int) [(0, 10, 13, 13), (0, 10, 17, 21), (0, 10, 21, 15)], Cond.classLink RL 21 "java/lang/IllegalArgumentException", Cond.methodLink RL 17 yX3_crash, Cond.instanceMethod yX3_crash, Cond.selects RX3 yX3_crash yX3_crash, Cond.code yX3_crash cX3_crash 5 (some .int), Cond.classLink RX3 60 "java/lang/IllegalArgumentException", Cond.initialized "java/lang/IllegalArgumentException", Cond.methodLink RX3 67 yX0_saveFirst, Cond.instanceMethod yX0_saveFirst, Cond.selects RX0 yX0_saveFirst yX0_saveFirst, Cond.code yX0_saveFirst cX0_saveFirst 3 (some .int), Cond.methodLink RX0 52 Lib.Math.min.name, Cond.static Lib.Math.min.name, Cond.initialized "java/lang/Math", Cond.code Lib.Math.min.name Lib.Math.min.code 2 (some .int), Cond.methodLink RL 89 yX4_crash, Cond.instanceMethod yX4_crash, Cond.selects RX4 yX4_crash yX4_crash]
def wsL_law0_r11 : List Cond := [Cond.code yX4_crash cX4_crash 5 (some .int), Cond.methodLink RX4 113 yX4_leave, Cond.instanceMethod yX4_leave, Cond.selects RX4 yX4_leave yX4_leave, Cond.code yX4_leave cX4_leave 3 none, Cond.methodLink RX4 97 yX4_forgetMessages, Cond.instanceMethod yX4_forgetMessages, Cond.selects RX4 yX4_forgetMessages yX4_forgetMessages, Cond.code yX4_forgetMessages cX4_forgetMessages 3 none, Cond.methodLink RL 90 yL_promote, Cond.static yL_promote, Cond.codeWith yL_promote cL_promote 4 (some .int) [(0, 9, 12, 13), (0, 9, 15, 15), (0, 9, 18, 26)], Cond.classLink RL 26 "java/lang/UnsupportedOperationException", Cond.methodLink RL 23 yX3_promote, Cond.instanceMethod yX3_promote, Cond.selects RX3 yX3_promote yX3_promote, Cond.code yX3_promote cX3_promote 3 (some .int), Cond.classLink RX3 77 "java/lang/UnsupportedOperationException", Cond.initialized "java/lang/UnsupportedOperationException", Cond.fieldLink RX3 82 "ShippedLog$Node" "promotedAt" "I", Cond.methodLink RX3 73 yX3_requireRoom, Cond.static yX3_requireRoom, Cond.code yX3_requireRoom cX3_requireRoom 1 none, Cond.methodLink RX3 227 yX0_isFull]
def wsL_law0_r12 : List Cond := [Cond.instanceMethod yX0_isFull, Cond.selects RX0 yX0_isFull yX0_isFull, Cond.code yX0_isFull cX0_isFull 1 (some .boolean), Cond.methodLink RX3 85 yX1_write, Cond.instanceMethod yX1_write, Cond.selects RX1 yX1_write yX1_write, Cond.code yX1_write cX1_write 5 none, Cond.fieldLink RX1 44 "ShippedLog$Log" "end" "I", Cond.methodLink RX1 40 yX0_append, Cond.instanceMethod yX0_append, Cond.selects RX0 yX0_append yX0_append, Cond.code yX0_append cX0_append 5 none, Cond.methodLink RX0 35 yX0_isFull, Cond.methodLink RX0 39 yX0_setByte, Cond.instanceMethod yX0_setByte, Cond.selects RX0 yX0_setByte yX0_setByte, Cond.code yX0_setByte cX0_setByte 3 none, Cond.methodLink RX0 43 yX0_setInt, Cond.instanceMethod yX0_setInt, Cond.selects RX0 yX0_setInt yX0_setInt, Cond.code yX0_setInt cX0_setInt 3 none, Cond.methodLink RX3 89 yX0_sync, Cond.instanceMethod yX0_sync, Cond.selects RX0 yX0_sync yX0_sync]
def wsL_law0_r13 : List Cond := [Cond.code yX0_sync cX0_sync 1 none, Cond.methodLink RX0 49 yX0_saveFirst, Cond.methodLink RL 92 yX4_promote, Cond.instanceMethod yX4_promote, Cond.selects RX4 yX4_promote yX4_promote, Cond.code yX4_promote cX4_promote 2 (some .int), Cond.fieldLink RX4 90 "ShippedLogModel" "timelines" "I", Cond.methodLink RX4 116 yX4_isFull, Cond.instanceMethod yX4_isFull, Cond.selects RX4 yX4_isFull yX4_isFull, Cond.code yX4_isFull cX4_isFull 2 (some .boolean), Cond.methodLink RX4 119 yX4_write, Cond.instanceMethod yX4_write, Cond.selects RX4 yX4_write yX4_write, Cond.code yX4_write cX4_write 7 none, Cond.methodLink RX4 93 yX4_putWord, Cond.instanceMethod yX4_putWord, Cond.selects RX4 yX4_putWord yX4_putWord, Cond.code yX4_putWord cX4_putWord 5 none, Cond.methodLink RX4 123 yX4_sync, Cond.instanceMethod yX4_sync, Cond.selects RX4 yX4_sync yX4_sync, Cond.code yX4_sync cX4_sync 3 none, Cond.methodLink RL 93 yL_follow]
def wsL_law0_r14 : List Cond := [Cond.static yL_follow, Cond.codeWith yL_follow cL_follow 4 (some .int) [(0, 6, 9, 13), (0, 6, 12, 15), (0, 6, 15, 21)], Cond.methodLink RL 28 yX3_follow, Cond.instanceMethod yX3_follow, Cond.selects RX3 yX3_follow yX3_follow, Cond.code yX3_follow cX3_follow 5 none, Cond.methodLink RX3 92 yX3_requirePrimary, Cond.static yX3_requirePrimary, Cond.code yX3_requirePrimary cX3_requirePrimary 1 none, Cond.methodLink RX3 95 yX0_isBeginningOf, Cond.instanceMethod yX0_isBeginningOf, Cond.selects RX0 yX0_isBeginningOf yX0_isBeginningOf, Cond.code yX0_isBeginningOf cX0_isBeginningOf 2 (some .boolean), Cond.methodLink RX0 73 yX0_sharedWith, Cond.instanceMethod yX0_sharedWith, Cond.selects RX0 yX0_sharedWith yX0_sharedWith, Cond.code yX0_sharedWith cX0_sharedWith 4 (some .int), Cond.methodLink RX0 77 yX0_hasRecordOf, Cond.instanceMethod yX0_hasRecordOf, Cond.selects RX0 yX0_hasRecordOf yX0_hasRecordOf, Cond.code yX0_hasRecordOf cX0_hasRecordOf 4 (some .boolean), Cond.methodLink RL 96 yX4_follow, Cond.instanceMethod yX4_follow, Cond.selects RX4 yX4_follow yX4_follow]
def wsL_law0_r15 : List Cond := [Cond.code yX4_follow cX4_follow 3 none, Cond.methodLink RX4 126 yX4_common, Cond.instanceMethod yX4_common, Cond.selects RX4 yX4_common yX4_common, Cond.code yX4_common cX4_common 6 (some .int), Cond.methodLink RX4 129 yX4_attach, Cond.instanceMethod yX4_attach, Cond.selects RX4 yX4_attach yX4_attach, Cond.code yX4_attach cX4_attach 3 none, Cond.methodLink RL 97 yL_rewind, Cond.static yL_rewind, Cond.codeWith yL_rewind cL_rewind 5 (some .int) [(0, 10, 13, 13), (0, 10, 17, 15)], Cond.methodLink RL 32 yX3_rewind, Cond.instanceMethod yX3_rewind, Cond.selects RX3 yX3_rewind yX3_rewind, Cond.code yX3_rewind cX3_rewind 6 (some .int), Cond.methodLink RX3 103 yX0_sharedWith, Cond.methodLink RX3 107 yX0_cutTo, Cond.instanceMethod yX0_cutTo, Cond.selects RX0 yX0_cutTo yX0_cutTo, Cond.code yX0_cutTo cX0_cutTo 3 none, Cond.methodLink RL 99 yX4_rewind, Cond.instanceMethod yX4_rewind, Cond.selects RX4 yX4_rewind yX4_rewind]
def wsL_law0_r16 : List Cond := [Cond.code yX4_rewind cX4_rewind 6 (some .int), Cond.methodLink RL 100 yL_put, Cond.static yL_put, Cond.codeWith yL_put cL_put 6 (some .int) [(0, 12, 15, 13), (0, 12, 19, 15), (0, 12, 23, 21), (0, 12, 27, 26)], Cond.methodLink RL 35 yX3_put, Cond.instanceMethod yX3_put, Cond.selects RX3 yX3_put yX3_put, Cond.code yX3_put cX3_put 6 (some .int), Cond.methodLink RX3 111 yX3_isKey, Cond.static yX3_isKey, Cond.code yX3_isKey cX3_isKey 1 (some .boolean), Cond.methodLink RX3 117 yX0_lastTimeline, Cond.methodLink RL 103 yX4_put, Cond.instanceMethod yX4_put, Cond.selects RX4 yX4_put yX4_put, Cond.code yX4_put cX4_put 4 (some .int), Cond.methodLink RX4 133 yX4_isPrimary, Cond.instanceMethod yX4_isPrimary, Cond.selects RX4 yX4_isPrimary yX4_isPrimary, Cond.code yX4_isPrimary cX4_isPrimary 2 (some .boolean), Cond.methodLink RL 104 yL_commit, Cond.static yL_commit, Cond.codeWith yL_commit cL_commit 4 (some .int) [(0, 16, 19, 13), (0, 16, 22, 15), (0, 16, 25, 26)], Cond.methodLink RL 39 yX3_commit]
def wsL_law0_r17 : List Cond := [Cond.instanceMethod yX3_commit, Cond.selects RX3 yX3_commit yX3_commit, Cond.code yX3_commit cX3_commit 3 (some .boolean), Cond.methodLink RX3 121 yX3_safePosition, Cond.instanceMethod yX3_safePosition, Cond.selects RX3 yX3_safePosition yX3_safePosition, Cond.code yX3_safePosition cX3_safePosition 2 (some .int), Cond.methodLink RX3 125 yX1_acknowledgeUpTo, Cond.instanceMethod yX1_acknowledgeUpTo, Cond.selects RX1 yX1_acknowledgeUpTo yX1_acknowledgeUpTo, Cond.code yX1_acknowledgeUpTo cX1_acknowledgeUpTo 4 none, Cond.methodLink RX1 47 Lib.Math.min.name, Cond.methodLink RX1 57 Lib.Math.max.name, Cond.static Lib.Math.max.name, Cond.code Lib.Math.max.name Lib.Math.max.code 2 (some .int), Cond.methodLink RX1 53 yX0_kindAt, Cond.methodLink RL 106 yX4_commit, Cond.instanceMethod yX4_commit, Cond.selects RX4 yX4_commit yX4_commit, Cond.code yX4_commit cX4_commit 2 (some .boolean), Cond.methodLink RX4 136 yX4_count, Cond.instanceMethod yX4_count, Cond.selects RX4 yX4_count yX4_count, Cond.code yX4_count cX4_count 4 none]
def wsL_law0_r18 : List Cond := [Cond.methodLink RL 107 yL_standby, Cond.static yL_standby, Cond.codeWith yL_standby cL_standby 5 (some .int) [(0, 10, 13, 13), (0, 10, 17, 15), (0, 10, 21, 21)], Cond.methodLink RL 43 yX3_standby, Cond.instanceMethod yX3_standby, Cond.selects RX3 yX3_standby yX3_standby, Cond.code yX3_standby cX3_standby 5 (some .int), Cond.methodLink RL 109 yX4_standby, Cond.instanceMethod yX4_standby, Cond.selects RX4 yX4_standby yX4_standby, Cond.code yX4_standby cX4_standby 4 (some .int), Cond.methodLink RX4 138 yX4_isReplica, Cond.instanceMethod yX4_isReplica, Cond.selects RX4 yX4_isReplica yX4_isReplica, Cond.code yX4_isReplica cX4_isReplica 3 (some .boolean), Cond.methodLink RL 110 yL_send, Cond.static yL_send, Cond.codeWith yL_send cL_send 5 (some .int) [(0, 10, 13, 13), (0, 10, 17, 15), (0, 10, 21, 26), (0, 10, 25, 49)], Cond.classLink RL 49 "java/util/NoSuchElementException", Cond.methodLink RL 46 yX3_send, Cond.instanceMethod yX3_send, Cond.selects RX3 yX3_send yX3_send, Cond.code yX3_send cX3_send 7 (some .int), Cond.classLink RX3 171 "java/util/NoSuchElementException"]
def wsL_law0_r19 : List Cond := [Cond.initialized "java/util/NoSuchElementException", Cond.methodLink RX3 165 Lib.Math.min.name, Cond.methodLink RX3 148 yX3_requireLink, Cond.instanceMethod yX3_requireLink, Cond.selects RX3 yX3_requireLink yX3_requireLink, Cond.code yX3_requireLink cX3_requireLink 3 none, Cond.methodLink RX3 156 yX2_isFull, Cond.instanceMethod yX2_isFull, Cond.selects RX2 yX2_isFull yX2_isFull, Cond.code yX2_isFull cX2_isFull 1 (some .boolean), Cond.methodLink RX3 176 yX2_add, Cond.instanceMethod yX2_add, Cond.selects RX2 yX2_add yX2_add, Cond.code yX2_add cX2_add 4 none, Cond.methodLink RX2 25 yX2_isFull, Cond.methodLink RX2 29 yX2_slot, Cond.instanceMethod yX2_slot, Cond.selects RX2 yX2_slot yX2_slot, Cond.code yX2_slot cX2_slot 2 (some .int), Cond.methodLink RX2 33 yJ9_floorMod_7cf53, Cond.static yJ9_floorMod_7cf53, Cond.initialized RJ9, Cond.code yJ9_floorMod_7cf53 cJ9_floorMod_7cf53 3 (some .int), Cond.methodLink RL 112 yX4_send]
def wsL_law0_r20 : List Cond := [Cond.instanceMethod yX4_send, Cond.selects RX4 yX4_send yX4_send, Cond.code yX4_send cX4_send 5 (some .int), Cond.methodLink RX4 145 yX4_isLink, Cond.instanceMethod yX4_isLink, Cond.selects RX4 yX4_isLink yX4_isLink, Cond.code yX4_isLink cX4_isLink 3 (some .boolean), Cond.methodLink RX4 148 yX4_add, Cond.instanceMethod yX4_add, Cond.selects RX4 yX4_add yX4_add, Cond.code yX4_add cX4_add 7 none, Cond.methodLink RX4 141 yX4_slot, Cond.instanceMethod yX4_slot, Cond.selects RX4 yX4_slot yX4_slot, Cond.code yX4_slot cX4_slot 4 (some .int), Cond.methodLink RL 113 yL_deliver, Cond.static yL_deliver, Cond.codeWith yL_deliver cL_deliver 5 (some .int) [(0, 10, 13, 13), (0, 10, 17, 49), (0, 10, 21, 26)], Cond.methodLink RL 51 yX3_deliver, Cond.instanceMethod yX3_deliver, Cond.selects RX3 yX3_deliver yX3_deliver, Cond.code yX3_deliver cX3_deliver 3 (some .int), Cond.methodLink RX3 179 yX3_requireMessage, Cond.instanceMethod yX3_requireMessage]
def wsL_law0_r21 : List Cond := [Cond.selects RX3 yX3_requireMessage yX3_requireMessage, Cond.code yX3_requireMessage cX3_requireMessage 3 none, Cond.fieldLink RX3 191 "ShippedLog$Way" "count" "I", Cond.methodLink RX3 182 yX3_deliverPosition, Cond.instanceMethod yX3_deliverPosition, Cond.selects RX3 yX3_deliverPosition yX3_deliverPosition, Cond.code yX3_deliverPosition cX3_deliverPosition 6 (some .int), Cond.methodLink RX3 255 yX2_oldestPosition, Cond.instanceMethod yX2_oldestPosition, Cond.selects RX2 yX2_oldestPosition yX2_oldestPosition, Cond.code yX2_oldestPosition cX2_oldestPosition 1 (some .int), Cond.methodLink RX3 188 yX2_removeOldest, Cond.instanceMethod yX2_removeOldest, Cond.selects RX2 yX2_removeOldest yX2_removeOldest, Cond.code yX2_removeOldest cX2_removeOldest 1 none, Cond.methodLink RX3 185 yX3_deliverRecords, Cond.instanceMethod yX3_deliverRecords, Cond.selects RX3 yX3_deliverRecords yX3_deliverRecords, Cond.code yX3_deliverRecords cX3_deliverRecords 7 (some .int), Cond.methodLink RX3 260 yX2_oldestBytes, Cond.instanceMethod yX2_oldestBytes, Cond.selects RX2 yX2_oldestBytes yX2_oldestBytes, Cond.code yX2_oldestBytes cX2_oldestBytes 1 (some .int), Cond.methodLink RX3 263 yX0_receive]
def wsL_law0_r22 : List Cond := [Cond.instanceMethod yX0_receive, Cond.selects RX0 yX0_receive yX0_receive, Cond.code yX0_receive cX0_receive 4 none, Cond.methodLink RX0 70 yX0_sync, Cond.methodLink RL 115 yX4_deliver, Cond.instanceMethod yX4_deliver, Cond.selects RX4 yX4_deliver yX4_deliver, Cond.code yX4_deliver cX4_deliver 5 (some .int), Cond.methodLink RX4 151 yX4_take, Cond.instanceMethod yX4_take, Cond.selects RX4 yX4_take yX4_take, Cond.code yX4_take cX4_take 7 none, Cond.methodLink RL 116 yL_drop, Cond.static yL_drop, Cond.codeWith yL_drop cL_drop 5 (some .int) [(0, 10, 13, 13), (0, 10, 17, 49)], Cond.methodLink RL 54 yX3_drop, Cond.instanceMethod yX3_drop, Cond.selects RX3 yX3_drop yX3_drop, Cond.code yX3_drop cX3_drop 4 (some .int), Cond.methodLink RL 118 yX4_drop, Cond.instanceMethod yX4_drop, Cond.selects RX4 yX4_drop yX4_drop, Cond.code yX4_drop cX4_drop 3 (some .int), Cond.methodLink RL 119 yL_apply]
def wsL_law0_r23 : List Cond := [Cond.static yL_apply, Cond.codeWith yL_apply cL_apply 5 (some .int) [(0, 10, 13, 13), (0, 10, 17, 21), (0, 10, 21, 15)], Cond.methodLink RL 57 yX3_apply, Cond.instanceMethod yX3_apply, Cond.selects RX3 yX3_apply yX3_apply, Cond.code yX3_apply cX3_apply 5 (some .int), Cond.methodLink RL 121 yX4_apply, Cond.instanceMethod yX4_apply, Cond.selects RX4 yX4_apply yX4_apply, Cond.code yX4_apply cX4_apply 4 (some .int), Cond.methodLink RL 122 yL_get, Cond.static yL_get, Cond.codeWith yL_get cL_get 5 (some .int) [(0, 10, 13, 13), (0, 10, 17, 15)], Cond.methodLink RL 60 yX3_get, Cond.instanceMethod yX3_get, Cond.selects RX3 yX3_get yX3_get, Cond.code yX3_get cX3_get 4 (some .int), Cond.methodLink RX3 198 yX1_committedValue, Cond.instanceMethod yX1_committedValue, Cond.selects RX1 yX1_committedValue yX1_committedValue, Cond.code yX1_committedValue cX1_committedValue 6 (some .int), Cond.methodLink RX1 60 yX0_keyAt, Cond.instanceMethod yX0_keyAt, Cond.selects RX0 yX0_keyAt yX0_keyAt]
def wsL_law0_r24 : List Cond := [Cond.code yX0_keyAt cX0_keyAt 2 (some .int), Cond.methodLink RX1 63 yX0_valueAt, Cond.instanceMethod yX0_valueAt, Cond.selects RX0 yX0_valueAt yX0_valueAt, Cond.code yX0_valueAt cX0_valueAt 2 (some .int), Cond.methodLink RL 124 yX4_get, Cond.instanceMethod yX4_get, Cond.selects RX4 yX4_get yX4_get, Cond.code yX4_get cX4_get 3 (some .int), Cond.methodLink RX4 157 yX4_play, Cond.instanceMethod yX4_play, Cond.selects RX4 yX4_play yX4_play, Cond.code yX4_play cX4_play 5 none, Cond.fieldLink RX4 154 "ShippedLogModel" "open" "I", Cond.methodLink RL 125 yL_byteAt, Cond.static yL_byteAt, Cond.codeWith yL_byteAt cL_byteAt 6 (some .int) [(0, 12, 15, 13)], Cond.methodLink RL 63 yX3_byteAt, Cond.instanceMethod yX3_byteAt, Cond.selects RX3 yX3_byteAt yX3_byteAt, Cond.code yX3_byteAt cX3_byteAt 5 (some .int), Cond.fieldLink RX3 203 "ShippedLog$Log" "memory" "[B", Cond.fieldLink RX3 207 "ShippedLog$Log" "disk" "[B", Cond.methodLink RL 127 yX4_byteAt]
def wsL_law0_r25 : List Cond := [Cond.instanceMethod yX4_byteAt, Cond.selects RX4 yX4_byteAt yX4_byteAt, Cond.code yX4_byteAt cX4_byteAt 4 (some .int), Cond.methodLink RL 128 yL_node, Cond.static yL_node, Cond.codeWith yL_node cL_node 5 (some .int) [(0, 10, 13, 13)], Cond.methodLink RL 66 yX3_node, Cond.instanceMethod yX3_node, Cond.selects RX3 yX3_node yX3_node, Cond.code yX3_node cX3_node 4 (some .int), Cond.methodLink RX3 214 yX3_factOf, Cond.static yX3_factOf, Cond.code yX3_factOf cX3_factOf 2 (some .int), Cond.fieldLink RX3 234 "ShippedLog$Log" "synced" "I", Cond.methodLink RX3 237 yX1_pendingPuts, Cond.instanceMethod yX1_pendingPuts, Cond.selects RX1 yX1_pendingPuts yX1_pendingPuts, Cond.code yX1_pendingPuts cX1_pendingPuts 3 (some .int), Cond.methodLink RL 130 yX4_node, Cond.instanceMethod yX4_node, Cond.selects RX4 yX4_node yX4_node, Cond.code yX4_node cX4_node 3 (some .int), Cond.methodLink RL 131 yL_link, Cond.static yL_link]
def wsL_law0_r26 : List Cond := [Cond.codeWith yL_link cL_link 6 (some .int) [(0, 12, 15, 13), (0, 12, 19, 15)], Cond.methodLink RL 69 yX3_link, Cond.instanceMethod yX3_link, Cond.selects RX3 yX3_link yX3_link, Cond.code yX3_link cX3_link 5 (some .int), Cond.methodLink RL 133 yX4_link, Cond.instanceMethod yX4_link, Cond.selects RX4 yX4_link yX4_link, Cond.code yX4_link cX4_link 4 (some .int)]
def wsL_law0 : List Cond := (wsL_law0_r1 ++ (wsL_law0_r2 ++ (wsL_law0_r3 ++ (wsL_law0_r4 ++ (wsL_law0_r5 ++ (wsL_law0_r6 ++ (wsL_law0_r7 ++ (wsL_law0_r8 ++ (wsL_law0_r9 ++ (wsL_law0_r10 ++ (wsL_law0_r11 ++ (wsL_law0_r12 ++ (wsL_law0_r13 ++ (wsL_law0_r14 ++ (wsL_law0_r15 ++ (wsL_law0_r16 ++ (wsL_law0_r17 ++ (wsL_law0_r18 ++ (wsL_law0_r19 ++ (wsL_law0_r20 ++ (wsL_law0_r21 ++ (wsL_law0_r22 ++ (wsL_law0_r23 ++ (wsL_law0_r24 ++ (wsL_law0_r25 ++ wsL_law0_r26))))))))))))))))))))))))) ++ wsX30 ++ wsX40 ++ wsX10 ++ wsX20 ++ wsX00 ++ ([] : List Cond)
def wsL_law : List Cond := wsL_law0 ++ (vx_atS RX3 38 "java/lang/IllegalStateException" ["java/lang/RuntimeException", "java/lang/Exception"]).filter goodWord ++ (vx_atS RX3 138 "java/lang/IndexOutOfBoundsException" ["java/lang/RuntimeException", "java/lang/Exception"]).filter goodWord ++ (vx_atS RX3 64 "java/lang/IllegalArgumentException" ["java/lang/RuntimeException", "java/lang/Exception"]).filter goodWord ++ (vx_atS RX3 81 "java/lang/UnsupportedOperationException" ["java/lang/RuntimeException", "java/lang/Exception"]).filter goodWord ++ (nz_at RX3 175 "java/util/NoSuchElementException" 13 nz_code ["java/lang/RuntimeException", "java/lang/Exception"]).filter goodWord
theorem dX0_init_0 : decode cX0_init 0 = .ok (.aload_n 0, 1) := by decide +kernel
theorem dX0_init_1 : decode cX0_init 1 = .ok (.invokespecial 3, 3) := by decide +kernel
theorem dX0_init_4 : decode cX0_init 4 = .ok (.aload_n 0, 1) := by decide +kernel
theorem dX0_init_5 : decode cX0_init 5 = .ok (.sipush 4096, 3) := by decide +kernel
theorem dX0_init_8 : decode cX0_init 8 = .ok (.newarray .byte, 2) := by decide +kernel
theorem dX0_init_10 : decode cX0_init 10 = .ok (.putfield 9, 3) := by decide +kernel
theorem dX0_init_13 : decode cX0_init 13 = .ok (.aload_n 0, 1) := by decide +kernel
theorem dX0_init_14 : decode cX0_init 14 = .ok (.sipush 4096, 3) := by decide +kernel
theorem dX0_init_17 : decode cX0_init 17 = .ok (.newarray .byte, 2) := by decide +kernel
theorem dX0_init_19 : decode cX0_init 19 = .ok (.putfield 15, 3) := by decide +kernel
theorem dX0_init_22 : decode cX0_init 22 = .ok (.aload_n 0, 1) := by decide +kernel
theorem dX0_init_23 : decode cX0_init 23 = .ok (.iconst 0, 1) := by decide +kernel
theorem dX0_init_24 : decode cX0_init 24 = .ok (.putfield 18, 3) := by decide +kernel
theorem dX0_init_27 : decode cX0_init 27 = .ok (.aload_n 0, 1) := by decide +kernel
theorem dX0_init_28 : decode cX0_init 28 = .ok (.iconst 0, 1) := by decide +kernel
theorem dX0_init_29 : decode cX0_init 29 = .ok (.putfield 22, 3) := by decide +kernel
theorem dX0_init_32 : decode cX0_init 32 = .ok (.return_, 1) := by decide +kernel
theorem dX0_isFull_0 : decode cX0_isFull 0 = .ok (.aload_n 0, 1) := by decide +kernel
theorem dX0_isFull_1 : decode cX0_isFull 1 = .ok (.getfield 18, 3) := by decide +kernel
theorem dX0_isFull_4 : decode cX0_isFull 4 = .ok (.sipush 4080, 3) := by decide +kernel
theorem dX0_isFull_7 : decode cX0_isFull 7 = .ok (.if_icmp .le 7, 3) := by decide +kernel
theorem dX0_isFull_10 : decode cX0_isFull 10 = .ok (.iconst 1, 1) := by decide +kernel
theorem dX0_isFull_11 : decode cX0_isFull 11 = .ok (.goto 4, 3) := by decide +kernel
theorem dX0_isFull_14 : decode cX0_isFull 14 = .ok (.iconst 0, 1) := by decide +kernel
theorem dX0_isFull_15 : decode cX0_isFull 15 = .ok (.ireturn, 1) := by decide +kernel
set_option maxRecDepth 20000 in
theorem ggX0_kindAt_X0_byteOf : GoodIn wsX0_kindAt wsX0_byteOf := goodIn_r _ [5, 6, 7, 8, 9, 10] (by decide +kernel) (by decide +kernel)
set_option maxRecDepth 20000 in
theorem gX0_kindAt_X0_byteOf : GoodIn wsX0_kindAt (wsV RX0 25 RX0 yX0_byteOf wsX0_byteOf) := goodIn_app (goodIn_of _ (by decide +kernel)) ggX0_kindAt_X0_byteOf
theorem dX0_kindAt_0 : decode cX0_kindAt 0 = .ok (.aload_n 0, 1) := by decide +kernel
theorem dX0_kindAt_1 : decode cX0_kindAt 1 = .ok (.iload_n 1, 1) := by decide +kernel
theorem dX0_kindAt_2 : decode cX0_kindAt 2 = .ok (.invokevirtual 25, 3) := by decide +kernel
theorem dX0_kindAt_5 : decode cX0_kindAt 5 = .ok (.ireturn, 1) := by decide +kernel
set_option maxRecDepth 20000 in
theorem ggX0_timelineAt_X0_byteOf : GoodIn wsX0_timelineAt wsX0_byteOf := goodIn_r _ [5, 6, 7, 8, 9, 10] (by decide +kernel) (by decide +kernel)
set_option maxRecDepth 20000 in
theorem gX0_timelineAt_X0_byteOf : GoodIn wsX0_timelineAt (wsV RX0 25 RX0 yX0_byteOf wsX0_byteOf) := goodIn_app (goodIn_of _ (by decide +kernel)) ggX0_timelineAt_X0_byteOf
theorem dX0_timelineAt_0 : decode cX0_timelineAt 0 = .ok (.aload_n 0, 1) := by decide +kernel
theorem dX0_timelineAt_1 : decode cX0_timelineAt 1 = .ok (.iload_n 1, 1) := by decide +kernel
theorem dX0_timelineAt_2 : decode cX0_timelineAt 2 = .ok (.iconst 1, 1) := by decide +kernel
theorem dX0_timelineAt_3 : decode cX0_timelineAt 3 = .ok (.iadd, 1) := by decide +kernel
theorem dX0_timelineAt_4 : decode cX0_timelineAt 4 = .ok (.invokevirtual 25, 3) := by decide +kernel
theorem dX0_timelineAt_7 : decode cX0_timelineAt 7 = .ok (.ireturn, 1) := by decide +kernel
set_option maxRecDepth 20000 in
theorem ggX0_keyAt_X0_byteOf : GoodIn wsX0_keyAt wsX0_byteOf := goodIn_r _ [5, 6, 7, 8, 9, 10] (by decide +kernel) (by decide +kernel)
set_option maxRecDepth 20000 in
theorem gX0_keyAt_X0_byteOf : GoodIn wsX0_keyAt (wsV RX0 25 RX0 yX0_byteOf wsX0_byteOf) := goodIn_app (goodIn_of _ (by decide +kernel)) ggX0_keyAt_X0_byteOf
theorem dX0_keyAt_0 : decode cX0_keyAt 0 = .ok (.aload_n 0, 1) := by decide +kernel
theorem dX0_keyAt_1 : decode cX0_keyAt 1 = .ok (.iload_n 1, 1) := by decide +kernel
theorem dX0_keyAt_2 : decode cX0_keyAt 2 = .ok (.iconst 2, 1) := by decide +kernel
theorem dX0_keyAt_3 : decode cX0_keyAt 3 = .ok (.iadd, 1) := by decide +kernel
theorem dX0_keyAt_4 : decode cX0_keyAt 4 = .ok (.invokevirtual 25, 3) := by decide +kernel
theorem dX0_keyAt_7 : decode cX0_keyAt 7 = .ok (.bipush 8, 2) := by decide +kernel
theorem dX0_keyAt_9 : decode cX0_keyAt 9 = .ok (.ishl, 1) := by decide +kernel
theorem dX0_keyAt_10 : decode cX0_keyAt 10 = .ok (.aload_n 0, 1) := by decide +kernel
theorem dX0_keyAt_11 : decode cX0_keyAt 11 = .ok (.iload_n 1, 1) := by decide +kernel
theorem dX0_keyAt_12 : decode cX0_keyAt 12 = .ok (.iconst 2, 1) := by decide +kernel
theorem dX0_keyAt_13 : decode cX0_keyAt 13 = .ok (.iadd, 1) := by decide +kernel
theorem dX0_keyAt_14 : decode cX0_keyAt 14 = .ok (.iconst 1, 1) := by decide +kernel
theorem dX0_keyAt_15 : decode cX0_keyAt 15 = .ok (.iadd, 1) := by decide +kernel
theorem dX0_keyAt_16 : decode cX0_keyAt 16 = .ok (.invokevirtual 25, 3) := by decide +kernel
theorem dX0_keyAt_19 : decode cX0_keyAt 19 = .ok (.ior, 1) := by decide +kernel
theorem dX0_keyAt_20 : decode cX0_keyAt 20 = .ok (.ireturn, 1) := by decide +kernel
set_option maxRecDepth 20000 in
theorem ggX0_valueAt_X0_intAt : GoodIn wsX0_valueAt wsX0_intAt := goodIn_r _ [5, 6, 7, 8, 4, 9, 10, 11, 12, 13, 14] (by decide +kernel) (by decide +kernel)
set_option maxRecDepth 20000 in
theorem gX0_valueAt_X0_intAt : GoodIn wsX0_valueAt (wsV RX0 29 RX0 yX0_intAt wsX0_intAt) := goodIn_app (goodIn_of _ (by decide +kernel)) ggX0_valueAt_X0_intAt
theorem dX0_valueAt_0 : decode cX0_valueAt 0 = .ok (.aload_n 0, 1) := by decide +kernel
theorem dX0_valueAt_1 : decode cX0_valueAt 1 = .ok (.iload_n 1, 1) := by decide +kernel
theorem dX0_valueAt_2 : decode cX0_valueAt 2 = .ok (.iconst 4, 1) := by decide +kernel
theorem dX0_valueAt_3 : decode cX0_valueAt 3 = .ok (.iadd, 1) := by decide +kernel
theorem dX0_valueAt_4 : decode cX0_valueAt 4 = .ok (.invokevirtual 29, 3) := by decide +kernel
theorem dX0_valueAt_7 : decode cX0_valueAt 7 = .ok (.ireturn, 1) := by decide +kernel
set_option maxRecDepth 20000 in
theorem ggX0_lastTimeline_X0_timelineAt : GoodIn wsX0_lastTimeline wsX0_timelineAt := goodIn_r _ [6, 7, 8, 9, 5, 10, 11, 12, 13, 14, 15] (by decide +kernel) (by decide +kernel)
set_option maxRecDepth 20000 in
theorem gX0_lastTimeline_X0_timelineAt : GoodIn wsX0_lastTimeline (wsV RX0 32 RX0 yX0_timelineAt wsX0_timelineAt) := goodIn_app (goodIn_of _ (by decide +kernel)) ggX0_lastTimeline_X0_timelineAt
theorem dX0_lastTimeline_0 : decode cX0_lastTimeline 0 = .ok (.aload_n 0, 1) := by decide +kernel
theorem dX0_lastTimeline_1 : decode cX0_lastTimeline 1 = .ok (.getfield 18, 3) := by decide +kernel
theorem dX0_lastTimeline_4 : decode cX0_lastTimeline 4 = .ok (.ifCond .ne 7, 3) := by decide +kernel
theorem dX0_lastTimeline_7 : decode cX0_lastTimeline 7 = .ok (.iconst 0, 1) := by decide +kernel
theorem dX0_lastTimeline_8 : decode cX0_lastTimeline 8 = .ok (.goto 14, 3) := by decide +kernel
theorem dX0_lastTimeline_11 : decode cX0_lastTimeline 11 = .ok (.aload_n 0, 1) := by decide +kernel
theorem dX0_lastTimeline_12 : decode cX0_lastTimeline 12 = .ok (.aload_n 0, 1) := by decide +kernel
theorem dX0_lastTimeline_13 : decode cX0_lastTimeline 13 = .ok (.getfield 18, 3) := by decide +kernel
theorem dX0_lastTimeline_16 : decode cX0_lastTimeline 16 = .ok (.bipush 16, 2) := by decide +kernel
theorem dX0_lastTimeline_18 : decode cX0_lastTimeline 18 = .ok (.isub, 1) := by decide +kernel
theorem dX0_lastTimeline_19 : decode cX0_lastTimeline 19 = .ok (.invokevirtual 32, 3) := by decide +kernel
theorem dX0_lastTimeline_22 : decode cX0_lastTimeline 22 = .ok (.ireturn, 1) := by decide +kernel
set_option maxRecDepth 20000 in
theorem ggX0_append_X0_isFull : GoodIn wsX0_append wsX0_isFull := goodIn_r _ [6, 1, 25, 26, 27, 28] (by decide +kernel) (by decide +kernel)
set_option maxRecDepth 20000 in
theorem gX0_append_X0_isFull : GoodIn wsX0_append (wsV RX0 35 RX0 yX0_isFull wsX0_isFull) := goodIn_app (goodIn_of _ (by decide +kernel)) ggX0_append_X0_isFull
set_option maxRecDepth 20000 in
theorem ggX0_append_X0_setByte : GoodIn wsX0_append wsX0_setByte := goodIn_r _ [10, 11, 25, 26, 27, 28] (by decide +kernel) (by decide +kernel)
set_option maxRecDepth 20000 in
theorem gX0_append_X0_setByte : GoodIn wsX0_append (wsV RX0 39 RX0 yX0_setByte wsX0_setByte) := goodIn_app (goodIn_of _ (by decide +kernel)) ggX0_append_X0_setByte
set_option maxRecDepth 20000 in
theorem ggX0_append_X0_setInt : GoodIn wsX0_append wsX0_setInt := goodIn_r _ [15, 7, 8, 9, 5, 10, 11, 25, 26, 27, 28] (by decide +kernel) (by decide +kernel)
set_option maxRecDepth 20000 in
theorem gX0_append_X0_setInt : GoodIn wsX0_append (wsV RX0 43 RX0 yX0_setInt wsX0_setInt) := goodIn_app (goodIn_of _ (by decide +kernel)) ggX0_append_X0_setInt
set_option maxRecDepth 20000 in
theorem ggX0_append_X0_checksumAt : GoodIn wsX0_append wsX0_checksumAt := goodIn_r _ [19, 20, 21, 22, 23, 5, 24, 11, 25, 26, 27, 28] (by decide +kernel) (by decide +kernel)
set_option maxRecDepth 20000 in
theorem gX0_append_X0_checksumAt : GoodIn wsX0_append (wsV RX0 46 RX0 yX0_checksumAt wsX0_checksumAt) := goodIn_app (goodIn_of _ (by decide +kernel)) ggX0_append_X0_checksumAt
theorem dX0_append_0 : decode cX0_append 0 = .ok (.aload_n 0, 1) := by decide +kernel
theorem dX0_append_1 : decode cX0_append 1 = .ok (.invokevirtual 35, 3) := by decide +kernel
theorem dX0_append_4 : decode cX0_append 4 = .ok (.ifCond .eq 4, 3) := by decide +kernel
theorem dX0_append_7 : decode cX0_append 7 = .ok (.return_, 1) := by decide +kernel
theorem dX0_append_8 : decode cX0_append 8 = .ok (.aload_n 0, 1) := by decide +kernel
theorem dX0_append_9 : decode cX0_append 9 = .ok (.aload_n 0, 1) := by decide +kernel
theorem dX0_append_10 : decode cX0_append 10 = .ok (.getfield 18, 3) := by decide +kernel
theorem dX0_append_13 : decode cX0_append 13 = .ok (.iload_n 1, 1) := by decide +kernel
theorem dX0_append_14 : decode cX0_append 14 = .ok (.invokevirtual 39, 3) := by decide +kernel
theorem dX0_append_17 : decode cX0_append 17 = .ok (.aload_n 0, 1) := by decide +kernel
theorem dX0_append_18 : decode cX0_append 18 = .ok (.aload_n 0, 1) := by decide +kernel
theorem dX0_append_19 : decode cX0_append 19 = .ok (.getfield 18, 3) := by decide +kernel
theorem dX0_append_22 : decode cX0_append 22 = .ok (.iconst 1, 1) := by decide +kernel
theorem dX0_append_23 : decode cX0_append 23 = .ok (.iadd, 1) := by decide +kernel
theorem dX0_append_24 : decode cX0_append 24 = .ok (.iload_n 2, 1) := by decide +kernel
theorem dX0_append_25 : decode cX0_append 25 = .ok (.invokevirtual 39, 3) := by decide +kernel
theorem dX0_append_28 : decode cX0_append 28 = .ok (.aload_n 0, 1) := by decide +kernel
theorem dX0_append_29 : decode cX0_append 29 = .ok (.aload_n 0, 1) := by decide +kernel
theorem dX0_append_30 : decode cX0_append 30 = .ok (.getfield 18, 3) := by decide +kernel
theorem dX0_append_33 : decode cX0_append 33 = .ok (.iconst 2, 1) := by decide +kernel
theorem dX0_append_34 : decode cX0_append 34 = .ok (.iadd, 1) := by decide +kernel
theorem dX0_append_35 : decode cX0_append 35 = .ok (.iload_n 3, 1) := by decide +kernel
theorem dX0_append_36 : decode cX0_append 36 = .ok (.bipush 8, 2) := by decide +kernel
theorem dX0_append_38 : decode cX0_append 38 = .ok (.iushr, 1) := by decide +kernel
theorem dX0_append_39 : decode cX0_append 39 = .ok (.invokevirtual 39, 3) := by decide +kernel
theorem dX0_append_42 : decode cX0_append 42 = .ok (.aload_n 0, 1) := by decide +kernel
theorem dX0_append_43 : decode cX0_append 43 = .ok (.aload_n 0, 1) := by decide +kernel
theorem dX0_append_44 : decode cX0_append 44 = .ok (.getfield 18, 3) := by decide +kernel
theorem dX0_append_47 : decode cX0_append 47 = .ok (.iconst 2, 1) := by decide +kernel
theorem dX0_append_48 : decode cX0_append 48 = .ok (.iadd, 1) := by decide +kernel
theorem dX0_append_49 : decode cX0_append 49 = .ok (.iconst 1, 1) := by decide +kernel
theorem dX0_append_50 : decode cX0_append 50 = .ok (.iadd, 1) := by decide +kernel
theorem dX0_append_51 : decode cX0_append 51 = .ok (.iload_n 3, 1) := by decide +kernel
theorem dX0_append_52 : decode cX0_append 52 = .ok (.invokevirtual 39, 3) := by decide +kernel
theorem dX0_append_55 : decode cX0_append 55 = .ok (.aload_n 0, 1) := by decide +kernel
theorem dX0_append_56 : decode cX0_append 56 = .ok (.aload_n 0, 1) := by decide +kernel
theorem dX0_append_57 : decode cX0_append 57 = .ok (.getfield 18, 3) := by decide +kernel
theorem dX0_append_60 : decode cX0_append 60 = .ok (.iconst 4, 1) := by decide +kernel
theorem dX0_append_61 : decode cX0_append 61 = .ok (.iadd, 1) := by decide +kernel
theorem dX0_append_62 : decode cX0_append 62 = .ok (.iload 4, 2) := by decide +kernel
theorem dX0_append_64 : decode cX0_append 64 = .ok (.invokevirtual 43, 3) := by decide +kernel
theorem dX0_append_67 : decode cX0_append 67 = .ok (.aload_n 0, 1) := by decide +kernel
theorem dX0_append_68 : decode cX0_append 68 = .ok (.aload_n 0, 1) := by decide +kernel
theorem dX0_append_69 : decode cX0_append 69 = .ok (.getfield 18, 3) := by decide +kernel
theorem dX0_append_72 : decode cX0_append 72 = .ok (.bipush 8, 2) := by decide +kernel
theorem dX0_append_74 : decode cX0_append 74 = .ok (.iadd, 1) := by decide +kernel
theorem dX0_append_75 : decode cX0_append 75 = .ok (.aload_n 0, 1) := by decide +kernel
theorem dX0_append_76 : decode cX0_append 76 = .ok (.getfield 18, 3) := by decide +kernel
theorem dX0_append_79 : decode cX0_append 79 = .ok (.invokevirtual 43, 3) := by decide +kernel
theorem dX0_append_82 : decode cX0_append 82 = .ok (.aload_n 0, 1) := by decide +kernel
theorem dX0_append_83 : decode cX0_append 83 = .ok (.aload_n 0, 1) := by decide +kernel
theorem dX0_append_84 : decode cX0_append 84 = .ok (.getfield 18, 3) := by decide +kernel
theorem dX0_append_87 : decode cX0_append 87 = .ok (.bipush 12, 2) := by decide +kernel
theorem dX0_append_89 : decode cX0_append 89 = .ok (.iadd, 1) := by decide +kernel
theorem dX0_append_90 : decode cX0_append 90 = .ok (.aload_n 0, 1) := by decide +kernel
theorem dX0_append_91 : decode cX0_append 91 = .ok (.aload_n 0, 1) := by decide +kernel
theorem dX0_append_92 : decode cX0_append 92 = .ok (.getfield 18, 3) := by decide +kernel
theorem dX0_append_95 : decode cX0_append 95 = .ok (.invokevirtual 46, 3) := by decide +kernel
theorem dX0_append_98 : decode cX0_append 98 = .ok (.invokevirtual 43, 3) := by decide +kernel
theorem dX0_append_101 : decode cX0_append 101 = .ok (.aload_n 0, 1) := by decide +kernel
theorem dX0_append_102 : decode cX0_append 102 = .ok (.dup, 1) := by decide +kernel
theorem dX0_append_103 : decode cX0_append 103 = .ok (.getfield 18, 3) := by decide +kernel
theorem dX0_append_106 : decode cX0_append 106 = .ok (.bipush 16, 2) := by decide +kernel
theorem dX0_append_108 : decode cX0_append 108 = .ok (.iadd, 1) := by decide +kernel
theorem dX0_append_109 : decode cX0_append 109 = .ok (.putfield 18, 3) := by decide +kernel
theorem dX0_append_112 : decode cX0_append 112 = .ok (.return_, 1) := by decide +kernel
set_option maxRecDepth 20000 in
theorem ggX0_sync_X0_saveFirst : GoodIn wsX0_sync wsX0_saveFirst := goodIn_r _ [7, 1, 2, 8, 9, 10, 11, 12, 13, 14, 15, 6, 16, 17, 18, 19, 20, 21, 22, 23, 24] (by decide +kernel) (by decide +kernel)
set_option maxRecDepth 20000 in
theorem gX0_sync_X0_saveFirst : GoodIn wsX0_sync (wsV RX0 49 RX0 yX0_saveFirst wsX0_saveFirst) := goodIn_app (goodIn_of _ (by decide +kernel)) ggX0_sync_X0_saveFirst
theorem dX0_sync_0 : decode cX0_sync 0 = .ok (.aload_n 0, 1) := by decide +kernel
theorem dX0_sync_1 : decode cX0_sync 1 = .ok (.aload_n 0, 1) := by decide +kernel
theorem dX0_sync_2 : decode cX0_sync 2 = .ok (.getfield 18, 3) := by decide +kernel
theorem dX0_sync_5 : decode cX0_sync 5 = .ok (.aload_n 0, 1) := by decide +kernel
theorem dX0_sync_6 : decode cX0_sync 6 = .ok (.getfield 22, 3) := by decide +kernel
theorem dX0_sync_9 : decode cX0_sync 9 = .ok (.isub, 1) := by decide +kernel
theorem dX0_sync_10 : decode cX0_sync 10 = .ok (.invokevirtual 49, 3) := by decide +kernel
theorem dX0_sync_13 : decode cX0_sync 13 = .ok (.pop, 1) := by decide +kernel
theorem dX0_sync_14 : decode cX0_sync 14 = .ok (.aload_n 0, 1) := by decide +kernel
theorem dX0_sync_15 : decode cX0_sync 15 = .ok (.aload_n 0, 1) := by decide +kernel
theorem dX0_sync_16 : decode cX0_sync 16 = .ok (.getfield 18, 3) := by decide +kernel
theorem dX0_sync_19 : decode cX0_sync 19 = .ok (.putfield 22, 3) := by decide +kernel
theorem dX0_sync_22 : decode cX0_sync 22 = .ok (.return_, 1) := by decide +kernel
set_option maxRecDepth 20000 in
theorem ggX0_saveFirst_X0_copy : GoodIn wsX0_saveFirst wsX0_copy := goodIn_r _ [12, 13, 14, 15, 16] (by decide +kernel) (by decide +kernel)
set_option maxRecDepth 20000 in
theorem gX0_saveFirst_X0_copy : GoodIn wsX0_saveFirst (va_wsS RX0 58 yX0_copy wsX0_copy) := goodIn_app (goodIn_of _ (by decide +kernel)) ggX0_saveFirst_X0_copy
theorem dX0_saveFirst_0 : decode cX0_saveFirst 0 = .ok (.iload_n 1, 1) := by decide +kernel
theorem dX0_saveFirst_1 : decode cX0_saveFirst 1 = .ok (.aload_n 0, 1) := by decide +kernel
theorem dX0_saveFirst_2 : decode cX0_saveFirst 2 = .ok (.getfield 18, 3) := by decide +kernel
theorem dX0_saveFirst_5 : decode cX0_saveFirst 5 = .ok (.aload_n 0, 1) := by decide +kernel
theorem dX0_saveFirst_6 : decode cX0_saveFirst 6 = .ok (.getfield 22, 3) := by decide +kernel
theorem dX0_saveFirst_9 : decode cX0_saveFirst 9 = .ok (.isub, 1) := by decide +kernel
theorem dX0_saveFirst_10 : decode cX0_saveFirst 10 = .ok (.invokestatic 52, 3) := by decide +kernel
theorem dX0_saveFirst_13 : decode cX0_saveFirst 13 = .ok (.istore_n 2, 1) := by decide +kernel
theorem dX0_saveFirst_14 : decode cX0_saveFirst 14 = .ok (.aload_n 0, 1) := by decide +kernel
theorem dX0_saveFirst_15 : decode cX0_saveFirst 15 = .ok (.getfield 9, 3) := by decide +kernel
theorem dX0_saveFirst_18 : decode cX0_saveFirst 18 = .ok (.aload_n 0, 1) := by decide +kernel
theorem dX0_saveFirst_19 : decode cX0_saveFirst 19 = .ok (.getfield 15, 3) := by decide +kernel
theorem dX0_saveFirst_22 : decode cX0_saveFirst 22 = .ok (.aload_n 0, 1) := by decide +kernel
theorem dX0_saveFirst_23 : decode cX0_saveFirst 23 = .ok (.getfield 22, 3) := by decide +kernel
theorem dX0_saveFirst_26 : decode cX0_saveFirst 26 = .ok (.iload_n 2, 1) := by decide +kernel
theorem dX0_saveFirst_27 : decode cX0_saveFirst 27 = .ok (.invokestatic 58, 3) := by decide +kernel
theorem dX0_saveFirst_30 : decode cX0_saveFirst 30 = .ok (.iload_n 2, 1) := by decide +kernel
theorem dX0_saveFirst_31 : decode cX0_saveFirst 31 = .ok (.ireturn, 1) := by decide +kernel
set_option maxRecDepth 20000 in
theorem ggX0_loadFromDisk_X0_copy : GoodIn wsX0_loadFromDisk wsX0_copy := goodIn_r _ [8, 9, 10, 11, 12] (by decide +kernel) (by decide +kernel)
set_option maxRecDepth 20000 in
theorem gX0_loadFromDisk_X0_copy : GoodIn wsX0_loadFromDisk (va_wsS RX0 58 yX0_copy wsX0_copy) := goodIn_app (goodIn_of _ (by decide +kernel)) ggX0_loadFromDisk_X0_copy
set_option maxRecDepth 20000 in
theorem ggX0_loadFromDisk_X0_lastTimeline : GoodIn wsX0_loadFromDisk wsX0_lastTimeline := goodIn_r _ [16, 3, 17, 18, 19, 7, 20, 21, 22, 23, 24, 2, 42, 43, 44, 45] (by decide +kernel) (by decide +kernel)
set_option maxRecDepth 20000 in
theorem gX0_loadFromDisk_X0_lastTimeline : GoodIn wsX0_loadFromDisk (wsV RX0 62 RX0 yX0_lastTimeline wsX0_lastTimeline) := goodIn_app (goodIn_of _ (by decide +kernel)) ggX0_loadFromDisk_X0_lastTimeline
set_option maxRecDepth 20000 in
theorem ggX0_loadFromDisk_X0_hasGoodRecord : GoodIn wsX0_loadFromDisk wsX0_hasGoodRecord := goodIn_r _ [28, 29, 30, 31, 7, 32, 21, 22, 23, 24, 2, 17, 18, 19, 20, 33, 34, 35, 36, 37, 38, 39, 40, 41, 42, 43, 44, 45] (by decide +kernel) (by decide +kernel)
set_option maxRecDepth 20000 in
theorem gX0_loadFromDisk_X0_hasGoodRecord : GoodIn wsX0_loadFromDisk (wsV RX0 66 RX0 yX0_hasGoodRecord wsX0_hasGoodRecord) := goodIn_app (goodIn_of _ (by decide +kernel)) ggX0_loadFromDisk_X0_hasGoodRecord
theorem dX0_loadFromDisk_0 : decode cX0_loadFromDisk 0 = .ok (.aload_n 0, 1) := by decide +kernel
theorem dX0_loadFromDisk_1 : decode cX0_loadFromDisk 1 = .ok (.getfield 15, 3) := by decide +kernel
theorem dX0_loadFromDisk_4 : decode cX0_loadFromDisk 4 = .ok (.aload_n 0, 1) := by decide +kernel
theorem dX0_loadFromDisk_5 : decode cX0_loadFromDisk 5 = .ok (.getfield 9, 3) := by decide +kernel
theorem dX0_loadFromDisk_8 : decode cX0_loadFromDisk 8 = .ok (.iconst 0, 1) := by decide +kernel
theorem dX0_loadFromDisk_9 : decode cX0_loadFromDisk 9 = .ok (.sipush 4096, 3) := by decide +kernel
theorem dX0_loadFromDisk_12 : decode cX0_loadFromDisk 12 = .ok (.invokestatic 58, 3) := by decide +kernel
theorem dX0_loadFromDisk_15 : decode cX0_loadFromDisk 15 = .ok (.aload_n 0, 1) := by decide +kernel
theorem dX0_loadFromDisk_16 : decode cX0_loadFromDisk 16 = .ok (.iconst 0, 1) := by decide +kernel
theorem dX0_loadFromDisk_17 : decode cX0_loadFromDisk 17 = .ok (.putfield 18, 3) := by decide +kernel
theorem dX0_loadFromDisk_20 : decode cX0_loadFromDisk 20 = .ok (.aload_n 0, 1) := by decide +kernel
theorem dX0_loadFromDisk_21 : decode cX0_loadFromDisk 21 = .ok (.getfield 18, 3) := by decide +kernel
theorem dX0_loadFromDisk_24 : decode cX0_loadFromDisk 24 = .ok (.sipush 4096, 3) := by decide +kernel
theorem dX0_loadFromDisk_27 : decode cX0_loadFromDisk 27 = .ok (.if_icmp .ge 32, 3) := by decide +kernel
theorem dX0_loadFromDisk_30 : decode cX0_loadFromDisk 30 = .ok (.aload_n 0, 1) := by decide +kernel
theorem dX0_loadFromDisk_31 : decode cX0_loadFromDisk 31 = .ok (.aload_n 0, 1) := by decide +kernel
theorem dX0_loadFromDisk_32 : decode cX0_loadFromDisk 32 = .ok (.getfield 18, 3) := by decide +kernel
theorem dX0_loadFromDisk_35 : decode cX0_loadFromDisk 35 = .ok (.aload_n 0, 1) := by decide +kernel
theorem dX0_loadFromDisk_36 : decode cX0_loadFromDisk 36 = .ok (.invokevirtual 62, 3) := by decide +kernel
theorem dX0_loadFromDisk_39 : decode cX0_loadFromDisk 39 = .ok (.invokevirtual 66, 3) := by decide +kernel
theorem dX0_loadFromDisk_42 : decode cX0_loadFromDisk 42 = .ok (.ifCond .eq 17, 3) := by decide +kernel
theorem dX0_loadFromDisk_45 : decode cX0_loadFromDisk 45 = .ok (.aload_n 0, 1) := by decide +kernel
theorem dX0_loadFromDisk_46 : decode cX0_loadFromDisk 46 = .ok (.dup, 1) := by decide +kernel
theorem dX0_loadFromDisk_47 : decode cX0_loadFromDisk 47 = .ok (.getfield 18, 3) := by decide +kernel
theorem dX0_loadFromDisk_50 : decode cX0_loadFromDisk 50 = .ok (.bipush 16, 2) := by decide +kernel
theorem dX0_loadFromDisk_52 : decode cX0_loadFromDisk 52 = .ok (.iadd, 1) := by decide +kernel
theorem dX0_loadFromDisk_53 : decode cX0_loadFromDisk 53 = .ok (.putfield 18, 3) := by decide +kernel
theorem dX0_loadFromDisk_56 : decode cX0_loadFromDisk 56 = .ok (.goto (-36), 3) := by decide +kernel
theorem dX0_loadFromDisk_59 : decode cX0_loadFromDisk 59 = .ok (.aload_n 0, 1) := by decide +kernel
theorem dX0_loadFromDisk_60 : decode cX0_loadFromDisk 60 = .ok (.aload_n 0, 1) := by decide +kernel
theorem dX0_loadFromDisk_61 : decode cX0_loadFromDisk 61 = .ok (.getfield 18, 3) := by decide +kernel
theorem dX0_loadFromDisk_64 : decode cX0_loadFromDisk 64 = .ok (.putfield 22, 3) := by decide +kernel
theorem dX0_loadFromDisk_67 : decode cX0_loadFromDisk 67 = .ok (.return_, 1) := by decide +kernel
set_option maxRecDepth 20000 in
theorem ggX0_receive_X0_copy : GoodIn wsX0_receive wsX0_copy := goodIn_r _ [6, 7, 8, 9, 10] (by decide +kernel) (by decide +kernel)
set_option maxRecDepth 20000 in
theorem gX0_receive_X0_copy : GoodIn wsX0_receive (va_wsS RX0 58 yX0_copy wsX0_copy) := goodIn_app (goodIn_of _ (by decide +kernel)) ggX0_receive_X0_copy
set_option maxRecDepth 20000 in
theorem ggX0_receive_X0_sync : GoodIn wsX0_receive wsX0_sync := goodIn_r _ [14, 1, 15, 16, 17, 18, 5, 19, 20, 21, 22, 23, 2, 24, 3, 4, 6, 7, 8, 9, 10, 25, 26, 27, 28] (by decide +kernel) (by decide +kernel)
set_option maxRecDepth 20000 in
theorem gX0_receive_X0_sync : GoodIn wsX0_receive (wsV RX0 70 RX0 yX0_sync wsX0_sync) := goodIn_app (goodIn_of _ (by decide +kernel)) ggX0_receive_X0_sync
theorem dX0_receive_0 : decode cX0_receive 0 = .ok (.iload_n 2, 1) := by decide +kernel
theorem dX0_receive_1 : decode cX0_receive 1 = .ok (.aload_n 0, 1) := by decide +kernel
theorem dX0_receive_2 : decode cX0_receive 2 = .ok (.getfield 18, 3) := by decide +kernel
theorem dX0_receive_5 : decode cX0_receive 5 = .ok (.if_icmp .ne 19, 3) := by decide +kernel
theorem dX0_receive_8 : decode cX0_receive 8 = .ok (.iload_n 3, 1) := by decide +kernel
theorem dX0_receive_9 : decode cX0_receive 9 = .ok (.ifCond .lt 15, 3) := by decide +kernel
theorem dX0_receive_12 : decode cX0_receive 12 = .ok (.iload_n 3, 1) := by decide +kernel
theorem dX0_receive_13 : decode cX0_receive 13 = .ok (.sipush 4096, 3) := by decide +kernel
theorem dX0_receive_16 : decode cX0_receive 16 = .ok (.aload_n 0, 1) := by decide +kernel
theorem dX0_receive_17 : decode cX0_receive 17 = .ok (.getfield 18, 3) := by decide +kernel
theorem dX0_receive_20 : decode cX0_receive 20 = .ok (.isub, 1) := by decide +kernel
theorem dX0_receive_21 : decode cX0_receive 21 = .ok (.if_icmp .le 4, 3) := by decide +kernel
theorem dX0_receive_24 : decode cX0_receive 24 = .ok (.return_, 1) := by decide +kernel
theorem dX0_receive_25 : decode cX0_receive 25 = .ok (.aload_n 1, 1) := by decide +kernel
theorem dX0_receive_26 : decode cX0_receive 26 = .ok (.getfield 9, 3) := by decide +kernel
theorem dX0_receive_29 : decode cX0_receive 29 = .ok (.aload_n 0, 1) := by decide +kernel
theorem dX0_receive_30 : decode cX0_receive 30 = .ok (.getfield 9, 3) := by decide +kernel
theorem dX0_receive_33 : decode cX0_receive 33 = .ok (.aload_n 0, 1) := by decide +kernel
theorem dX0_receive_34 : decode cX0_receive 34 = .ok (.getfield 18, 3) := by decide +kernel
theorem dX0_receive_37 : decode cX0_receive 37 = .ok (.iload_n 3, 1) := by decide +kernel
theorem dX0_receive_38 : decode cX0_receive 38 = .ok (.invokestatic 58, 3) := by decide +kernel
theorem dX0_receive_41 : decode cX0_receive 41 = .ok (.aload_n 0, 1) := by decide +kernel
theorem dX0_receive_42 : decode cX0_receive 42 = .ok (.dup, 1) := by decide +kernel
theorem dX0_receive_43 : decode cX0_receive 43 = .ok (.getfield 18, 3) := by decide +kernel
theorem dX0_receive_46 : decode cX0_receive 46 = .ok (.iload_n 3, 1) := by decide +kernel
theorem dX0_receive_47 : decode cX0_receive 47 = .ok (.iadd, 1) := by decide +kernel
theorem dX0_receive_48 : decode cX0_receive 48 = .ok (.putfield 18, 3) := by decide +kernel
theorem dX0_receive_51 : decode cX0_receive 51 = .ok (.aload_n 0, 1) := by decide +kernel
theorem dX0_receive_52 : decode cX0_receive 52 = .ok (.invokevirtual 70, 3) := by decide +kernel
theorem dX0_receive_55 : decode cX0_receive 55 = .ok (.return_, 1) := by decide +kernel
set_option maxRecDepth 20000 in
theorem ggX0_isBeginningOf_X0_sharedWith : GoodIn wsX0_isBeginningOf wsX0_sharedWith := goodIn_r _ [6, 1, 7, 8, 9, 10, 11, 12, 13, 5, 14, 15, 16, 17, 18, 19, 20, 21, 22, 23] (by decide +kernel) (by decide +kernel)
set_option maxRecDepth 20000 in
theorem gX0_isBeginningOf_X0_sharedWith : GoodIn wsX0_isBeginningOf (wsV RX0 73 RX0 yX0_sharedWith wsX0_sharedWith) := goodIn_app (goodIn_of _ (by decide +kernel)) ggX0_isBeginningOf_X0_sharedWith
theorem dX0_isBeginningOf_0 : decode cX0_isBeginningOf 0 = .ok (.aload_n 0, 1) := by decide +kernel
theorem dX0_isBeginningOf_1 : decode cX0_isBeginningOf 1 = .ok (.aload_n 1, 1) := by decide +kernel
theorem dX0_isBeginningOf_2 : decode cX0_isBeginningOf 2 = .ok (.invokevirtual 73, 3) := by decide +kernel
theorem dX0_isBeginningOf_5 : decode cX0_isBeginningOf 5 = .ok (.aload_n 0, 1) := by decide +kernel
theorem dX0_isBeginningOf_6 : decode cX0_isBeginningOf 6 = .ok (.getfield 18, 3) := by decide +kernel
theorem dX0_isBeginningOf_9 : decode cX0_isBeginningOf 9 = .ok (.if_icmp .ne 7, 3) := by decide +kernel
theorem dX0_isBeginningOf_12 : decode cX0_isBeginningOf 12 = .ok (.iconst 1, 1) := by decide +kernel
theorem dX0_isBeginningOf_13 : decode cX0_isBeginningOf 13 = .ok (.goto 4, 3) := by decide +kernel
theorem dX0_isBeginningOf_16 : decode cX0_isBeginningOf 16 = .ok (.iconst 0, 1) := by decide +kernel
theorem dX0_isBeginningOf_17 : decode cX0_isBeginningOf 17 = .ok (.ireturn, 1) := by decide +kernel
set_option maxRecDepth 20000 in
theorem ggX0_sharedWith_X0_hasRecordOf : GoodIn wsX0_sharedWith wsX0_hasRecordOf := goodIn_r _ [10, 11, 12, 13, 9, 14, 15, 16, 17, 18, 19] (by decide +kernel) (by decide +kernel)
set_option maxRecDepth 20000 in
theorem gX0_sharedWith_X0_hasRecordOf : GoodIn wsX0_sharedWith (wsV RX0 77 RX0 yX0_hasRecordOf wsX0_hasRecordOf) := goodIn_app (goodIn_of _ (by decide +kernel)) ggX0_sharedWith_X0_hasRecordOf
theorem dX0_sharedWith_0 : decode cX0_sharedWith 0 = .ok (.aload_n 0, 1) := by decide +kernel
theorem dX0_sharedWith_1 : decode cX0_sharedWith 1 = .ok (.getfield 18, 3) := by decide +kernel
theorem dX0_sharedWith_4 : decode cX0_sharedWith 4 = .ok (.aload_n 1, 1) := by decide +kernel
theorem dX0_sharedWith_5 : decode cX0_sharedWith 5 = .ok (.getfield 18, 3) := by decide +kernel
theorem dX0_sharedWith_8 : decode cX0_sharedWith 8 = .ok (.invokestatic 52, 3) := by decide +kernel
theorem dX0_sharedWith_11 : decode cX0_sharedWith 11 = .ok (.istore_n 2, 1) := by decide +kernel
theorem dX0_sharedWith_12 : decode cX0_sharedWith 12 = .ok (.iconst 0, 1) := by decide +kernel
theorem dX0_sharedWith_13 : decode cX0_sharedWith 13 = .ok (.istore_n 3, 1) := by decide +kernel
theorem dX0_sharedWith_14 : decode cX0_sharedWith 14 = .ok (.iload_n 3, 1) := by decide +kernel
theorem dX0_sharedWith_15 : decode cX0_sharedWith 15 = .ok (.iload_n 2, 1) := by decide +kernel
theorem dX0_sharedWith_16 : decode cX0_sharedWith 16 = .ok (.if_icmp .ge 18, 3) := by decide +kernel
theorem dX0_sharedWith_19 : decode cX0_sharedWith 19 = .ok (.aload_n 0, 1) := by decide +kernel
theorem dX0_sharedWith_20 : decode cX0_sharedWith 20 = .ok (.aload_n 1, 1) := by decide +kernel
theorem dX0_sharedWith_21 : decode cX0_sharedWith 21 = .ok (.iload_n 3, 1) := by decide +kernel
theorem dX0_sharedWith_22 : decode cX0_sharedWith 22 = .ok (.invokevirtual 77, 3) := by decide +kernel
theorem dX0_sharedWith_25 : decode cX0_sharedWith 25 = .ok (.ifCond .eq 9, 3) := by decide +kernel
theorem dX0_sharedWith_28 : decode cX0_sharedWith 28 = .ok (.iinc 3 16, 3) := by decide +kernel
theorem dX0_sharedWith_31 : decode cX0_sharedWith 31 = .ok (.goto (-17), 3) := by decide +kernel
theorem dX0_sharedWith_34 : decode cX0_sharedWith 34 = .ok (.iload_n 3, 1) := by decide +kernel
theorem dX0_sharedWith_35 : decode cX0_sharedWith 35 = .ok (.ireturn, 1) := by decide +kernel
set_option maxRecDepth 20000 in
theorem ggX0_cutTo_X0_setByte : GoodIn wsX0_cutTo wsX0_setByte := goodIn_r _ [9, 3, 17, 18, 19, 20] (by decide +kernel) (by decide +kernel)
set_option maxRecDepth 20000 in
theorem gX0_cutTo_X0_setByte : GoodIn wsX0_cutTo (wsV RX0 39 RX0 yX0_setByte wsX0_setByte) := goodIn_app (goodIn_of _ (by decide +kernel)) ggX0_cutTo_X0_setByte
set_option maxRecDepth 20000 in
theorem ggX0_cutTo_X0_copy : GoodIn wsX0_cutTo wsX0_copy := goodIn_r _ [12, 13, 14, 15, 16] (by decide +kernel) (by decide +kernel)
set_option maxRecDepth 20000 in
theorem gX0_cutTo_X0_copy : GoodIn wsX0_cutTo (va_wsS RX0 58 yX0_copy wsX0_copy) := goodIn_app (goodIn_of _ (by decide +kernel)) ggX0_cutTo_X0_copy
theorem dX0_cutTo_0 : decode cX0_cutTo 0 = .ok (.iload_n 1, 1) := by decide +kernel
theorem dX0_cutTo_1 : decode cX0_cutTo 1 = .ok (.ifCond .lt 11, 3) := by decide +kernel
theorem dX0_cutTo_4 : decode cX0_cutTo 4 = .ok (.iload_n 1, 1) := by decide +kernel
theorem dX0_cutTo_5 : decode cX0_cutTo 5 = .ok (.aload_n 0, 1) := by decide +kernel
theorem dX0_cutTo_6 : decode cX0_cutTo 6 = .ok (.getfield 18, 3) := by decide +kernel
theorem dX0_cutTo_9 : decode cX0_cutTo 9 = .ok (.if_icmp .le 4, 3) := by decide +kernel
theorem dX0_cutTo_12 : decode cX0_cutTo 12 = .ok (.return_, 1) := by decide +kernel
theorem dX0_cutTo_13 : decode cX0_cutTo 13 = .ok (.aload_n 0, 1) := by decide +kernel
theorem dX0_cutTo_14 : decode cX0_cutTo 14 = .ok (.iload_n 1, 1) := by decide +kernel
theorem dX0_cutTo_15 : decode cX0_cutTo 15 = .ok (.putfield 18, 3) := by decide +kernel
theorem dX0_cutTo_18 : decode cX0_cutTo 18 = .ok (.aload_n 0, 1) := by decide +kernel
theorem dX0_cutTo_19 : decode cX0_cutTo 19 = .ok (.iload_n 1, 1) := by decide +kernel
theorem dX0_cutTo_20 : decode cX0_cutTo 20 = .ok (.putfield 22, 3) := by decide +kernel
theorem dX0_cutTo_23 : decode cX0_cutTo 23 = .ok (.iload_n 1, 1) := by decide +kernel
theorem dX0_cutTo_24 : decode cX0_cutTo 24 = .ok (.istore_n 2, 1) := by decide +kernel
theorem dX0_cutTo_25 : decode cX0_cutTo 25 = .ok (.iload_n 2, 1) := by decide +kernel
theorem dX0_cutTo_26 : decode cX0_cutTo 26 = .ok (.sipush 4096, 3) := by decide +kernel
theorem dX0_cutTo_29 : decode cX0_cutTo 29 = .ok (.if_icmp .ge 15, 3) := by decide +kernel
theorem dX0_cutTo_32 : decode cX0_cutTo 32 = .ok (.aload_n 0, 1) := by decide +kernel
theorem dX0_cutTo_33 : decode cX0_cutTo 33 = .ok (.iload_n 2, 1) := by decide +kernel
theorem dX0_cutTo_34 : decode cX0_cutTo 34 = .ok (.iconst 0, 1) := by decide +kernel
theorem dX0_cutTo_35 : decode cX0_cutTo 35 = .ok (.invokevirtual 39, 3) := by decide +kernel
theorem dX0_cutTo_38 : decode cX0_cutTo 38 = .ok (.iinc 2 1, 3) := by decide +kernel
theorem dX0_cutTo_41 : decode cX0_cutTo 41 = .ok (.goto (-16), 3) := by decide +kernel
theorem dX0_cutTo_44 : decode cX0_cutTo 44 = .ok (.aload_n 0, 1) := by decide +kernel
theorem dX0_cutTo_45 : decode cX0_cutTo 45 = .ok (.getfield 9, 3) := by decide +kernel
theorem dX0_cutTo_48 : decode cX0_cutTo 48 = .ok (.aload_n 0, 1) := by decide +kernel
theorem dX0_cutTo_49 : decode cX0_cutTo 49 = .ok (.getfield 15, 3) := by decide +kernel
theorem dX0_cutTo_52 : decode cX0_cutTo 52 = .ok (.iconst 0, 1) := by decide +kernel
theorem dX0_cutTo_53 : decode cX0_cutTo 53 = .ok (.sipush 4096, 3) := by decide +kernel
theorem dX0_cutTo_56 : decode cX0_cutTo 56 = .ok (.invokestatic 58, 3) := by decide +kernel
theorem dX0_cutTo_59 : decode cX0_cutTo 59 = .ok (.return_, 1) := by decide +kernel
theorem dX0_copy_0 : decode cX0_copy 0 = .ok (.iload_n 2, 1) := by decide +kernel
theorem dX0_copy_1 : decode cX0_copy 1 = .ok (.ifCond .lt 24, 3) := by decide +kernel
theorem dX0_copy_4 : decode cX0_copy 4 = .ok (.iload_n 3, 1) := by decide +kernel
theorem dX0_copy_5 : decode cX0_copy 5 = .ok (.ifCond .le 20, 3) := by decide +kernel
theorem dX0_copy_8 : decode cX0_copy 8 = .ok (.iload_n 2, 1) := by decide +kernel
theorem dX0_copy_9 : decode cX0_copy 9 = .ok (.sipush 4096, 3) := by decide +kernel
theorem dX0_copy_12 : decode cX0_copy 12 = .ok (.iload_n 3, 1) := by decide +kernel
theorem dX0_copy_13 : decode cX0_copy 13 = .ok (.isub, 1) := by decide +kernel
theorem dX0_copy_14 : decode cX0_copy 14 = .ok (.if_icmp .gt 11, 3) := by decide +kernel
theorem dX0_copy_17 : decode cX0_copy 17 = .ok (.aload_n 0, 1) := by decide +kernel
theorem dX0_copy_18 : decode cX0_copy 18 = .ok (.iload_n 2, 1) := by decide +kernel
theorem dX0_copy_19 : decode cX0_copy 19 = .ok (.aload_n 1, 1) := by decide +kernel
theorem dX0_copy_20 : decode cX0_copy 20 = .ok (.iload_n 2, 1) := by decide +kernel
theorem dX0_copy_21 : decode cX0_copy 21 = .ok (.iload_n 3, 1) := by decide +kernel
theorem dX0_copy_22 : decode cX0_copy 22 = .ok (.invokestatic 81, 3) := by decide +kernel
theorem dX0_copy_25 : decode cX0_copy 25 = .ok (.return_, 1) := by decide +kernel
set_option maxRecDepth 20000 in
theorem ggX0_hasRecordOf_X0_byteOf : GoodIn wsX0_hasRecordOf wsX0_byteOf := goodIn_r _ [5, 6, 7, 8, 9, 10] (by decide +kernel) (by decide +kernel)
set_option maxRecDepth 20000 in
theorem gX0_hasRecordOf_X0_byteOf : GoodIn wsX0_hasRecordOf (wsV RX0 25 RX0 yX0_byteOf wsX0_byteOf) := goodIn_app (goodIn_of _ (by decide +kernel)) ggX0_hasRecordOf_X0_byteOf
theorem dX0_hasRecordOf_0 : decode cX0_hasRecordOf 0 = .ok (.iload_n 2, 1) := by decide +kernel
theorem dX0_hasRecordOf_1 : decode cX0_hasRecordOf 1 = .ok (.istore_n 3, 1) := by decide +kernel
theorem dX0_hasRecordOf_2 : decode cX0_hasRecordOf 2 = .ok (.iload_n 3, 1) := by decide +kernel
theorem dX0_hasRecordOf_3 : decode cX0_hasRecordOf 3 = .ok (.iload_n 2, 1) := by decide +kernel
theorem dX0_hasRecordOf_4 : decode cX0_hasRecordOf 4 = .ok (.bipush 16, 2) := by decide +kernel
theorem dX0_hasRecordOf_6 : decode cX0_hasRecordOf 6 = .ok (.iadd, 1) := by decide +kernel
theorem dX0_hasRecordOf_7 : decode cX0_hasRecordOf 7 = .ok (.if_icmp .ge 24, 3) := by decide +kernel
theorem dX0_hasRecordOf_10 : decode cX0_hasRecordOf 10 = .ok (.aload_n 0, 1) := by decide +kernel
theorem dX0_hasRecordOf_11 : decode cX0_hasRecordOf 11 = .ok (.iload_n 3, 1) := by decide +kernel
theorem dX0_hasRecordOf_12 : decode cX0_hasRecordOf 12 = .ok (.invokevirtual 25, 3) := by decide +kernel
theorem dX0_hasRecordOf_15 : decode cX0_hasRecordOf 15 = .ok (.aload_n 1, 1) := by decide +kernel
theorem dX0_hasRecordOf_16 : decode cX0_hasRecordOf 16 = .ok (.iload_n 3, 1) := by decide +kernel
theorem dX0_hasRecordOf_17 : decode cX0_hasRecordOf 17 = .ok (.invokevirtual 25, 3) := by decide +kernel
theorem dX0_hasRecordOf_20 : decode cX0_hasRecordOf 20 = .ok (.if_icmp .eq 5, 3) := by decide +kernel
theorem dX0_hasRecordOf_23 : decode cX0_hasRecordOf 23 = .ok (.iconst 0, 1) := by decide +kernel
theorem dX0_hasRecordOf_24 : decode cX0_hasRecordOf 24 = .ok (.ireturn, 1) := by decide +kernel
theorem dX0_hasRecordOf_25 : decode cX0_hasRecordOf 25 = .ok (.iinc 3 1, 3) := by decide +kernel
theorem dX0_hasRecordOf_28 : decode cX0_hasRecordOf 28 = .ok (.goto (-26), 3) := by decide +kernel
theorem dX0_hasRecordOf_31 : decode cX0_hasRecordOf 31 = .ok (.iconst 1, 1) := by decide +kernel
theorem dX0_hasRecordOf_32 : decode cX0_hasRecordOf 32 = .ok (.ireturn, 1) := by decide +kernel
set_option maxRecDepth 20000 in
theorem ggX0_hasGoodRecord_X0_kindAt : GoodIn wsX0_hasGoodRecord wsX0_kindAt := goodIn_r _ [5, 6, 7, 8, 4, 9, 10, 24, 25, 26, 27] (by decide +kernel) (by decide +kernel)
set_option maxRecDepth 20000 in
theorem gX0_hasGoodRecord_X0_kindAt : GoodIn wsX0_hasGoodRecord (wsV RX0 87 RX0 yX0_kindAt wsX0_kindAt) := goodIn_app (goodIn_of _ (by decide +kernel)) ggX0_hasGoodRecord_X0_kindAt
set_option maxRecDepth 20000 in
theorem ggX0_hasGoodRecord_X0_timelineAt : GoodIn wsX0_hasGoodRecord wsX0_timelineAt := goodIn_r _ [14, 6, 7, 8, 4, 9, 10, 24, 25, 26, 27] (by decide +kernel) (by decide +kernel)
set_option maxRecDepth 20000 in
theorem gX0_hasGoodRecord_X0_timelineAt : GoodIn wsX0_hasGoodRecord (wsV RX0 32 RX0 yX0_timelineAt wsX0_timelineAt) := goodIn_app (goodIn_of _ (by decide +kernel)) ggX0_hasGoodRecord_X0_timelineAt
set_option maxRecDepth 20000 in
theorem ggX0_hasGoodRecord_X0_intAt : GoodIn wsX0_hasGoodRecord wsX0_intAt := goodIn_r _ [18, 6, 7, 8, 4, 9, 10, 24, 25, 26, 27] (by decide +kernel) (by decide +kernel)
set_option maxRecDepth 20000 in
theorem gX0_hasGoodRecord_X0_intAt : GoodIn wsX0_hasGoodRecord (wsV RX0 29 RX0 yX0_intAt wsX0_intAt) := goodIn_app (goodIn_of _ (by decide +kernel)) ggX0_hasGoodRecord_X0_intAt
set_option maxRecDepth 20000 in
theorem ggX0_hasGoodRecord_X0_checksumAt : GoodIn wsX0_hasGoodRecord wsX0_checksumAt := goodIn_r _ [22, 23, 6, 7, 8, 4, 9, 10, 24, 25, 26, 27] (by decide +kernel) (by decide +kernel)
set_option maxRecDepth 20000 in
theorem gX0_hasGoodRecord_X0_checksumAt : GoodIn wsX0_hasGoodRecord (wsV RX0 46 RX0 yX0_checksumAt wsX0_checksumAt) := goodIn_app (goodIn_of _ (by decide +kernel)) ggX0_hasGoodRecord_X0_checksumAt
theorem dX0_hasGoodRecord_0 : decode cX0_hasGoodRecord 0 = .ok (.iload_n 1, 1) := by decide +kernel
theorem dX0_hasGoodRecord_1 : decode cX0_hasGoodRecord 1 = .ok (.ifCond .lt 10, 3) := by decide +kernel
theorem dX0_hasGoodRecord_4 : decode cX0_hasGoodRecord 4 = .ok (.iload_n 1, 1) := by decide +kernel
theorem dX0_hasGoodRecord_5 : decode cX0_hasGoodRecord 5 = .ok (.sipush 4080, 3) := by decide +kernel
theorem dX0_hasGoodRecord_8 : decode cX0_hasGoodRecord 8 = .ok (.if_icmp .le 5, 3) := by decide +kernel
theorem dX0_hasGoodRecord_11 : decode cX0_hasGoodRecord 11 = .ok (.iconst 0, 1) := by decide +kernel
theorem dX0_hasGoodRecord_12 : decode cX0_hasGoodRecord 12 = .ok (.ireturn, 1) := by decide +kernel
theorem dX0_hasGoodRecord_13 : decode cX0_hasGoodRecord 13 = .ok (.aload_n 0, 1) := by decide +kernel
theorem dX0_hasGoodRecord_14 : decode cX0_hasGoodRecord 14 = .ok (.iload_n 1, 1) := by decide +kernel
theorem dX0_hasGoodRecord_15 : decode cX0_hasGoodRecord 15 = .ok (.invokevirtual 87, 3) := by decide +kernel
theorem dX0_hasGoodRecord_18 : decode cX0_hasGoodRecord 18 = .ok (.istore_n 3, 1) := by decide +kernel
theorem dX0_hasGoodRecord_19 : decode cX0_hasGoodRecord 19 = .ok (.aload_n 0, 1) := by decide +kernel
theorem dX0_hasGoodRecord_20 : decode cX0_hasGoodRecord 20 = .ok (.iload_n 1, 1) := by decide +kernel
theorem dX0_hasGoodRecord_21 : decode cX0_hasGoodRecord 21 = .ok (.invokevirtual 32, 3) := by decide +kernel
theorem dX0_hasGoodRecord_24 : decode cX0_hasGoodRecord 24 = .ok (.istore 4, 2) := by decide +kernel
theorem dX0_hasGoodRecord_26 : decode cX0_hasGoodRecord 26 = .ok (.iload 4, 2) := by decide +kernel
theorem dX0_hasGoodRecord_28 : decode cX0_hasGoodRecord 28 = .ok (.iload_n 2, 1) := by decide +kernel
theorem dX0_hasGoodRecord_29 : decode cX0_hasGoodRecord 29 = .ok (.if_icmp .ne 7, 3) := by decide +kernel
theorem dX0_hasGoodRecord_32 : decode cX0_hasGoodRecord 32 = .ok (.iconst 1, 1) := by decide +kernel
theorem dX0_hasGoodRecord_33 : decode cX0_hasGoodRecord 33 = .ok (.goto 4, 3) := by decide +kernel
theorem dX0_hasGoodRecord_36 : decode cX0_hasGoodRecord 36 = .ok (.iconst 0, 1) := by decide +kernel
theorem dX0_hasGoodRecord_37 : decode cX0_hasGoodRecord 37 = .ok (.istore 5, 2) := by decide +kernel
theorem dX0_hasGoodRecord_39 : decode cX0_hasGoodRecord 39 = .ok (.iload 4, 2) := by decide +kernel
theorem dX0_hasGoodRecord_41 : decode cX0_hasGoodRecord 41 = .ok (.iload_n 2, 1) := by decide +kernel
theorem dX0_hasGoodRecord_42 : decode cX0_hasGoodRecord 42 = .ok (.if_icmp .le 12, 3) := by decide +kernel
theorem dX0_hasGoodRecord_45 : decode cX0_hasGoodRecord 45 = .ok (.iload_n 3, 1) := by decide +kernel
theorem dX0_hasGoodRecord_46 : decode cX0_hasGoodRecord 46 = .ok (.iconst 3, 1) := by decide +kernel
theorem dX0_hasGoodRecord_47 : decode cX0_hasGoodRecord 47 = .ok (.if_icmp .ne 7, 3) := by decide +kernel
theorem dX0_hasGoodRecord_50 : decode cX0_hasGoodRecord 50 = .ok (.iconst 1, 1) := by decide +kernel
theorem dX0_hasGoodRecord_51 : decode cX0_hasGoodRecord 51 = .ok (.goto 4, 3) := by decide +kernel
theorem dX0_hasGoodRecord_54 : decode cX0_hasGoodRecord 54 = .ok (.iconst 0, 1) := by decide +kernel
theorem dX0_hasGoodRecord_55 : decode cX0_hasGoodRecord 55 = .ok (.istore 6, 2) := by decide +kernel
theorem dX0_hasGoodRecord_57 : decode cX0_hasGoodRecord 57 = .ok (.iload_n 3, 1) := by decide +kernel
theorem dX0_hasGoodRecord_58 : decode cX0_hasGoodRecord 58 = .ok (.iconst 1, 1) := by decide +kernel
theorem dX0_hasGoodRecord_59 : decode cX0_hasGoodRecord 59 = .ok (.if_icmp .lt 50, 3) := by decide +kernel
theorem dX0_hasGoodRecord_62 : decode cX0_hasGoodRecord 62 = .ok (.iload_n 3, 1) := by decide +kernel
theorem dX0_hasGoodRecord_63 : decode cX0_hasGoodRecord 63 = .ok (.iconst 3, 1) := by decide +kernel
theorem dX0_hasGoodRecord_64 : decode cX0_hasGoodRecord 64 = .ok (.if_icmp .gt 45, 3) := by decide +kernel
theorem dX0_hasGoodRecord_67 : decode cX0_hasGoodRecord 67 = .ok (.iload 5, 2) := by decide +kernel
theorem dX0_hasGoodRecord_69 : decode cX0_hasGoodRecord 69 = .ok (.ifCond .ne 8, 3) := by decide +kernel
theorem dX0_hasGoodRecord_72 : decode cX0_hasGoodRecord 72 = .ok (.iload 6, 2) := by decide +kernel
theorem dX0_hasGoodRecord_74 : decode cX0_hasGoodRecord 74 = .ok (.ifCond .eq 35, 3) := by decide +kernel
theorem dX0_hasGoodRecord_77 : decode cX0_hasGoodRecord 77 = .ok (.aload_n 0, 1) := by decide +kernel
theorem dX0_hasGoodRecord_78 : decode cX0_hasGoodRecord 78 = .ok (.iload_n 1, 1) := by decide +kernel
theorem dX0_hasGoodRecord_79 : decode cX0_hasGoodRecord 79 = .ok (.bipush 8, 2) := by decide +kernel
theorem dX0_hasGoodRecord_81 : decode cX0_hasGoodRecord 81 = .ok (.iadd, 1) := by decide +kernel
theorem dX0_hasGoodRecord_82 : decode cX0_hasGoodRecord 82 = .ok (.invokevirtual 29, 3) := by decide +kernel
theorem dX0_hasGoodRecord_85 : decode cX0_hasGoodRecord 85 = .ok (.iload_n 1, 1) := by decide +kernel
theorem dX0_hasGoodRecord_86 : decode cX0_hasGoodRecord 86 = .ok (.if_icmp .ne 23, 3) := by decide +kernel
theorem dX0_hasGoodRecord_89 : decode cX0_hasGoodRecord 89 = .ok (.aload_n 0, 1) := by decide +kernel
theorem dX0_hasGoodRecord_90 : decode cX0_hasGoodRecord 90 = .ok (.iload_n 1, 1) := by decide +kernel
theorem dX0_hasGoodRecord_91 : decode cX0_hasGoodRecord 91 = .ok (.bipush 12, 2) := by decide +kernel
theorem dX0_hasGoodRecord_93 : decode cX0_hasGoodRecord 93 = .ok (.iadd, 1) := by decide +kernel
theorem dX0_hasGoodRecord_94 : decode cX0_hasGoodRecord 94 = .ok (.invokevirtual 29, 3) := by decide +kernel
theorem dX0_hasGoodRecord_97 : decode cX0_hasGoodRecord 97 = .ok (.aload_n 0, 1) := by decide +kernel
theorem dX0_hasGoodRecord_98 : decode cX0_hasGoodRecord 98 = .ok (.iload_n 1, 1) := by decide +kernel
theorem dX0_hasGoodRecord_99 : decode cX0_hasGoodRecord 99 = .ok (.invokevirtual 46, 3) := by decide +kernel
theorem dX0_hasGoodRecord_102 : decode cX0_hasGoodRecord 102 = .ok (.if_icmp .ne 7, 3) := by decide +kernel
theorem dX0_hasGoodRecord_105 : decode cX0_hasGoodRecord 105 = .ok (.iconst 1, 1) := by decide +kernel
theorem dX0_hasGoodRecord_106 : decode cX0_hasGoodRecord 106 = .ok (.goto 4, 3) := by decide +kernel
theorem dX0_hasGoodRecord_109 : decode cX0_hasGoodRecord 109 = .ok (.iconst 0, 1) := by decide +kernel
theorem dX0_hasGoodRecord_110 : decode cX0_hasGoodRecord 110 = .ok (.ireturn, 1) := by decide +kernel
set_option maxRecDepth 20000 in
theorem ggX0_checksumAt_X0_byteOf : GoodIn wsX0_checksumAt wsX0_byteOf := goodIn_r _ [6, 7, 8, 9, 10, 11] (by decide +kernel) (by decide +kernel)
set_option maxRecDepth 20000 in
theorem gX0_checksumAt_X0_byteOf : GoodIn wsX0_checksumAt (wsV RX0 25 RX0 yX0_byteOf wsX0_byteOf) := goodIn_app (goodIn_of _ (by decide +kernel)) ggX0_checksumAt_X0_byteOf
theorem dX0_checksumAt_0 : decode cX0_checksumAt 0 = .ok (.iconst (-1), 1) := by decide +kernel
theorem dX0_checksumAt_1 : decode cX0_checksumAt 1 = .ok (.istore_n 2, 1) := by decide +kernel
theorem dX0_checksumAt_2 : decode cX0_checksumAt 2 = .ok (.iload_n 1, 1) := by decide +kernel
theorem dX0_checksumAt_3 : decode cX0_checksumAt 3 = .ok (.istore_n 3, 1) := by decide +kernel
theorem dX0_checksumAt_4 : decode cX0_checksumAt 4 = .ok (.iload_n 3, 1) := by decide +kernel
theorem dX0_checksumAt_5 : decode cX0_checksumAt 5 = .ok (.iload_n 1, 1) := by decide +kernel
theorem dX0_checksumAt_6 : decode cX0_checksumAt 6 = .ok (.bipush 12, 2) := by decide +kernel
theorem dX0_checksumAt_8 : decode cX0_checksumAt 8 = .ok (.iadd, 1) := by decide +kernel
theorem dX0_checksumAt_9 : decode cX0_checksumAt 9 = .ok (.if_icmp .ge 53, 3) := by decide +kernel
theorem dX0_checksumAt_12 : decode cX0_checksumAt 12 = .ok (.iload_n 2, 1) := by decide +kernel
theorem dX0_checksumAt_13 : decode cX0_checksumAt 13 = .ok (.aload_n 0, 1) := by decide +kernel
theorem dX0_checksumAt_14 : decode cX0_checksumAt 14 = .ok (.iload_n 3, 1) := by decide +kernel
theorem dX0_checksumAt_15 : decode cX0_checksumAt 15 = .ok (.invokevirtual 25, 3) := by decide +kernel
theorem dX0_checksumAt_18 : decode cX0_checksumAt 18 = .ok (.ixor, 1) := by decide +kernel
theorem dX0_checksumAt_19 : decode cX0_checksumAt 19 = .ok (.istore_n 2, 1) := by decide +kernel
theorem dX0_checksumAt_20 : decode cX0_checksumAt 20 = .ok (.iconst 0, 1) := by decide +kernel
theorem dX0_checksumAt_21 : decode cX0_checksumAt 21 = .ok (.istore 4, 2) := by decide +kernel
theorem dX0_checksumAt_23 : decode cX0_checksumAt 23 = .ok (.iload 4, 2) := by decide +kernel
theorem dX0_checksumAt_25 : decode cX0_checksumAt 25 = .ok (.bipush 8, 2) := by decide +kernel
theorem dX0_checksumAt_27 : decode cX0_checksumAt 27 = .ok (.if_icmp .ge 29, 3) := by decide +kernel
theorem dX0_checksumAt_30 : decode cX0_checksumAt 30 = .ok (.iload_n 2, 1) := by decide +kernel
theorem dX0_checksumAt_31 : decode cX0_checksumAt 31 = .ok (.iconst 1, 1) := by decide +kernel
theorem dX0_checksumAt_32 : decode cX0_checksumAt 32 = .ok (.iand, 1) := by decide +kernel
theorem dX0_checksumAt_33 : decode cX0_checksumAt 33 = .ok (.iconst 1, 1) := by decide +kernel
theorem dX0_checksumAt_34 : decode cX0_checksumAt 34 = .ok (.if_icmp .ne 12, 3) := by decide +kernel
theorem dX0_checksumAt_37 : decode cX0_checksumAt 37 = .ok (.iload_n 2, 1) := by decide +kernel
theorem dX0_checksumAt_38 : decode cX0_checksumAt 38 = .ok (.iconst 1, 1) := by decide +kernel
theorem dX0_checksumAt_39 : decode cX0_checksumAt 39 = .ok (.iushr, 1) := by decide +kernel
theorem dX0_checksumAt_40 : decode cX0_checksumAt 40 = .ok (.ldc 90, 2) := by decide +kernel
theorem dX0_checksumAt_42 : decode cX0_checksumAt 42 = .ok (.ixor, 1) := by decide +kernel
theorem dX0_checksumAt_43 : decode cX0_checksumAt 43 = .ok (.goto 6, 3) := by decide +kernel
theorem dX0_checksumAt_46 : decode cX0_checksumAt 46 = .ok (.iload_n 2, 1) := by decide +kernel
theorem dX0_checksumAt_47 : decode cX0_checksumAt 47 = .ok (.iconst 1, 1) := by decide +kernel
theorem dX0_checksumAt_48 : decode cX0_checksumAt 48 = .ok (.iushr, 1) := by decide +kernel
theorem dX0_checksumAt_49 : decode cX0_checksumAt 49 = .ok (.istore_n 2, 1) := by decide +kernel
theorem dX0_checksumAt_50 : decode cX0_checksumAt 50 = .ok (.iinc 4 1, 3) := by decide +kernel
theorem dX0_checksumAt_53 : decode cX0_checksumAt 53 = .ok (.goto (-30), 3) := by decide +kernel
theorem dX0_checksumAt_56 : decode cX0_checksumAt 56 = .ok (.iinc 3 1, 3) := by decide +kernel
theorem dX0_checksumAt_59 : decode cX0_checksumAt 59 = .ok (.goto (-55), 3) := by decide +kernel
theorem dX0_checksumAt_62 : decode cX0_checksumAt 62 = .ok (.iload_n 2, 1) := by decide +kernel
theorem dX0_checksumAt_63 : decode cX0_checksumAt 63 = .ok (.iconst (-1), 1) := by decide +kernel
theorem dX0_checksumAt_64 : decode cX0_checksumAt 64 = .ok (.ixor, 1) := by decide +kernel
theorem dX0_checksumAt_65 : decode cX0_checksumAt 65 = .ok (.ireturn, 1) := by decide +kernel
theorem dX0_byteOf_0 : decode cX0_byteOf 0 = .ok (.iload_n 1, 1) := by decide +kernel
theorem dX0_byteOf_1 : decode cX0_byteOf 1 = .ok (.ifCond .lt 23, 3) := by decide +kernel
theorem dX0_byteOf_4 : decode cX0_byteOf 4 = .ok (.iload_n 1, 1) := by decide +kernel
theorem dX0_byteOf_5 : decode cX0_byteOf 5 = .ok (.sipush 4096, 3) := by decide +kernel
theorem dX0_byteOf_8 : decode cX0_byteOf 8 = .ok (.if_icmp .ge 16, 3) := by decide +kernel
theorem dX0_byteOf_11 : decode cX0_byteOf 11 = .ok (.aload_n 0, 1) := by decide +kernel
theorem dX0_byteOf_12 : decode cX0_byteOf 12 = .ok (.getfield 9, 3) := by decide +kernel
theorem dX0_byteOf_15 : decode cX0_byteOf 15 = .ok (.iload_n 1, 1) := by decide +kernel
theorem dX0_byteOf_16 : decode cX0_byteOf 16 = .ok (.baload, 1) := by decide +kernel
theorem dX0_byteOf_17 : decode cX0_byteOf 17 = .ok (.sipush 255, 3) := by decide +kernel
theorem dX0_byteOf_20 : decode cX0_byteOf 20 = .ok (.iand, 1) := by decide +kernel
theorem dX0_byteOf_21 : decode cX0_byteOf 21 = .ok (.goto 4, 3) := by decide +kernel
theorem dX0_byteOf_24 : decode cX0_byteOf 24 = .ok (.iconst 0, 1) := by decide +kernel
theorem dX0_byteOf_25 : decode cX0_byteOf 25 = .ok (.ireturn, 1) := by decide +kernel
theorem dX0_setByte_0 : decode cX0_setByte 0 = .ok (.iload_n 1, 1) := by decide +kernel
theorem dX0_setByte_1 : decode cX0_setByte 1 = .ok (.ifCond .lt 18, 3) := by decide +kernel
theorem dX0_setByte_4 : decode cX0_setByte 4 = .ok (.iload_n 1, 1) := by decide +kernel
theorem dX0_setByte_5 : decode cX0_setByte 5 = .ok (.sipush 4096, 3) := by decide +kernel
theorem dX0_setByte_8 : decode cX0_setByte 8 = .ok (.if_icmp .ge 11, 3) := by decide +kernel
theorem dX0_setByte_11 : decode cX0_setByte 11 = .ok (.aload_n 0, 1) := by decide +kernel
theorem dX0_setByte_12 : decode cX0_setByte 12 = .ok (.getfield 9, 3) := by decide +kernel
theorem dX0_setByte_15 : decode cX0_setByte 15 = .ok (.iload_n 1, 1) := by decide +kernel
theorem dX0_setByte_16 : decode cX0_setByte 16 = .ok (.iload_n 2, 1) := by decide +kernel
theorem dX0_setByte_17 : decode cX0_setByte 17 = .ok (.i2b, 1) := by decide +kernel
theorem dX0_setByte_18 : decode cX0_setByte 18 = .ok (.bastore, 1) := by decide +kernel
theorem dX0_setByte_19 : decode cX0_setByte 19 = .ok (.return_, 1) := by decide +kernel
set_option maxRecDepth 20000 in
theorem ggX0_intAt_X0_byteOf : GoodIn wsX0_intAt wsX0_byteOf := goodIn_r _ [5, 6, 7, 8, 9, 10] (by decide +kernel) (by decide +kernel)
set_option maxRecDepth 20000 in
theorem gX0_intAt_X0_byteOf : GoodIn wsX0_intAt (wsV RX0 25 RX0 yX0_byteOf wsX0_byteOf) := goodIn_app (goodIn_of _ (by decide +kernel)) ggX0_intAt_X0_byteOf
theorem dX0_intAt_0 : decode cX0_intAt 0 = .ok (.aload_n 0, 1) := by decide +kernel
theorem dX0_intAt_1 : decode cX0_intAt 1 = .ok (.iload_n 1, 1) := by decide +kernel
theorem dX0_intAt_2 : decode cX0_intAt 2 = .ok (.invokevirtual 25, 3) := by decide +kernel
theorem dX0_intAt_5 : decode cX0_intAt 5 = .ok (.bipush 24, 2) := by decide +kernel
theorem dX0_intAt_7 : decode cX0_intAt 7 = .ok (.ishl, 1) := by decide +kernel
theorem dX0_intAt_8 : decode cX0_intAt 8 = .ok (.aload_n 0, 1) := by decide +kernel
theorem dX0_intAt_9 : decode cX0_intAt 9 = .ok (.iload_n 1, 1) := by decide +kernel
theorem dX0_intAt_10 : decode cX0_intAt 10 = .ok (.iconst 1, 1) := by decide +kernel
theorem dX0_intAt_11 : decode cX0_intAt 11 = .ok (.iadd, 1) := by decide +kernel
theorem dX0_intAt_12 : decode cX0_intAt 12 = .ok (.invokevirtual 25, 3) := by decide +kernel
theorem dX0_intAt_15 : decode cX0_intAt 15 = .ok (.bipush 16, 2) := by decide +kernel
theorem dX0_intAt_17 : decode cX0_intAt 17 = .ok (.ishl, 1) := by decide +kernel
theorem dX0_intAt_18 : decode cX0_intAt 18 = .ok (.ior, 1) := by decide +kernel
theorem dX0_intAt_19 : decode cX0_intAt 19 = .ok (.aload_n 0, 1) := by decide +kernel
theorem dX0_intAt_20 : decode cX0_intAt 20 = .ok (.iload_n 1, 1) := by decide +kernel
theorem dX0_intAt_21 : decode cX0_intAt 21 = .ok (.iconst 2, 1) := by decide +kernel
theorem dX0_intAt_22 : decode cX0_intAt 22 = .ok (.iadd, 1) := by decide +kernel
theorem dX0_intAt_23 : decode cX0_intAt 23 = .ok (.invokevirtual 25, 3) := by decide +kernel
theorem dX0_intAt_26 : decode cX0_intAt 26 = .ok (.bipush 8, 2) := by decide +kernel
theorem dX0_intAt_28 : decode cX0_intAt 28 = .ok (.ishl, 1) := by decide +kernel
theorem dX0_intAt_29 : decode cX0_intAt 29 = .ok (.ior, 1) := by decide +kernel
theorem dX0_intAt_30 : decode cX0_intAt 30 = .ok (.aload_n 0, 1) := by decide +kernel
theorem dX0_intAt_31 : decode cX0_intAt 31 = .ok (.iload_n 1, 1) := by decide +kernel
theorem dX0_intAt_32 : decode cX0_intAt 32 = .ok (.iconst 3, 1) := by decide +kernel
theorem dX0_intAt_33 : decode cX0_intAt 33 = .ok (.iadd, 1) := by decide +kernel
theorem dX0_intAt_34 : decode cX0_intAt 34 = .ok (.invokevirtual 25, 3) := by decide +kernel
theorem dX0_intAt_37 : decode cX0_intAt 37 = .ok (.ior, 1) := by decide +kernel
theorem dX0_intAt_38 : decode cX0_intAt 38 = .ok (.ireturn, 1) := by decide +kernel
set_option maxRecDepth 20000 in
theorem ggX0_setInt_X0_setByte : GoodIn wsX0_setInt wsX0_setByte := goodIn_r _ [5, 6, 7, 8, 9, 10] (by decide +kernel) (by decide +kernel)
set_option maxRecDepth 20000 in
theorem gX0_setInt_X0_setByte : GoodIn wsX0_setInt (wsV RX0 39 RX0 yX0_setByte wsX0_setByte) := goodIn_app (goodIn_of _ (by decide +kernel)) ggX0_setInt_X0_setByte
theorem dX0_setInt_0 : decode cX0_setInt 0 = .ok (.aload_n 0, 1) := by decide +kernel
theorem dX0_setInt_1 : decode cX0_setInt 1 = .ok (.iload_n 1, 1) := by decide +kernel
theorem dX0_setInt_2 : decode cX0_setInt 2 = .ok (.iload_n 2, 1) := by decide +kernel
theorem dX0_setInt_3 : decode cX0_setInt 3 = .ok (.bipush 24, 2) := by decide +kernel
theorem dX0_setInt_5 : decode cX0_setInt 5 = .ok (.iushr, 1) := by decide +kernel
theorem dX0_setInt_6 : decode cX0_setInt 6 = .ok (.invokevirtual 39, 3) := by decide +kernel
theorem dX0_setInt_9 : decode cX0_setInt 9 = .ok (.aload_n 0, 1) := by decide +kernel
theorem dX0_setInt_10 : decode cX0_setInt 10 = .ok (.iload_n 1, 1) := by decide +kernel
theorem dX0_setInt_11 : decode cX0_setInt 11 = .ok (.iconst 1, 1) := by decide +kernel
theorem dX0_setInt_12 : decode cX0_setInt 12 = .ok (.iadd, 1) := by decide +kernel
theorem dX0_setInt_13 : decode cX0_setInt 13 = .ok (.iload_n 2, 1) := by decide +kernel
theorem dX0_setInt_14 : decode cX0_setInt 14 = .ok (.bipush 16, 2) := by decide +kernel
theorem dX0_setInt_16 : decode cX0_setInt 16 = .ok (.iushr, 1) := by decide +kernel
theorem dX0_setInt_17 : decode cX0_setInt 17 = .ok (.invokevirtual 39, 3) := by decide +kernel
theorem dX0_setInt_20 : decode cX0_setInt 20 = .ok (.aload_n 0, 1) := by decide +kernel
theorem dX0_setInt_21 : decode cX0_setInt 21 = .ok (.iload_n 1, 1) := by decide +kernel
theorem dX0_setInt_22 : decode cX0_setInt 22 = .ok (.iconst 2, 1) := by decide +kernel
theorem dX0_setInt_23 : decode cX0_setInt 23 = .ok (.iadd, 1) := by decide +kernel
theorem dX0_setInt_24 : decode cX0_setInt 24 = .ok (.iload_n 2, 1) := by decide +kernel
theorem dX0_setInt_25 : decode cX0_setInt 25 = .ok (.bipush 8, 2) := by decide +kernel
theorem dX0_setInt_27 : decode cX0_setInt 27 = .ok (.iushr, 1) := by decide +kernel
theorem dX0_setInt_28 : decode cX0_setInt 28 = .ok (.invokevirtual 39, 3) := by decide +kernel
theorem dX0_setInt_31 : decode cX0_setInt 31 = .ok (.aload_n 0, 1) := by decide +kernel
theorem dX0_setInt_32 : decode cX0_setInt 32 = .ok (.iload_n 1, 1) := by decide +kernel
theorem dX0_setInt_33 : decode cX0_setInt 33 = .ok (.iconst 3, 1) := by decide +kernel
theorem dX0_setInt_34 : decode cX0_setInt 34 = .ok (.iadd, 1) := by decide +kernel
theorem dX0_setInt_35 : decode cX0_setInt 35 = .ok (.iload_n 2, 1) := by decide +kernel
theorem dX0_setInt_36 : decode cX0_setInt 36 = .ok (.invokevirtual 39, 3) := by decide +kernel
theorem dX0_setInt_39 : decode cX0_setInt 39 = .ok (.return_, 1) := by decide +kernel
set_option maxRecDepth 20000 in
theorem ggX1_init_X0_init : GoodIn wsX1_init wsX0_init := goodIn_r _ [16, 17, 2, 3, 18, 19, 20, 21, 22, 23, 24, 25, 26] (by decide +kernel) (by decide +kernel)
set_option maxRecDepth 20000 in
theorem gX1_init_X0_init_n11 : GoodIn wsX1_init (wsX0_init) := ggX1_init_X0_init
theorem dX1_init_0 : decode cX1_init 0 = .ok (.aload_n 0, 1) := by decide +kernel
theorem dX1_init_1 : decode cX1_init 1 = .ok (.invokespecial 3, 3) := by decide +kernel
theorem dX1_init_4 : decode cX1_init 4 = .ok (.aload_n 0, 1) := by decide +kernel
theorem dX1_init_5 : decode cX1_init 5 = .ok (.new 9, 3) := by decide +kernel
theorem dX1_init_8 : decode cX1_init 8 = .ok (.dup, 1) := by decide +kernel
theorem dX1_init_9 : decode cX1_init 9 = .ok (.invokespecial 11, 3) := by decide +kernel
theorem dX1_init_12 : decode cX1_init 12 = .ok (.putfield 12, 3) := by decide +kernel
theorem dX1_init_15 : decode cX1_init 15 = .ok (.aload_n 0, 1) := by decide +kernel
theorem dX1_init_16 : decode cX1_init 16 = .ok (.iconst 0, 1) := by decide +kernel
theorem dX1_init_17 : decode cX1_init 17 = .ok (.putfield 18, 3) := by decide +kernel
theorem dX1_init_20 : decode cX1_init 20 = .ok (.aload_n 0, 1) := by decide +kernel
theorem dX1_init_21 : decode cX1_init 21 = .ok (.iconst 0, 1) := by decide +kernel
theorem dX1_init_22 : decode cX1_init 22 = .ok (.putfield 22, 3) := by decide +kernel
theorem dX1_init_25 : decode cX1_init 25 = .ok (.aload_n 0, 1) := by decide +kernel
theorem dX1_init_26 : decode cX1_init 26 = .ok (.iconst (-1), 1) := by decide +kernel
theorem dX1_init_27 : decode cX1_init 27 = .ok (.putfield 25, 3) := by decide +kernel
theorem dX1_init_30 : decode cX1_init 30 = .ok (.aload_n 0, 1) := by decide +kernel
theorem dX1_init_31 : decode cX1_init 31 = .ok (.iconst 0, 1) := by decide +kernel
theorem dX1_init_32 : decode cX1_init 32 = .ok (.putfield 28, 3) := by decide +kernel
theorem dX1_init_35 : decode cX1_init 35 = .ok (.aload_n 0, 1) := by decide +kernel
theorem dX1_init_36 : decode cX1_init 36 = .ok (.iconst (-1), 1) := by decide +kernel
theorem dX1_init_37 : decode cX1_init 37 = .ok (.putfield 31, 3) := by decide +kernel
theorem dX1_init_40 : decode cX1_init 40 = .ok (.aload_n 0, 1) := by decide +kernel
theorem dX1_init_41 : decode cX1_init 41 = .ok (.iconst 0, 1) := by decide +kernel
theorem dX1_init_42 : decode cX1_init 42 = .ok (.putfield 34, 3) := by decide +kernel
theorem dX1_init_45 : decode cX1_init 45 = .ok (.aload_n 0, 1) := by decide +kernel
theorem dX1_init_46 : decode cX1_init 46 = .ok (.iconst 0, 1) := by decide +kernel
theorem dX1_init_47 : decode cX1_init 47 = .ok (.putfield 37, 3) := by decide +kernel
theorem dX1_init_50 : decode cX1_init 50 = .ok (.return_, 1) := by decide +kernel
set_option maxRecDepth 20000 in
theorem ggX1_write_X0_append : GoodIn wsX1_write wsX0_append := goodIn_r _ [8, 9, 10, 11, 12, 7, 13, 14, 15, 16, 17, 18, 19, 20, 21, 22, 23, 24, 25, 26, 27, 28, 29, 30, 31, 40, 41, 42, 43] (by decide +kernel) (by decide +kernel)
set_option maxRecDepth 20000 in
theorem gX1_write_X0_append : GoodIn wsX1_write (wsV RX1 40 RX0 yX0_append wsX0_append) := goodIn_app (goodIn_of _ (by decide +kernel)) ggX1_write_X0_append
theorem dX1_write_0 : decode cX1_write 0 = .ok (.aload_n 0, 1) := by decide +kernel
theorem dX1_write_1 : decode cX1_write 1 = .ok (.getfield 12, 3) := by decide +kernel
theorem dX1_write_4 : decode cX1_write 4 = .ok (.iload_n 1, 1) := by decide +kernel
theorem dX1_write_5 : decode cX1_write 5 = .ok (.iload_n 2, 1) := by decide +kernel
theorem dX1_write_6 : decode cX1_write 6 = .ok (.iload_n 3, 1) := by decide +kernel
theorem dX1_write_7 : decode cX1_write 7 = .ok (.iload 4, 2) := by decide +kernel
theorem dX1_write_9 : decode cX1_write 9 = .ok (.invokevirtual 40, 3) := by decide +kernel
theorem dX1_write_12 : decode cX1_write 12 = .ok (.aload_n 0, 1) := by decide +kernel
theorem dX1_write_13 : decode cX1_write 13 = .ok (.aload_n 0, 1) := by decide +kernel
theorem dX1_write_14 : decode cX1_write 14 = .ok (.getfield 12, 3) := by decide +kernel
theorem dX1_write_17 : decode cX1_write 17 = .ok (.getfield 44, 3) := by decide +kernel
theorem dX1_write_20 : decode cX1_write 20 = .ok (.putfield 22, 3) := by decide +kernel
theorem dX1_write_23 : decode cX1_write 23 = .ok (.return_, 1) := by decide +kernel
set_option maxRecDepth 20000 in
theorem ggX1_acknowledgeUpTo_X0_kindAt : GoodIn wsX1_acknowledgeUpTo wsX0_kindAt := goodIn_r _ [16, 17, 18, 19, 15, 20, 21, 30, 31, 32, 33] (by decide +kernel) (by decide +kernel)
set_option maxRecDepth 20000 in
theorem gX1_acknowledgeUpTo_X0_kindAt : GoodIn wsX1_acknowledgeUpTo (wsV RX1 53 RX0 yX0_kindAt wsX0_kindAt) := goodIn_app (goodIn_of _ (by decide +kernel)) ggX1_acknowledgeUpTo_X0_kindAt
theorem dX1_acknowledgeUpTo_0 : decode cX1_acknowledgeUpTo 0 = .ok (.iload_n 1, 1) := by decide +kernel
theorem dX1_acknowledgeUpTo_1 : decode cX1_acknowledgeUpTo 1 = .ok (.aload_n 0, 1) := by decide +kernel
theorem dX1_acknowledgeUpTo_2 : decode cX1_acknowledgeUpTo 2 = .ok (.getfield 12, 3) := by decide +kernel
theorem dX1_acknowledgeUpTo_5 : decode cX1_acknowledgeUpTo 5 = .ok (.getfield 44, 3) := by decide +kernel
theorem dX1_acknowledgeUpTo_8 : decode cX1_acknowledgeUpTo 8 = .ok (.invokestatic 47, 3) := by decide +kernel
theorem dX1_acknowledgeUpTo_11 : decode cX1_acknowledgeUpTo 11 = .ok (.istore_n 2, 1) := by decide +kernel
theorem dX1_acknowledgeUpTo_12 : decode cX1_acknowledgeUpTo 12 = .ok (.aload_n 0, 1) := by decide +kernel
theorem dX1_acknowledgeUpTo_13 : decode cX1_acknowledgeUpTo 13 = .ok (.getfield 37, 3) := by decide +kernel
theorem dX1_acknowledgeUpTo_16 : decode cX1_acknowledgeUpTo 16 = .ok (.istore_n 3, 1) := by decide +kernel
theorem dX1_acknowledgeUpTo_17 : decode cX1_acknowledgeUpTo 17 = .ok (.iload_n 3, 1) := by decide +kernel
theorem dX1_acknowledgeUpTo_18 : decode cX1_acknowledgeUpTo 18 = .ok (.iload_n 2, 1) := by decide +kernel
theorem dX1_acknowledgeUpTo_19 : decode cX1_acknowledgeUpTo 19 = .ok (.if_icmp .ge 36, 3) := by decide +kernel
theorem dX1_acknowledgeUpTo_22 : decode cX1_acknowledgeUpTo 22 = .ok (.aload_n 0, 1) := by decide +kernel
theorem dX1_acknowledgeUpTo_23 : decode cX1_acknowledgeUpTo 23 = .ok (.getfield 12, 3) := by decide +kernel
theorem dX1_acknowledgeUpTo_26 : decode cX1_acknowledgeUpTo 26 = .ok (.iload_n 3, 1) := by decide +kernel
theorem dX1_acknowledgeUpTo_27 : decode cX1_acknowledgeUpTo 27 = .ok (.invokevirtual 53, 3) := by decide +kernel
theorem dX1_acknowledgeUpTo_30 : decode cX1_acknowledgeUpTo 30 = .ok (.iconst 2, 1) := by decide +kernel
theorem dX1_acknowledgeUpTo_31 : decode cX1_acknowledgeUpTo 31 = .ok (.if_icmp .ne 18, 3) := by decide +kernel
theorem dX1_acknowledgeUpTo_34 : decode cX1_acknowledgeUpTo 34 = .ok (.aload_n 0, 1) := by decide +kernel
theorem dX1_acknowledgeUpTo_35 : decode cX1_acknowledgeUpTo 35 = .ok (.aload_n 0, 1) := by decide +kernel
theorem dX1_acknowledgeUpTo_36 : decode cX1_acknowledgeUpTo 36 = .ok (.getfield 34, 3) := by decide +kernel
theorem dX1_acknowledgeUpTo_39 : decode cX1_acknowledgeUpTo 39 = .ok (.iload_n 3, 1) := by decide +kernel
theorem dX1_acknowledgeUpTo_40 : decode cX1_acknowledgeUpTo 40 = .ok (.bipush 16, 2) := by decide +kernel
theorem dX1_acknowledgeUpTo_42 : decode cX1_acknowledgeUpTo 42 = .ok (.iadd, 1) := by decide +kernel
theorem dX1_acknowledgeUpTo_43 : decode cX1_acknowledgeUpTo 43 = .ok (.invokestatic 57, 3) := by decide +kernel
theorem dX1_acknowledgeUpTo_46 : decode cX1_acknowledgeUpTo 46 = .ok (.putfield 34, 3) := by decide +kernel
theorem dX1_acknowledgeUpTo_49 : decode cX1_acknowledgeUpTo 49 = .ok (.iinc 3 16, 3) := by decide +kernel
theorem dX1_acknowledgeUpTo_52 : decode cX1_acknowledgeUpTo 52 = .ok (.goto (-35), 3) := by decide +kernel
theorem dX1_acknowledgeUpTo_55 : decode cX1_acknowledgeUpTo 55 = .ok (.return_, 1) := by decide +kernel
set_option maxRecDepth 20000 in
theorem ggX1_committedValue_X0_kindAt : GoodIn wsX1_committedValue wsX0_kindAt := goodIn_r _ [7, 8, 9, 10, 6, 11, 12, 33, 34, 35, 36] (by decide +kernel) (by decide +kernel)
set_option maxRecDepth 20000 in
theorem gX1_committedValue_X0_kindAt : GoodIn wsX1_committedValue (wsV RX1 53 RX0 yX0_kindAt wsX0_kindAt) := goodIn_app (goodIn_of _ (by decide +kernel)) ggX1_committedValue_X0_kindAt
set_option maxRecDepth 20000 in
theorem ggX1_committedValue_X0_keyAt : GoodIn wsX1_committedValue wsX0_keyAt := goodIn_r _ [16, 8, 9, 10, 6, 11, 12, 33, 34, 35, 36] (by decide +kernel) (by decide +kernel)
set_option maxRecDepth 20000 in
theorem gX1_committedValue_X0_keyAt : GoodIn wsX1_committedValue (wsV RX1 60 RX0 yX0_keyAt wsX0_keyAt) := goodIn_app (goodIn_of _ (by decide +kernel)) ggX1_committedValue_X0_keyAt
set_option maxRecDepth 20000 in
theorem ggX1_committedValue_X0_valueAt : GoodIn wsX1_committedValue wsX0_valueAt := goodIn_r _ [20, 21, 22, 23, 6, 24, 8, 9, 10, 11, 12, 33, 34, 35, 36] (by decide +kernel) (by decide +kernel)
set_option maxRecDepth 20000 in
theorem gX1_committedValue_X0_valueAt : GoodIn wsX1_committedValue (wsV RX1 63 RX0 yX0_valueAt wsX0_valueAt) := goodIn_app (goodIn_of _ (by decide +kernel)) ggX1_committedValue_X0_valueAt
theorem dX1_committedValue_0 : decode cX1_committedValue 0 = .ok (.iconst 0, 1) := by decide +kernel
theorem dX1_committedValue_1 : decode cX1_committedValue 1 = .ok (.istore_n 2, 1) := by decide +kernel
theorem dX1_committedValue_2 : decode cX1_committedValue 2 = .ok (.iconst 0, 1) := by decide +kernel
theorem dX1_committedValue_3 : decode cX1_committedValue 3 = .ok (.istore_n 3, 1) := by decide +kernel
theorem dX1_committedValue_4 : decode cX1_committedValue 4 = .ok (.iconst 0, 1) := by decide +kernel
theorem dX1_committedValue_5 : decode cX1_committedValue 5 = .ok (.istore 4, 2) := by decide +kernel
theorem dX1_committedValue_7 : decode cX1_committedValue 7 = .ok (.iload 4, 2) := by decide +kernel
theorem dX1_committedValue_9 : decode cX1_committedValue 9 = .ok (.aload_n 0, 1) := by decide +kernel
theorem dX1_committedValue_10 : decode cX1_committedValue 10 = .ok (.getfield 22, 3) := by decide +kernel
theorem dX1_committedValue_13 : decode cX1_committedValue 13 = .ok (.if_icmp .ge 71, 3) := by decide +kernel
theorem dX1_committedValue_16 : decode cX1_committedValue 16 = .ok (.aload_n 0, 1) := by decide +kernel
theorem dX1_committedValue_17 : decode cX1_committedValue 17 = .ok (.getfield 12, 3) := by decide +kernel
theorem dX1_committedValue_20 : decode cX1_committedValue 20 = .ok (.iload 4, 2) := by decide +kernel
theorem dX1_committedValue_22 : decode cX1_committedValue 22 = .ok (.invokevirtual 53, 3) := by decide +kernel
theorem dX1_committedValue_25 : decode cX1_committedValue 25 = .ok (.istore 5, 2) := by decide +kernel
theorem dX1_committedValue_27 : decode cX1_committedValue 27 = .ok (.iload 5, 2) := by decide +kernel
theorem dX1_committedValue_29 : decode cX1_committedValue 29 = .ok (.iconst 1, 1) := by decide +kernel
theorem dX1_committedValue_30 : decode cX1_committedValue 30 = .ok (.if_icmp .ne 29, 3) := by decide +kernel
theorem dX1_committedValue_33 : decode cX1_committedValue 33 = .ok (.aload_n 0, 1) := by decide +kernel
theorem dX1_committedValue_34 : decode cX1_committedValue 34 = .ok (.getfield 12, 3) := by decide +kernel
theorem dX1_committedValue_37 : decode cX1_committedValue 37 = .ok (.iload 4, 2) := by decide +kernel
theorem dX1_committedValue_39 : decode cX1_committedValue 39 = .ok (.invokevirtual 60, 3) := by decide +kernel
theorem dX1_committedValue_42 : decode cX1_committedValue 42 = .ok (.iload_n 1, 1) := by decide +kernel
theorem dX1_committedValue_43 : decode cX1_committedValue 43 = .ok (.if_icmp .ne 16, 3) := by decide +kernel
theorem dX1_committedValue_46 : decode cX1_committedValue 46 = .ok (.aload_n 0, 1) := by decide +kernel
theorem dX1_committedValue_47 : decode cX1_committedValue 47 = .ok (.getfield 12, 3) := by decide +kernel
theorem dX1_committedValue_50 : decode cX1_committedValue 50 = .ok (.iload 4, 2) := by decide +kernel
theorem dX1_committedValue_52 : decode cX1_committedValue 52 = .ok (.invokevirtual 63, 3) := by decide +kernel
theorem dX1_committedValue_55 : decode cX1_committedValue 55 = .ok (.istore_n 3, 1) := by decide +kernel
theorem dX1_committedValue_56 : decode cX1_committedValue 56 = .ok (.goto 22, 3) := by decide +kernel
theorem dX1_committedValue_59 : decode cX1_committedValue 59 = .ok (.iload 5, 2) := by decide +kernel
theorem dX1_committedValue_61 : decode cX1_committedValue 61 = .ok (.iconst 2, 1) := by decide +kernel
theorem dX1_committedValue_62 : decode cX1_committedValue 62 = .ok (.if_icmp .ne 8, 3) := by decide +kernel
theorem dX1_committedValue_65 : decode cX1_committedValue 65 = .ok (.iload_n 3, 1) := by decide +kernel
theorem dX1_committedValue_66 : decode cX1_committedValue 66 = .ok (.istore_n 2, 1) := by decide +kernel
theorem dX1_committedValue_67 : decode cX1_committedValue 67 = .ok (.goto 11, 3) := by decide +kernel
theorem dX1_committedValue_70 : decode cX1_committedValue 70 = .ok (.iload 5, 2) := by decide +kernel
theorem dX1_committedValue_72 : decode cX1_committedValue 72 = .ok (.iconst 3, 1) := by decide +kernel
theorem dX1_committedValue_73 : decode cX1_committedValue 73 = .ok (.if_icmp .ne 5, 3) := by decide +kernel
theorem dX1_committedValue_76 : decode cX1_committedValue 76 = .ok (.iload_n 2, 1) := by decide +kernel
theorem dX1_committedValue_77 : decode cX1_committedValue 77 = .ok (.istore_n 3, 1) := by decide +kernel
theorem dX1_committedValue_78 : decode cX1_committedValue 78 = .ok (.iinc 4 16, 3) := by decide +kernel
theorem dX1_committedValue_81 : decode cX1_committedValue 81 = .ok (.goto (-74), 3) := by decide +kernel
theorem dX1_committedValue_84 : decode cX1_committedValue 84 = .ok (.iload_n 2, 1) := by decide +kernel
theorem dX1_committedValue_85 : decode cX1_committedValue 85 = .ok (.ireturn, 1) := by decide +kernel
set_option maxRecDepth 20000 in
theorem ggX1_pendingPuts_X0_kindAt : GoodIn wsX1_pendingPuts wsX0_kindAt := goodIn_r _ [7, 8, 9, 10, 6, 11, 12, 21, 22, 23, 24] (by decide +kernel) (by decide +kernel)
set_option maxRecDepth 20000 in
theorem gX1_pendingPuts_X0_kindAt : GoodIn wsX1_pendingPuts (wsV RX1 53 RX0 yX0_kindAt wsX0_kindAt) := goodIn_app (goodIn_of _ (by decide +kernel)) ggX1_pendingPuts_X0_kindAt
theorem dX1_pendingPuts_0 : decode cX1_pendingPuts 0 = .ok (.iconst 0, 1) := by decide +kernel
theorem dX1_pendingPuts_1 : decode cX1_pendingPuts 1 = .ok (.istore_n 1, 1) := by decide +kernel
theorem dX1_pendingPuts_2 : decode cX1_pendingPuts 2 = .ok (.iconst 0, 1) := by decide +kernel
theorem dX1_pendingPuts_3 : decode cX1_pendingPuts 3 = .ok (.istore_n 2, 1) := by decide +kernel
theorem dX1_pendingPuts_4 : decode cX1_pendingPuts 4 = .ok (.iload_n 2, 1) := by decide +kernel
theorem dX1_pendingPuts_5 : decode cX1_pendingPuts 5 = .ok (.aload_n 0, 1) := by decide +kernel
theorem dX1_pendingPuts_6 : decode cX1_pendingPuts 6 = .ok (.getfield 22, 3) := by decide +kernel
theorem dX1_pendingPuts_9 : decode cX1_pendingPuts 9 = .ok (.if_icmp .ge 29, 3) := by decide +kernel
theorem dX1_pendingPuts_12 : decode cX1_pendingPuts 12 = .ok (.aload_n 0, 1) := by decide +kernel
theorem dX1_pendingPuts_13 : decode cX1_pendingPuts 13 = .ok (.getfield 12, 3) := by decide +kernel
theorem dX1_pendingPuts_16 : decode cX1_pendingPuts 16 = .ok (.iload_n 2, 1) := by decide +kernel
theorem dX1_pendingPuts_17 : decode cX1_pendingPuts 17 = .ok (.invokevirtual 53, 3) := by decide +kernel
theorem dX1_pendingPuts_20 : decode cX1_pendingPuts 20 = .ok (.iconst 1, 1) := by decide +kernel
theorem dX1_pendingPuts_21 : decode cX1_pendingPuts 21 = .ok (.if_icmp .ne 9, 3) := by decide +kernel
theorem dX1_pendingPuts_24 : decode cX1_pendingPuts 24 = .ok (.iload_n 1, 1) := by decide +kernel
theorem dX1_pendingPuts_25 : decode cX1_pendingPuts 25 = .ok (.iconst 1, 1) := by decide +kernel
theorem dX1_pendingPuts_26 : decode cX1_pendingPuts 26 = .ok (.iadd, 1) := by decide +kernel
theorem dX1_pendingPuts_27 : decode cX1_pendingPuts 27 = .ok (.goto 4, 3) := by decide +kernel
theorem dX1_pendingPuts_30 : decode cX1_pendingPuts 30 = .ok (.iconst 0, 1) := by decide +kernel
theorem dX1_pendingPuts_31 : decode cX1_pendingPuts 31 = .ok (.istore_n 1, 1) := by decide +kernel
theorem dX1_pendingPuts_32 : decode cX1_pendingPuts 32 = .ok (.iinc 2 16, 3) := by decide +kernel
theorem dX1_pendingPuts_35 : decode cX1_pendingPuts 35 = .ok (.goto (-31), 3) := by decide +kernel
theorem dX1_pendingPuts_38 : decode cX1_pendingPuts 38 = .ok (.iload_n 1, 1) := by decide +kernel
theorem dX1_pendingPuts_39 : decode cX1_pendingPuts 39 = .ok (.ireturn, 1) := by decide +kernel
theorem dX2_init_0 : decode cX2_init 0 = .ok (.aload_n 0, 1) := by decide +kernel
theorem dX2_init_1 : decode cX2_init 1 = .ok (.invokespecial 3, 3) := by decide +kernel
theorem dX2_init_4 : decode cX2_init 4 = .ok (.aload_n 0, 1) := by decide +kernel
theorem dX2_init_5 : decode cX2_init 5 = .ok (.bipush 16, 2) := by decide +kernel
theorem dX2_init_7 : decode cX2_init 7 = .ok (.newarray .int, 2) := by decide +kernel
theorem dX2_init_9 : decode cX2_init 9 = .ok (.putfield 9, 3) := by decide +kernel
theorem dX2_init_12 : decode cX2_init 12 = .ok (.aload_n 0, 1) := by decide +kernel
theorem dX2_init_13 : decode cX2_init 13 = .ok (.bipush 16, 2) := by decide +kernel
theorem dX2_init_15 : decode cX2_init 15 = .ok (.newarray .int, 2) := by decide +kernel
theorem dX2_init_17 : decode cX2_init 17 = .ok (.putfield 15, 3) := by decide +kernel
theorem dX2_init_20 : decode cX2_init 20 = .ok (.aload_n 0, 1) := by decide +kernel
theorem dX2_init_21 : decode cX2_init 21 = .ok (.iconst 0, 1) := by decide +kernel
theorem dX2_init_22 : decode cX2_init 22 = .ok (.putfield 18, 3) := by decide +kernel
theorem dX2_init_25 : decode cX2_init 25 = .ok (.aload_n 0, 1) := by decide +kernel
theorem dX2_init_26 : decode cX2_init 26 = .ok (.iconst 0, 1) := by decide +kernel
theorem dX2_init_27 : decode cX2_init 27 = .ok (.putfield 22, 3) := by decide +kernel
theorem dX2_init_30 : decode cX2_init 30 = .ok (.return_, 1) := by decide +kernel
theorem dX2_isFull_0 : decode cX2_isFull 0 = .ok (.aload_n 0, 1) := by decide +kernel
theorem dX2_isFull_1 : decode cX2_isFull 1 = .ok (.getfield 22, 3) := by decide +kernel
theorem dX2_isFull_4 : decode cX2_isFull 4 = .ok (.bipush 16, 2) := by decide +kernel
theorem dX2_isFull_6 : decode cX2_isFull 6 = .ok (.if_icmp .lt 7, 3) := by decide +kernel
theorem dX2_isFull_9 : decode cX2_isFull 9 = .ok (.iconst 1, 1) := by decide +kernel
theorem dX2_isFull_10 : decode cX2_isFull 10 = .ok (.goto 4, 3) := by decide +kernel
theorem dX2_isFull_13 : decode cX2_isFull 13 = .ok (.iconst 0, 1) := by decide +kernel
theorem dX2_isFull_14 : decode cX2_isFull 14 = .ok (.ireturn, 1) := by decide +kernel
set_option maxRecDepth 20000 in
theorem ggX2_add_X2_isFull : GoodIn wsX2_add wsX2_isFull := goodIn_r _ [8, 1, 18, 19, 20, 21] (by decide +kernel) (by decide +kernel)
set_option maxRecDepth 20000 in
theorem gX2_add_X2_isFull : GoodIn wsX2_add (wsV RX2 25 RX2 yX2_isFull wsX2_isFull) := goodIn_app (goodIn_of _ (by decide +kernel)) ggX2_add_X2_isFull
set_option maxRecDepth 20000 in
theorem ggX2_add_X2_slot : GoodIn wsX2_add wsX2_slot := goodIn_r _ [12, 13, 14, 15, 16, 17, 18, 19, 20, 21] (by decide +kernel) (by decide +kernel)
set_option maxRecDepth 20000 in
theorem gX2_add_X2_slot : GoodIn wsX2_add (wsV RX2 29 RX2 yX2_slot wsX2_slot) := goodIn_app (goodIn_of _ (by decide +kernel)) ggX2_add_X2_slot
theorem dX2_add_0 : decode cX2_add 0 = .ok (.aload_n 0, 1) := by decide +kernel
theorem dX2_add_1 : decode cX2_add 1 = .ok (.invokevirtual 25, 3) := by decide +kernel
theorem dX2_add_4 : decode cX2_add 4 = .ok (.ifCond .eq 4, 3) := by decide +kernel
theorem dX2_add_7 : decode cX2_add 7 = .ok (.return_, 1) := by decide +kernel
theorem dX2_add_8 : decode cX2_add 8 = .ok (.aload_n 0, 1) := by decide +kernel
theorem dX2_add_9 : decode cX2_add 9 = .ok (.aload_n 0, 1) := by decide +kernel
theorem dX2_add_10 : decode cX2_add 10 = .ok (.getfield 22, 3) := by decide +kernel
theorem dX2_add_13 : decode cX2_add 13 = .ok (.invokevirtual 29, 3) := by decide +kernel
theorem dX2_add_16 : decode cX2_add 16 = .ok (.istore_n 3, 1) := by decide +kernel
theorem dX2_add_17 : decode cX2_add 17 = .ok (.aload_n 0, 1) := by decide +kernel
theorem dX2_add_18 : decode cX2_add 18 = .ok (.getfield 9, 3) := by decide +kernel
theorem dX2_add_21 : decode cX2_add 21 = .ok (.iload_n 3, 1) := by decide +kernel
theorem dX2_add_22 : decode cX2_add 22 = .ok (.iload_n 1, 1) := by decide +kernel
theorem dX2_add_23 : decode cX2_add 23 = .ok (.iastore, 1) := by decide +kernel
theorem dX2_add_24 : decode cX2_add 24 = .ok (.aload_n 0, 1) := by decide +kernel
theorem dX2_add_25 : decode cX2_add 25 = .ok (.getfield 15, 3) := by decide +kernel
theorem dX2_add_28 : decode cX2_add 28 = .ok (.iload_n 3, 1) := by decide +kernel
theorem dX2_add_29 : decode cX2_add 29 = .ok (.iload_n 2, 1) := by decide +kernel
theorem dX2_add_30 : decode cX2_add 30 = .ok (.iastore, 1) := by decide +kernel
theorem dX2_add_31 : decode cX2_add 31 = .ok (.aload_n 0, 1) := by decide +kernel
theorem dX2_add_32 : decode cX2_add 32 = .ok (.dup, 1) := by decide +kernel
theorem dX2_add_33 : decode cX2_add 33 = .ok (.getfield 22, 3) := by decide +kernel
theorem dX2_add_36 : decode cX2_add 36 = .ok (.iconst 1, 1) := by decide +kernel
theorem dX2_add_37 : decode cX2_add 37 = .ok (.iadd, 1) := by decide +kernel
theorem dX2_add_38 : decode cX2_add 38 = .ok (.putfield 22, 3) := by decide +kernel
theorem dX2_add_41 : decode cX2_add 41 = .ok (.return_, 1) := by decide +kernel
set_option maxRecDepth 20000 in
theorem ggX2_oldestPosition_X2_slot : GoodIn wsX2_oldestPosition wsX2_slot := goodIn_r _ [6, 7, 8, 9, 10, 11, 12, 13, 14, 15] (by decide +kernel) (by decide +kernel)
set_option maxRecDepth 20000 in
theorem gX2_oldestPosition_X2_slot : GoodIn wsX2_oldestPosition (wsV RX2 29 RX2 yX2_slot wsX2_slot) := goodIn_app (goodIn_of _ (by decide +kernel)) ggX2_oldestPosition_X2_slot
theorem dX2_oldestPosition_0 : decode cX2_oldestPosition 0 = .ok (.aload_n 0, 1) := by decide +kernel
theorem dX2_oldestPosition_1 : decode cX2_oldestPosition 1 = .ok (.getfield 9, 3) := by decide +kernel
theorem dX2_oldestPosition_4 : decode cX2_oldestPosition 4 = .ok (.aload_n 0, 1) := by decide +kernel
theorem dX2_oldestPosition_5 : decode cX2_oldestPosition 5 = .ok (.iconst 0, 1) := by decide +kernel
theorem dX2_oldestPosition_6 : decode cX2_oldestPosition 6 = .ok (.invokevirtual 29, 3) := by decide +kernel
theorem dX2_oldestPosition_9 : decode cX2_oldestPosition 9 = .ok (.iaload, 1) := by decide +kernel
theorem dX2_oldestPosition_10 : decode cX2_oldestPosition 10 = .ok (.ireturn, 1) := by decide +kernel
set_option maxRecDepth 20000 in
theorem ggX2_oldestBytes_X2_slot : GoodIn wsX2_oldestBytes wsX2_slot := goodIn_r _ [6, 7, 8, 9, 10, 11, 12, 13, 14, 15] (by decide +kernel) (by decide +kernel)
set_option maxRecDepth 20000 in
theorem gX2_oldestBytes_X2_slot : GoodIn wsX2_oldestBytes (wsV RX2 29 RX2 yX2_slot wsX2_slot) := goodIn_app (goodIn_of _ (by decide +kernel)) ggX2_oldestBytes_X2_slot
theorem dX2_oldestBytes_0 : decode cX2_oldestBytes 0 = .ok (.aload_n 0, 1) := by decide +kernel
theorem dX2_oldestBytes_1 : decode cX2_oldestBytes 1 = .ok (.getfield 15, 3) := by decide +kernel
theorem dX2_oldestBytes_4 : decode cX2_oldestBytes 4 = .ok (.aload_n 0, 1) := by decide +kernel
theorem dX2_oldestBytes_5 : decode cX2_oldestBytes 5 = .ok (.iconst 0, 1) := by decide +kernel
theorem dX2_oldestBytes_6 : decode cX2_oldestBytes 6 = .ok (.invokevirtual 29, 3) := by decide +kernel
theorem dX2_oldestBytes_9 : decode cX2_oldestBytes 9 = .ok (.iaload, 1) := by decide +kernel
theorem dX2_oldestBytes_10 : decode cX2_oldestBytes 10 = .ok (.ireturn, 1) := by decide +kernel
set_option maxRecDepth 20000 in
theorem ggX2_removeOldest_X2_slot : GoodIn wsX2_removeOldest wsX2_slot := goodIn_r _ [7, 2, 8, 9, 10, 11, 12, 13, 14, 15] (by decide +kernel) (by decide +kernel)
set_option maxRecDepth 20000 in
theorem gX2_removeOldest_X2_slot : GoodIn wsX2_removeOldest (wsV RX2 29 RX2 yX2_slot wsX2_slot) := goodIn_app (goodIn_of _ (by decide +kernel)) ggX2_removeOldest_X2_slot
theorem dX2_removeOldest_0 : decode cX2_removeOldest 0 = .ok (.aload_n 0, 1) := by decide +kernel
theorem dX2_removeOldest_1 : decode cX2_removeOldest 1 = .ok (.getfield 22, 3) := by decide +kernel
theorem dX2_removeOldest_4 : decode cX2_removeOldest 4 = .ok (.ifCond .le 22, 3) := by decide +kernel
theorem dX2_removeOldest_7 : decode cX2_removeOldest 7 = .ok (.aload_n 0, 1) := by decide +kernel
theorem dX2_removeOldest_8 : decode cX2_removeOldest 8 = .ok (.aload_n 0, 1) := by decide +kernel
theorem dX2_removeOldest_9 : decode cX2_removeOldest 9 = .ok (.iconst 1, 1) := by decide +kernel
theorem dX2_removeOldest_10 : decode cX2_removeOldest 10 = .ok (.invokevirtual 29, 3) := by decide +kernel
theorem dX2_removeOldest_13 : decode cX2_removeOldest 13 = .ok (.putfield 18, 3) := by decide +kernel
theorem dX2_removeOldest_16 : decode cX2_removeOldest 16 = .ok (.aload_n 0, 1) := by decide +kernel
theorem dX2_removeOldest_17 : decode cX2_removeOldest 17 = .ok (.dup, 1) := by decide +kernel
theorem dX2_removeOldest_18 : decode cX2_removeOldest 18 = .ok (.getfield 22, 3) := by decide +kernel
theorem dX2_removeOldest_21 : decode cX2_removeOldest 21 = .ok (.iconst 1, 1) := by decide +kernel
theorem dX2_removeOldest_22 : decode cX2_removeOldest 22 = .ok (.isub, 1) := by decide +kernel
theorem dX2_removeOldest_23 : decode cX2_removeOldest 23 = .ok (.putfield 22, 3) := by decide +kernel
theorem dX2_removeOldest_26 : decode cX2_removeOldest 26 = .ok (.return_, 1) := by decide +kernel
theorem dX2_clear_0 : decode cX2_clear 0 = .ok (.aload_n 0, 1) := by decide +kernel
theorem dX2_clear_1 : decode cX2_clear 1 = .ok (.iconst 0, 1) := by decide +kernel
theorem dX2_clear_2 : decode cX2_clear 2 = .ok (.putfield 18, 3) := by decide +kernel
theorem dX2_clear_5 : decode cX2_clear 5 = .ok (.aload_n 0, 1) := by decide +kernel
theorem dX2_clear_6 : decode cX2_clear 6 = .ok (.iconst 0, 1) := by decide +kernel
theorem dX2_clear_7 : decode cX2_clear 7 = .ok (.putfield 22, 3) := by decide +kernel
theorem dX2_clear_10 : decode cX2_clear 10 = .ok (.return_, 1) := by decide +kernel
set_option maxRecDepth 20000 in
theorem ggX2_slot_J9_floorMod_7cf53 : GoodIn wsX2_slot wsJ9_floorMod_7cf53 := goodIn_r _ [5] (by decide +kernel) (by decide +kernel)
set_option maxRecDepth 20000 in
theorem gX2_slot_J9_floorMod_7cf53 : GoodIn wsX2_slot (va_wsS RX2 33 yJ9_floorMod_7cf53 wsJ9_floorMod_7cf53) := goodIn_app (goodIn_of _ (by decide +kernel)) ggX2_slot_J9_floorMod_7cf53
theorem dX2_slot_0 : decode cX2_slot 0 = .ok (.aload_n 0, 1) := by decide +kernel
theorem dX2_slot_1 : decode cX2_slot 1 = .ok (.getfield 18, 3) := by decide +kernel
theorem dX2_slot_4 : decode cX2_slot 4 = .ok (.iload_n 1, 1) := by decide +kernel
theorem dX2_slot_5 : decode cX2_slot 5 = .ok (.iadd, 1) := by decide +kernel
theorem dX2_slot_6 : decode cX2_slot 6 = .ok (.bipush 16, 2) := by decide +kernel
theorem dX2_slot_8 : decode cX2_slot 8 = .ok (.invokestatic 33, 3) := by decide +kernel
theorem dX2_slot_11 : decode cX2_slot 11 = .ok (.ireturn, 1) := by decide +kernel
set_option maxRecDepth 20000 in
theorem ggX3_init_X1_init : GoodIn wsX3_init wsX1_init := goodIn_r _ [14, 15, 2, 3, 16, 17, 18, 19, 20, 21, 22, 23, 24, 25, 26, 27, 28, 29, 30, 31, 32, 33, 34, 58, 59, 60, 61, 46, 47, 48, 49, 50, 51, 52, 53] (by decide +kernel) (by decide +kernel)
set_option maxRecDepth 20000 in
theorem gX3_init_X1_init_n15 : GoodIn wsX3_init (wsX1_init) := ggX3_init_X1_init
set_option maxRecDepth 20000 in
theorem ggX3_init_X2_init : GoodIn wsX3_init wsX2_init := goodIn_r _ [36, 37, 2, 3, 38, 39, 40, 41, 42, 54, 55, 56, 57] (by decide +kernel) (by decide +kernel)
set_option maxRecDepth 20000 in
theorem gX3_init_X2_init_n22 : GoodIn wsX3_init (wsX2_init) := ggX3_init_X2_init
theorem dX3_init_0 : decode cX3_init 0 = .ok (.aload_n 0, 1) := by decide +kernel
theorem dX3_init_1 : decode cX3_init 1 = .ok (.invokespecial 3, 3) := by decide +kernel
theorem dX3_init_4 : decode cX3_init 4 = .ok (.aload_n 0, 1) := by decide +kernel
theorem dX3_init_5 : decode cX3_init 5 = .ok (.iconst 4, 1) := by decide +kernel
theorem dX3_init_6 : decode cX3_init 6 = .ok (.anewarray 9, 3) := by decide +kernel
theorem dX3_init_9 : decode cX3_init 9 = .ok (.putfield 11, 3) := by decide +kernel
theorem dX3_init_12 : decode cX3_init 12 = .ok (.iconst 0, 1) := by decide +kernel
theorem dX3_init_13 : decode cX3_init 13 = .ok (.istore_n 1, 1) := by decide +kernel
theorem dX3_init_14 : decode cX3_init 14 = .ok (.iload_n 1, 1) := by decide +kernel
theorem dX3_init_15 : decode cX3_init 15 = .ok (.iconst 4, 1) := by decide +kernel
theorem dX3_init_16 : decode cX3_init 16 = .ok (.if_icmp .ge 22, 3) := by decide +kernel
theorem dX3_init_19 : decode cX3_init 19 = .ok (.aload_n 0, 1) := by decide +kernel
theorem dX3_init_20 : decode cX3_init 20 = .ok (.getfield 11, 3) := by decide +kernel
theorem dX3_init_23 : decode cX3_init 23 = .ok (.iload_n 1, 1) := by decide +kernel
theorem dX3_init_24 : decode cX3_init 24 = .ok (.new 9, 3) := by decide +kernel
theorem dX3_init_27 : decode cX3_init 27 = .ok (.dup, 1) := by decide +kernel
theorem dX3_init_28 : decode cX3_init 28 = .ok (.invokespecial 15, 3) := by decide +kernel
theorem dX3_init_31 : decode cX3_init 31 = .ok (.aastore, 1) := by decide +kernel
theorem dX3_init_32 : decode cX3_init 32 = .ok (.iinc 1 1, 3) := by decide +kernel
theorem dX3_init_35 : decode cX3_init 35 = .ok (.goto (-21), 3) := by decide +kernel
theorem dX3_init_38 : decode cX3_init 38 = .ok (.aload_n 0, 1) := by decide +kernel
theorem dX3_init_39 : decode cX3_init 39 = .ok (.bipush 16, 2) := by decide +kernel
theorem dX3_init_41 : decode cX3_init 41 = .ok (.anewarray 16, 3) := by decide +kernel
theorem dX3_init_44 : decode cX3_init 44 = .ok (.putfield 18, 3) := by decide +kernel
theorem dX3_init_47 : decode cX3_init 47 = .ok (.iconst 0, 1) := by decide +kernel
theorem dX3_init_48 : decode cX3_init 48 = .ok (.istore_n 1, 1) := by decide +kernel
theorem dX3_init_49 : decode cX3_init 49 = .ok (.iload_n 1, 1) := by decide +kernel
theorem dX3_init_50 : decode cX3_init 50 = .ok (.bipush 16, 2) := by decide +kernel
theorem dX3_init_52 : decode cX3_init 52 = .ok (.if_icmp .ge 22, 3) := by decide +kernel
theorem dX3_init_55 : decode cX3_init 55 = .ok (.aload_n 0, 1) := by decide +kernel
theorem dX3_init_56 : decode cX3_init 56 = .ok (.getfield 18, 3) := by decide +kernel
theorem dX3_init_59 : decode cX3_init 59 = .ok (.iload_n 1, 1) := by decide +kernel
theorem dX3_init_60 : decode cX3_init 60 = .ok (.new 16, 3) := by decide +kernel
theorem dX3_init_63 : decode cX3_init 63 = .ok (.dup, 1) := by decide +kernel
theorem dX3_init_64 : decode cX3_init 64 = .ok (.invokespecial 22, 3) := by decide +kernel
theorem dX3_init_67 : decode cX3_init 67 = .ok (.aastore, 1) := by decide +kernel
theorem dX3_init_68 : decode cX3_init 68 = .ok (.iinc 1 1, 3) := by decide +kernel
theorem dX3_init_71 : decode cX3_init 71 = .ok (.goto (-22), 3) := by decide +kernel
theorem dX3_init_74 : decode cX3_init 74 = .ok (.aload_n 0, 1) := by decide +kernel
theorem dX3_init_75 : decode cX3_init 75 = .ok (.iconst 0, 1) := by decide +kernel
theorem dX3_init_76 : decode cX3_init 76 = .ok (.putfield 23, 3) := by decide +kernel
theorem dX3_init_79 : decode cX3_init 79 = .ok (.return_, 1) := by decide +kernel
set_option maxRecDepth 20000 in
theorem ggX3_up_X3_nodeAt : GoodIn wsX3_up wsX3_nodeAt := goodIn_ca (goodIn_r _ [11, 12, 13, 14, 15, 16, 10, 17, 115, 116, 117] (by decide +kernel) (by decide +kernel)) (goodIn_sub (fun _ h => List.mem_cons_of_mem _ (List.mem_append_right _ h)) (by decide +kernel))
set_option maxRecDepth 20000 in
theorem gX3_up_X3_nodeAt : GoodIn wsX3_up (wsV RX3 27 RX3 yX3_nodeAt wsX3_nodeAt) := goodIn_app (goodIn_of _ (by decide +kernel)) ggX3_up_X3_nodeAt
set_option maxRecDepth 20000 in
theorem ggX3_up_X3_takeRole : GoodIn wsX3_up wsX3_takeRole := goodIn_ca (goodIn_r _ [21, 3, 22, 23, 4, 5, 24, 7, 8, 9, 10, 11, 12, 13, 14, 15, 16, 17, 25, 26, 27, 28, 29, 30, 31, 32, 33, 34, 35, 36, 37, 38, 39, 40, 41, 42, 43, 44, 45, 46, 47, 48, 49, 50, 51, 52, 53, 54, 55, 56, 57, 103, 104, 105, 106, 107, 108, 109, 110, 111, 112, 113, 114, 115, 116, 117, 118, 119, 120, 121] (by decide +kernel) (by decide +kernel)) (goodIn_sub (fun _ h => List.mem_cons_of_mem _ (List.mem_append_right _ h)) (by decide +kernel))
set_option maxRecDepth 20000 in
theorem gX3_up_X3_takeRole : GoodIn wsX3_up (wsV RX3 41 RX3 yX3_takeRole wsX3_takeRole) := goodIn_app (goodIn_of _ (by decide +kernel)) ggX3_up_X3_takeRole
set_option maxRecDepth 20000 in
theorem ggX3_up_X0_loadFromDisk : GoodIn wsX3_up wsX0_loadFromDisk := goodIn_r _ [62, 63, 64, 65, 66, 67, 68, 61, 69, 70, 71, 72, 73, 74, 75, 76, 77, 78, 79, 80, 81, 82, 83, 84, 85, 86, 87, 88, 89, 90, 91, 92, 93, 94, 95, 96, 97, 98, 99, 100, 101, 102, 111, 112, 113, 114] (by decide +kernel) (by decide +kernel)
set_option maxRecDepth 20000 in
theorem gX3_up_X0_loadFromDisk : GoodIn wsX3_up (wsV RX3 49 RX0 yX0_loadFromDisk wsX0_loadFromDisk) := goodIn_app (goodIn_of _ (by decide +kernel)) ggX3_up_X0_loadFromDisk
theorem dX3_up_0 : decode cX3_up 0 = .ok (.aload_n 0, 1) := by decide +kernel
theorem dX3_up_1 : decode cX3_up 1 = .ok (.iload_n 1, 1) := by decide +kernel
theorem dX3_up_2 : decode cX3_up 2 = .ok (.invokevirtual 27, 3) := by decide +kernel
theorem dX3_up_5 : decode cX3_up 5 = .ok (.astore_n 2, 1) := by decide +kernel
theorem dX3_up_6 : decode cX3_up 6 = .ok (.aload_n 2, 1) := by decide +kernel
theorem dX3_up_7 : decode cX3_up 7 = .ok (.getfield 31, 3) := by decide +kernel
theorem dX3_up_10 : decode cX3_up 10 = .ok (.ifCond .eq 13, 3) := by decide +kernel
theorem dX3_up_13 : decode cX3_up 13 = .ok (.new 34, 3) := by decide +kernel
theorem dX3_up_16 : decode cX3_up 16 = .ok (.dup, 1) := by decide +kernel
theorem dX3_up_17 : decode cX3_up 17 = .ok (.ldc 36, 2) := by decide +kernel
theorem dX3_up_19 : decode cX3_up 19 = .ok (.invokespecial 38, 3) := by decide +kernel
theorem dX3_up_22 : decode cX3_up 22 = .ok (.athrow, 1) := by decide +kernel
theorem dX3_up_23 : decode cX3_up 23 = .ok (.aload_n 0, 1) := by decide +kernel
theorem dX3_up_24 : decode cX3_up 24 = .ok (.iload_n 1, 1) := by decide +kernel
theorem dX3_up_25 : decode cX3_up 25 = .ok (.iconst 1, 1) := by decide +kernel
theorem dX3_up_26 : decode cX3_up 26 = .ok (.iconst (-1), 1) := by decide +kernel
theorem dX3_up_27 : decode cX3_up 27 = .ok (.invokevirtual 41, 3) := by decide +kernel
theorem dX3_up_30 : decode cX3_up 30 = .ok (.aload_n 2, 1) := by decide +kernel
theorem dX3_up_31 : decode cX3_up 31 = .ok (.getfield 45, 3) := by decide +kernel
theorem dX3_up_34 : decode cX3_up 34 = .ok (.invokevirtual 49, 3) := by decide +kernel
theorem dX3_up_37 : decode cX3_up 37 = .ok (.aload_n 2, 1) := by decide +kernel
theorem dX3_up_38 : decode cX3_up 38 = .ok (.aload_n 2, 1) := by decide +kernel
theorem dX3_up_39 : decode cX3_up 39 = .ok (.getfield 45, 3) := by decide +kernel
theorem dX3_up_42 : decode cX3_up 42 = .ok (.getfield 54, 3) := by decide +kernel
theorem dX3_up_45 : decode cX3_up 45 = .ok (.putfield 57, 3) := by decide +kernel
theorem dX3_up_48 : decode cX3_up 48 = .ok (.aload_n 2, 1) := by decide +kernel
theorem dX3_up_49 : decode cX3_up 49 = .ok (.getfield 45, 3) := by decide +kernel
theorem dX3_up_52 : decode cX3_up 52 = .ok (.getfield 54, 3) := by decide +kernel
theorem dX3_up_55 : decode cX3_up 55 = .ok (.ireturn, 1) := by decide +kernel
set_option maxRecDepth 20000 in
theorem ggX3_crash_X3_nodeAt : GoodIn wsX3_crash wsX3_nodeAt := goodIn_ca (goodIn_r _ [11, 12, 13, 14, 15, 16, 10, 17, 87, 88, 89] (by decide +kernel) (by decide +kernel)) (goodIn_sub (fun _ h => List.mem_cons_of_mem _ (List.mem_append_right _ h)) (by decide +kernel))
set_option maxRecDepth 20000 in
theorem gX3_crash_X3_nodeAt : GoodIn wsX3_crash (wsV RX3 27 RX3 yX3_nodeAt wsX3_nodeAt) := goodIn_app (goodIn_of _ (by decide +kernel)) ggX3_crash_X3_nodeAt
set_option maxRecDepth 20000 in
theorem ggX3_crash_X0_saveFirst : GoodIn wsX3_crash wsX0_saveFirst := goodIn_r _ [22, 23, 24, 25, 26, 27, 28, 29, 30, 31, 32, 21, 33, 34, 35, 36, 37, 90, 91, 92, 93] (by decide +kernel) (by decide +kernel)
set_option maxRecDepth 20000 in
theorem gX3_crash_X0_saveFirst : GoodIn wsX3_crash (wsV RX3 67 RX0 yX0_saveFirst wsX0_saveFirst) := goodIn_app (goodIn_of _ (by decide +kernel)) ggX3_crash_X0_saveFirst
set_option maxRecDepth 20000 in
theorem ggX3_crash_X3_takeRole : GoodIn wsX3_crash wsX3_takeRole := goodIn_ca (goodIn_r _ [41, 5, 42, 43, 6, 44, 45, 7, 8, 9, 10, 11, 12, 13, 14, 15, 16, 17, 46, 47, 48, 49, 50, 51, 52, 53, 54, 55, 56, 57, 58, 59, 60, 61, 62, 63, 64, 65, 66, 67, 68, 69, 70, 71, 72, 73, 74, 75, 76, 77, 78, 79, 80, 81, 82, 83, 84, 85, 86, 90, 91, 92, 93, 87, 88, 89, 94, 95, 96, 97] (by decide +kernel) (by decide +kernel)) (goodIn_sub (fun _ h => List.mem_cons_of_mem _ (List.mem_append_right _ h)) (by decide +kernel))
set_option maxRecDepth 20000 in
theorem gX3_crash_X3_takeRole : GoodIn wsX3_crash (wsV RX3 41 RX3 yX3_takeRole wsX3_takeRole) := goodIn_app (goodIn_of _ (by decide +kernel)) ggX3_crash_X3_takeRole
theorem dX3_crash_0 : decode cX3_crash 0 = .ok (.aload_n 0, 1) := by decide +kernel
theorem dX3_crash_1 : decode cX3_crash 1 = .ok (.iload_n 1, 1) := by decide +kernel
theorem dX3_crash_2 : decode cX3_crash 2 = .ok (.invokevirtual 27, 3) := by decide +kernel
theorem dX3_crash_5 : decode cX3_crash 5 = .ok (.astore_n 3, 1) := by decide +kernel
theorem dX3_crash_6 : decode cX3_crash 6 = .ok (.iload_n 2, 1) := by decide +kernel
theorem dX3_crash_7 : decode cX3_crash 7 = .ok (.ifCond .ge 13, 3) := by decide +kernel
theorem dX3_crash_10 : decode cX3_crash 10 = .ok (.new 60, 3) := by decide +kernel
theorem dX3_crash_13 : decode cX3_crash 13 = .ok (.dup, 1) := by decide +kernel
theorem dX3_crash_14 : decode cX3_crash 14 = .ok (.ldc 62, 2) := by decide +kernel
theorem dX3_crash_16 : decode cX3_crash 16 = .ok (.invokespecial 64, 3) := by decide +kernel
theorem dX3_crash_19 : decode cX3_crash 19 = .ok (.athrow, 1) := by decide +kernel
theorem dX3_crash_20 : decode cX3_crash 20 = .ok (.aload_n 3, 1) := by decide +kernel
theorem dX3_crash_21 : decode cX3_crash 21 = .ok (.getfield 31, 3) := by decide +kernel
theorem dX3_crash_24 : decode cX3_crash 24 = .ok (.ifCond .ne 13, 3) := by decide +kernel
theorem dX3_crash_27 : decode cX3_crash 27 = .ok (.new 34, 3) := by decide +kernel
theorem dX3_crash_30 : decode cX3_crash 30 = .ok (.dup, 1) := by decide +kernel
theorem dX3_crash_31 : decode cX3_crash 31 = .ok (.ldc 65, 2) := by decide +kernel
theorem dX3_crash_33 : decode cX3_crash 33 = .ok (.invokespecial 38, 3) := by decide +kernel
theorem dX3_crash_36 : decode cX3_crash 36 = .ok (.athrow, 1) := by decide +kernel
theorem dX3_crash_37 : decode cX3_crash 37 = .ok (.aload_n 3, 1) := by decide +kernel
theorem dX3_crash_38 : decode cX3_crash 38 = .ok (.getfield 45, 3) := by decide +kernel
theorem dX3_crash_41 : decode cX3_crash 41 = .ok (.iload_n 2, 1) := by decide +kernel
theorem dX3_crash_42 : decode cX3_crash 42 = .ok (.invokevirtual 67, 3) := by decide +kernel
theorem dX3_crash_45 : decode cX3_crash 45 = .ok (.istore 4, 2) := by decide +kernel
theorem dX3_crash_47 : decode cX3_crash 47 = .ok (.aload_n 0, 1) := by decide +kernel
theorem dX3_crash_48 : decode cX3_crash 48 = .ok (.iload_n 1, 1) := by decide +kernel
theorem dX3_crash_49 : decode cX3_crash 49 = .ok (.iconst 0, 1) := by decide +kernel
theorem dX3_crash_50 : decode cX3_crash 50 = .ok (.iconst (-1), 1) := by decide +kernel
theorem dX3_crash_51 : decode cX3_crash 51 = .ok (.invokevirtual 41, 3) := by decide +kernel
theorem dX3_crash_54 : decode cX3_crash 54 = .ok (.iload 4, 2) := by decide +kernel
theorem dX3_crash_56 : decode cX3_crash 56 = .ok (.ireturn, 1) := by decide +kernel
set_option maxRecDepth 20000 in
theorem ggX3_promote_X3_nodeAt : GoodIn wsX3_promote wsX3_nodeAt := goodIn_ca (goodIn_r _ [14, 15, 16, 17, 18, 19, 13, 20, 130, 131, 132] (by decide +kernel) (by decide +kernel)) (goodIn_sub (fun _ h => List.mem_cons_of_mem _ (List.mem_append_right _ h)) (by decide +kernel))
set_option maxRecDepth 20000 in
theorem gX3_promote_X3_nodeAt : GoodIn wsX3_promote (wsV RX3 27 RX3 yX3_nodeAt wsX3_nodeAt) := goodIn_app (goodIn_of _ (by decide +kernel)) ggX3_promote_X3_nodeAt
set_option maxRecDepth 20000 in
theorem ggX3_promote_X3_requireRoom : GoodIn wsX3_promote wsX3_requireRoom := goodIn_ca (goodIn_r _ [23, 3, 4, 7, 24, 25, 26, 27, 28, 29, 122, 123, 124, 125, 126, 127, 128, 129, 133, 134, 135, 136] (by decide +kernel) (by decide +kernel)) (goodIn_sub (fun _ h => List.mem_cons_of_mem _ (List.mem_append_left _ (List.mem_append_right _ h))) (by decide +kernel))
set_option maxRecDepth 20000 in
theorem gX3_promote_X3_requireRoom : GoodIn wsX3_promote (va_wsS RX3 73 yX3_requireRoom wsX3_requireRoom) := goodIn_app (goodIn_of _ (by decide +kernel)) ggX3_promote_X3_requireRoom
set_option maxRecDepth 20000 in
theorem ggX3_promote_X3_takeRole : GoodIn wsX3_promote wsX3_takeRole := goodIn_ca (goodIn_r _ [33, 5, 34, 35, 7, 8, 36, 10, 11, 12, 13, 14, 15, 16, 17, 18, 19, 20, 37, 38, 39, 40, 41, 42, 43, 44, 45, 46, 47, 48, 49, 50, 51, 52, 53, 54, 55, 56, 57, 58, 59, 60, 61, 62, 63, 64, 65, 66, 67, 68, 69, 122, 123, 124, 125, 126, 127, 128, 129, 133, 134, 135, 136, 130, 131, 132, 137, 138, 139, 140] (by decide +kernel) (by decide +kernel)) (goodIn_sub (fun _ h => List.mem_cons_of_mem _ (List.mem_append_right _ h)) (by decide +kernel))
set_option maxRecDepth 20000 in
theorem gX3_promote_X3_takeRole : GoodIn wsX3_promote (wsV RX3 41 RX3 yX3_takeRole wsX3_takeRole) := goodIn_app (goodIn_of _ (by decide +kernel)) ggX3_promote_X3_takeRole
set_option maxRecDepth 20000 in
theorem ggX3_promote_X1_write : GoodIn wsX3_promote wsX1_write := goodIn_r _ [74, 75, 76, 77, 78, 79, 80, 27, 81, 29, 82, 25, 26, 28, 83, 84, 85, 86, 87, 88, 89, 90, 91, 92, 93, 94, 95, 96, 97, 98, 99, 100, 122, 123, 124, 125, 126, 127, 128, 129, 133, 134, 135, 136] (by decide +kernel) (by decide +kernel)
set_option maxRecDepth 20000 in
theorem gX3_promote_X1_write : GoodIn wsX3_promote (wsV RX3 85 RX1 yX1_write wsX1_write) := goodIn_app (goodIn_of _ (by decide +kernel)) ggX3_promote_X1_write
set_option maxRecDepth 20000 in
theorem ggX3_promote_X0_sync : GoodIn wsX3_promote wsX0_sync := goodIn_r _ [104, 29, 105, 106, 107, 108, 27, 109, 110, 111, 112, 113, 87, 114, 115, 116, 117, 118, 119, 120, 121, 133, 134, 135, 136] (by decide +kernel) (by decide +kernel)
set_option maxRecDepth 20000 in
theorem gX3_promote_X0_sync : GoodIn wsX3_promote (wsV RX3 89 RX0 yX0_sync wsX0_sync) := goodIn_app (goodIn_of _ (by decide +kernel)) ggX3_promote_X0_sync
theorem dX3_promote_0 : decode cX3_promote 0 = .ok (.aload_n 0, 1) := by decide +kernel
theorem dX3_promote_1 : decode cX3_promote 1 = .ok (.iload_n 1, 1) := by decide +kernel
theorem dX3_promote_2 : decode cX3_promote 2 = .ok (.invokevirtual 27, 3) := by decide +kernel
theorem dX3_promote_5 : decode cX3_promote 5 = .ok (.astore_n 2, 1) := by decide +kernel
theorem dX3_promote_6 : decode cX3_promote 6 = .ok (.aload_n 2, 1) := by decide +kernel
theorem dX3_promote_7 : decode cX3_promote 7 = .ok (.getfield 31, 3) := by decide +kernel
theorem dX3_promote_10 : decode cX3_promote 10 = .ok (.ifCond .eq 11, 3) := by decide +kernel
theorem dX3_promote_13 : decode cX3_promote 13 = .ok (.aload_n 2, 1) := by decide +kernel
theorem dX3_promote_14 : decode cX3_promote 14 = .ok (.getfield 31, 3) := by decide +kernel
theorem dX3_promote_17 : decode cX3_promote 17 = .ok (.iconst 2, 1) := by decide +kernel
theorem dX3_promote_18 : decode cX3_promote 18 = .ok (.if_icmp .ne 13, 3) := by decide +kernel
theorem dX3_promote_21 : decode cX3_promote 21 = .ok (.new 34, 3) := by decide +kernel
theorem dX3_promote_24 : decode cX3_promote 24 = .ok (.dup, 1) := by decide +kernel
theorem dX3_promote_25 : decode cX3_promote 25 = .ok (.ldc 71, 2) := by decide +kernel
theorem dX3_promote_27 : decode cX3_promote 27 = .ok (.invokespecial 38, 3) := by decide +kernel
theorem dX3_promote_30 : decode cX3_promote 30 = .ok (.athrow, 1) := by decide +kernel
theorem dX3_promote_31 : decode cX3_promote 31 = .ok (.aload_n 2, 1) := by decide +kernel
theorem dX3_promote_32 : decode cX3_promote 32 = .ok (.invokestatic 73, 3) := by decide +kernel
theorem dX3_promote_35 : decode cX3_promote 35 = .ok (.aload_n 0, 1) := by decide +kernel
theorem dX3_promote_36 : decode cX3_promote 36 = .ok (.getfield 23, 3) := by decide +kernel
theorem dX3_promote_39 : decode cX3_promote 39 = .ok (.sipush 255, 3) := by decide +kernel
theorem dX3_promote_42 : decode cX3_promote 42 = .ok (.if_icmp .lt 13, 3) := by decide +kernel
theorem dX3_promote_45 : decode cX3_promote 45 = .ok (.new 77, 3) := by decide +kernel
theorem dX3_promote_48 : decode cX3_promote 48 = .ok (.dup, 1) := by decide +kernel
theorem dX3_promote_49 : decode cX3_promote 49 = .ok (.ldc 79, 2) := by decide +kernel
theorem dX3_promote_51 : decode cX3_promote 51 = .ok (.invokespecial 81, 3) := by decide +kernel
theorem dX3_promote_54 : decode cX3_promote 54 = .ok (.athrow, 1) := by decide +kernel
theorem dX3_promote_55 : decode cX3_promote 55 = .ok (.aload_n 0, 1) := by decide +kernel
theorem dX3_promote_56 : decode cX3_promote 56 = .ok (.dup, 1) := by decide +kernel
theorem dX3_promote_57 : decode cX3_promote 57 = .ok (.getfield 23, 3) := by decide +kernel
theorem dX3_promote_60 : decode cX3_promote 60 = .ok (.iconst 1, 1) := by decide +kernel
theorem dX3_promote_61 : decode cX3_promote 61 = .ok (.iadd, 1) := by decide +kernel
theorem dX3_promote_62 : decode cX3_promote 62 = .ok (.putfield 23, 3) := by decide +kernel
theorem dX3_promote_65 : decode cX3_promote 65 = .ok (.aload_n 0, 1) := by decide +kernel
theorem dX3_promote_66 : decode cX3_promote 66 = .ok (.iload_n 1, 1) := by decide +kernel
theorem dX3_promote_67 : decode cX3_promote 67 = .ok (.iconst 2, 1) := by decide +kernel
theorem dX3_promote_68 : decode cX3_promote 68 = .ok (.iconst (-1), 1) := by decide +kernel
theorem dX3_promote_69 : decode cX3_promote 69 = .ok (.invokevirtual 41, 3) := by decide +kernel
theorem dX3_promote_72 : decode cX3_promote 72 = .ok (.aload_n 2, 1) := by decide +kernel
theorem dX3_promote_73 : decode cX3_promote 73 = .ok (.aload_n 2, 1) := by decide +kernel
theorem dX3_promote_74 : decode cX3_promote 74 = .ok (.getfield 45, 3) := by decide +kernel
theorem dX3_promote_77 : decode cX3_promote 77 = .ok (.getfield 54, 3) := by decide +kernel
theorem dX3_promote_80 : decode cX3_promote 80 = .ok (.putfield 82, 3) := by decide +kernel
theorem dX3_promote_83 : decode cX3_promote 83 = .ok (.aload_n 2, 1) := by decide +kernel
theorem dX3_promote_84 : decode cX3_promote 84 = .ok (.iconst 3, 1) := by decide +kernel
theorem dX3_promote_85 : decode cX3_promote 85 = .ok (.aload_n 0, 1) := by decide +kernel
theorem dX3_promote_86 : decode cX3_promote 86 = .ok (.getfield 23, 3) := by decide +kernel
theorem dX3_promote_89 : decode cX3_promote 89 = .ok (.iconst 0, 1) := by decide +kernel
theorem dX3_promote_90 : decode cX3_promote 90 = .ok (.iconst 0, 1) := by decide +kernel
theorem dX3_promote_91 : decode cX3_promote 91 = .ok (.invokevirtual 85, 3) := by decide +kernel
theorem dX3_promote_94 : decode cX3_promote 94 = .ok (.aload_n 2, 1) := by decide +kernel
theorem dX3_promote_95 : decode cX3_promote 95 = .ok (.getfield 45, 3) := by decide +kernel
theorem dX3_promote_98 : decode cX3_promote 98 = .ok (.invokevirtual 89, 3) := by decide +kernel
theorem dX3_promote_101 : decode cX3_promote 101 = .ok (.aload_n 0, 1) := by decide +kernel
theorem dX3_promote_102 : decode cX3_promote 102 = .ok (.getfield 23, 3) := by decide +kernel
theorem dX3_promote_105 : decode cX3_promote 105 = .ok (.ireturn, 1) := by decide +kernel
set_option maxRecDepth 20000 in
theorem ggX3_follow_X3_nodeAt : GoodIn wsX3_follow wsX3_nodeAt := goodIn_ca (goodIn_r _ [11, 12, 13, 14, 15, 16, 10, 17, 93, 94, 95] (by decide +kernel) (by decide +kernel)) (goodIn_sub (fun _ h => List.mem_cons_of_mem _ (List.mem_append_right _ h)) (by decide +kernel))
set_option maxRecDepth 20000 in
theorem gX3_follow_X3_nodeAt : GoodIn wsX3_follow (wsV RX3 27 RX3 yX3_nodeAt wsX3_nodeAt) := goodIn_app (goodIn_of _ (by decide +kernel)) ggX3_follow_X3_nodeAt
set_option maxRecDepth 20000 in
theorem ggX3_follow_X3_requirePrimary : GoodIn wsX3_follow wsX3_requirePrimary := goodIn_ca (goodIn_r _ [20, 1, 2, 5, 85, 86, 87, 88, 89, 90, 91, 92] (by decide +kernel) (by decide +kernel)) (goodIn_sub (fun _ h => List.mem_cons_of_mem _ (List.mem_append_left _ (List.mem_append_left _ (List.mem_append_right _ h)))) (by decide +kernel))
set_option maxRecDepth 20000 in
theorem gX3_follow_X3_requirePrimary : GoodIn wsX3_follow (va_wsS RX3 92 yX3_requirePrimary wsX3_requirePrimary) := goodIn_app (goodIn_of _ (by decide +kernel)) ggX3_follow_X3_requirePrimary
set_option maxRecDepth 20000 in
theorem ggX3_follow_X0_isBeginningOf : GoodIn wsX3_follow wsX0_isBeginningOf := goodIn_r _ [25, 26, 27, 28, 29, 24, 30, 31, 32, 33, 34, 35, 36, 37, 38, 39, 40, 41, 42, 43, 96, 97, 98, 99] (by decide +kernel) (by decide +kernel)
set_option maxRecDepth 20000 in
theorem gX3_follow_X0_isBeginningOf : GoodIn wsX3_follow (wsV RX3 95 RX0 yX0_isBeginningOf wsX0_isBeginningOf) := goodIn_app (goodIn_of _ (by decide +kernel)) ggX3_follow_X0_isBeginningOf
set_option maxRecDepth 20000 in
theorem ggX3_follow_X3_takeRole : GoodIn wsX3_follow wsX3_takeRole := goodIn_ca (goodIn_r _ [47, 5, 48, 49, 6, 50, 51, 7, 8, 9, 10, 11, 12, 13, 14, 15, 16, 17, 52, 53, 54, 55, 56, 57, 58, 59, 60, 61, 62, 63, 64, 65, 66, 67, 68, 69, 70, 71, 72, 73, 74, 75, 76, 77, 78, 79, 80, 81, 82, 83, 84, 85, 86, 87, 88, 89, 90, 91, 92, 96, 97, 98, 99, 93, 94, 95, 100, 101, 102, 103] (by decide +kernel) (by decide +kernel)) (goodIn_sub (fun _ h => List.mem_cons_of_mem _ (List.mem_append_right _ h)) (by decide +kernel))
set_option maxRecDepth 20000 in
theorem gX3_follow_X3_takeRole : GoodIn wsX3_follow (wsV RX3 41 RX3 yX3_takeRole wsX3_takeRole) := goodIn_app (goodIn_of _ (by decide +kernel)) ggX3_follow_X3_takeRole
theorem dX3_follow_0 : decode cX3_follow 0 = .ok (.aload_n 0, 1) := by decide +kernel
theorem dX3_follow_1 : decode cX3_follow 1 = .ok (.iload_n 1, 1) := by decide +kernel
theorem dX3_follow_2 : decode cX3_follow 2 = .ok (.invokevirtual 27, 3) := by decide +kernel
theorem dX3_follow_5 : decode cX3_follow 5 = .ok (.astore_n 3, 1) := by decide +kernel
theorem dX3_follow_6 : decode cX3_follow 6 = .ok (.aload_n 0, 1) := by decide +kernel
theorem dX3_follow_7 : decode cX3_follow 7 = .ok (.iload_n 2, 1) := by decide +kernel
theorem dX3_follow_8 : decode cX3_follow 8 = .ok (.invokevirtual 27, 3) := by decide +kernel
theorem dX3_follow_11 : decode cX3_follow 11 = .ok (.astore 4, 2) := by decide +kernel
theorem dX3_follow_13 : decode cX3_follow 13 = .ok (.aload_n 3, 1) := by decide +kernel
theorem dX3_follow_14 : decode cX3_follow 14 = .ok (.getfield 31, 3) := by decide +kernel
theorem dX3_follow_17 : decode cX3_follow 17 = .ok (.ifCond .eq 11, 3) := by decide +kernel
theorem dX3_follow_20 : decode cX3_follow 20 = .ok (.aload_n 3, 1) := by decide +kernel
theorem dX3_follow_21 : decode cX3_follow 21 = .ok (.getfield 31, 3) := by decide +kernel
theorem dX3_follow_24 : decode cX3_follow 24 = .ok (.iconst 2, 1) := by decide +kernel
theorem dX3_follow_25 : decode cX3_follow 25 = .ok (.if_icmp .ne 13, 3) := by decide +kernel
theorem dX3_follow_28 : decode cX3_follow 28 = .ok (.new 34, 3) := by decide +kernel
theorem dX3_follow_31 : decode cX3_follow 31 = .ok (.dup, 1) := by decide +kernel
theorem dX3_follow_32 : decode cX3_follow 32 = .ok (.ldc 71, 2) := by decide +kernel
theorem dX3_follow_34 : decode cX3_follow 34 = .ok (.invokespecial 38, 3) := by decide +kernel
theorem dX3_follow_37 : decode cX3_follow 37 = .ok (.athrow, 1) := by decide +kernel
theorem dX3_follow_38 : decode cX3_follow 38 = .ok (.aload 4, 2) := by decide +kernel
theorem dX3_follow_40 : decode cX3_follow 40 = .ok (.invokestatic 92, 3) := by decide +kernel
theorem dX3_follow_43 : decode cX3_follow 43 = .ok (.aload_n 3, 1) := by decide +kernel
theorem dX3_follow_44 : decode cX3_follow 44 = .ok (.getfield 45, 3) := by decide +kernel
theorem dX3_follow_47 : decode cX3_follow 47 = .ok (.aload 4, 2) := by decide +kernel
theorem dX3_follow_49 : decode cX3_follow 49 = .ok (.getfield 45, 3) := by decide +kernel
theorem dX3_follow_52 : decode cX3_follow 52 = .ok (.invokevirtual 95, 3) := by decide +kernel
theorem dX3_follow_55 : decode cX3_follow 55 = .ok (.ifCond .ne 13, 3) := by decide +kernel
theorem dX3_follow_58 : decode cX3_follow 58 = .ok (.new 60, 3) := by decide +kernel
theorem dX3_follow_61 : decode cX3_follow 61 = .ok (.dup, 1) := by decide +kernel
theorem dX3_follow_62 : decode cX3_follow 62 = .ok (.ldc 99, 2) := by decide +kernel
theorem dX3_follow_64 : decode cX3_follow 64 = .ok (.invokespecial 64, 3) := by decide +kernel
theorem dX3_follow_67 : decode cX3_follow 67 = .ok (.athrow, 1) := by decide +kernel
theorem dX3_follow_68 : decode cX3_follow 68 = .ok (.aload_n 0, 1) := by decide +kernel
theorem dX3_follow_69 : decode cX3_follow 69 = .ok (.iload_n 1, 1) := by decide +kernel
theorem dX3_follow_70 : decode cX3_follow 70 = .ok (.iconst 3, 1) := by decide +kernel
theorem dX3_follow_71 : decode cX3_follow 71 = .ok (.iload_n 2, 1) := by decide +kernel
theorem dX3_follow_72 : decode cX3_follow 72 = .ok (.invokevirtual 41, 3) := by decide +kernel
theorem dX3_follow_75 : decode cX3_follow 75 = .ok (.return_, 1) := by decide +kernel
set_option maxRecDepth 20000 in
theorem ggX3_rewind_X3_nodeAt : GoodIn wsX3_rewind wsX3_nodeAt := goodIn_ca (goodIn_r _ [11, 12, 13, 14, 15, 16, 10, 17, 109, 110, 111] (by decide +kernel) (by decide +kernel)) (goodIn_sub (fun _ h => List.mem_cons_of_mem _ (List.mem_append_right _ h)) (by decide +kernel))
set_option maxRecDepth 20000 in
theorem gX3_rewind_X3_nodeAt : GoodIn wsX3_rewind (wsV RX3 27 RX3 yX3_nodeAt wsX3_nodeAt) := goodIn_app (goodIn_of _ (by decide +kernel)) ggX3_rewind_X3_nodeAt
set_option maxRecDepth 20000 in
theorem ggX3_rewind_X3_requirePrimary : GoodIn wsX3_rewind wsX3_requirePrimary := goodIn_ca (goodIn_r _ [20, 1, 2, 3, 97, 98, 99, 100, 101, 102, 103, 104] (by decide +kernel) (by decide +kernel)) (goodIn_sub (fun _ h => List.mem_cons_of_mem _ (List.mem_append_left _ (List.mem_append_right _ h))) (by decide +kernel))
set_option maxRecDepth 20000 in
theorem gX3_rewind_X3_requirePrimary : GoodIn wsX3_rewind (va_wsS RX3 92 yX3_requirePrimary wsX3_requirePrimary) := goodIn_app (goodIn_of _ (by decide +kernel)) ggX3_rewind_X3_requirePrimary
set_option maxRecDepth 20000 in
theorem ggX3_rewind_X0_sharedWith : GoodIn wsX3_rewind wsX0_sharedWith := goodIn_r _ [25, 26, 27, 28, 29, 30, 31, 32, 33, 24, 34, 35, 36, 37, 38, 39, 105, 106, 107, 108] (by decide +kernel) (by decide +kernel)
set_option maxRecDepth 20000 in
theorem gX3_rewind_X0_sharedWith : GoodIn wsX3_rewind (wsV RX3 103 RX0 yX0_sharedWith wsX0_sharedWith) := goodIn_app (goodIn_of _ (by decide +kernel)) ggX3_rewind_X0_sharedWith
set_option maxRecDepth 20000 in
theorem ggX3_rewind_X0_cutTo : GoodIn wsX3_rewind wsX0_cutTo := goodIn_r _ [43, 26, 44, 39, 45, 46, 47, 48, 24, 49, 50, 51, 52, 53, 54, 55, 56, 105, 106, 107, 108] (by decide +kernel) (by decide +kernel)
set_option maxRecDepth 20000 in
theorem gX3_rewind_X0_cutTo : GoodIn wsX3_rewind (wsV RX3 107 RX0 yX0_cutTo wsX0_cutTo) := goodIn_app (goodIn_of _ (by decide +kernel)) ggX3_rewind_X0_cutTo
set_option maxRecDepth 20000 in
theorem ggX3_rewind_X3_takeRole : GoodIn wsX3_rewind wsX3_takeRole := goodIn_ca (goodIn_r _ [60, 3, 61, 62, 4, 5, 63, 7, 8, 9, 10, 11, 12, 13, 14, 15, 16, 17, 64, 65, 66, 67, 68, 69, 70, 71, 72, 73, 74, 75, 76, 77, 78, 79, 80, 81, 82, 83, 84, 85, 86, 87, 88, 89, 90, 91, 92, 93, 94, 95, 96, 97, 98, 99, 100, 101, 102, 103, 104, 105, 106, 107, 108, 109, 110, 111, 112, 113, 114, 115] (by decide +kernel) (by decide +kernel)) (goodIn_sub (fun _ h => List.mem_cons_of_mem _ (List.mem_append_right _ h)) (by decide +kernel))
set_option maxRecDepth 20000 in
theorem gX3_rewind_X3_takeRole : GoodIn wsX3_rewind (wsV RX3 41 RX3 yX3_takeRole wsX3_takeRole) := goodIn_app (goodIn_of _ (by decide +kernel)) ggX3_rewind_X3_takeRole
theorem dX3_rewind_0 : decode cX3_rewind 0 = .ok (.aload_n 0, 1) := by decide +kernel
theorem dX3_rewind_1 : decode cX3_rewind 1 = .ok (.iload_n 1, 1) := by decide +kernel
theorem dX3_rewind_2 : decode cX3_rewind 2 = .ok (.invokevirtual 27, 3) := by decide +kernel
theorem dX3_rewind_5 : decode cX3_rewind 5 = .ok (.astore_n 3, 1) := by decide +kernel
theorem dX3_rewind_6 : decode cX3_rewind 6 = .ok (.aload_n 0, 1) := by decide +kernel
theorem dX3_rewind_7 : decode cX3_rewind 7 = .ok (.iload_n 2, 1) := by decide +kernel
theorem dX3_rewind_8 : decode cX3_rewind 8 = .ok (.invokevirtual 27, 3) := by decide +kernel
theorem dX3_rewind_11 : decode cX3_rewind 11 = .ok (.astore 4, 2) := by decide +kernel
theorem dX3_rewind_13 : decode cX3_rewind 13 = .ok (.aload_n 3, 1) := by decide +kernel
theorem dX3_rewind_14 : decode cX3_rewind 14 = .ok (.getfield 31, 3) := by decide +kernel
theorem dX3_rewind_17 : decode cX3_rewind 17 = .ok (.ifCond .eq 8, 3) := by decide +kernel
theorem dX3_rewind_20 : decode cX3_rewind 20 = .ok (.iload_n 1, 1) := by decide +kernel
theorem dX3_rewind_21 : decode cX3_rewind 21 = .ok (.iload_n 2, 1) := by decide +kernel
theorem dX3_rewind_22 : decode cX3_rewind 22 = .ok (.if_icmp .ne 13, 3) := by decide +kernel
theorem dX3_rewind_25 : decode cX3_rewind 25 = .ok (.new 34, 3) := by decide +kernel
theorem dX3_rewind_28 : decode cX3_rewind 28 = .ok (.dup, 1) := by decide +kernel
theorem dX3_rewind_29 : decode cX3_rewind 29 = .ok (.ldc 101, 2) := by decide +kernel
theorem dX3_rewind_31 : decode cX3_rewind 31 = .ok (.invokespecial 38, 3) := by decide +kernel
theorem dX3_rewind_34 : decode cX3_rewind 34 = .ok (.athrow, 1) := by decide +kernel
theorem dX3_rewind_35 : decode cX3_rewind 35 = .ok (.aload 4, 2) := by decide +kernel
theorem dX3_rewind_37 : decode cX3_rewind 37 = .ok (.invokestatic 92, 3) := by decide +kernel
theorem dX3_rewind_40 : decode cX3_rewind 40 = .ok (.aload_n 3, 1) := by decide +kernel
theorem dX3_rewind_41 : decode cX3_rewind 41 = .ok (.getfield 45, 3) := by decide +kernel
theorem dX3_rewind_44 : decode cX3_rewind 44 = .ok (.getfield 54, 3) := by decide +kernel
theorem dX3_rewind_47 : decode cX3_rewind 47 = .ok (.istore 5, 2) := by decide +kernel
theorem dX3_rewind_49 : decode cX3_rewind 49 = .ok (.aload_n 3, 1) := by decide +kernel
theorem dX3_rewind_50 : decode cX3_rewind 50 = .ok (.getfield 45, 3) := by decide +kernel
theorem dX3_rewind_53 : decode cX3_rewind 53 = .ok (.aload_n 3, 1) := by decide +kernel
theorem dX3_rewind_54 : decode cX3_rewind 54 = .ok (.getfield 45, 3) := by decide +kernel
theorem dX3_rewind_57 : decode cX3_rewind 57 = .ok (.aload 4, 2) := by decide +kernel
theorem dX3_rewind_59 : decode cX3_rewind 59 = .ok (.getfield 45, 3) := by decide +kernel
theorem dX3_rewind_62 : decode cX3_rewind 62 = .ok (.invokevirtual 103, 3) := by decide +kernel
theorem dX3_rewind_65 : decode cX3_rewind 65 = .ok (.invokevirtual 107, 3) := by decide +kernel
theorem dX3_rewind_68 : decode cX3_rewind 68 = .ok (.aload_n 3, 1) := by decide +kernel
theorem dX3_rewind_69 : decode cX3_rewind 69 = .ok (.aload_n 3, 1) := by decide +kernel
theorem dX3_rewind_70 : decode cX3_rewind 70 = .ok (.getfield 45, 3) := by decide +kernel
theorem dX3_rewind_73 : decode cX3_rewind 73 = .ok (.getfield 54, 3) := by decide +kernel
theorem dX3_rewind_76 : decode cX3_rewind 76 = .ok (.putfield 57, 3) := by decide +kernel
theorem dX3_rewind_79 : decode cX3_rewind 79 = .ok (.aload_n 0, 1) := by decide +kernel
theorem dX3_rewind_80 : decode cX3_rewind 80 = .ok (.iload_n 1, 1) := by decide +kernel
theorem dX3_rewind_81 : decode cX3_rewind 81 = .ok (.iconst 3, 1) := by decide +kernel
theorem dX3_rewind_82 : decode cX3_rewind 82 = .ok (.iload_n 2, 1) := by decide +kernel
theorem dX3_rewind_83 : decode cX3_rewind 83 = .ok (.invokevirtual 41, 3) := by decide +kernel
theorem dX3_rewind_86 : decode cX3_rewind 86 = .ok (.iload 5, 2) := by decide +kernel
theorem dX3_rewind_88 : decode cX3_rewind 88 = .ok (.aload_n 3, 1) := by decide +kernel
theorem dX3_rewind_89 : decode cX3_rewind 89 = .ok (.getfield 45, 3) := by decide +kernel
theorem dX3_rewind_92 : decode cX3_rewind 92 = .ok (.getfield 54, 3) := by decide +kernel
theorem dX3_rewind_95 : decode cX3_rewind 95 = .ok (.isub, 1) := by decide +kernel
theorem dX3_rewind_96 : decode cX3_rewind 96 = .ok (.ireturn, 1) := by decide +kernel
set_option maxRecDepth 20000 in
theorem ggX3_put_X3_nodeAt : GoodIn wsX3_put wsX3_nodeAt := goodIn_ca (goodIn_r _ [9, 10, 11, 12, 13, 14, 8, 15, 87, 88, 89] (by decide +kernel) (by decide +kernel)) (goodIn_sub (fun _ h => List.mem_cons_of_mem _ (List.mem_append_left _ (List.mem_append_left _ (List.mem_append_right _ h)))) (by decide +kernel))
set_option maxRecDepth 20000 in
theorem gX3_put_X3_nodeAt : GoodIn wsX3_put (wsV RX3 27 RX3 yX3_nodeAt wsX3_nodeAt) := goodIn_app (goodIn_of _ (by decide +kernel)) ggX3_put_X3_nodeAt
set_option maxRecDepth 20000 in
theorem ggX3_put_X3_requirePrimary : GoodIn wsX3_put wsX3_requirePrimary := goodIn_ca (goodIn_r _ [18, 19, 20, 21, 75, 76, 77, 78, 79, 80, 81, 82] (by decide +kernel) (by decide +kernel)) (goodIn_sub (fun _ h => List.mem_cons_of_mem _ (List.mem_append_left _ (List.mem_append_right _ h))) (by decide +kernel))
set_option maxRecDepth 20000 in
theorem gX3_put_X3_requirePrimary : GoodIn wsX3_put (va_wsS RX3 92 yX3_requirePrimary wsX3_requirePrimary) := goodIn_app (goodIn_of _ (by decide +kernel)) ggX3_put_X3_requirePrimary
set_option maxRecDepth 20000 in
theorem ggX3_put_X3_isKey : GoodIn wsX3_put wsX3_isKey := goodIn_r _ [24] (by decide +kernel) (by decide +kernel)
set_option maxRecDepth 20000 in
theorem gX3_put_X3_isKey : GoodIn wsX3_put (va_wsS RX3 111 yX3_isKey wsX3_isKey) := goodIn_app (goodIn_of _ (by decide +kernel)) ggX3_put_X3_isKey
set_option maxRecDepth 20000 in
theorem ggX3_put_X3_requireRoom : GoodIn wsX3_put wsX3_requireRoom := goodIn_ca (goodIn_r _ [27, 28, 29, 3, 30, 31, 32, 33, 34, 35, 75, 76, 77, 78, 79, 80, 81, 82, 83, 84, 85, 86] (by decide +kernel) (by decide +kernel)) (goodIn_sub (fun _ h => List.mem_cons_of_mem _ (List.mem_append_right _ h)) (by decide +kernel))
set_option maxRecDepth 20000 in
theorem gX3_put_X3_requireRoom : GoodIn wsX3_put (va_wsS RX3 73 yX3_requireRoom wsX3_requireRoom) := goodIn_app (goodIn_of _ (by decide +kernel)) ggX3_put_X3_requireRoom
set_option maxRecDepth 20000 in
theorem ggX3_put_X0_lastTimeline : GoodIn wsX3_put wsX0_lastTimeline := goodIn_r _ [39, 35, 40, 41, 42, 33, 43, 44, 45, 46, 47, 48, 83, 84, 85, 86] (by decide +kernel) (by decide +kernel)
set_option maxRecDepth 20000 in
theorem gX3_put_X0_lastTimeline : GoodIn wsX3_put (wsV RX3 117 RX0 yX0_lastTimeline wsX0_lastTimeline) := goodIn_app (goodIn_of _ (by decide +kernel)) ggX3_put_X0_lastTimeline
set_option maxRecDepth 20000 in
theorem ggX3_put_X1_write : GoodIn wsX3_put wsX1_write := goodIn_r _ [53, 54, 55, 56, 57, 58, 59, 33, 60, 35, 61, 31, 32, 34, 62, 63, 64, 65, 48, 66, 67, 68, 69, 70, 71, 72, 73, 74, 44, 45, 46, 47, 75, 76, 77, 78, 79, 80, 81, 82, 83, 84, 85, 86] (by decide +kernel) (by decide +kernel)
set_option maxRecDepth 20000 in
theorem gX3_put_X1_write : GoodIn wsX3_put (wsV RX3 85 RX1 yX1_write wsX1_write) := goodIn_app (goodIn_of _ (by decide +kernel)) ggX3_put_X1_write
theorem dX3_put_0 : decode cX3_put 0 = .ok (.aload_n 0, 1) := by decide +kernel
theorem dX3_put_1 : decode cX3_put 1 = .ok (.iload_n 1, 1) := by decide +kernel
theorem dX3_put_2 : decode cX3_put 2 = .ok (.invokevirtual 27, 3) := by decide +kernel
theorem dX3_put_5 : decode cX3_put 5 = .ok (.astore 4, 2) := by decide +kernel
theorem dX3_put_7 : decode cX3_put 7 = .ok (.aload 4, 2) := by decide +kernel
theorem dX3_put_9 : decode cX3_put 9 = .ok (.invokestatic 92, 3) := by decide +kernel
theorem dX3_put_12 : decode cX3_put 12 = .ok (.iload_n 2, 1) := by decide +kernel
theorem dX3_put_13 : decode cX3_put 13 = .ok (.invokestatic 111, 3) := by decide +kernel
theorem dX3_put_16 : decode cX3_put 16 = .ok (.ifCond .ne 13, 3) := by decide +kernel
theorem dX3_put_19 : decode cX3_put 19 = .ok (.new 60, 3) := by decide +kernel
theorem dX3_put_22 : decode cX3_put 22 = .ok (.dup, 1) := by decide +kernel
theorem dX3_put_23 : decode cX3_put 23 = .ok (.ldc 115, 2) := by decide +kernel
theorem dX3_put_25 : decode cX3_put 25 = .ok (.invokespecial 64, 3) := by decide +kernel
theorem dX3_put_28 : decode cX3_put 28 = .ok (.athrow, 1) := by decide +kernel
theorem dX3_put_29 : decode cX3_put 29 = .ok (.aload 4, 2) := by decide +kernel
theorem dX3_put_31 : decode cX3_put 31 = .ok (.invokestatic 73, 3) := by decide +kernel
theorem dX3_put_34 : decode cX3_put 34 = .ok (.aload 4, 2) := by decide +kernel
theorem dX3_put_36 : decode cX3_put 36 = .ok (.getfield 45, 3) := by decide +kernel
theorem dX3_put_39 : decode cX3_put 39 = .ok (.getfield 54, 3) := by decide +kernel
theorem dX3_put_42 : decode cX3_put 42 = .ok (.istore 5, 2) := by decide +kernel
theorem dX3_put_44 : decode cX3_put 44 = .ok (.aload 4, 2) := by decide +kernel
theorem dX3_put_46 : decode cX3_put 46 = .ok (.iconst 1, 1) := by decide +kernel
theorem dX3_put_47 : decode cX3_put 47 = .ok (.aload 4, 2) := by decide +kernel
theorem dX3_put_49 : decode cX3_put 49 = .ok (.getfield 45, 3) := by decide +kernel
theorem dX3_put_52 : decode cX3_put 52 = .ok (.invokevirtual 117, 3) := by decide +kernel
theorem dX3_put_55 : decode cX3_put 55 = .ok (.iload_n 2, 1) := by decide +kernel
theorem dX3_put_56 : decode cX3_put 56 = .ok (.iload_n 3, 1) := by decide +kernel
theorem dX3_put_57 : decode cX3_put 57 = .ok (.invokevirtual 85, 3) := by decide +kernel
theorem dX3_put_60 : decode cX3_put 60 = .ok (.iload 5, 2) := by decide +kernel
theorem dX3_put_62 : decode cX3_put 62 = .ok (.ireturn, 1) := by decide +kernel
set_option maxRecDepth 20000 in
theorem ggX3_commit_X3_nodeAt : GoodIn wsX3_commit wsX3_nodeAt := goodIn_ca (goodIn_r _ [8, 9, 10, 11, 12, 13, 7, 14, 124, 125, 126] (by decide +kernel) (by decide +kernel)) (goodIn_sub (fun _ h => List.mem_cons_of_mem _ (List.mem_append_left _ (List.mem_append_left _ (List.mem_append_right _ h)))) (by decide +kernel))
set_option maxRecDepth 20000 in
theorem gX3_commit_X3_nodeAt : GoodIn wsX3_commit (wsV RX3 27 RX3 yX3_nodeAt wsX3_nodeAt) := goodIn_app (goodIn_of _ (by decide +kernel)) ggX3_commit_X3_nodeAt
set_option maxRecDepth 20000 in
theorem ggX3_commit_X3_requirePrimary : GoodIn wsX3_commit wsX3_requirePrimary := goodIn_ca (goodIn_r _ [17, 18, 19, 20, 112, 113, 114, 115, 116, 117, 118, 119] (by decide +kernel) (by decide +kernel)) (goodIn_sub (fun _ h => List.mem_cons_of_mem _ (List.mem_append_left _ (List.mem_append_right _ h))) (by decide +kernel))
set_option maxRecDepth 20000 in
theorem gX3_commit_X3_requirePrimary : GoodIn wsX3_commit (va_wsS RX3 92 yX3_requirePrimary wsX3_requirePrimary) := goodIn_app (goodIn_of _ (by decide +kernel)) ggX3_commit_X3_requirePrimary
set_option maxRecDepth 20000 in
theorem ggX3_commit_X3_requireRoom : GoodIn wsX3_commit wsX3_requireRoom := goodIn_ca (goodIn_r _ [23, 24, 25, 1, 26, 27, 28, 29, 30, 31, 112, 113, 114, 115, 116, 117, 118, 119, 120, 121, 122, 123] (by decide +kernel) (by decide +kernel)) (goodIn_sub (fun _ h => List.mem_cons_of_mem _ (List.mem_append_right _ h)) (by decide +kernel))
set_option maxRecDepth 20000 in
theorem gX3_commit_X3_requireRoom : GoodIn wsX3_commit (va_wsS RX3 73 yX3_requireRoom wsX3_requireRoom) := goodIn_app (goodIn_of _ (by decide +kernel)) ggX3_commit_X3_requireRoom
set_option maxRecDepth 20000 in
theorem ggX3_commit_X0_lastTimeline : GoodIn wsX3_commit wsX0_lastTimeline := goodIn_r _ [35, 31, 36, 37, 38, 29, 39, 40, 41, 42, 43, 44, 120, 121, 122, 123] (by decide +kernel) (by decide +kernel)
set_option maxRecDepth 20000 in
theorem gX3_commit_X0_lastTimeline : GoodIn wsX3_commit (wsV RX3 117 RX0 yX0_lastTimeline wsX0_lastTimeline) := goodIn_app (goodIn_of _ (by decide +kernel)) ggX3_commit_X0_lastTimeline
set_option maxRecDepth 20000 in
theorem ggX3_commit_X1_write : GoodIn wsX3_commit wsX1_write := goodIn_r _ [49, 50, 51, 52, 53, 54, 55, 29, 56, 31, 57, 27, 28, 30, 58, 59, 60, 61, 44, 62, 63, 64, 65, 66, 67, 68, 69, 70, 40, 41, 42, 43, 112, 113, 114, 115, 116, 117, 118, 119, 120, 121, 122, 123] (by decide +kernel) (by decide +kernel)
set_option maxRecDepth 20000 in
theorem gX3_commit_X1_write : GoodIn wsX3_commit (wsV RX3 85 RX1 yX1_write wsX1_write) := goodIn_app (goodIn_of _ (by decide +kernel)) ggX3_commit_X1_write
set_option maxRecDepth 20000 in
theorem ggX3_commit_X0_sync : GoodIn wsX3_commit wsX0_sync := goodIn_r _ [74, 31, 75, 76, 77, 78, 29, 79, 80, 81, 82, 83, 44, 84, 85, 86, 87, 88, 89, 90, 91, 120, 121, 122, 123] (by decide +kernel) (by decide +kernel)
set_option maxRecDepth 20000 in
theorem gX3_commit_X0_sync : GoodIn wsX3_commit (wsV RX3 89 RX0 yX0_sync wsX0_sync) := goodIn_app (goodIn_of _ (by decide +kernel)) ggX3_commit_X0_sync
set_option maxRecDepth 20000 in
theorem ggX3_commit_X3_safePosition : GoodIn wsX3_commit wsX3_safePosition := goodIn_ca (goodIn_r _ [95, 96, 1, 3, 97, 4, 5, 6, 7, 8, 9, 10, 11, 12, 13, 14, 112, 113, 114, 115, 116, 117, 118, 119, 120, 121, 122, 123, 124, 125, 126] (by decide +kernel) (by decide +kernel)) (goodIn_sub (fun _ h => List.mem_cons_of_mem _ (List.mem_append_left _ (List.mem_append_left _ (List.mem_append_right _ h)))) (by decide +kernel))
set_option maxRecDepth 20000 in
theorem gX3_commit_X3_safePosition : GoodIn wsX3_commit (wsV RX3 121 RX3 yX3_safePosition wsX3_safePosition) := goodIn_app (goodIn_of _ (by decide +kernel)) ggX3_commit_X3_safePosition
set_option maxRecDepth 20000 in
theorem ggX3_commit_X1_acknowledgeUpTo : GoodIn wsX3_commit wsX1_acknowledgeUpTo := goodIn_r _ [101, 50, 51, 102, 81, 82, 83, 103, 104, 105, 106, 107, 108, 109, 110, 29, 111, 40, 41, 42, 43, 44, 112, 113, 114, 115, 116, 117, 118, 119, 120, 121, 122, 123] (by decide +kernel) (by decide +kernel)
set_option maxRecDepth 20000 in
theorem gX3_commit_X1_acknowledgeUpTo : GoodIn wsX3_commit (wsV RX3 125 RX1 yX1_acknowledgeUpTo wsX1_acknowledgeUpTo) := goodIn_app (goodIn_of _ (by decide +kernel)) ggX3_commit_X1_acknowledgeUpTo
theorem dX3_commit_0 : decode cX3_commit 0 = .ok (.aload_n 0, 1) := by decide +kernel
theorem dX3_commit_1 : decode cX3_commit 1 = .ok (.iload_n 1, 1) := by decide +kernel
theorem dX3_commit_2 : decode cX3_commit 2 = .ok (.invokevirtual 27, 3) := by decide +kernel
theorem dX3_commit_5 : decode cX3_commit 5 = .ok (.astore_n 2, 1) := by decide +kernel
theorem dX3_commit_6 : decode cX3_commit 6 = .ok (.aload_n 2, 1) := by decide +kernel
theorem dX3_commit_7 : decode cX3_commit 7 = .ok (.invokestatic 92, 3) := by decide +kernel
theorem dX3_commit_10 : decode cX3_commit 10 = .ok (.aload_n 2, 1) := by decide +kernel
theorem dX3_commit_11 : decode cX3_commit 11 = .ok (.invokestatic 73, 3) := by decide +kernel
theorem dX3_commit_14 : decode cX3_commit 14 = .ok (.aload_n 2, 1) := by decide +kernel
theorem dX3_commit_15 : decode cX3_commit 15 = .ok (.iconst 2, 1) := by decide +kernel
theorem dX3_commit_16 : decode cX3_commit 16 = .ok (.aload_n 2, 1) := by decide +kernel
theorem dX3_commit_17 : decode cX3_commit 17 = .ok (.getfield 45, 3) := by decide +kernel
theorem dX3_commit_20 : decode cX3_commit 20 = .ok (.invokevirtual 117, 3) := by decide +kernel
theorem dX3_commit_23 : decode cX3_commit 23 = .ok (.iconst 0, 1) := by decide +kernel
theorem dX3_commit_24 : decode cX3_commit 24 = .ok (.iconst 0, 1) := by decide +kernel
theorem dX3_commit_25 : decode cX3_commit 25 = .ok (.invokevirtual 85, 3) := by decide +kernel
theorem dX3_commit_28 : decode cX3_commit 28 = .ok (.aload_n 2, 1) := by decide +kernel
theorem dX3_commit_29 : decode cX3_commit 29 = .ok (.getfield 45, 3) := by decide +kernel
theorem dX3_commit_32 : decode cX3_commit 32 = .ok (.invokevirtual 89, 3) := by decide +kernel
theorem dX3_commit_35 : decode cX3_commit 35 = .ok (.aload_n 2, 1) := by decide +kernel
theorem dX3_commit_36 : decode cX3_commit 36 = .ok (.aload_n 0, 1) := by decide +kernel
theorem dX3_commit_37 : decode cX3_commit 37 = .ok (.aload_n 2, 1) := by decide +kernel
theorem dX3_commit_38 : decode cX3_commit 38 = .ok (.invokevirtual 121, 3) := by decide +kernel
theorem dX3_commit_41 : decode cX3_commit 41 = .ok (.invokevirtual 125, 3) := by decide +kernel
theorem dX3_commit_44 : decode cX3_commit 44 = .ok (.aload_n 2, 1) := by decide +kernel
theorem dX3_commit_45 : decode cX3_commit 45 = .ok (.getfield 128, 3) := by decide +kernel
theorem dX3_commit_48 : decode cX3_commit 48 = .ok (.aload_n 2, 1) := by decide +kernel
theorem dX3_commit_49 : decode cX3_commit 49 = .ok (.getfield 45, 3) := by decide +kernel
theorem dX3_commit_52 : decode cX3_commit 52 = .ok (.getfield 54, 3) := by decide +kernel
theorem dX3_commit_55 : decode cX3_commit 55 = .ok (.if_icmp .ne 7, 3) := by decide +kernel
theorem dX3_commit_58 : decode cX3_commit 58 = .ok (.iconst 1, 1) := by decide +kernel
theorem dX3_commit_59 : decode cX3_commit 59 = .ok (.goto 4, 3) := by decide +kernel
theorem dX3_commit_62 : decode cX3_commit 62 = .ok (.iconst 0, 1) := by decide +kernel
theorem dX3_commit_63 : decode cX3_commit 63 = .ok (.ireturn, 1) := by decide +kernel
set_option maxRecDepth 20000 in
theorem ggX3_standby_X3_nodeAt : GoodIn wsX3_standby wsX3_nodeAt := goodIn_ca (goodIn_r _ [10, 1, 2, 11, 12, 13, 9, 14, 67, 68, 69] (by decide +kernel) (by decide +kernel)) (goodIn_sub (fun _ h => List.mem_cons_of_mem _ (List.mem_append_left _ (List.mem_append_left _ (List.mem_append_right _ h)))) (by decide +kernel))
set_option maxRecDepth 20000 in
theorem gX3_standby_X3_nodeAt : GoodIn wsX3_standby (wsV RX3 27 RX3 yX3_nodeAt wsX3_nodeAt) := goodIn_app (goodIn_of _ (by decide +kernel)) ggX3_standby_X3_nodeAt
set_option maxRecDepth 20000 in
theorem ggX3_standby_X3_isNode : GoodIn wsX3_standby wsX3_isNode := goodIn_r _ [14] (by decide +kernel) (by decide +kernel)
set_option maxRecDepth 20000 in
theorem gX3_standby_X3_isNode : GoodIn wsX3_standby (va_wsS RX3 131 yX3_isNode wsX3_isNode) := goodIn_app (goodIn_of _ (by decide +kernel)) ggX3_standby_X3_isNode
set_option maxRecDepth 20000 in
theorem ggX3_standby_X3_requirePrimary : GoodIn wsX3_standby wsX3_requirePrimary := goodIn_ca (goodIn_r _ [17, 18, 19, 20, 59, 60, 61, 62, 63, 64, 65, 66] (by decide +kernel) (by decide +kernel)) (goodIn_sub (fun _ h => List.mem_cons_of_mem _ (List.mem_append_right _ h)) (by decide +kernel))
set_option maxRecDepth 20000 in
theorem gX3_standby_X3_requirePrimary : GoodIn wsX3_standby (va_wsS RX3 92 yX3_requirePrimary wsX3_requirePrimary) := goodIn_app (goodIn_of _ (by decide +kernel)) ggX3_standby_X3_requirePrimary
set_option maxRecDepth 20000 in
theorem ggX3_standby_X3_isReplicaOf : GoodIn wsX3_standby wsX3_isReplicaOf := goodIn_ca (goodIn_r _ [24, 20, 25, 6, 7, 8, 9, 10, 1, 2, 11, 12, 13, 14, 59, 60, 61, 62, 63, 64, 65, 66, 67, 68, 69] (by decide +kernel) (by decide +kernel)) (goodIn_sub (fun _ h => List.mem_cons_of_mem _ (List.mem_append_left _ (List.mem_append_left _ (List.mem_append_right _ h)))) (by decide +kernel))
set_option maxRecDepth 20000 in
theorem gX3_standby_X3_isReplicaOf : GoodIn wsX3_standby (wsV RX3 139 RX3 yX3_isReplicaOf wsX3_isReplicaOf) := goodIn_app (goodIn_of _ (by decide +kernel)) ggX3_standby_X3_isReplicaOf
set_option maxRecDepth 20000 in
theorem ggX3_standby_X3_safePosition : GoodIn wsX3_standby wsX3_safePosition := goodIn_ca (goodIn_r _ [29, 5, 30, 31, 32, 6, 7, 8, 9, 10, 1, 2, 11, 12, 13, 14, 59, 60, 61, 62, 63, 64, 65, 66, 70, 71, 72, 73, 67, 68, 69] (by decide +kernel) (by decide +kernel)) (goodIn_sub (fun _ h => List.mem_cons_of_mem _ (List.mem_append_left _ (List.mem_append_left _ (List.mem_append_right _ h)))) (by decide +kernel))
set_option maxRecDepth 20000 in
theorem gX3_standby_X3_safePosition : GoodIn wsX3_standby (wsV RX3 121 RX3 yX3_safePosition wsX3_safePosition) := goodIn_app (goodIn_of _ (by decide +kernel)) ggX3_standby_X3_safePosition
set_option maxRecDepth 20000 in
theorem ggX3_standby_X1_acknowledgeUpTo : GoodIn wsX3_standby wsX1_acknowledgeUpTo := goodIn_r _ [37, 38, 39, 40, 41, 42, 43, 44, 45, 46, 47, 48, 49, 50, 51, 52, 53, 54, 55, 56, 57, 58, 59, 60, 61, 62, 63, 64, 65, 66, 70, 71, 72, 73] (by decide +kernel) (by decide +kernel)
set_option maxRecDepth 20000 in
theorem gX3_standby_X1_acknowledgeUpTo : GoodIn wsX3_standby (wsV RX3 125 RX1 yX1_acknowledgeUpTo wsX1_acknowledgeUpTo) := goodIn_app (goodIn_of _ (by decide +kernel)) ggX3_standby_X1_acknowledgeUpTo
theorem dX3_standby_0 : decode cX3_standby 0 = .ok (.aload_n 0, 1) := by decide +kernel
theorem dX3_standby_1 : decode cX3_standby 1 = .ok (.iload_n 1, 1) := by decide +kernel
theorem dX3_standby_2 : decode cX3_standby 2 = .ok (.invokevirtual 27, 3) := by decide +kernel
theorem dX3_standby_5 : decode cX3_standby 5 = .ok (.astore_n 3, 1) := by decide +kernel
theorem dX3_standby_6 : decode cX3_standby 6 = .ok (.iload_n 2, 1) := by decide +kernel
theorem dX3_standby_7 : decode cX3_standby 7 = .ok (.iconst (-1), 1) := by decide +kernel
theorem dX3_standby_8 : decode cX3_standby 8 = .ok (.if_icmp .eq 20, 3) := by decide +kernel
theorem dX3_standby_11 : decode cX3_standby 11 = .ok (.iload_n 2, 1) := by decide +kernel
theorem dX3_standby_12 : decode cX3_standby 12 = .ok (.invokestatic 131, 3) := by decide +kernel
theorem dX3_standby_15 : decode cX3_standby 15 = .ok (.ifCond .ne 13, 3) := by decide +kernel
theorem dX3_standby_18 : decode cX3_standby 18 = .ok (.new 134, 3) := by decide +kernel
theorem dX3_standby_21 : decode cX3_standby 21 = .ok (.dup, 1) := by decide +kernel
theorem dX3_standby_22 : decode cX3_standby 22 = .ok (.ldc 136, 2) := by decide +kernel
theorem dX3_standby_24 : decode cX3_standby 24 = .ok (.invokespecial 138, 3) := by decide +kernel
theorem dX3_standby_27 : decode cX3_standby 27 = .ok (.athrow, 1) := by decide +kernel
theorem dX3_standby_28 : decode cX3_standby 28 = .ok (.aload_n 3, 1) := by decide +kernel
theorem dX3_standby_29 : decode cX3_standby 29 = .ok (.invokestatic 92, 3) := by decide +kernel
theorem dX3_standby_32 : decode cX3_standby 32 = .ok (.iload_n 2, 1) := by decide +kernel
theorem dX3_standby_33 : decode cX3_standby 33 = .ok (.iconst (-1), 1) := by decide +kernel
theorem dX3_standby_34 : decode cX3_standby 34 = .ok (.if_icmp .eq 22, 3) := by decide +kernel
theorem dX3_standby_37 : decode cX3_standby 37 = .ok (.aload_n 0, 1) := by decide +kernel
theorem dX3_standby_38 : decode cX3_standby 38 = .ok (.iload_n 2, 1) := by decide +kernel
theorem dX3_standby_39 : decode cX3_standby 39 = .ok (.iload_n 1, 1) := by decide +kernel
theorem dX3_standby_40 : decode cX3_standby 40 = .ok (.invokevirtual 139, 3) := by decide +kernel
theorem dX3_standby_43 : decode cX3_standby 43 = .ok (.ifCond .ne 13, 3) := by decide +kernel
theorem dX3_standby_46 : decode cX3_standby 46 = .ok (.new 60, 3) := by decide +kernel
theorem dX3_standby_49 : decode cX3_standby 49 = .ok (.dup, 1) := by decide +kernel
theorem dX3_standby_50 : decode cX3_standby 50 = .ok (.ldc 143, 2) := by decide +kernel
theorem dX3_standby_52 : decode cX3_standby 52 = .ok (.invokespecial 64, 3) := by decide +kernel
theorem dX3_standby_55 : decode cX3_standby 55 = .ok (.athrow, 1) := by decide +kernel
theorem dX3_standby_56 : decode cX3_standby 56 = .ok (.aload_n 3, 1) := by decide +kernel
theorem dX3_standby_57 : decode cX3_standby 57 = .ok (.getfield 145, 3) := by decide +kernel
theorem dX3_standby_60 : decode cX3_standby 60 = .ok (.istore 4, 2) := by decide +kernel
theorem dX3_standby_62 : decode cX3_standby 62 = .ok (.aload_n 3, 1) := by decide +kernel
theorem dX3_standby_63 : decode cX3_standby 63 = .ok (.iload_n 2, 1) := by decide +kernel
theorem dX3_standby_64 : decode cX3_standby 64 = .ok (.putfield 145, 3) := by decide +kernel
theorem dX3_standby_67 : decode cX3_standby 67 = .ok (.aload_n 3, 1) := by decide +kernel
theorem dX3_standby_68 : decode cX3_standby 68 = .ok (.aload_n 0, 1) := by decide +kernel
theorem dX3_standby_69 : decode cX3_standby 69 = .ok (.aload_n 3, 1) := by decide +kernel
theorem dX3_standby_70 : decode cX3_standby 70 = .ok (.invokevirtual 121, 3) := by decide +kernel
theorem dX3_standby_73 : decode cX3_standby 73 = .ok (.invokevirtual 125, 3) := by decide +kernel
theorem dX3_standby_76 : decode cX3_standby 76 = .ok (.iload 4, 2) := by decide +kernel
theorem dX3_standby_78 : decode cX3_standby 78 = .ok (.ireturn, 1) := by decide +kernel
set_option maxRecDepth 20000 in
theorem ggX3_send_X3_nodeAt : GoodIn wsX3_send wsX3_nodeAt := goodIn_ca (goodIn_r _ [16, 17, 18, 19, 20, 21, 15, 22, 74, 75, 76] (by decide +kernel) (by decide +kernel)) (goodIn_sub (fun _ h => List.mem_cons_of_mem _ (List.mem_append_left _ (List.mem_append_right _ h))) (by decide +kernel))
set_option maxRecDepth 20000 in
theorem gX3_send_X3_nodeAt : GoodIn wsX3_send (wsV RX3 27 RX3 yX3_nodeAt wsX3_nodeAt) := goodIn_app (goodIn_of _ (by decide +kernel)) ggX3_send_X3_nodeAt
set_option maxRecDepth 20000 in
theorem ggX3_send_X3_requireLink : GoodIn wsX3_send wsX3_requireLink := goodIn_ca (goodIn_ca (goodIn_r _ [26, 27, 28, 29, 30, 31, 15, 32, 33, 34, 12, 13, 14, 16, 17, 18, 19, 20, 21, 22, 62, 63, 64, 65, 66, 67, 68, 69, 74, 75, 76] (by decide +kernel) (by decide +kernel)) (goodIn_sub (fun _ h => List.mem_cons_of_mem _ (List.mem_append_right _ h)) (by decide +kernel))) (goodIn_sub (fun _ h => List.mem_cons_of_mem _ (List.mem_append_left _ (List.mem_append_right _ h))) (by decide +kernel))
set_option maxRecDepth 20000 in
theorem gX3_send_X3_requireLink : GoodIn wsX3_send (wsV RX3 148 RX3 yX3_requireLink wsX3_requireLink) := goodIn_app (goodIn_of _ (by decide +kernel)) ggX3_send_X3_requireLink
set_option maxRecDepth 20000 in
theorem ggX3_send_X3_wayFrom : GoodIn wsX3_send wsX3_wayFrom := goodIn_ca (goodIn_r _ [38, 17, 18, 39, 20, 21, 15, 22, 74, 75, 76] (by decide +kernel) (by decide +kernel)) (goodIn_sub (fun _ h => List.mem_cons_of_mem _ (List.mem_append_left _ (List.mem_append_right _ h))) (by decide +kernel))
set_option maxRecDepth 20000 in
theorem gX3_send_X3_wayFrom : GoodIn wsX3_send (wsV RX3 152 RX3 yX3_wayFrom wsX3_wayFrom) := goodIn_app (goodIn_of _ (by decide +kernel)) ggX3_send_X3_wayFrom
set_option maxRecDepth 20000 in
theorem ggX3_send_X2_isFull : GoodIn wsX3_send wsX2_isFull := goodIn_r _ [44, 45, 77, 78, 79, 80] (by decide +kernel) (by decide +kernel)
set_option maxRecDepth 20000 in
theorem gX3_send_X2_isFull : GoodIn wsX3_send (wsV RX3 156 RX2 yX2_isFull wsX2_isFull) := goodIn_app (goodIn_of _ (by decide +kernel)) ggX3_send_X2_isFull
set_option maxRecDepth 20000 in
theorem ggX3_send_X2_add : GoodIn wsX3_send wsX2_add := goodIn_r _ [49, 45, 50, 51, 52, 41, 42, 43, 44, 53, 54, 55, 56, 57, 58, 59, 60, 61, 77, 78, 79, 80] (by decide +kernel) (by decide +kernel)
set_option maxRecDepth 20000 in
theorem gX3_send_X2_add : GoodIn wsX3_send (wsV RX3 176 RX2 yX2_add wsX2_add) := goodIn_app (goodIn_of _ (by decide +kernel)) ggX3_send_X2_add
theorem dX3_send_0 : decode cX3_send 0 = .ok (.aload_n 0, 1) := by decide +kernel
theorem dX3_send_1 : decode cX3_send 1 = .ok (.iload_n 1, 1) := by decide +kernel
theorem dX3_send_2 : decode cX3_send 2 = .ok (.invokevirtual 27, 3) := by decide +kernel
theorem dX3_send_5 : decode cX3_send 5 = .ok (.astore_n 3, 1) := by decide +kernel
theorem dX3_send_6 : decode cX3_send 6 = .ok (.aload_n 0, 1) := by decide +kernel
theorem dX3_send_7 : decode cX3_send 7 = .ok (.iload_n 2, 1) := by decide +kernel
theorem dX3_send_8 : decode cX3_send 8 = .ok (.invokevirtual 27, 3) := by decide +kernel
theorem dX3_send_11 : decode cX3_send 11 = .ok (.astore 4, 2) := by decide +kernel
theorem dX3_send_13 : decode cX3_send 13 = .ok (.aload_n 0, 1) := by decide +kernel
theorem dX3_send_14 : decode cX3_send 14 = .ok (.iload_n 1, 1) := by decide +kernel
theorem dX3_send_15 : decode cX3_send 15 = .ok (.iload_n 2, 1) := by decide +kernel
theorem dX3_send_16 : decode cX3_send 16 = .ok (.invokevirtual 148, 3) := by decide +kernel
theorem dX3_send_19 : decode cX3_send 19 = .ok (.aload_n 0, 1) := by decide +kernel
theorem dX3_send_20 : decode cX3_send 20 = .ok (.iload_n 1, 1) := by decide +kernel
theorem dX3_send_21 : decode cX3_send 21 = .ok (.iload_n 2, 1) := by decide +kernel
theorem dX3_send_22 : decode cX3_send 22 = .ok (.invokevirtual 152, 3) := by decide +kernel
theorem dX3_send_25 : decode cX3_send 25 = .ok (.astore 5, 2) := by decide +kernel
theorem dX3_send_27 : decode cX3_send 27 = .ok (.aload 5, 2) := by decide +kernel
theorem dX3_send_29 : decode cX3_send 29 = .ok (.invokevirtual 156, 3) := by decide +kernel
theorem dX3_send_32 : decode cX3_send 32 = .ok (.ifCond .eq 13, 3) := by decide +kernel
theorem dX3_send_35 : decode cX3_send 35 = .ok (.new 77, 3) := by decide +kernel
theorem dX3_send_38 : decode cX3_send 38 = .ok (.dup, 1) := by decide +kernel
theorem dX3_send_39 : decode cX3_send 39 = .ok (.ldc 160, 2) := by decide +kernel
theorem dX3_send_41 : decode cX3_send 41 = .ok (.invokespecial 81, 3) := by decide +kernel
theorem dX3_send_44 : decode cX3_send 44 = .ok (.athrow, 1) := by decide +kernel
theorem dX3_send_45 : decode cX3_send 45 = .ok (.aload_n 3, 1) := by decide +kernel
theorem dX3_send_46 : decode cX3_send 46 = .ok (.getfield 45, 3) := by decide +kernel
theorem dX3_send_49 : decode cX3_send 49 = .ok (.getfield 54, 3) := by decide +kernel
theorem dX3_send_52 : decode cX3_send 52 = .ok (.aload 4, 2) := by decide +kernel
theorem dX3_send_54 : decode cX3_send 54 = .ok (.getfield 162, 3) := by decide +kernel
theorem dX3_send_57 : decode cX3_send 57 = .ok (.isub, 1) := by decide +kernel
theorem dX3_send_58 : decode cX3_send 58 = .ok (.bipush 64, 2) := by decide +kernel
theorem dX3_send_60 : decode cX3_send 60 = .ok (.invokestatic 165, 3) := by decide +kernel
theorem dX3_send_63 : decode cX3_send 63 = .ok (.istore 6, 2) := by decide +kernel
theorem dX3_send_65 : decode cX3_send 65 = .ok (.iload 6, 2) := by decide +kernel
theorem dX3_send_67 : decode cX3_send 67 = .ok (.ifCond .gt 13, 3) := by decide +kernel
theorem dX3_send_70 : decode cX3_send 70 = .ok (.new 171, 3) := by decide +kernel
theorem dX3_send_73 : decode cX3_send 73 = .ok (.dup, 1) := by decide +kernel
theorem dX3_send_74 : decode cX3_send 74 = .ok (.ldc 173, 2) := by decide +kernel
theorem dX3_send_76 : decode cX3_send 76 = .ok (.invokespecial 175, 3) := by decide +kernel
theorem dX3_send_79 : decode cX3_send 79 = .ok (.athrow, 1) := by decide +kernel
theorem dX3_send_80 : decode cX3_send 80 = .ok (.aload 5, 2) := by decide +kernel
theorem dX3_send_82 : decode cX3_send 82 = .ok (.aload 4, 2) := by decide +kernel
theorem dX3_send_84 : decode cX3_send 84 = .ok (.getfield 162, 3) := by decide +kernel
theorem dX3_send_87 : decode cX3_send 87 = .ok (.iload 6, 2) := by decide +kernel
theorem dX3_send_89 : decode cX3_send 89 = .ok (.invokevirtual 176, 3) := by decide +kernel
theorem dX3_send_92 : decode cX3_send 92 = .ok (.iload 6, 2) := by decide +kernel
theorem dX3_send_94 : decode cX3_send 94 = .ok (.bipush 16, 2) := by decide +kernel
theorem dX3_send_96 : decode cX3_send 96 = .ok (.idiv, 1) := by decide +kernel
theorem dX3_send_97 : decode cX3_send 97 = .ok (.ireturn, 1) := by decide +kernel
set_option maxRecDepth 20000 in
theorem ggX3_deliver_X3_requireMessage : GoodIn wsX3_deliver wsX3_requireMessage := goodIn_ca (goodIn_ca (goodIn_r _ [5, 6, 7, 8, 9, 10, 11, 4, 12, 13, 14, 15, 16, 17, 18, 127, 128, 129, 130, 131, 132, 133] (by decide +kernel) (by decide +kernel)) (goodIn_sub (fun _ h => List.mem_cons_of_mem _ (List.mem_append_left _ (List.mem_append_left _ (List.mem_append_right _ h)))) (by decide +kernel))) (goodIn_sub (fun _ h => List.mem_cons_of_mem _ (List.mem_append_left _ (List.mem_append_right _ h))) (by decide +kernel))
set_option maxRecDepth 20000 in
theorem gX3_deliver_X3_requireMessage : GoodIn wsX3_deliver (wsV RX3 179 RX3 yX3_requireMessage wsX3_requireMessage) := goodIn_app (goodIn_of _ (by decide +kernel)) ggX3_deliver_X3_requireMessage
set_option maxRecDepth 20000 in
theorem ggX3_deliver_X3_isReplicaOf : GoodIn wsX3_deliver wsX3_isReplicaOf := goodIn_ca (goodIn_r _ [22, 23, 24, 25, 26, 27, 4, 28, 13, 14, 29, 16, 17, 18, 134, 135, 136, 137, 138, 139, 140, 141, 131, 132, 133] (by decide +kernel) (by decide +kernel)) (goodIn_sub (fun _ h => List.mem_cons_of_mem _ (List.mem_append_left _ (List.mem_append_right _ h))) (by decide +kernel))
set_option maxRecDepth 20000 in
theorem gX3_deliver_X3_isReplicaOf : GoodIn wsX3_deliver (wsV RX3 139 RX3 yX3_isReplicaOf wsX3_isReplicaOf) := goodIn_app (goodIn_of _ (by decide +kernel)) ggX3_deliver_X3_isReplicaOf
set_option maxRecDepth 20000 in
theorem ggX3_deliver_X3_deliverPosition : GoodIn wsX3_deliver wsX3_deliverPosition := goodIn_ca (goodIn_r _ [33, 34, 35, 25, 26, 27, 4, 28, 13, 14, 29, 16, 17, 18, 9, 10, 11, 12, 15, 36, 37, 38, 39, 40, 41, 42, 43, 44, 45, 46, 47, 48, 49, 50, 51, 52, 53, 54, 55, 56, 57, 58, 59, 60, 61, 62, 63, 64, 65, 66, 67, 68, 69, 70, 71, 72, 73, 74, 75, 76, 77, 78, 79, 80, 81, 134, 135, 136, 137, 138, 139, 140, 141, 131, 132, 133, 127, 128, 129, 130, 142, 143, 144, 145] (by decide +kernel) (by decide +kernel)) (goodIn_sub (fun _ h => List.mem_cons_of_mem _ (List.mem_append_left _ (List.mem_append_right _ h))) (by decide +kernel))
set_option maxRecDepth 20000 in
theorem gX3_deliver_X3_deliverPosition : GoodIn wsX3_deliver (wsV RX3 182 RX3 yX3_deliverPosition wsX3_deliverPosition) := goodIn_app (goodIn_of _ (by decide +kernel)) ggX3_deliver_X3_deliverPosition
set_option maxRecDepth 20000 in
theorem ggX3_deliver_X3_deliverRecords : GoodIn wsX3_deliver wsX3_deliverRecords := goodIn_ca (goodIn_ca (goodIn_r _ [85, 86, 87, 88, 89, 25, 26, 27, 4, 28, 13, 14, 29, 16, 17, 18, 9, 10, 11, 12, 15, 90, 91, 92, 39, 93, 55, 36, 37, 38, 40, 41, 42, 43, 44, 45, 46, 47, 48, 49, 50, 94, 95, 96, 97, 98, 99, 100, 101, 75, 102, 103, 81, 104, 105, 106, 107, 108, 109, 110, 111, 112, 113, 114, 115, 116, 117, 118, 119, 120, 64, 65, 66, 121, 51, 52, 53, 54, 122, 123, 124, 125, 126, 134, 135, 136, 137, 138, 139, 140, 141, 142, 143, 144, 145, 131, 132, 133, 127, 128, 129, 130] (by decide +kernel) (by decide +kernel)) (goodIn_sub (fun _ h => List.mem_cons_of_mem _ (List.mem_append_right _ h)) (by decide +kernel))) (goodIn_sub (fun _ h => List.mem_cons_of_mem _ (List.mem_append_left _ (List.mem_append_right _ h))) (by decide +kernel))
set_option maxRecDepth 20000 in
theorem gX3_deliver_X3_deliverRecords : GoodIn wsX3_deliver (wsV RX3 185 RX3 yX3_deliverRecords wsX3_deliverRecords) := goodIn_app (goodIn_of _ (by decide +kernel)) ggX3_deliver_X3_deliverRecords
theorem dX3_deliver_0 : decode cX3_deliver 0 = .ok (.aload_n 0, 1) := by decide +kernel
theorem dX3_deliver_1 : decode cX3_deliver 1 = .ok (.iload_n 1, 1) := by decide +kernel
theorem dX3_deliver_2 : decode cX3_deliver 2 = .ok (.iload_n 2, 1) := by decide +kernel
theorem dX3_deliver_3 : decode cX3_deliver 3 = .ok (.invokevirtual 179, 3) := by decide +kernel
theorem dX3_deliver_6 : decode cX3_deliver 6 = .ok (.aload_n 0, 1) := by decide +kernel
theorem dX3_deliver_7 : decode cX3_deliver 7 = .ok (.iload_n 1, 1) := by decide +kernel
theorem dX3_deliver_8 : decode cX3_deliver 8 = .ok (.iload_n 2, 1) := by decide +kernel
theorem dX3_deliver_9 : decode cX3_deliver 9 = .ok (.invokevirtual 139, 3) := by decide +kernel
theorem dX3_deliver_12 : decode cX3_deliver 12 = .ok (.ifCond .eq 10, 3) := by decide +kernel
theorem dX3_deliver_15 : decode cX3_deliver 15 = .ok (.aload_n 0, 1) := by decide +kernel
theorem dX3_deliver_16 : decode cX3_deliver 16 = .ok (.iload_n 1, 1) := by decide +kernel
theorem dX3_deliver_17 : decode cX3_deliver 17 = .ok (.iload_n 2, 1) := by decide +kernel
theorem dX3_deliver_18 : decode cX3_deliver 18 = .ok (.invokevirtual 182, 3) := by decide +kernel
theorem dX3_deliver_21 : decode cX3_deliver 21 = .ok (.ireturn, 1) := by decide +kernel
theorem dX3_deliver_22 : decode cX3_deliver 22 = .ok (.aload_n 0, 1) := by decide +kernel
theorem dX3_deliver_23 : decode cX3_deliver 23 = .ok (.iload_n 1, 1) := by decide +kernel
theorem dX3_deliver_24 : decode cX3_deliver 24 = .ok (.iload_n 2, 1) := by decide +kernel
theorem dX3_deliver_25 : decode cX3_deliver 25 = .ok (.invokevirtual 185, 3) := by decide +kernel
theorem dX3_deliver_28 : decode cX3_deliver 28 = .ok (.ireturn, 1) := by decide +kernel
set_option maxRecDepth 20000 in
theorem ggX3_drop_X3_requireMessage : GoodIn wsX3_drop wsX3_requireMessage := goodIn_ca (goodIn_ca (goodIn_r _ [6, 7, 8, 1, 9, 10, 11, 5, 12, 13, 14, 15, 16, 17, 18, 34, 35, 36, 37, 38, 39, 40] (by decide +kernel) (by decide +kernel)) (goodIn_sub (fun _ h => List.mem_cons_of_mem _ (List.mem_append_left _ (List.mem_append_right _ h))) (by decide +kernel))) (goodIn_sub (fun _ h => List.mem_cons_of_mem _ (List.mem_append_right _ h)) (by decide +kernel))
set_option maxRecDepth 20000 in
theorem gX3_drop_X3_requireMessage : GoodIn wsX3_drop (wsV RX3 179 RX3 yX3_requireMessage wsX3_requireMessage) := goodIn_app (goodIn_of _ (by decide +kernel)) ggX3_drop_X3_requireMessage
set_option maxRecDepth 20000 in
theorem ggX3_drop_X3_wayFrom : GoodIn wsX3_drop wsX3_wayFrom := goodIn_ca (goodIn_r _ [12, 13, 14, 15, 16, 17, 5, 18, 38, 39, 40] (by decide +kernel) (by decide +kernel)) (goodIn_sub (fun _ h => List.mem_cons_of_mem _ (List.mem_append_right _ h)) (by decide +kernel))
set_option maxRecDepth 20000 in
theorem gX3_drop_X3_wayFrom : GoodIn wsX3_drop (wsV RX3 152 RX3 yX3_wayFrom wsX3_wayFrom) := goodIn_app (goodIn_of _ (by decide +kernel)) ggX3_drop_X3_wayFrom
set_option maxRecDepth 20000 in
theorem ggX3_drop_X2_removeOldest : GoodIn wsX3_drop wsX2_removeOldest := goodIn_r _ [23, 24, 25, 26, 27, 28, 22, 29, 30, 31, 32, 33, 34, 35, 36, 37] (by decide +kernel) (by decide +kernel)
set_option maxRecDepth 20000 in
theorem gX3_drop_X2_removeOldest : GoodIn wsX3_drop (wsV RX3 188 RX2 yX2_removeOldest wsX2_removeOldest) := goodIn_app (goodIn_of _ (by decide +kernel)) ggX3_drop_X2_removeOldest
theorem dX3_drop_0 : decode cX3_drop 0 = .ok (.aload_n 0, 1) := by decide +kernel
theorem dX3_drop_1 : decode cX3_drop 1 = .ok (.iload_n 1, 1) := by decide +kernel
theorem dX3_drop_2 : decode cX3_drop 2 = .ok (.iload_n 2, 1) := by decide +kernel
theorem dX3_drop_3 : decode cX3_drop 3 = .ok (.invokevirtual 179, 3) := by decide +kernel
theorem dX3_drop_6 : decode cX3_drop 6 = .ok (.aload_n 0, 1) := by decide +kernel
theorem dX3_drop_7 : decode cX3_drop 7 = .ok (.iload_n 1, 1) := by decide +kernel
theorem dX3_drop_8 : decode cX3_drop 8 = .ok (.iload_n 2, 1) := by decide +kernel
theorem dX3_drop_9 : decode cX3_drop 9 = .ok (.invokevirtual 152, 3) := by decide +kernel
theorem dX3_drop_12 : decode cX3_drop 12 = .ok (.astore_n 3, 1) := by decide +kernel
theorem dX3_drop_13 : decode cX3_drop 13 = .ok (.aload_n 3, 1) := by decide +kernel
theorem dX3_drop_14 : decode cX3_drop 14 = .ok (.invokevirtual 188, 3) := by decide +kernel
theorem dX3_drop_17 : decode cX3_drop 17 = .ok (.aload_n 3, 1) := by decide +kernel
theorem dX3_drop_18 : decode cX3_drop 18 = .ok (.getfield 191, 3) := by decide +kernel
theorem dX3_drop_21 : decode cX3_drop 21 = .ok (.ireturn, 1) := by decide +kernel
set_option maxRecDepth 20000 in
theorem ggX3_apply_X3_nodeAt : GoodIn wsX3_apply wsX3_nodeAt := goodIn_ca (goodIn_r _ [17, 18, 19, 20, 21, 22, 16, 23, 36, 37, 38] (by decide +kernel) (by decide +kernel)) (goodIn_sub (fun _ h => List.mem_cons_of_mem _ (List.mem_append_right _ h)) (by decide +kernel))
set_option maxRecDepth 20000 in
theorem gX3_apply_X3_nodeAt : GoodIn wsX3_apply (wsV RX3 27 RX3 yX3_nodeAt wsX3_nodeAt) := goodIn_app (goodIn_of _ (by decide +kernel)) ggX3_apply_X3_nodeAt
theorem dX3_apply_0 : decode cX3_apply 0 = .ok (.aload_n 0, 1) := by decide +kernel
theorem dX3_apply_1 : decode cX3_apply 1 = .ok (.iload_n 1, 1) := by decide +kernel
theorem dX3_apply_2 : decode cX3_apply 2 = .ok (.invokevirtual 27, 3) := by decide +kernel
theorem dX3_apply_5 : decode cX3_apply 5 = .ok (.astore_n 3, 1) := by decide +kernel
theorem dX3_apply_6 : decode cX3_apply 6 = .ok (.iload_n 2, 1) := by decide +kernel
theorem dX3_apply_7 : decode cX3_apply 7 = .ok (.iconst 1, 1) := by decide +kernel
theorem dX3_apply_8 : decode cX3_apply 8 = .ok (.if_icmp .ge 13, 3) := by decide +kernel
theorem dX3_apply_11 : decode cX3_apply 11 = .ok (.new 60, 3) := by decide +kernel
theorem dX3_apply_14 : decode cX3_apply 14 = .ok (.dup, 1) := by decide +kernel
theorem dX3_apply_15 : decode cX3_apply 15 = .ok (.ldc 194, 2) := by decide +kernel
theorem dX3_apply_17 : decode cX3_apply 17 = .ok (.invokespecial 64, 3) := by decide +kernel
theorem dX3_apply_20 : decode cX3_apply 20 = .ok (.athrow, 1) := by decide +kernel
theorem dX3_apply_21 : decode cX3_apply 21 = .ok (.aload_n 3, 1) := by decide +kernel
theorem dX3_apply_22 : decode cX3_apply 22 = .ok (.getfield 31, 3) := by decide +kernel
theorem dX3_apply_25 : decode cX3_apply 25 = .ok (.iconst 3, 1) := by decide +kernel
theorem dX3_apply_26 : decode cX3_apply 26 = .ok (.if_icmp .eq 13, 3) := by decide +kernel
theorem dX3_apply_29 : decode cX3_apply 29 = .ok (.new 34, 3) := by decide +kernel
theorem dX3_apply_32 : decode cX3_apply 32 = .ok (.dup, 1) := by decide +kernel
theorem dX3_apply_33 : decode cX3_apply 33 = .ok (.ldc 196, 2) := by decide +kernel
theorem dX3_apply_35 : decode cX3_apply 35 = .ok (.invokespecial 38, 3) := by decide +kernel
theorem dX3_apply_38 : decode cX3_apply 38 = .ok (.athrow, 1) := by decide +kernel
theorem dX3_apply_39 : decode cX3_apply 39 = .ok (.iload_n 2, 1) := by decide +kernel
theorem dX3_apply_40 : decode cX3_apply 40 = .ok (.aload_n 3, 1) := by decide +kernel
theorem dX3_apply_41 : decode cX3_apply 41 = .ok (.getfield 45, 3) := by decide +kernel
theorem dX3_apply_44 : decode cX3_apply 44 = .ok (.getfield 54, 3) := by decide +kernel
theorem dX3_apply_47 : decode cX3_apply 47 = .ok (.aload_n 3, 1) := by decide +kernel
theorem dX3_apply_48 : decode cX3_apply 48 = .ok (.getfield 57, 3) := by decide +kernel
theorem dX3_apply_51 : decode cX3_apply 51 = .ok (.isub, 1) := by decide +kernel
theorem dX3_apply_52 : decode cX3_apply 52 = .ok (.bipush 16, 2) := by decide +kernel
theorem dX3_apply_54 : decode cX3_apply 54 = .ok (.idiv, 1) := by decide +kernel
theorem dX3_apply_55 : decode cX3_apply 55 = .ok (.invokestatic 165, 3) := by decide +kernel
theorem dX3_apply_58 : decode cX3_apply 58 = .ok (.istore 4, 2) := by decide +kernel
theorem dX3_apply_60 : decode cX3_apply 60 = .ok (.aload_n 3, 1) := by decide +kernel
theorem dX3_apply_61 : decode cX3_apply 61 = .ok (.dup, 1) := by decide +kernel
theorem dX3_apply_62 : decode cX3_apply 62 = .ok (.getfield 57, 3) := by decide +kernel
theorem dX3_apply_65 : decode cX3_apply 65 = .ok (.iload 4, 2) := by decide +kernel
theorem dX3_apply_67 : decode cX3_apply 67 = .ok (.bipush 16, 2) := by decide +kernel
theorem dX3_apply_69 : decode cX3_apply 69 = .ok (.imul, 1) := by decide +kernel
theorem dX3_apply_70 : decode cX3_apply 70 = .ok (.iadd, 1) := by decide +kernel
theorem dX3_apply_71 : decode cX3_apply 71 = .ok (.putfield 57, 3) := by decide +kernel
theorem dX3_apply_74 : decode cX3_apply 74 = .ok (.iload 4, 2) := by decide +kernel
theorem dX3_apply_76 : decode cX3_apply 76 = .ok (.ireturn, 1) := by decide +kernel
set_option maxRecDepth 20000 in
theorem ggX3_get_X3_nodeAt : GoodIn wsX3_get wsX3_nodeAt := goodIn_ca (goodIn_r _ [10, 1, 2, 11, 12, 13, 9, 14, 55, 56, 57] (by decide +kernel) (by decide +kernel)) (goodIn_sub (fun _ h => List.mem_cons_of_mem _ (List.mem_append_left _ (List.mem_append_right _ h))) (by decide +kernel))
set_option maxRecDepth 20000 in
theorem gX3_get_X3_nodeAt : GoodIn wsX3_get (wsV RX3 27 RX3 yX3_nodeAt wsX3_nodeAt) := goodIn_app (goodIn_of _ (by decide +kernel)) ggX3_get_X3_nodeAt
set_option maxRecDepth 20000 in
theorem ggX3_get_X3_isKey : GoodIn wsX3_get wsX3_isKey := goodIn_r _ [17] (by decide +kernel) (by decide +kernel)
set_option maxRecDepth 20000 in
theorem gX3_get_X3_isKey : GoodIn wsX3_get (va_wsS RX3 111 yX3_isKey wsX3_isKey) := goodIn_app (goodIn_of _ (by decide +kernel)) ggX3_get_X3_isKey
set_option maxRecDepth 20000 in
theorem ggX3_get_X1_committedValue : GoodIn wsX3_get wsX1_committedValue := goodIn_r _ [22, 23, 24, 25, 26, 27, 28, 29, 30, 31, 32, 33, 34, 35, 36, 37, 38, 39, 40, 41, 42, 43, 44, 45, 46, 47, 48, 49, 50, 51, 52, 53, 54, 58, 59, 60, 61] (by decide +kernel) (by decide +kernel)
set_option maxRecDepth 20000 in
theorem gX3_get_X1_committedValue : GoodIn wsX3_get (wsV RX3 198 RX1 yX1_committedValue wsX1_committedValue) := goodIn_app (goodIn_of _ (by decide +kernel)) ggX3_get_X1_committedValue
theorem dX3_get_0 : decode cX3_get 0 = .ok (.aload_n 0, 1) := by decide +kernel
theorem dX3_get_1 : decode cX3_get 1 = .ok (.iload_n 1, 1) := by decide +kernel
theorem dX3_get_2 : decode cX3_get 2 = .ok (.invokevirtual 27, 3) := by decide +kernel
theorem dX3_get_5 : decode cX3_get 5 = .ok (.astore_n 3, 1) := by decide +kernel
theorem dX3_get_6 : decode cX3_get 6 = .ok (.iload_n 2, 1) := by decide +kernel
theorem dX3_get_7 : decode cX3_get 7 = .ok (.invokestatic 111, 3) := by decide +kernel
theorem dX3_get_10 : decode cX3_get 10 = .ok (.ifCond .ne 13, 3) := by decide +kernel
theorem dX3_get_13 : decode cX3_get 13 = .ok (.new 134, 3) := by decide +kernel
theorem dX3_get_16 : decode cX3_get 16 = .ok (.dup, 1) := by decide +kernel
theorem dX3_get_17 : decode cX3_get 17 = .ok (.ldc 115, 2) := by decide +kernel
theorem dX3_get_19 : decode cX3_get 19 = .ok (.invokespecial 138, 3) := by decide +kernel
theorem dX3_get_22 : decode cX3_get 22 = .ok (.athrow, 1) := by decide +kernel
theorem dX3_get_23 : decode cX3_get 23 = .ok (.aload_n 3, 1) := by decide +kernel
theorem dX3_get_24 : decode cX3_get 24 = .ok (.getfield 31, 3) := by decide +kernel
theorem dX3_get_27 : decode cX3_get 27 = .ok (.ifCond .ne 13, 3) := by decide +kernel
theorem dX3_get_30 : decode cX3_get 30 = .ok (.new 34, 3) := by decide +kernel
theorem dX3_get_33 : decode cX3_get 33 = .ok (.dup, 1) := by decide +kernel
theorem dX3_get_34 : decode cX3_get 34 = .ok (.ldc 65, 2) := by decide +kernel
theorem dX3_get_36 : decode cX3_get 36 = .ok (.invokespecial 38, 3) := by decide +kernel
theorem dX3_get_39 : decode cX3_get 39 = .ok (.athrow, 1) := by decide +kernel
theorem dX3_get_40 : decode cX3_get 40 = .ok (.aload_n 3, 1) := by decide +kernel
theorem dX3_get_41 : decode cX3_get 41 = .ok (.iload_n 2, 1) := by decide +kernel
theorem dX3_get_42 : decode cX3_get 42 = .ok (.invokevirtual 198, 3) := by decide +kernel
theorem dX3_get_45 : decode cX3_get 45 = .ok (.ireturn, 1) := by decide +kernel
set_option maxRecDepth 20000 in
theorem ggX3_byteAt_X3_nodeAt : GoodIn wsX3_byteAt wsX3_nodeAt := goodIn_ca (goodIn_r _ [10, 1, 2, 11, 12, 13, 9, 14, 27, 28, 29] (by decide +kernel) (by decide +kernel)) (goodIn_sub (fun _ h => List.mem_cons_of_mem _ (List.mem_append_right _ h)) (by decide +kernel))
set_option maxRecDepth 20000 in
theorem gX3_byteAt_X3_nodeAt : GoodIn wsX3_byteAt (wsV RX3 27 RX3 yX3_nodeAt wsX3_nodeAt) := goodIn_app (goodIn_of _ (by decide +kernel)) ggX3_byteAt_X3_nodeAt
theorem dX3_byteAt_0 : decode cX3_byteAt 0 = .ok (.aload_n 0, 1) := by decide +kernel
theorem dX3_byteAt_1 : decode cX3_byteAt 1 = .ok (.iload_n 1, 1) := by decide +kernel
theorem dX3_byteAt_2 : decode cX3_byteAt 2 = .ok (.invokevirtual 27, 3) := by decide +kernel
theorem dX3_byteAt_5 : decode cX3_byteAt 5 = .ok (.astore 4, 2) := by decide +kernel
theorem dX3_byteAt_7 : decode cX3_byteAt 7 = .ok (.iload_n 2, 1) := by decide +kernel
theorem dX3_byteAt_8 : decode cX3_byteAt 8 = .ok (.ifCond .lt 10, 3) := by decide +kernel
theorem dX3_byteAt_11 : decode cX3_byteAt 11 = .ok (.iload_n 2, 1) := by decide +kernel
theorem dX3_byteAt_12 : decode cX3_byteAt 12 = .ok (.sipush 4096, 3) := by decide +kernel
theorem dX3_byteAt_15 : decode cX3_byteAt 15 = .ok (.if_icmp .lt 13, 3) := by decide +kernel
theorem dX3_byteAt_18 : decode cX3_byteAt 18 = .ok (.new 134, 3) := by decide +kernel
theorem dX3_byteAt_21 : decode cX3_byteAt 21 = .ok (.dup, 1) := by decide +kernel
theorem dX3_byteAt_22 : decode cX3_byteAt 22 = .ok (.ldc 201, 2) := by decide +kernel
theorem dX3_byteAt_24 : decode cX3_byteAt 24 = .ok (.invokespecial 138, 3) := by decide +kernel
theorem dX3_byteAt_27 : decode cX3_byteAt 27 = .ok (.athrow, 1) := by decide +kernel
theorem dX3_byteAt_28 : decode cX3_byteAt 28 = .ok (.iload_n 3, 1) := by decide +kernel
theorem dX3_byteAt_29 : decode cX3_byteAt 29 = .ok (.ifCond .ne 18, 3) := by decide +kernel
theorem dX3_byteAt_32 : decode cX3_byteAt 32 = .ok (.aload 4, 2) := by decide +kernel
theorem dX3_byteAt_34 : decode cX3_byteAt 34 = .ok (.getfield 45, 3) := by decide +kernel
theorem dX3_byteAt_37 : decode cX3_byteAt 37 = .ok (.getfield 203, 3) := by decide +kernel
theorem dX3_byteAt_40 : decode cX3_byteAt 40 = .ok (.iload_n 2, 1) := by decide +kernel
theorem dX3_byteAt_41 : decode cX3_byteAt 41 = .ok (.baload, 1) := by decide +kernel
theorem dX3_byteAt_42 : decode cX3_byteAt 42 = .ok (.sipush 255, 3) := by decide +kernel
theorem dX3_byteAt_45 : decode cX3_byteAt 45 = .ok (.iand, 1) := by decide +kernel
theorem dX3_byteAt_46 : decode cX3_byteAt 46 = .ok (.ireturn, 1) := by decide +kernel
theorem dX3_byteAt_47 : decode cX3_byteAt 47 = .ok (.iload_n 3, 1) := by decide +kernel
theorem dX3_byteAt_48 : decode cX3_byteAt 48 = .ok (.iconst 1, 1) := by decide +kernel
theorem dX3_byteAt_49 : decode cX3_byteAt 49 = .ok (.if_icmp .ne 18, 3) := by decide +kernel
theorem dX3_byteAt_52 : decode cX3_byteAt 52 = .ok (.aload 4, 2) := by decide +kernel
theorem dX3_byteAt_54 : decode cX3_byteAt 54 = .ok (.getfield 45, 3) := by decide +kernel
theorem dX3_byteAt_57 : decode cX3_byteAt 57 = .ok (.getfield 207, 3) := by decide +kernel
theorem dX3_byteAt_60 : decode cX3_byteAt 60 = .ok (.iload_n 2, 1) := by decide +kernel
theorem dX3_byteAt_61 : decode cX3_byteAt 61 = .ok (.baload, 1) := by decide +kernel
theorem dX3_byteAt_62 : decode cX3_byteAt 62 = .ok (.sipush 255, 3) := by decide +kernel
theorem dX3_byteAt_65 : decode cX3_byteAt 65 = .ok (.iand, 1) := by decide +kernel
theorem dX3_byteAt_66 : decode cX3_byteAt 66 = .ok (.ireturn, 1) := by decide +kernel
theorem dX3_byteAt_67 : decode cX3_byteAt 67 = .ok (.new 134, 3) := by decide +kernel
theorem dX3_byteAt_70 : decode cX3_byteAt 70 = .ok (.dup, 1) := by decide +kernel
theorem dX3_byteAt_71 : decode cX3_byteAt 71 = .ok (.ldc 210, 2) := by decide +kernel
theorem dX3_byteAt_73 : decode cX3_byteAt 73 = .ok (.invokespecial 138, 3) := by decide +kernel
theorem dX3_byteAt_76 : decode cX3_byteAt 76 = .ok (.athrow, 1) := by decide +kernel
set_option maxRecDepth 20000 in
theorem ggX3_node_X3_nodeAt : GoodIn wsX3_node wsX3_nodeAt := goodIn_ca (goodIn_r _ [8, 1, 2, 9, 10, 11, 7, 12, 57, 58, 59] (by decide +kernel) (by decide +kernel)) (goodIn_sub (fun _ h => List.mem_cons_of_mem _ (List.mem_append_right _ h)) (by decide +kernel))
set_option maxRecDepth 20000 in
theorem gX3_node_X3_nodeAt : GoodIn wsX3_node (wsV RX3 27 RX3 yX3_nodeAt wsX3_nodeAt) := goodIn_app (goodIn_of _ (by decide +kernel)) ggX3_node_X3_nodeAt
set_option maxRecDepth 20000 in
theorem ggX3_node_X3_factOf : GoodIn wsX3_node wsX3_factOf := goodIn_r _ [15, 3, 16, 17, 18, 19, 20, 21, 22, 23, 24, 25, 26, 27, 28, 29, 30, 31, 32, 33, 34, 35, 36, 37, 38, 39, 40, 41, 42, 43, 44, 45, 46, 47, 48, 49, 50, 51, 52, 53, 54, 55, 56, 60, 61, 62, 63] (by decide +kernel) (by decide +kernel)
set_option maxRecDepth 20000 in
theorem gX3_node_X3_factOf : GoodIn wsX3_node (va_wsS RX3 214 yX3_factOf wsX3_factOf) := goodIn_app (goodIn_of _ (by decide +kernel)) ggX3_node_X3_factOf
theorem dX3_node_0 : decode cX3_node 0 = .ok (.aload_n 0, 1) := by decide +kernel
theorem dX3_node_1 : decode cX3_node 1 = .ok (.iload_n 1, 1) := by decide +kernel
theorem dX3_node_2 : decode cX3_node 2 = .ok (.invokevirtual 27, 3) := by decide +kernel
theorem dX3_node_5 : decode cX3_node 5 = .ok (.astore_n 3, 1) := by decide +kernel
theorem dX3_node_6 : decode cX3_node 6 = .ok (.iload_n 2, 1) := by decide +kernel
theorem dX3_node_7 : decode cX3_node 7 = .ok (.ifCond .lt 9, 3) := by decide +kernel
theorem dX3_node_10 : decode cX3_node 10 = .ok (.iload_n 2, 1) := by decide +kernel
theorem dX3_node_11 : decode cX3_node 11 = .ok (.bipush 8, 2) := by decide +kernel
theorem dX3_node_13 : decode cX3_node 13 = .ok (.if_icmp .le 13, 3) := by decide +kernel
theorem dX3_node_16 : decode cX3_node 16 = .ok (.new 134, 3) := by decide +kernel
theorem dX3_node_19 : decode cX3_node 19 = .ok (.dup, 1) := by decide +kernel
theorem dX3_node_20 : decode cX3_node 20 = .ok (.ldc 212, 2) := by decide +kernel
theorem dX3_node_22 : decode cX3_node 22 = .ok (.invokespecial 138, 3) := by decide +kernel
theorem dX3_node_25 : decode cX3_node 25 = .ok (.athrow, 1) := by decide +kernel
theorem dX3_node_26 : decode cX3_node 26 = .ok (.aload_n 3, 1) := by decide +kernel
theorem dX3_node_27 : decode cX3_node 27 = .ok (.getfield 31, 3) := by decide +kernel
theorem dX3_node_30 : decode cX3_node 30 = .ok (.ifCond .ne 20, 3) := by decide +kernel
theorem dX3_node_33 : decode cX3_node 33 = .ok (.iload_n 2, 1) := by decide +kernel
theorem dX3_node_34 : decode cX3_node 34 = .ok (.iconst 5, 1) := by decide +kernel
theorem dX3_node_35 : decode cX3_node 35 = .ok (.if_icmp .eq 9, 3) := by decide +kernel
theorem dX3_node_38 : decode cX3_node 38 = .ok (.iload_n 2, 1) := by decide +kernel
theorem dX3_node_39 : decode cX3_node 39 = .ok (.bipush 7, 2) := by decide +kernel
theorem dX3_node_41 : decode cX3_node 41 = .ok (.if_icmp .ne 7, 3) := by decide +kernel
theorem dX3_node_44 : decode cX3_node 44 = .ok (.iconst (-1), 1) := by decide +kernel
theorem dX3_node_45 : decode cX3_node 45 = .ok (.goto 4, 3) := by decide +kernel
theorem dX3_node_48 : decode cX3_node 48 = .ok (.iconst 0, 1) := by decide +kernel
theorem dX3_node_49 : decode cX3_node 49 = .ok (.ireturn, 1) := by decide +kernel
theorem dX3_node_50 : decode cX3_node 50 = .ok (.aload_n 3, 1) := by decide +kernel
theorem dX3_node_51 : decode cX3_node 51 = .ok (.iload_n 2, 1) := by decide +kernel
theorem dX3_node_52 : decode cX3_node 52 = .ok (.invokestatic 214, 3) := by decide +kernel
theorem dX3_node_55 : decode cX3_node 55 = .ok (.ireturn, 1) := by decide +kernel
set_option maxRecDepth 20000 in
theorem ggX3_link_X3_nodeAt : GoodIn wsX3_link wsX3_nodeAt := goodIn_ca (goodIn_r _ [9, 1, 2, 10, 11, 12, 8, 13, 43, 44, 45] (by decide +kernel) (by decide +kernel)) (goodIn_sub (fun _ h => List.mem_cons_of_mem _ (List.mem_append_left _ (List.mem_append_right _ h))) (by decide +kernel))
set_option maxRecDepth 20000 in
theorem gX3_link_X3_nodeAt : GoodIn wsX3_link (wsV RX3 27 RX3 yX3_nodeAt wsX3_nodeAt) := goodIn_app (goodIn_of _ (by decide +kernel)) ggX3_link_X3_nodeAt
set_option maxRecDepth 20000 in
theorem ggX3_link_X3_wayFrom : GoodIn wsX3_link wsX3_wayFrom := goodIn_ca (goodIn_r _ [17, 1, 2, 18, 11, 12, 8, 13, 43, 44, 45] (by decide +kernel) (by decide +kernel)) (goodIn_sub (fun _ h => List.mem_cons_of_mem _ (List.mem_append_left _ (List.mem_append_right _ h))) (by decide +kernel))
set_option maxRecDepth 20000 in
theorem gX3_link_X3_wayFrom : GoodIn wsX3_link (wsV RX3 152 RX3 yX3_wayFrom wsX3_wayFrom) := goodIn_app (goodIn_of _ (by decide +kernel)) ggX3_link_X3_wayFrom
set_option maxRecDepth 20000 in
theorem ggX3_link_X3_requireLink : GoodIn wsX3_link wsX3_requireLink := goodIn_ca (goodIn_ca (goodIn_r _ [22, 23, 24, 25, 26, 27, 8, 28, 29, 30, 5, 6, 7, 9, 1, 2, 10, 11, 12, 13, 35, 36, 37, 38, 39, 40, 41, 42, 43, 44, 45] (by decide +kernel) (by decide +kernel)) (goodIn_sub (fun _ h => List.mem_cons_of_mem _ (List.mem_append_right _ h)) (by decide +kernel))) (goodIn_sub (fun _ h => List.mem_cons_of_mem _ (List.mem_append_left _ (List.mem_append_right _ h))) (by decide +kernel))
set_option maxRecDepth 20000 in
theorem gX3_link_X3_requireLink : GoodIn wsX3_link (wsV RX3 148 RX3 yX3_requireLink wsX3_requireLink) := goodIn_app (goodIn_of _ (by decide +kernel)) ggX3_link_X3_requireLink
theorem dX3_link_0 : decode cX3_link 0 = .ok (.aload_n 0, 1) := by decide +kernel
theorem dX3_link_1 : decode cX3_link 1 = .ok (.iload_n 1, 1) := by decide +kernel
theorem dX3_link_2 : decode cX3_link 2 = .ok (.invokevirtual 27, 3) := by decide +kernel
theorem dX3_link_5 : decode cX3_link 5 = .ok (.pop, 1) := by decide +kernel
theorem dX3_link_6 : decode cX3_link 6 = .ok (.aload_n 0, 1) := by decide +kernel
theorem dX3_link_7 : decode cX3_link 7 = .ok (.iload_n 2, 1) := by decide +kernel
theorem dX3_link_8 : decode cX3_link 8 = .ok (.invokevirtual 27, 3) := by decide +kernel
theorem dX3_link_11 : decode cX3_link 11 = .ok (.astore 4, 2) := by decide +kernel
theorem dX3_link_13 : decode cX3_link 13 = .ok (.iload_n 3, 1) := by decide +kernel
theorem dX3_link_14 : decode cX3_link 14 = .ok (.iconst 1, 1) := by decide +kernel
theorem dX3_link_15 : decode cX3_link 15 = .ok (.if_icmp .ne 13, 3) := by decide +kernel
theorem dX3_link_18 : decode cX3_link 18 = .ok (.aload_n 0, 1) := by decide +kernel
theorem dX3_link_19 : decode cX3_link 19 = .ok (.iload_n 1, 1) := by decide +kernel
theorem dX3_link_20 : decode cX3_link 20 = .ok (.iload_n 2, 1) := by decide +kernel
theorem dX3_link_21 : decode cX3_link 21 = .ok (.invokevirtual 152, 3) := by decide +kernel
theorem dX3_link_24 : decode cX3_link 24 = .ok (.getfield 191, 3) := by decide +kernel
theorem dX3_link_27 : decode cX3_link 27 = .ok (.ireturn, 1) := by decide +kernel
theorem dX3_link_28 : decode cX3_link 28 = .ok (.iload_n 3, 1) := by decide +kernel
theorem dX3_link_29 : decode cX3_link 29 = .ok (.ifCond .eq 13, 3) := by decide +kernel
theorem dX3_link_32 : decode cX3_link 32 = .ok (.new 134, 3) := by decide +kernel
theorem dX3_link_35 : decode cX3_link 35 = .ok (.dup, 1) := by decide +kernel
theorem dX3_link_36 : decode cX3_link 36 = .ok (.ldc 218, 2) := by decide +kernel
theorem dX3_link_38 : decode cX3_link 38 = .ok (.invokespecial 138, 3) := by decide +kernel
theorem dX3_link_41 : decode cX3_link 41 = .ok (.athrow, 1) := by decide +kernel
theorem dX3_link_42 : decode cX3_link 42 = .ok (.aload_n 0, 1) := by decide +kernel
theorem dX3_link_43 : decode cX3_link 43 = .ok (.iload_n 1, 1) := by decide +kernel
theorem dX3_link_44 : decode cX3_link 44 = .ok (.iload_n 2, 1) := by decide +kernel
theorem dX3_link_45 : decode cX3_link 45 = .ok (.invokevirtual 148, 3) := by decide +kernel
theorem dX3_link_48 : decode cX3_link 48 = .ok (.aload 4, 2) := by decide +kernel
theorem dX3_link_50 : decode cX3_link 50 = .ok (.getfield 162, 3) := by decide +kernel
theorem dX3_link_53 : decode cX3_link 53 = .ok (.ireturn, 1) := by decide +kernel
theorem dX3_isNode_0 : decode cX3_isNode 0 = .ok (.iload_n 0, 1) := by decide +kernel
theorem dX3_isNode_1 : decode cX3_isNode 1 = .ok (.ifCond .lt 12, 3) := by decide +kernel
theorem dX3_isNode_4 : decode cX3_isNode 4 = .ok (.iload_n 0, 1) := by decide +kernel
theorem dX3_isNode_5 : decode cX3_isNode 5 = .ok (.iconst 4, 1) := by decide +kernel
theorem dX3_isNode_6 : decode cX3_isNode 6 = .ok (.if_icmp .ge 7, 3) := by decide +kernel
theorem dX3_isNode_9 : decode cX3_isNode 9 = .ok (.iconst 1, 1) := by decide +kernel
theorem dX3_isNode_10 : decode cX3_isNode 10 = .ok (.goto 4, 3) := by decide +kernel
theorem dX3_isNode_13 : decode cX3_isNode 13 = .ok (.iconst 0, 1) := by decide +kernel
theorem dX3_isNode_14 : decode cX3_isNode 14 = .ok (.ireturn, 1) := by decide +kernel
theorem dX3_isKey_0 : decode cX3_isKey 0 = .ok (.iload_n 0, 1) := by decide +kernel
theorem dX3_isKey_1 : decode cX3_isKey 1 = .ok (.ifCond .lt 13, 3) := by decide +kernel
theorem dX3_isKey_4 : decode cX3_isKey 4 = .ok (.iload_n 0, 1) := by decide +kernel
theorem dX3_isKey_5 : decode cX3_isKey 5 = .ok (.bipush 16, 2) := by decide +kernel
theorem dX3_isKey_7 : decode cX3_isKey 7 = .ok (.if_icmp .ge 7, 3) := by decide +kernel
theorem dX3_isKey_10 : decode cX3_isKey 10 = .ok (.iconst 1, 1) := by decide +kernel
theorem dX3_isKey_11 : decode cX3_isKey 11 = .ok (.goto 4, 3) := by decide +kernel
theorem dX3_isKey_14 : decode cX3_isKey 14 = .ok (.iconst 0, 1) := by decide +kernel
theorem dX3_isKey_15 : decode cX3_isKey 15 = .ok (.ireturn, 1) := by decide +kernel
set_option maxRecDepth 20000 in
theorem ggX3_nodeAt_X3_isNode : GoodIn wsX3_nodeAt wsX3_isNode := goodIn_r _ [7] (by decide +kernel) (by decide +kernel)
set_option maxRecDepth 20000 in
theorem gX3_nodeAt_X3_isNode : GoodIn wsX3_nodeAt (va_wsS RX3 131 yX3_isNode wsX3_isNode) := goodIn_app (goodIn_of _ (by decide +kernel)) ggX3_nodeAt_X3_isNode
theorem dX3_nodeAt_0 : decode cX3_nodeAt 0 = .ok (.iload_n 1, 1) := by decide +kernel
theorem dX3_nodeAt_1 : decode cX3_nodeAt 1 = .ok (.invokestatic 131, 3) := by decide +kernel
theorem dX3_nodeAt_4 : decode cX3_nodeAt 4 = .ok (.ifCond .ne 13, 3) := by decide +kernel
theorem dX3_nodeAt_7 : decode cX3_nodeAt 7 = .ok (.new 134, 3) := by decide +kernel
theorem dX3_nodeAt_10 : decode cX3_nodeAt 10 = .ok (.dup, 1) := by decide +kernel
theorem dX3_nodeAt_11 : decode cX3_nodeAt 11 = .ok (.ldc 220, 2) := by decide +kernel
theorem dX3_nodeAt_13 : decode cX3_nodeAt 13 = .ok (.invokespecial 138, 3) := by decide +kernel
theorem dX3_nodeAt_16 : decode cX3_nodeAt 16 = .ok (.athrow, 1) := by decide +kernel
theorem dX3_nodeAt_17 : decode cX3_nodeAt 17 = .ok (.aload_n 0, 1) := by decide +kernel
theorem dX3_nodeAt_18 : decode cX3_nodeAt 18 = .ok (.getfield 11, 3) := by decide +kernel
theorem dX3_nodeAt_21 : decode cX3_nodeAt 21 = .ok (.iload_n 1, 1) := by decide +kernel
theorem dX3_nodeAt_22 : decode cX3_nodeAt 22 = .ok (.aaload, 1) := by decide +kernel
theorem dX3_nodeAt_23 : decode cX3_nodeAt 23 = .ok (.areturn, 1) := by decide +kernel
set_option maxRecDepth 20000 in
theorem ggX3_wayFrom_X3_isNode : GoodIn wsX3_wayFrom wsX3_isNode := goodIn_r _ [7] (by decide +kernel) (by decide +kernel)
set_option maxRecDepth 20000 in
theorem gX3_wayFrom_X3_isNode : GoodIn wsX3_wayFrom (va_wsS RX3 131 yX3_isNode wsX3_isNode) := goodIn_app (goodIn_of _ (by decide +kernel)) ggX3_wayFrom_X3_isNode
theorem dX3_wayFrom_0 : decode cX3_wayFrom 0 = .ok (.iload_n 1, 1) := by decide +kernel
theorem dX3_wayFrom_1 : decode cX3_wayFrom 1 = .ok (.invokestatic 131, 3) := by decide +kernel
theorem dX3_wayFrom_4 : decode cX3_wayFrom 4 = .ok (.ifCond .eq 10, 3) := by decide +kernel
theorem dX3_wayFrom_7 : decode cX3_wayFrom 7 = .ok (.iload_n 2, 1) := by decide +kernel
theorem dX3_wayFrom_8 : decode cX3_wayFrom 8 = .ok (.invokestatic 131, 3) := by decide +kernel
theorem dX3_wayFrom_11 : decode cX3_wayFrom 11 = .ok (.ifCond .ne 13, 3) := by decide +kernel
theorem dX3_wayFrom_14 : decode cX3_wayFrom 14 = .ok (.new 134, 3) := by decide +kernel
theorem dX3_wayFrom_17 : decode cX3_wayFrom 17 = .ok (.dup, 1) := by decide +kernel
theorem dX3_wayFrom_18 : decode cX3_wayFrom 18 = .ok (.ldc 220, 2) := by decide +kernel
theorem dX3_wayFrom_20 : decode cX3_wayFrom 20 = .ok (.invokespecial 138, 3) := by decide +kernel
theorem dX3_wayFrom_23 : decode cX3_wayFrom 23 = .ok (.athrow, 1) := by decide +kernel
theorem dX3_wayFrom_24 : decode cX3_wayFrom 24 = .ok (.aload_n 0, 1) := by decide +kernel
theorem dX3_wayFrom_25 : decode cX3_wayFrom 25 = .ok (.getfield 18, 3) := by decide +kernel
theorem dX3_wayFrom_28 : decode cX3_wayFrom 28 = .ok (.iload_n 1, 1) := by decide +kernel
theorem dX3_wayFrom_29 : decode cX3_wayFrom 29 = .ok (.iconst 4, 1) := by decide +kernel
theorem dX3_wayFrom_30 : decode cX3_wayFrom 30 = .ok (.imul, 1) := by decide +kernel
theorem dX3_wayFrom_31 : decode cX3_wayFrom 31 = .ok (.iload_n 2, 1) := by decide +kernel
theorem dX3_wayFrom_32 : decode cX3_wayFrom 32 = .ok (.iadd, 1) := by decide +kernel
theorem dX3_wayFrom_33 : decode cX3_wayFrom 33 = .ok (.aaload, 1) := by decide +kernel
theorem dX3_wayFrom_34 : decode cX3_wayFrom 34 = .ok (.areturn, 1) := by decide +kernel
set_option maxRecDepth 20000 in
theorem ggX3_isReplicaOf_X3_nodeAt : GoodIn wsX3_isReplicaOf wsX3_nodeAt := goodIn_ca (goodIn_r _ [7, 8, 9, 10, 11, 12, 6, 13, 22, 23, 24] (by decide +kernel) (by decide +kernel)) (goodIn_sub (fun _ h => List.mem_cons_of_mem _ (List.mem_append_right _ h)) (by decide +kernel))
set_option maxRecDepth 20000 in
theorem gX3_isReplicaOf_X3_nodeAt : GoodIn wsX3_isReplicaOf (wsV RX3 27 RX3 yX3_nodeAt wsX3_nodeAt) := goodIn_app (goodIn_of _ (by decide +kernel)) ggX3_isReplicaOf_X3_nodeAt
theorem dX3_isReplicaOf_0 : decode cX3_isReplicaOf 0 = .ok (.aload_n 0, 1) := by decide +kernel
theorem dX3_isReplicaOf_1 : decode cX3_isReplicaOf 1 = .ok (.iload_n 1, 1) := by decide +kernel
theorem dX3_isReplicaOf_2 : decode cX3_isReplicaOf 2 = .ok (.invokevirtual 27, 3) := by decide +kernel
theorem dX3_isReplicaOf_5 : decode cX3_isReplicaOf 5 = .ok (.astore_n 3, 1) := by decide +kernel
theorem dX3_isReplicaOf_6 : decode cX3_isReplicaOf 6 = .ok (.aload_n 3, 1) := by decide +kernel
theorem dX3_isReplicaOf_7 : decode cX3_isReplicaOf 7 = .ok (.getfield 31, 3) := by decide +kernel
theorem dX3_isReplicaOf_10 : decode cX3_isReplicaOf 10 = .ok (.iconst 3, 1) := by decide +kernel
theorem dX3_isReplicaOf_11 : decode cX3_isReplicaOf 11 = .ok (.if_icmp .ne 15, 3) := by decide +kernel
theorem dX3_isReplicaOf_14 : decode cX3_isReplicaOf 14 = .ok (.aload_n 3, 1) := by decide +kernel
theorem dX3_isReplicaOf_15 : decode cX3_isReplicaOf 15 = .ok (.getfield 222, 3) := by decide +kernel
theorem dX3_isReplicaOf_18 : decode cX3_isReplicaOf 18 = .ok (.iload_n 2, 1) := by decide +kernel
theorem dX3_isReplicaOf_19 : decode cX3_isReplicaOf 19 = .ok (.if_icmp .ne 7, 3) := by decide +kernel
theorem dX3_isReplicaOf_22 : decode cX3_isReplicaOf 22 = .ok (.iconst 1, 1) := by decide +kernel
theorem dX3_isReplicaOf_23 : decode cX3_isReplicaOf 23 = .ok (.goto 4, 3) := by decide +kernel
theorem dX3_isReplicaOf_26 : decode cX3_isReplicaOf 26 = .ok (.iconst 0, 1) := by decide +kernel
theorem dX3_isReplicaOf_27 : decode cX3_isReplicaOf 27 = .ok (.ireturn, 1) := by decide +kernel
theorem dX3_requirePrimary_0 : decode cX3_requirePrimary 0 = .ok (.aload_n 0, 1) := by decide +kernel
theorem dX3_requirePrimary_1 : decode cX3_requirePrimary 1 = .ok (.getfield 31, 3) := by decide +kernel
theorem dX3_requirePrimary_4 : decode cX3_requirePrimary 4 = .ok (.iconst 2, 1) := by decide +kernel
theorem dX3_requirePrimary_5 : decode cX3_requirePrimary 5 = .ok (.if_icmp .eq 13, 3) := by decide +kernel
theorem dX3_requirePrimary_8 : decode cX3_requirePrimary 8 = .ok (.new 34, 3) := by decide +kernel
theorem dX3_requirePrimary_11 : decode cX3_requirePrimary 11 = .ok (.dup, 1) := by decide +kernel
theorem dX3_requirePrimary_12 : decode cX3_requirePrimary 12 = .ok (.ldc 225, 2) := by decide +kernel
theorem dX3_requirePrimary_14 : decode cX3_requirePrimary 14 = .ok (.invokespecial 38, 3) := by decide +kernel
theorem dX3_requirePrimary_17 : decode cX3_requirePrimary 17 = .ok (.athrow, 1) := by decide +kernel
theorem dX3_requirePrimary_18 : decode cX3_requirePrimary 18 = .ok (.return_, 1) := by decide +kernel
set_option maxRecDepth 20000 in
theorem ggX3_requireRoom_X0_isFull : GoodIn wsX3_requireRoom wsX0_isFull := goodIn_r _ [8, 9, 18, 19, 20, 21] (by decide +kernel) (by decide +kernel)
set_option maxRecDepth 20000 in
theorem gX3_requireRoom_X0_isFull : GoodIn wsX3_requireRoom (wsV RX3 227 RX0 yX0_isFull wsX0_isFull) := goodIn_app (goodIn_of _ (by decide +kernel)) ggX3_requireRoom_X0_isFull
theorem dX3_requireRoom_0 : decode cX3_requireRoom 0 = .ok (.aload_n 0, 1) := by decide +kernel
theorem dX3_requireRoom_1 : decode cX3_requireRoom 1 = .ok (.getfield 45, 3) := by decide +kernel
theorem dX3_requireRoom_4 : decode cX3_requireRoom 4 = .ok (.invokevirtual 227, 3) := by decide +kernel
theorem dX3_requireRoom_7 : decode cX3_requireRoom 7 = .ok (.ifCond .eq 13, 3) := by decide +kernel
theorem dX3_requireRoom_10 : decode cX3_requireRoom 10 = .ok (.new 77, 3) := by decide +kernel
theorem dX3_requireRoom_13 : decode cX3_requireRoom 13 = .ok (.dup, 1) := by decide +kernel
theorem dX3_requireRoom_14 : decode cX3_requireRoom 14 = .ok (.ldc 228, 2) := by decide +kernel
theorem dX3_requireRoom_16 : decode cX3_requireRoom 16 = .ok (.invokespecial 81, 3) := by decide +kernel
theorem dX3_requireRoom_19 : decode cX3_requireRoom 19 = .ok (.athrow, 1) := by decide +kernel
theorem dX3_requireRoom_20 : decode cX3_requireRoom 20 = .ok (.return_, 1) := by decide +kernel
set_option maxRecDepth 20000 in
theorem ggX3_requireLink_X3_isReplicaOf : GoodIn wsX3_requireLink wsX3_isReplicaOf := goodIn_ca (goodIn_r _ [7, 8, 9, 10, 11, 12, 6, 13, 14, 15, 16, 17, 18, 19, 20, 21, 22, 23, 24, 25, 26, 27, 28, 29, 30] (by decide +kernel) (by decide +kernel)) (goodIn_sub (fun _ h => List.mem_cons_of_mem _ (List.mem_append_right _ h)) (by decide +kernel))
set_option maxRecDepth 20000 in
theorem gX3_requireLink_X3_isReplicaOf : GoodIn wsX3_requireLink (wsV RX3 139 RX3 yX3_isReplicaOf wsX3_isReplicaOf) := goodIn_app (goodIn_of _ (by decide +kernel)) ggX3_requireLink_X3_isReplicaOf
theorem dX3_requireLink_0 : decode cX3_requireLink 0 = .ok (.aload_n 0, 1) := by decide +kernel
theorem dX3_requireLink_1 : decode cX3_requireLink 1 = .ok (.iload_n 2, 1) := by decide +kernel
theorem dX3_requireLink_2 : decode cX3_requireLink 2 = .ok (.iload_n 1, 1) := by decide +kernel
theorem dX3_requireLink_3 : decode cX3_requireLink 3 = .ok (.invokevirtual 139, 3) := by decide +kernel
theorem dX3_requireLink_6 : decode cX3_requireLink 6 = .ok (.ifCond .ne 13, 3) := by decide +kernel
theorem dX3_requireLink_9 : decode cX3_requireLink 9 = .ok (.new 34, 3) := by decide +kernel
theorem dX3_requireLink_12 : decode cX3_requireLink 12 = .ok (.dup, 1) := by decide +kernel
theorem dX3_requireLink_13 : decode cX3_requireLink 13 = .ok (.ldc 230, 2) := by decide +kernel
theorem dX3_requireLink_15 : decode cX3_requireLink 15 = .ok (.invokespecial 38, 3) := by decide +kernel
theorem dX3_requireLink_18 : decode cX3_requireLink 18 = .ok (.athrow, 1) := by decide +kernel
theorem dX3_requireLink_19 : decode cX3_requireLink 19 = .ok (.return_, 1) := by decide +kernel
set_option maxRecDepth 20000 in
theorem ggX3_requireMessage_X3_wayFrom : GoodIn wsX3_requireMessage wsX3_wayFrom := goodIn_ca (goodIn_r _ [8, 9, 10, 11, 12, 13, 7, 14, 19, 20, 21] (by decide +kernel) (by decide +kernel)) (goodIn_sub (fun _ h => List.mem_cons_of_mem _ (List.mem_append_right _ h)) (by decide +kernel))
set_option maxRecDepth 20000 in
theorem gX3_requireMessage_X3_wayFrom : GoodIn wsX3_requireMessage (wsV RX3 152 RX3 yX3_wayFrom wsX3_wayFrom) := goodIn_app (goodIn_of _ (by decide +kernel)) ggX3_requireMessage_X3_wayFrom
theorem dX3_requireMessage_0 : decode cX3_requireMessage 0 = .ok (.aload_n 0, 1) := by decide +kernel
theorem dX3_requireMessage_1 : decode cX3_requireMessage 1 = .ok (.iload_n 1, 1) := by decide +kernel
theorem dX3_requireMessage_2 : decode cX3_requireMessage 2 = .ok (.iload_n 2, 1) := by decide +kernel
theorem dX3_requireMessage_3 : decode cX3_requireMessage 3 = .ok (.invokevirtual 152, 3) := by decide +kernel
theorem dX3_requireMessage_6 : decode cX3_requireMessage 6 = .ok (.getfield 191, 3) := by decide +kernel
theorem dX3_requireMessage_9 : decode cX3_requireMessage 9 = .ok (.ifCond .ne 13, 3) := by decide +kernel
theorem dX3_requireMessage_12 : decode cX3_requireMessage 12 = .ok (.new 171, 3) := by decide +kernel
theorem dX3_requireMessage_15 : decode cX3_requireMessage 15 = .ok (.dup, 1) := by decide +kernel
theorem dX3_requireMessage_16 : decode cX3_requireMessage 16 = .ok (.ldc 232, 2) := by decide +kernel
theorem dX3_requireMessage_18 : decode cX3_requireMessage 18 = .ok (.invokespecial 175, 3) := by decide +kernel
theorem dX3_requireMessage_21 : decode cX3_requireMessage 21 = .ok (.athrow, 1) := by decide +kernel
theorem dX3_requireMessage_22 : decode cX3_requireMessage 22 = .ok (.return_, 1) := by decide +kernel
set_option maxRecDepth 20000 in
theorem ggX3_factOf_X0_lastTimeline : GoodIn wsX3_factOf wsX0_lastTimeline := goodIn_r _ [13, 14, 15, 16, 17, 12, 18, 19, 20, 21, 22, 23, 43, 44, 45, 46] (by decide +kernel) (by decide +kernel)
set_option maxRecDepth 20000 in
theorem gX3_factOf_X0_lastTimeline : GoodIn wsX3_factOf (wsV RX3 117 RX0 yX0_lastTimeline wsX0_lastTimeline) := goodIn_app (goodIn_of _ (by decide +kernel)) ggX3_factOf_X0_lastTimeline
set_option maxRecDepth 20000 in
theorem ggX3_factOf_X1_pendingPuts : GoodIn wsX3_factOf wsX1_pendingPuts := goodIn_r _ [28, 29, 30, 31, 32, 33, 12, 34, 19, 20, 21, 22, 23, 35, 36, 37, 38, 39, 40, 41, 42, 43, 44, 45, 46] (by decide +kernel) (by decide +kernel)
set_option maxRecDepth 20000 in
theorem gX3_factOf_X1_pendingPuts : GoodIn wsX3_factOf (wsV RX3 237 RX1 yX1_pendingPuts wsX1_pendingPuts) := goodIn_app (goodIn_of _ (by decide +kernel)) ggX3_factOf_X1_pendingPuts
theorem dX3_factOf_0 : decode cX3_factOf 0 = .ok (.iload_n 1, 1) := by decide +kernel
theorem dX3_factOf_1 : decode cX3_factOf 1 = .ok (.tableswitch 96 0 7 #[47, 52, 60, 68, 73, 81, 86, 91], 47) := by decide +kernel
theorem dX3_factOf_48 : decode cX3_factOf 48 = .ok (.aload_n 0, 1) := by decide +kernel
theorem dX3_factOf_49 : decode cX3_factOf 49 = .ok (.getfield 31, 3) := by decide +kernel
theorem dX3_factOf_52 : decode cX3_factOf 52 = .ok (.ireturn, 1) := by decide +kernel
theorem dX3_factOf_53 : decode cX3_factOf 53 = .ok (.aload_n 0, 1) := by decide +kernel
theorem dX3_factOf_54 : decode cX3_factOf 54 = .ok (.getfield 45, 3) := by decide +kernel
theorem dX3_factOf_57 : decode cX3_factOf 57 = .ok (.getfield 54, 3) := by decide +kernel
theorem dX3_factOf_60 : decode cX3_factOf 60 = .ok (.ireturn, 1) := by decide +kernel
theorem dX3_factOf_61 : decode cX3_factOf 61 = .ok (.aload_n 0, 1) := by decide +kernel
theorem dX3_factOf_62 : decode cX3_factOf 62 = .ok (.getfield 45, 3) := by decide +kernel
theorem dX3_factOf_65 : decode cX3_factOf 65 = .ok (.getfield 234, 3) := by decide +kernel
theorem dX3_factOf_68 : decode cX3_factOf 68 = .ok (.ireturn, 1) := by decide +kernel
theorem dX3_factOf_69 : decode cX3_factOf 69 = .ok (.aload_n 0, 1) := by decide +kernel
theorem dX3_factOf_70 : decode cX3_factOf 70 = .ok (.getfield 57, 3) := by decide +kernel
theorem dX3_factOf_73 : decode cX3_factOf 73 = .ok (.ireturn, 1) := by decide +kernel
theorem dX3_factOf_74 : decode cX3_factOf 74 = .ok (.aload_n 0, 1) := by decide +kernel
theorem dX3_factOf_75 : decode cX3_factOf 75 = .ok (.getfield 45, 3) := by decide +kernel
theorem dX3_factOf_78 : decode cX3_factOf 78 = .ok (.invokevirtual 117, 3) := by decide +kernel
theorem dX3_factOf_81 : decode cX3_factOf 81 = .ok (.ireturn, 1) := by decide +kernel
theorem dX3_factOf_82 : decode cX3_factOf 82 = .ok (.aload_n 0, 1) := by decide +kernel
theorem dX3_factOf_83 : decode cX3_factOf 83 = .ok (.getfield 222, 3) := by decide +kernel
theorem dX3_factOf_86 : decode cX3_factOf 86 = .ok (.ireturn, 1) := by decide +kernel
theorem dX3_factOf_87 : decode cX3_factOf 87 = .ok (.aload_n 0, 1) := by decide +kernel
theorem dX3_factOf_88 : decode cX3_factOf 88 = .ok (.getfield 128, 3) := by decide +kernel
theorem dX3_factOf_91 : decode cX3_factOf 91 = .ok (.ireturn, 1) := by decide +kernel
theorem dX3_factOf_92 : decode cX3_factOf 92 = .ok (.aload_n 0, 1) := by decide +kernel
theorem dX3_factOf_93 : decode cX3_factOf 93 = .ok (.getfield 145, 3) := by decide +kernel
theorem dX3_factOf_96 : decode cX3_factOf 96 = .ok (.ireturn, 1) := by decide +kernel
theorem dX3_factOf_97 : decode cX3_factOf 97 = .ok (.aload_n 0, 1) := by decide +kernel
theorem dX3_factOf_98 : decode cX3_factOf 98 = .ok (.invokevirtual 237, 3) := by decide +kernel
theorem dX3_factOf_101 : decode cX3_factOf 101 = .ok (.ireturn, 1) := by decide +kernel
set_option maxRecDepth 20000 in
theorem ggX3_takeRole_X3_nodeAt : GoodIn wsX3_takeRole wsX3_nodeAt := goodIn_ca (goodIn_r _ [11, 12, 13, 14, 15, 16, 10, 17, 63, 64, 65] (by decide +kernel) (by decide +kernel)) (goodIn_sub (fun _ h => List.mem_cons_of_mem _ (List.mem_append_right _ h)) (by decide +kernel))
set_option maxRecDepth 20000 in
theorem gX3_takeRole_X3_nodeAt : GoodIn wsX3_takeRole (wsV RX3 27 RX3 yX3_nodeAt wsX3_nodeAt) := goodIn_app (goodIn_of _ (by decide +kernel)) ggX3_takeRole_X3_nodeAt
set_option maxRecDepth 20000 in
theorem ggX3_takeRole_X3_leaveStandby : GoodIn wsX3_takeRole wsX3_leaveStandby := goodIn_r _ [21, 14, 2, 63, 64, 65, 51, 52, 53, 54, 55, 56, 57, 58] (by decide +kernel) (by decide +kernel)
set_option maxRecDepth 20000 in
theorem gX3_takeRole_X3_leaveStandby : GoodIn wsX3_takeRole (wsV RX3 240 RX3 yX3_leaveStandby wsX3_leaveStandby) := goodIn_app (goodIn_of _ (by decide +kernel)) ggX3_takeRole_X3_leaveStandby
set_option maxRecDepth 20000 in
theorem ggX3_takeRole_X3_releaseReplicas : GoodIn wsX3_takeRole wsX3_releaseReplicas := goodIn_ca (goodIn_r _ [25, 26, 27, 28, 10, 29, 1, 30, 7, 8, 9, 11, 12, 13, 14, 15, 16, 17, 31, 32, 33, 34, 35, 36, 37, 38, 39, 40, 41, 42, 43, 44, 45, 46, 47, 48, 49, 50, 51, 52, 53, 54, 55, 56, 57, 58, 63, 64, 65, 66, 67, 68, 69] (by decide +kernel) (by decide +kernel)) (goodIn_sub (fun _ h => List.mem_cons_of_mem _ (List.mem_append_right _ h)) (by decide +kernel))
set_option maxRecDepth 20000 in
theorem gX3_takeRole_X3_releaseReplicas : GoodIn wsX3_takeRole (wsV RX3 243 RX3 yX3_releaseReplicas wsX3_releaseReplicas) := goodIn_app (goodIn_of _ (by decide +kernel)) ggX3_takeRole_X3_releaseReplicas
set_option maxRecDepth 20000 in
theorem ggX3_takeRole_X3_changeRole : GoodIn wsX3_takeRole wsX3_changeRole := goodIn_ca (goodIn_r _ [34, 1, 30, 7, 8, 9, 10, 11, 12, 13, 14, 15, 16, 17, 35, 36, 37, 38, 39, 40, 41, 42, 43, 44, 45, 46, 47, 48, 49, 50, 51, 52, 53, 54, 55, 56, 57, 58, 63, 64, 65, 66, 67, 68, 69] (by decide +kernel) (by decide +kernel)) (goodIn_sub (fun _ h => List.mem_cons_of_mem _ (List.mem_append_right _ h)) (by decide +kernel))
set_option maxRecDepth 20000 in
theorem gX3_takeRole_X3_changeRole : GoodIn wsX3_takeRole (wsV RX3 246 RX3 yX3_changeRole wsX3_changeRole) := goodIn_app (goodIn_of _ (by decide +kernel)) ggX3_takeRole_X3_changeRole
theorem dX3_takeRole_0 : decode cX3_takeRole 0 = .ok (.aload_n 0, 1) := by decide +kernel
theorem dX3_takeRole_1 : decode cX3_takeRole 1 = .ok (.iload_n 1, 1) := by decide +kernel
theorem dX3_takeRole_2 : decode cX3_takeRole 2 = .ok (.invokevirtual 27, 3) := by decide +kernel
theorem dX3_takeRole_5 : decode cX3_takeRole 5 = .ok (.astore 4, 2) := by decide +kernel
theorem dX3_takeRole_7 : decode cX3_takeRole 7 = .ok (.aload_n 0, 1) := by decide +kernel
theorem dX3_takeRole_8 : decode cX3_takeRole 8 = .ok (.iload_n 1, 1) := by decide +kernel
theorem dX3_takeRole_9 : decode cX3_takeRole 9 = .ok (.invokevirtual 240, 3) := by decide +kernel
theorem dX3_takeRole_12 : decode cX3_takeRole 12 = .ok (.aload 4, 2) := by decide +kernel
theorem dX3_takeRole_14 : decode cX3_takeRole 14 = .ok (.getfield 31, 3) := by decide +kernel
theorem dX3_takeRole_17 : decode cX3_takeRole 17 = .ok (.iconst 2, 1) := by decide +kernel
theorem dX3_takeRole_18 : decode cX3_takeRole 18 = .ok (.if_icmp .ne 8, 3) := by decide +kernel
theorem dX3_takeRole_21 : decode cX3_takeRole 21 = .ok (.aload_n 0, 1) := by decide +kernel
theorem dX3_takeRole_22 : decode cX3_takeRole 22 = .ok (.iload_n 1, 1) := by decide +kernel
theorem dX3_takeRole_23 : decode cX3_takeRole 23 = .ok (.invokevirtual 243, 3) := by decide +kernel
theorem dX3_takeRole_26 : decode cX3_takeRole 26 = .ok (.aload 4, 2) := by decide +kernel
theorem dX3_takeRole_28 : decode cX3_takeRole 28 = .ok (.iconst (-1), 1) := by decide +kernel
theorem dX3_takeRole_29 : decode cX3_takeRole 29 = .ok (.putfield 145, 3) := by decide +kernel
theorem dX3_takeRole_32 : decode cX3_takeRole 32 = .ok (.aload 4, 2) := by decide +kernel
theorem dX3_takeRole_34 : decode cX3_takeRole 34 = .ok (.iconst 0, 1) := by decide +kernel
theorem dX3_takeRole_35 : decode cX3_takeRole 35 = .ok (.putfield 128, 3) := by decide +kernel
theorem dX3_takeRole_38 : decode cX3_takeRole 38 = .ok (.aload 4, 2) := by decide +kernel
theorem dX3_takeRole_40 : decode cX3_takeRole 40 = .ok (.aload 4, 2) := by decide +kernel
theorem dX3_takeRole_42 : decode cX3_takeRole 42 = .ok (.getfield 45, 3) := by decide +kernel
theorem dX3_takeRole_45 : decode cX3_takeRole 45 = .ok (.getfield 54, 3) := by decide +kernel
theorem dX3_takeRole_48 : decode cX3_takeRole 48 = .ok (.putfield 162, 3) := by decide +kernel
theorem dX3_takeRole_51 : decode cX3_takeRole 51 = .ok (.aload_n 0, 1) := by decide +kernel
theorem dX3_takeRole_52 : decode cX3_takeRole 52 = .ok (.iload_n 1, 1) := by decide +kernel
theorem dX3_takeRole_53 : decode cX3_takeRole 53 = .ok (.iload_n 2, 1) := by decide +kernel
theorem dX3_takeRole_54 : decode cX3_takeRole 54 = .ok (.iload_n 3, 1) := by decide +kernel
theorem dX3_takeRole_55 : decode cX3_takeRole 55 = .ok (.invokevirtual 246, 3) := by decide +kernel
theorem dX3_takeRole_58 : decode cX3_takeRole 58 = .ok (.return_, 1) := by decide +kernel
set_option maxRecDepth 20000 in
theorem ggX3_changeRole_X3_nodeAt : GoodIn wsX3_changeRole wsX3_nodeAt := goodIn_ca (goodIn_r _ [7, 8, 9, 10, 11, 12, 6, 13, 38, 39, 40] (by decide +kernel) (by decide +kernel)) (goodIn_sub (fun _ h => List.mem_cons_of_mem _ (List.mem_append_right _ h)) (by decide +kernel))
set_option maxRecDepth 20000 in
theorem gX3_changeRole_X3_nodeAt : GoodIn wsX3_changeRole (wsV RX3 27 RX3 yX3_nodeAt wsX3_nodeAt) := goodIn_app (goodIn_of _ (by decide +kernel)) ggX3_changeRole_X3_nodeAt
set_option maxRecDepth 20000 in
theorem ggX3_changeRole_X3_loseMessages : GoodIn wsX3_changeRole wsX3_loseMessages := goodIn_ca (goodIn_r _ [17, 18, 19, 20, 6, 21, 8, 9, 22, 11, 12, 13, 23, 24, 25, 26, 27, 28, 29, 38, 39, 40, 41, 42, 43, 44] (by decide +kernel) (by decide +kernel)) (goodIn_sub (fun _ h => List.mem_cons_of_mem _ (List.mem_append_right _ h)) (by decide +kernel))
set_option maxRecDepth 20000 in
theorem gX3_changeRole_X3_loseMessages : GoodIn wsX3_changeRole (wsV RX3 249 RX3 yX3_loseMessages wsX3_loseMessages) := goodIn_app (goodIn_of _ (by decide +kernel)) ggX3_changeRole_X3_loseMessages
theorem dX3_changeRole_0 : decode cX3_changeRole 0 = .ok (.aload_n 0, 1) := by decide +kernel
theorem dX3_changeRole_1 : decode cX3_changeRole 1 = .ok (.iload_n 1, 1) := by decide +kernel
theorem dX3_changeRole_2 : decode cX3_changeRole 2 = .ok (.invokevirtual 27, 3) := by decide +kernel
theorem dX3_changeRole_5 : decode cX3_changeRole 5 = .ok (.astore 4, 2) := by decide +kernel
theorem dX3_changeRole_7 : decode cX3_changeRole 7 = .ok (.aload 4, 2) := by decide +kernel
theorem dX3_changeRole_9 : decode cX3_changeRole 9 = .ok (.getfield 31, 3) := by decide +kernel
theorem dX3_changeRole_12 : decode cX3_changeRole 12 = .ok (.iload_n 2, 1) := by decide +kernel
theorem dX3_changeRole_13 : decode cX3_changeRole 13 = .ok (.if_icmp .ne 12, 3) := by decide +kernel
theorem dX3_changeRole_16 : decode cX3_changeRole 16 = .ok (.aload 4, 2) := by decide +kernel
theorem dX3_changeRole_18 : decode cX3_changeRole 18 = .ok (.getfield 222, 3) := by decide +kernel
theorem dX3_changeRole_21 : decode cX3_changeRole 21 = .ok (.iload_n 3, 1) := by decide +kernel
theorem dX3_changeRole_22 : decode cX3_changeRole 22 = .ok (.if_icmp .eq 8, 3) := by decide +kernel
theorem dX3_changeRole_25 : decode cX3_changeRole 25 = .ok (.aload_n 0, 1) := by decide +kernel
theorem dX3_changeRole_26 : decode cX3_changeRole 26 = .ok (.iload_n 1, 1) := by decide +kernel
theorem dX3_changeRole_27 : decode cX3_changeRole 27 = .ok (.invokevirtual 249, 3) := by decide +kernel
theorem dX3_changeRole_30 : decode cX3_changeRole 30 = .ok (.aload 4, 2) := by decide +kernel
theorem dX3_changeRole_32 : decode cX3_changeRole 32 = .ok (.iload_n 2, 1) := by decide +kernel
theorem dX3_changeRole_33 : decode cX3_changeRole 33 = .ok (.putfield 31, 3) := by decide +kernel
theorem dX3_changeRole_36 : decode cX3_changeRole 36 = .ok (.aload 4, 2) := by decide +kernel
theorem dX3_changeRole_38 : decode cX3_changeRole 38 = .ok (.iload_n 3, 1) := by decide +kernel
theorem dX3_changeRole_39 : decode cX3_changeRole 39 = .ok (.putfield 222, 3) := by decide +kernel
theorem dX3_changeRole_42 : decode cX3_changeRole 42 = .ok (.return_, 1) := by decide +kernel
theorem dX3_leaveStandby_0 : decode cX3_leaveStandby 0 = .ok (.iconst 0, 1) := by decide +kernel
theorem dX3_leaveStandby_1 : decode cX3_leaveStandby 1 = .ok (.istore_n 2, 1) := by decide +kernel
theorem dX3_leaveStandby_2 : decode cX3_leaveStandby 2 = .ok (.iload_n 2, 1) := by decide +kernel
theorem dX3_leaveStandby_3 : decode cX3_leaveStandby 3 = .ok (.iconst 4, 1) := by decide +kernel
theorem dX3_leaveStandby_4 : decode cX3_leaveStandby 4 = .ok (.if_icmp .ge 32, 3) := by decide +kernel
theorem dX3_leaveStandby_7 : decode cX3_leaveStandby 7 = .ok (.aload_n 0, 1) := by decide +kernel
theorem dX3_leaveStandby_8 : decode cX3_leaveStandby 8 = .ok (.getfield 11, 3) := by decide +kernel
theorem dX3_leaveStandby_11 : decode cX3_leaveStandby 11 = .ok (.iload_n 2, 1) := by decide +kernel
theorem dX3_leaveStandby_12 : decode cX3_leaveStandby 12 = .ok (.aaload, 1) := by decide +kernel
theorem dX3_leaveStandby_13 : decode cX3_leaveStandby 13 = .ok (.getfield 145, 3) := by decide +kernel
theorem dX3_leaveStandby_16 : decode cX3_leaveStandby 16 = .ok (.iload_n 1, 1) := by decide +kernel
theorem dX3_leaveStandby_17 : decode cX3_leaveStandby 17 = .ok (.if_icmp .ne 13, 3) := by decide +kernel
theorem dX3_leaveStandby_20 : decode cX3_leaveStandby 20 = .ok (.aload_n 0, 1) := by decide +kernel
theorem dX3_leaveStandby_21 : decode cX3_leaveStandby 21 = .ok (.getfield 11, 3) := by decide +kernel
theorem dX3_leaveStandby_24 : decode cX3_leaveStandby 24 = .ok (.iload_n 2, 1) := by decide +kernel
theorem dX3_leaveStandby_25 : decode cX3_leaveStandby 25 = .ok (.aaload, 1) := by decide +kernel
theorem dX3_leaveStandby_26 : decode cX3_leaveStandby 26 = .ok (.iconst (-1), 1) := by decide +kernel
theorem dX3_leaveStandby_27 : decode cX3_leaveStandby 27 = .ok (.putfield 145, 3) := by decide +kernel
theorem dX3_leaveStandby_30 : decode cX3_leaveStandby 30 = .ok (.iinc 2 1, 3) := by decide +kernel
theorem dX3_leaveStandby_33 : decode cX3_leaveStandby 33 = .ok (.goto (-31), 3) := by decide +kernel
theorem dX3_leaveStandby_36 : decode cX3_leaveStandby 36 = .ok (.return_, 1) := by decide +kernel
set_option maxRecDepth 20000 in
theorem ggX3_releaseReplicas_X3_isReplicaOf : GoodIn wsX3_releaseReplicas wsX3_isReplicaOf := goodIn_ca (goodIn_r _ [5, 6, 7, 8, 9, 10, 4, 11, 12, 13, 14, 15, 16, 17, 38, 39, 40, 41, 42, 43, 44, 45, 46, 47, 48] (by decide +kernel) (by decide +kernel)) (goodIn_sub (fun _ h => List.mem_cons_of_mem _ (List.mem_append_right _ h)) (by decide +kernel))
set_option maxRecDepth 20000 in
theorem gX3_releaseReplicas_X3_isReplicaOf : GoodIn wsX3_releaseReplicas (wsV RX3 139 RX3 yX3_isReplicaOf wsX3_isReplicaOf) := goodIn_app (goodIn_of _ (by decide +kernel)) ggX3_releaseReplicas_X3_isReplicaOf
set_option maxRecDepth 20000 in
theorem ggX3_releaseReplicas_X3_changeRole : GoodIn wsX3_releaseReplicas wsX3_changeRole := goodIn_ca (goodIn_r _ [21, 6, 7, 8, 9, 10, 4, 11, 12, 13, 14, 15, 16, 17, 22, 23, 24, 25, 26, 27, 28, 29, 30, 31, 32, 33, 34, 35, 36, 37, 38, 39, 40, 41, 42, 43, 44, 45, 46, 47, 48, 49, 50, 51, 52] (by decide +kernel) (by decide +kernel)) (goodIn_sub (fun _ h => List.mem_cons_of_mem _ (List.mem_append_right _ h)) (by decide +kernel))
set_option maxRecDepth 20000 in
theorem gX3_releaseReplicas_X3_changeRole : GoodIn wsX3_releaseReplicas (wsV RX3 246 RX3 yX3_changeRole wsX3_changeRole) := goodIn_app (goodIn_of _ (by decide +kernel)) ggX3_releaseReplicas_X3_changeRole
theorem dX3_releaseReplicas_0 : decode cX3_releaseReplicas 0 = .ok (.iconst 0, 1) := by decide +kernel
theorem dX3_releaseReplicas_1 : decode cX3_releaseReplicas 1 = .ok (.istore_n 2, 1) := by decide +kernel
theorem dX3_releaseReplicas_2 : decode cX3_releaseReplicas 2 = .ok (.iload_n 2, 1) := by decide +kernel
theorem dX3_releaseReplicas_3 : decode cX3_releaseReplicas 3 = .ok (.iconst 4, 1) := by decide +kernel
theorem dX3_releaseReplicas_4 : decode cX3_releaseReplicas 4 = .ok (.if_icmp .ge 25, 3) := by decide +kernel
theorem dX3_releaseReplicas_7 : decode cX3_releaseReplicas 7 = .ok (.aload_n 0, 1) := by decide +kernel
theorem dX3_releaseReplicas_8 : decode cX3_releaseReplicas 8 = .ok (.iload_n 2, 1) := by decide +kernel
theorem dX3_releaseReplicas_9 : decode cX3_releaseReplicas 9 = .ok (.iload_n 1, 1) := by decide +kernel
theorem dX3_releaseReplicas_10 : decode cX3_releaseReplicas 10 = .ok (.invokevirtual 139, 3) := by decide +kernel
theorem dX3_releaseReplicas_13 : decode cX3_releaseReplicas 13 = .ok (.ifCond .eq 10, 3) := by decide +kernel
theorem dX3_releaseReplicas_16 : decode cX3_releaseReplicas 16 = .ok (.aload_n 0, 1) := by decide +kernel
theorem dX3_releaseReplicas_17 : decode cX3_releaseReplicas 17 = .ok (.iload_n 2, 1) := by decide +kernel
theorem dX3_releaseReplicas_18 : decode cX3_releaseReplicas 18 = .ok (.iconst 1, 1) := by decide +kernel
theorem dX3_releaseReplicas_19 : decode cX3_releaseReplicas 19 = .ok (.iconst (-1), 1) := by decide +kernel
theorem dX3_releaseReplicas_20 : decode cX3_releaseReplicas 20 = .ok (.invokevirtual 246, 3) := by decide +kernel
theorem dX3_releaseReplicas_23 : decode cX3_releaseReplicas 23 = .ok (.iinc 2 1, 3) := by decide +kernel
theorem dX3_releaseReplicas_26 : decode cX3_releaseReplicas 26 = .ok (.goto (-24), 3) := by decide +kernel
theorem dX3_releaseReplicas_29 : decode cX3_releaseReplicas 29 = .ok (.return_, 1) := by decide +kernel
set_option maxRecDepth 20000 in
theorem ggX3_loseMessages_X3_wayFrom : GoodIn wsX3_loseMessages wsX3_wayFrom := goodIn_ca (goodIn_r _ [5, 6, 7, 8, 9, 10, 4, 11, 19, 20, 21] (by decide +kernel) (by decide +kernel)) (goodIn_sub (fun _ h => List.mem_cons_of_mem _ (List.mem_append_right _ h)) (by decide +kernel))
set_option maxRecDepth 20000 in
theorem gX3_loseMessages_X3_wayFrom : GoodIn wsX3_loseMessages (wsV RX3 152 RX3 yX3_wayFrom wsX3_wayFrom) := goodIn_app (goodIn_of _ (by decide +kernel)) ggX3_loseMessages_X3_wayFrom
set_option maxRecDepth 20000 in
theorem ggX3_loseMessages_X2_clear : GoodIn wsX3_loseMessages wsX2_clear := goodIn_r _ [16, 17, 18, 22, 23, 24, 25] (by decide +kernel) (by decide +kernel)
set_option maxRecDepth 20000 in
theorem gX3_loseMessages_X2_clear : GoodIn wsX3_loseMessages (wsV RX3 252 RX2 yX2_clear wsX2_clear) := goodIn_app (goodIn_of _ (by decide +kernel)) ggX3_loseMessages_X2_clear
theorem dX3_loseMessages_0 : decode cX3_loseMessages 0 = .ok (.iconst 0, 1) := by decide +kernel
theorem dX3_loseMessages_1 : decode cX3_loseMessages 1 = .ok (.istore_n 2, 1) := by decide +kernel
theorem dX3_loseMessages_2 : decode cX3_loseMessages 2 = .ok (.iload_n 2, 1) := by decide +kernel
theorem dX3_loseMessages_3 : decode cX3_loseMessages 3 = .ok (.iconst 4, 1) := by decide +kernel
theorem dX3_loseMessages_4 : decode cX3_loseMessages 4 = .ok (.if_icmp .ge 27, 3) := by decide +kernel
theorem dX3_loseMessages_7 : decode cX3_loseMessages 7 = .ok (.aload_n 0, 1) := by decide +kernel
theorem dX3_loseMessages_8 : decode cX3_loseMessages 8 = .ok (.iload_n 1, 1) := by decide +kernel
theorem dX3_loseMessages_9 : decode cX3_loseMessages 9 = .ok (.iload_n 2, 1) := by decide +kernel
theorem dX3_loseMessages_10 : decode cX3_loseMessages 10 = .ok (.invokevirtual 152, 3) := by decide +kernel
theorem dX3_loseMessages_13 : decode cX3_loseMessages 13 = .ok (.invokevirtual 252, 3) := by decide +kernel
theorem dX3_loseMessages_16 : decode cX3_loseMessages 16 = .ok (.aload_n 0, 1) := by decide +kernel
theorem dX3_loseMessages_17 : decode cX3_loseMessages 17 = .ok (.iload_n 2, 1) := by decide +kernel
theorem dX3_loseMessages_18 : decode cX3_loseMessages 18 = .ok (.iload_n 1, 1) := by decide +kernel
theorem dX3_loseMessages_19 : decode cX3_loseMessages 19 = .ok (.invokevirtual 152, 3) := by decide +kernel
theorem dX3_loseMessages_22 : decode cX3_loseMessages 22 = .ok (.invokevirtual 252, 3) := by decide +kernel
theorem dX3_loseMessages_25 : decode cX3_loseMessages 25 = .ok (.iinc 2 1, 3) := by decide +kernel
theorem dX3_loseMessages_28 : decode cX3_loseMessages 28 = .ok (.goto (-26), 3) := by decide +kernel
theorem dX3_loseMessages_31 : decode cX3_loseMessages 31 = .ok (.return_, 1) := by decide +kernel
set_option maxRecDepth 20000 in
theorem ggX3_safePosition_X3_nodeAt : GoodIn wsX3_safePosition wsX3_nodeAt := goodIn_ca (goodIn_r _ [9, 10, 11, 12, 13, 14, 8, 15, 28, 29, 30] (by decide +kernel) (by decide +kernel)) (goodIn_sub (fun _ h => List.mem_cons_of_mem _ (List.mem_append_right _ h)) (by decide +kernel))
set_option maxRecDepth 20000 in
theorem gX3_safePosition_X3_nodeAt : GoodIn wsX3_safePosition (wsV RX3 27 RX3 yX3_nodeAt wsX3_nodeAt) := goodIn_app (goodIn_of _ (by decide +kernel)) ggX3_safePosition_X3_nodeAt
theorem dX3_safePosition_0 : decode cX3_safePosition 0 = .ok (.aload_n 1, 1) := by decide +kernel
theorem dX3_safePosition_1 : decode cX3_safePosition 1 = .ok (.getfield 145, 3) := by decide +kernel
theorem dX3_safePosition_4 : decode cX3_safePosition 4 = .ok (.iconst (-1), 1) := by decide +kernel
theorem dX3_safePosition_5 : decode cX3_safePosition 5 = .ok (.if_icmp .ne 13, 3) := by decide +kernel
theorem dX3_safePosition_8 : decode cX3_safePosition 8 = .ok (.aload_n 1, 1) := by decide +kernel
theorem dX3_safePosition_9 : decode cX3_safePosition 9 = .ok (.getfield 45, 3) := by decide +kernel
theorem dX3_safePosition_12 : decode cX3_safePosition 12 = .ok (.getfield 54, 3) := by decide +kernel
theorem dX3_safePosition_15 : decode cX3_safePosition 15 = .ok (.goto 14, 3) := by decide +kernel
theorem dX3_safePosition_18 : decode cX3_safePosition 18 = .ok (.aload_n 0, 1) := by decide +kernel
theorem dX3_safePosition_19 : decode cX3_safePosition 19 = .ok (.aload_n 1, 1) := by decide +kernel
theorem dX3_safePosition_20 : decode cX3_safePosition 20 = .ok (.getfield 145, 3) := by decide +kernel
theorem dX3_safePosition_23 : decode cX3_safePosition 23 = .ok (.invokevirtual 27, 3) := by decide +kernel
theorem dX3_safePosition_26 : decode cX3_safePosition 26 = .ok (.getfield 162, 3) := by decide +kernel
theorem dX3_safePosition_29 : decode cX3_safePosition 29 = .ok (.ireturn, 1) := by decide +kernel
set_option maxRecDepth 20000 in
theorem ggX3_deliverPosition_X3_nodeAt : GoodIn wsX3_deliverPosition wsX3_nodeAt := goodIn_ca (goodIn_r _ [7, 8, 9, 10, 11, 12, 6, 13, 73, 74, 75] (by decide +kernel) (by decide +kernel)) (goodIn_sub (fun _ h => List.mem_cons_of_mem _ (List.mem_append_right _ h)) (by decide +kernel))
set_option maxRecDepth 20000 in
theorem gX3_deliverPosition_X3_nodeAt : GoodIn wsX3_deliverPosition (wsV RX3 27 RX3 yX3_nodeAt wsX3_nodeAt) := goodIn_app (goodIn_of _ (by decide +kernel)) ggX3_deliverPosition_X3_nodeAt
set_option maxRecDepth 20000 in
theorem ggX3_deliverPosition_X3_wayFrom : GoodIn wsX3_deliverPosition wsX3_wayFrom := goodIn_ca (goodIn_r _ [17, 8, 9, 18, 11, 12, 6, 13, 73, 74, 75] (by decide +kernel) (by decide +kernel)) (goodIn_sub (fun _ h => List.mem_cons_of_mem _ (List.mem_append_right _ h)) (by decide +kernel))
set_option maxRecDepth 20000 in
theorem gX3_deliverPosition_X3_wayFrom : GoodIn wsX3_deliverPosition (wsV RX3 152 RX3 yX3_wayFrom wsX3_wayFrom) := goodIn_app (goodIn_of _ (by decide +kernel)) ggX3_deliverPosition_X3_wayFrom
set_option maxRecDepth 20000 in
theorem ggX3_deliverPosition_X2_oldestPosition : GoodIn wsX3_deliverPosition wsX2_oldestPosition := goodIn_r _ [23, 24, 25, 26, 27, 22, 28, 29, 30, 31, 32, 33, 76, 77, 78, 79] (by decide +kernel) (by decide +kernel)
set_option maxRecDepth 20000 in
theorem gX3_deliverPosition_X2_oldestPosition : GoodIn wsX3_deliverPosition (wsV RX3 255 RX2 yX2_oldestPosition wsX2_oldestPosition) := goodIn_app (goodIn_of _ (by decide +kernel)) ggX3_deliverPosition_X2_oldestPosition
set_option maxRecDepth 20000 in
theorem ggX3_deliverPosition_X2_removeOldest : GoodIn wsX3_deliverPosition wsX2_removeOldest := goodIn_r _ [37, 38, 29, 25, 26, 27, 22, 28, 30, 31, 32, 33, 76, 77, 78, 79] (by decide +kernel) (by decide +kernel)
set_option maxRecDepth 20000 in
theorem gX3_deliverPosition_X2_removeOldest : GoodIn wsX3_deliverPosition (wsV RX3 188 RX2 yX2_removeOldest wsX2_removeOldest) := goodIn_app (goodIn_of _ (by decide +kernel)) ggX3_deliverPosition_X2_removeOldest
set_option maxRecDepth 20000 in
theorem ggX3_deliverPosition_X1_acknowledgeUpTo : GoodIn wsX3_deliverPosition wsX1_acknowledgeUpTo := goodIn_r _ [43, 44, 45, 46, 47, 48, 49, 50, 51, 52, 53, 54, 55, 56, 57, 58, 59, 60, 61, 62, 63, 64, 65, 66, 67, 68, 69, 70, 71, 72, 80, 81, 82, 83] (by decide +kernel) (by decide +kernel)
set_option maxRecDepth 20000 in
theorem gX3_deliverPosition_X1_acknowledgeUpTo : GoodIn wsX3_deliverPosition (wsV RX3 125 RX1 yX1_acknowledgeUpTo wsX1_acknowledgeUpTo) := goodIn_app (goodIn_of _ (by decide +kernel)) ggX3_deliverPosition_X1_acknowledgeUpTo
theorem dX3_deliverPosition_0 : decode cX3_deliverPosition 0 = .ok (.aload_n 0, 1) := by decide +kernel
theorem dX3_deliverPosition_1 : decode cX3_deliverPosition 1 = .ok (.iload_n 1, 1) := by decide +kernel
theorem dX3_deliverPosition_2 : decode cX3_deliverPosition 2 = .ok (.invokevirtual 27, 3) := by decide +kernel
theorem dX3_deliverPosition_5 : decode cX3_deliverPosition 5 = .ok (.astore_n 3, 1) := by decide +kernel
theorem dX3_deliverPosition_6 : decode cX3_deliverPosition 6 = .ok (.aload_n 0, 1) := by decide +kernel
theorem dX3_deliverPosition_7 : decode cX3_deliverPosition 7 = .ok (.iload_n 2, 1) := by decide +kernel
theorem dX3_deliverPosition_8 : decode cX3_deliverPosition 8 = .ok (.invokevirtual 27, 3) := by decide +kernel
theorem dX3_deliverPosition_11 : decode cX3_deliverPosition 11 = .ok (.astore 4, 2) := by decide +kernel
theorem dX3_deliverPosition_13 : decode cX3_deliverPosition 13 = .ok (.aload_n 0, 1) := by decide +kernel
theorem dX3_deliverPosition_14 : decode cX3_deliverPosition 14 = .ok (.iload_n 1, 1) := by decide +kernel
theorem dX3_deliverPosition_15 : decode cX3_deliverPosition 15 = .ok (.iload_n 2, 1) := by decide +kernel
theorem dX3_deliverPosition_16 : decode cX3_deliverPosition 16 = .ok (.invokevirtual 152, 3) := by decide +kernel
theorem dX3_deliverPosition_19 : decode cX3_deliverPosition 19 = .ok (.astore 5, 2) := by decide +kernel
theorem dX3_deliverPosition_21 : decode cX3_deliverPosition 21 = .ok (.aload_n 3, 1) := by decide +kernel
theorem dX3_deliverPosition_22 : decode cX3_deliverPosition 22 = .ok (.aload 5, 2) := by decide +kernel
theorem dX3_deliverPosition_24 : decode cX3_deliverPosition 24 = .ok (.invokevirtual 255, 3) := by decide +kernel
theorem dX3_deliverPosition_27 : decode cX3_deliverPosition 27 = .ok (.putfield 162, 3) := by decide +kernel
theorem dX3_deliverPosition_30 : decode cX3_deliverPosition 30 = .ok (.aload 5, 2) := by decide +kernel
theorem dX3_deliverPosition_32 : decode cX3_deliverPosition 32 = .ok (.invokevirtual 188, 3) := by decide +kernel
theorem dX3_deliverPosition_35 : decode cX3_deliverPosition 35 = .ok (.aload 4, 2) := by decide +kernel
theorem dX3_deliverPosition_37 : decode cX3_deliverPosition 37 = .ok (.getfield 145, 3) := by decide +kernel
theorem dX3_deliverPosition_40 : decode cX3_deliverPosition 40 = .ok (.iload_n 1, 1) := by decide +kernel
theorem dX3_deliverPosition_41 : decode cX3_deliverPosition 41 = .ok (.if_icmp .ne 12, 3) := by decide +kernel
theorem dX3_deliverPosition_44 : decode cX3_deliverPosition 44 = .ok (.aload 4, 2) := by decide +kernel
theorem dX3_deliverPosition_46 : decode cX3_deliverPosition 46 = .ok (.aload_n 3, 1) := by decide +kernel
theorem dX3_deliverPosition_47 : decode cX3_deliverPosition 47 = .ok (.getfield 162, 3) := by decide +kernel
theorem dX3_deliverPosition_50 : decode cX3_deliverPosition 50 = .ok (.invokevirtual 125, 3) := by decide +kernel
theorem dX3_deliverPosition_53 : decode cX3_deliverPosition 53 = .ok (.aload_n 3, 1) := by decide +kernel
theorem dX3_deliverPosition_54 : decode cX3_deliverPosition 54 = .ok (.getfield 162, 3) := by decide +kernel
theorem dX3_deliverPosition_57 : decode cX3_deliverPosition 57 = .ok (.ireturn, 1) := by decide +kernel
set_option maxRecDepth 20000 in
theorem ggX3_deliverRecords_X3_nodeAt : GoodIn wsX3_deliverRecords wsX3_nodeAt := goodIn_ca (goodIn_r _ [9, 10, 11, 12, 13, 14, 8, 15, 95, 96, 97] (by decide +kernel) (by decide +kernel)) (goodIn_sub (fun _ h => List.mem_cons_of_mem _ (List.mem_append_right _ h)) (by decide +kernel))
set_option maxRecDepth 20000 in
theorem gX3_deliverRecords_X3_nodeAt : GoodIn wsX3_deliverRecords (wsV RX3 27 RX3 yX3_nodeAt wsX3_nodeAt) := goodIn_app (goodIn_of _ (by decide +kernel)) ggX3_deliverRecords_X3_nodeAt
set_option maxRecDepth 20000 in
theorem ggX3_deliverRecords_X3_wayFrom : GoodIn wsX3_deliverRecords wsX3_wayFrom := goodIn_ca (goodIn_r _ [19, 10, 11, 20, 13, 14, 8, 15, 95, 96, 97] (by decide +kernel) (by decide +kernel)) (goodIn_sub (fun _ h => List.mem_cons_of_mem _ (List.mem_append_right _ h)) (by decide +kernel))
set_option maxRecDepth 20000 in
theorem gX3_deliverRecords_X3_wayFrom : GoodIn wsX3_deliverRecords (wsV RX3 152 RX3 yX3_wayFrom wsX3_wayFrom) := goodIn_app (goodIn_of _ (by decide +kernel)) ggX3_deliverRecords_X3_wayFrom
set_option maxRecDepth 20000 in
theorem ggX3_deliverRecords_X2_isFull : GoodIn wsX3_deliverRecords wsX2_isFull := goodIn_r _ [25, 26, 98, 99, 100, 101] (by decide +kernel) (by decide +kernel)
set_option maxRecDepth 20000 in
theorem gX3_deliverRecords_X2_isFull : GoodIn wsX3_deliverRecords (wsV RX3 156 RX2 yX2_isFull wsX2_isFull) := goodIn_app (goodIn_of _ (by decide +kernel)) ggX3_deliverRecords_X2_isFull
set_option maxRecDepth 20000 in
theorem ggX3_deliverRecords_X2_oldestPosition : GoodIn wsX3_deliverRecords wsX2_oldestPosition := goodIn_r _ [30, 31, 32, 33, 34, 24, 35, 36, 37, 38, 39, 40, 98, 99, 100, 101] (by decide +kernel) (by decide +kernel)
set_option maxRecDepth 20000 in
theorem gX3_deliverRecords_X2_oldestPosition : GoodIn wsX3_deliverRecords (wsV RX3 255 RX2 yX2_oldestPosition wsX2_oldestPosition) := goodIn_app (goodIn_of _ (by decide +kernel)) ggX3_deliverRecords_X2_oldestPosition
set_option maxRecDepth 20000 in
theorem ggX3_deliverRecords_X2_oldestBytes : GoodIn wsX3_deliverRecords wsX2_oldestBytes := goodIn_r _ [44, 45, 32, 33, 34, 24, 35, 36, 37, 38, 39, 40, 98, 99, 100, 101] (by decide +kernel) (by decide +kernel)
set_option maxRecDepth 20000 in
theorem gX3_deliverRecords_X2_oldestBytes : GoodIn wsX3_deliverRecords (wsV RX3 260 RX2 yX2_oldestBytes wsX2_oldestBytes) := goodIn_app (goodIn_of _ (by decide +kernel)) ggX3_deliverRecords_X2_oldestBytes
set_option maxRecDepth 20000 in
theorem ggX3_deliverRecords_X0_receive : GoodIn wsX3_deliverRecords wsX0_receive := goodIn_r _ [50, 51, 52, 53, 54, 49, 55, 56, 57, 58, 59, 60, 61, 62, 63, 64, 65, 66, 67, 68, 69, 70, 71, 72, 73, 91, 92, 93, 94] (by decide +kernel) (by decide +kernel)
set_option maxRecDepth 20000 in
theorem gX3_deliverRecords_X0_receive : GoodIn wsX3_deliverRecords (wsV RX3 263 RX0 yX0_receive wsX0_receive) := goodIn_app (goodIn_of _ (by decide +kernel)) ggX3_deliverRecords_X0_receive
set_option maxRecDepth 20000 in
theorem ggX3_deliverRecords_X2_removeOldest : GoodIn wsX3_deliverRecords wsX2_removeOldest := goodIn_r _ [77, 26, 36, 32, 33, 34, 24, 35, 37, 38, 39, 40, 98, 99, 100, 101] (by decide +kernel) (by decide +kernel)
set_option maxRecDepth 20000 in
theorem gX3_deliverRecords_X2_removeOldest : GoodIn wsX3_deliverRecords (wsV RX3 188 RX2 yX2_removeOldest wsX2_removeOldest) := goodIn_app (goodIn_of _ (by decide +kernel)) ggX3_deliverRecords_X2_removeOldest
set_option maxRecDepth 20000 in
theorem ggX3_deliverRecords_X2_add : GoodIn wsX3_deliverRecords wsX2_add := goodIn_r _ [81, 26, 31, 45, 82, 22, 23, 24, 25, 32, 33, 34, 35, 36, 37, 38, 39, 40, 98, 99, 100, 101] (by decide +kernel) (by decide +kernel)
set_option maxRecDepth 20000 in
theorem gX3_deliverRecords_X2_add : GoodIn wsX3_deliverRecords (wsV RX3 176 RX2 yX2_add wsX2_add) := goodIn_app (goodIn_of _ (by decide +kernel)) ggX3_deliverRecords_X2_add
theorem dX3_deliverRecords_0 : decode cX3_deliverRecords 0 = .ok (.aload_n 0, 1) := by decide +kernel
theorem dX3_deliverRecords_1 : decode cX3_deliverRecords 1 = .ok (.iload_n 1, 1) := by decide +kernel
theorem dX3_deliverRecords_2 : decode cX3_deliverRecords 2 = .ok (.invokevirtual 27, 3) := by decide +kernel
theorem dX3_deliverRecords_5 : decode cX3_deliverRecords 5 = .ok (.astore_n 3, 1) := by decide +kernel
theorem dX3_deliverRecords_6 : decode cX3_deliverRecords 6 = .ok (.aload_n 0, 1) := by decide +kernel
theorem dX3_deliverRecords_7 : decode cX3_deliverRecords 7 = .ok (.iload_n 2, 1) := by decide +kernel
theorem dX3_deliverRecords_8 : decode cX3_deliverRecords 8 = .ok (.invokevirtual 27, 3) := by decide +kernel
theorem dX3_deliverRecords_11 : decode cX3_deliverRecords 11 = .ok (.astore 4, 2) := by decide +kernel
theorem dX3_deliverRecords_13 : decode cX3_deliverRecords 13 = .ok (.aload_n 0, 1) := by decide +kernel
theorem dX3_deliverRecords_14 : decode cX3_deliverRecords 14 = .ok (.iload_n 1, 1) := by decide +kernel
theorem dX3_deliverRecords_15 : decode cX3_deliverRecords 15 = .ok (.iload_n 2, 1) := by decide +kernel
theorem dX3_deliverRecords_16 : decode cX3_deliverRecords 16 = .ok (.invokevirtual 152, 3) := by decide +kernel
theorem dX3_deliverRecords_19 : decode cX3_deliverRecords 19 = .ok (.astore 5, 2) := by decide +kernel
theorem dX3_deliverRecords_21 : decode cX3_deliverRecords 21 = .ok (.aload_n 0, 1) := by decide +kernel
theorem dX3_deliverRecords_22 : decode cX3_deliverRecords 22 = .ok (.iload_n 2, 1) := by decide +kernel
theorem dX3_deliverRecords_23 : decode cX3_deliverRecords 23 = .ok (.iload_n 1, 1) := by decide +kernel
theorem dX3_deliverRecords_24 : decode cX3_deliverRecords 24 = .ok (.invokevirtual 152, 3) := by decide +kernel
theorem dX3_deliverRecords_27 : decode cX3_deliverRecords 27 = .ok (.astore 6, 2) := by decide +kernel
theorem dX3_deliverRecords_29 : decode cX3_deliverRecords 29 = .ok (.aload 6, 2) := by decide +kernel
theorem dX3_deliverRecords_31 : decode cX3_deliverRecords 31 = .ok (.invokevirtual 156, 3) := by decide +kernel
theorem dX3_deliverRecords_34 : decode cX3_deliverRecords 34 = .ok (.ifCond .eq 14, 3) := by decide +kernel
theorem dX3_deliverRecords_37 : decode cX3_deliverRecords 37 = .ok (.new 77, 3) := by decide +kernel
theorem dX3_deliverRecords_40 : decode cX3_deliverRecords 40 = .ok (.dup, 1) := by decide +kernel
theorem dX3_deliverRecords_41 : decode cX3_deliverRecords 41 = .ok (.ldc_w 258, 3) := by decide +kernel
theorem dX3_deliverRecords_44 : decode cX3_deliverRecords 44 = .ok (.invokespecial 81, 3) := by decide +kernel
theorem dX3_deliverRecords_47 : decode cX3_deliverRecords 47 = .ok (.athrow, 1) := by decide +kernel
theorem dX3_deliverRecords_48 : decode cX3_deliverRecords 48 = .ok (.aload 4, 2) := by decide +kernel
theorem dX3_deliverRecords_50 : decode cX3_deliverRecords 50 = .ok (.getfield 45, 3) := by decide +kernel
theorem dX3_deliverRecords_53 : decode cX3_deliverRecords 53 = .ok (.aload_n 3, 1) := by decide +kernel
theorem dX3_deliverRecords_54 : decode cX3_deliverRecords 54 = .ok (.getfield 45, 3) := by decide +kernel
theorem dX3_deliverRecords_57 : decode cX3_deliverRecords 57 = .ok (.aload 5, 2) := by decide +kernel
theorem dX3_deliverRecords_59 : decode cX3_deliverRecords 59 = .ok (.invokevirtual 255, 3) := by decide +kernel
theorem dX3_deliverRecords_62 : decode cX3_deliverRecords 62 = .ok (.aload 5, 2) := by decide +kernel
theorem dX3_deliverRecords_64 : decode cX3_deliverRecords 64 = .ok (.invokevirtual 260, 3) := by decide +kernel
theorem dX3_deliverRecords_67 : decode cX3_deliverRecords 67 = .ok (.invokevirtual 263, 3) := by decide +kernel
theorem dX3_deliverRecords_70 : decode cX3_deliverRecords 70 = .ok (.aload 5, 2) := by decide +kernel
theorem dX3_deliverRecords_72 : decode cX3_deliverRecords 72 = .ok (.invokevirtual 188, 3) := by decide +kernel
theorem dX3_deliverRecords_75 : decode cX3_deliverRecords 75 = .ok (.aload 6, 2) := by decide +kernel
theorem dX3_deliverRecords_77 : decode cX3_deliverRecords 77 = .ok (.aload 4, 2) := by decide +kernel
theorem dX3_deliverRecords_79 : decode cX3_deliverRecords 79 = .ok (.getfield 45, 3) := by decide +kernel
theorem dX3_deliverRecords_82 : decode cX3_deliverRecords 82 = .ok (.getfield 54, 3) := by decide +kernel
theorem dX3_deliverRecords_85 : decode cX3_deliverRecords 85 = .ok (.iconst 0, 1) := by decide +kernel
theorem dX3_deliverRecords_86 : decode cX3_deliverRecords 86 = .ok (.invokevirtual 176, 3) := by decide +kernel
theorem dX3_deliverRecords_89 : decode cX3_deliverRecords 89 = .ok (.aload 4, 2) := by decide +kernel
theorem dX3_deliverRecords_91 : decode cX3_deliverRecords 91 = .ok (.getfield 45, 3) := by decide +kernel
theorem dX3_deliverRecords_94 : decode cX3_deliverRecords 94 = .ok (.getfield 54, 3) := by decide +kernel
theorem dX3_deliverRecords_97 : decode cX3_deliverRecords 97 = .ok (.ireturn, 1) := by decide +kernel
