def RX0 : String := "StartLedger$Board"
def TX0 : u_T := fun k => match k with
  | 0 => ("StartLedger$Board", "registers", "[I", true)
  | 1 => ("StartLedger$Board", "counters", "[I", true)
  | 2 => ("StartLedger$Board", "locality", "I", false)
  | 3 => ("StartLedger$Board", "time", "I", false)
  | 4 => ("StartLedger$Board", "starts", "I", false)
  | _ => ("StartLedger$Board", "strain", "F", false)
def tyX0 : Nat → FieldType := fun k => match k with
  | 0 => .array .int
  | 1 => .array .int
  | 2 => .int
  | 3 => .int
  | 4 => .int
  | _ => .float
theorem nmX0 : ∀ a, a < 6 → ∀ b, b < 6 → a ≠ b → (TX0 a).2.1 ≠ (TX0 b).2.1 := by decide +kernel
theorem tyX0_ok : ∀ k, k < 6 → parseFieldDescriptor (TX0 k).2.2.1 = some (tyX0 k) := by decide +kernel
abbrev cX0_init : ByteArray := prog_2_method_1_code
def yX0_init : MethodName := ⟨RX0, "<init>", "()V"⟩
abbrev cX0_atFirst : ByteArray := prog_2_method_2_code
def yX0_atFirst : MethodName := ⟨RX0, "atFirst", "(I)I"⟩
abbrev cX0_take : ByteArray := prog_2_method_3_code
def yX0_take : MethodName := ⟨RX0, "take", "(LStartLedger$Board;)V"⟩
abbrev cX0_restart : ByteArray := prog_2_method_4_code
def yX0_restart : MethodName := ⟨RX0, "restart", "()V"⟩
abbrev cX0_mayExtend : ByteArray := prog_2_method_5_code
def yX0_mayExtend : MethodName := ⟨RX0, "mayExtend", "(I)Z"⟩
abbrev cX0_extendBy : ByteArray := prog_2_method_6_code
def yX0_extendBy : MethodName := ⟨RX0, "extendBy", "(II)V"⟩
abbrev cX0_digestOf : ByteArray := prog_2_method_7_code
def yX0_digestOf : MethodName := ⟨RX0, "digestOf", "(I)I"⟩
abbrev cX0_passTick : ByteArray := prog_2_method_8_code
def yX0_passTick : MethodName := ⟨RX0, "passTick", "()V"⟩
abbrev cX0_isStrained : ByteArray := prog_2_method_9_code
def yX0_isStrained : MethodName := ⟨RX0, "isStrained", "()Z"⟩
abbrev cX0_ticksTillFree : ByteArray := prog_2_method_10_code
def yX0_ticksTillFree : MethodName := ⟨RX0, "ticksTillFree", "()I"⟩
def RX1 : String := "StartLedger$Entries"
def TX1 : u_T := fun k => match k with
  | 0 => ("StartLedger$Entries", "registers", "[I", true)
  | 1 => ("StartLedger$Entries", "numbers", "[I", true)
  | _ => ("StartLedger$Entries", "size", "I", false)
def tyX1 : Nat → FieldType := fun k => match k with
  | 0 => .array .int
  | 1 => .array .int
  | _ => .int
theorem nmX1 : ∀ a, a < 3 → ∀ b, b < 3 → a ≠ b → (TX1 a).2.1 ≠ (TX1 b).2.1 := by decide +kernel
theorem tyX1_ok : ∀ k, k < 3 → parseFieldDescriptor (TX1 k).2.2.1 = some (tyX1 k) := by decide +kernel
abbrev cX1_init : ByteArray := prog_3_method_1_code
def yX1_init : MethodName := ⟨RX1, "<init>", "()V"⟩
abbrev cX1_take : ByteArray := prog_3_method_2_code
def yX1_take : MethodName := ⟨RX1, "take", "(LStartLedger$Entries;)V"⟩
abbrev cX1_has : ByteArray := prog_3_method_3_code
def yX1_has : MethodName := ⟨RX1, "has", "(I)Z"⟩
abbrev cX1_isFull : ByteArray := prog_3_method_4_code
def yX1_isFull : MethodName := ⟨RX1, "isFull", "()Z"⟩
abbrev cX1_append : ByteArray := prog_3_method_5_code
def yX1_append : MethodName := ⟨RX1, "append", "(II)V"⟩
abbrev cX1_hasEntry : ByteArray := prog_3_method_6_code
def yX1_hasEntry : MethodName := ⟨RX1, "hasEntry", "(II)Z"⟩
abbrev cX1_retold : ByteArray := prog_3_method_7_code
def yX1_retold : MethodName := ⟨RX1, "retold", "(IIII)I"⟩
abbrev cX1_exchanged : ByteArray := prog_3_method_8_code
def yX1_exchanged : MethodName := ⟨RX1, "exchanged", "(II)I"⟩
abbrev cX1_notGiven : ByteArray := prog_3_method_9_code
def yX1_notGiven : MethodName := ⟨RX1, "notGiven", "([I)I"⟩
abbrev cX1_mendedFor : ByteArray := prog_3_method_10_code
def yX1_mendedFor : MethodName := ⟨RX1, "mendedFor", "([I)I"⟩
abbrev cX1_leavingOut : ByteArray := prog_3_method_11_code
def yX1_leavingOut : MethodName := ⟨RX1, "leavingOut", "([II)I"⟩
abbrev cX1_exchanging : ByteArray := prog_3_method_12_code
def yX1_exchanging : MethodName := ⟨RX1, "exchanging", "([II)I"⟩
abbrev cX1_moving : ByteArray := prog_3_method_13_code
def yX1_moving : MethodName := ⟨RX1, "moving", "([II)I"⟩
abbrev cX1_isDue : ByteArray := prog_3_method_14_code
def yX1_isDue : MethodName := ⟨RX1, "isDue", "([III)Z"⟩
abbrev cX1_ageOf : ByteArray := prog_3_method_15_code
def yX1_ageOf : MethodName := ⟨RX1, "ageOf", "(I)I"⟩
abbrev cX1_freshness : ByteArray := prog_3_method_16_code
def yX1_freshness : MethodName := ⟨RX1, "freshness", "(I)F"⟩
abbrev cX1_meanNumber : ByteArray := prog_3_method_17_code
def yX1_meanNumber : MethodName := ⟨RX1, "meanNumber", "()D"⟩
def RX2 : String := "StartLedger$History"
def TX2 : u_T := fun k => match k with
  | 0 => ("StartLedger$History", "states", "[LStartLedger$State;", true)
  | 1 => ("StartLedger$History", "acts", "[I", true)
  | 2 => ("StartLedger$History", "next", "I", false)
  | 3 => ("StartLedger$History", "size", "I", false)
  | 4 => ("StartLedger$History", "images", "[LStartLedger$State;", true)
  | _ => ("StartLedger$History", "imageKept", "[Z", true)
def tyX2 : Nat → FieldType := fun k => match k with
  | 0 => .array (.object "StartLedger$State")
  | 1 => .array .int
  | 2 => .int
  | 3 => .int
  | 4 => .array (.object "StartLedger$State")
  | _ => .array .boolean
theorem nmX2 : ∀ a, a < 6 → ∀ b, b < 6 → a ≠ b → (TX2 a).2.1 ≠ (TX2 b).2.1 := by decide +kernel
theorem tyX2_ok : ∀ k, k < 6 → parseFieldDescriptor (TX2 k).2.2.1 = some (tyX2 k) := by decide +kernel
abbrev cX2_init : ByteArray := prog_4_method_1_code
def yX2_init : MethodName := ⟨RX2, "<init>", "()V"⟩
abbrev cX2_keep : ByteArray := prog_4_method_2_code
def yX2_keep : MethodName := ⟨RX2, "keep", "(LStartLedger$State;I)V"⟩
abbrev cX2_takeBack : ByteArray := prog_4_method_3_code
def yX2_takeBack : MethodName := ⟨RX2, "takeBack", "(LStartLedger$State;)I"⟩
abbrev cX2_keepImage : ByteArray := prog_4_method_4_code
def yX2_keepImage : MethodName := ⟨RX2, "keepImage", "(ILStartLedger$State;)V"⟩
abbrev cX2_giveImage : ByteArray := prog_4_method_5_code
def yX2_giveImage : MethodName := ⟨RX2, "giveImage", "(ILStartLedger$State;)V"⟩
def RX3 : String := "StartLedger$Judge"
def TX3 : u_T := fun k => match k with
  | 0 => ("StartLedger$Judge", "given", "[I", true)
  | 1 => ("StartLedger$Judge", "holdsUnsigned", "[Z", true)
  | 2 => ("StartLedger$Judge", "tillUnsigned", "[I", true)
  | 3 => ("StartLedger$Judge", "holds", "[Z", true)
  | 4 => ("StartLedger$Judge", "till", "[I", true)
  | 5 => ("StartLedger$Judge", "outlook", "[I", true)
  | 6 => ("StartLedger$Judge", "yet", "[I", true)
  | 7 => ("StartLedger$Judge", "faults", "[I", true)
  | _ => ("StartLedger$Judge", "weighed", "I", false)
def tyX3 : Nat → FieldType := fun k => match k with
  | 0 => .array .int
  | 1 => .array .boolean
  | 2 => .array .int
  | 3 => .array .boolean
  | 4 => .array .int
  | 5 => .array .int
  | 6 => .array .int
  | 7 => .array .int
  | _ => .int
theorem nmX3 : ∀ a, a < 9 → ∀ b, b < 9 → a ≠ b → (TX3 a).2.1 ≠ (TX3 b).2.1 := by decide +kernel
theorem tyX3_ok : ∀ k, k < 9 → parseFieldDescriptor (TX3 k).2.2.1 = some (tyX3 k) := by decide +kernel
abbrev cX3_init : ByteArray := prog_5_method_1_code
def yX3_init : MethodName := ⟨RX3, "<init>", "()V"⟩
abbrev cX3_weigh : ByteArray := prog_5_method_2_code
def yX3_weigh : MethodName := ⟨RX3, "weigh", "(LStartLedger$State;I)V"⟩
abbrev cX3_lets : ByteArray := prog_5_method_3_code
def yX3_lets : MethodName := ⟨RX3, "lets", "(I)Z"⟩
abbrev cX3_isLost : ByteArray := prog_5_method_4_code
def yX3_isLost : MethodName := ⟨RX3, "isLost", "(I)Z"⟩
abbrev cX3_settleUnsigned : ByteArray := prog_5_method_5_code
def yX3_settleUnsigned : MethodName := ⟨RX3, "settleUnsigned", "(LStartLedger$State;II)V"⟩
abbrev cX3_settleWhole : ByteArray := prog_5_method_6_code
def yX3_settleWhole : MethodName := ⟨RX3, "settleWhole", "(LStartLedger$State;I)V"⟩
abbrev cX3_join : ByteArray := prog_5_method_7_code
def yX3_join : MethodName := ⟨RX3, "join", "(LStartLedger$Policies;I[Z[I)V"⟩
abbrev cX3_foresee : ByteArray := prog_5_method_8_code
def yX3_foresee : MethodName := ⟨RX3, "foresee", "(LStartLedger$Policies;I)V"⟩
abbrev cX3_isEarlier : ByteArray := prog_5_method_9_code
def yX3_isEarlier : MethodName := ⟨RX3, "isEarlier", "(II)Z"⟩
abbrev cX3_holdsAlone : ByteArray := prog_5_method_10_code
def yX3_holdsAlone : MethodName := ⟨RX3, "holdsAlone", "(LStartLedger$State;II)Z"⟩
abbrev cX3_isGiven : ByteArray := prog_5_method_11_code
def yX3_isGiven : MethodName := ⟨RX3, "isGiven", "(I[I)Z"⟩
abbrev cX3_countSignatures : ByteArray := prog_5_method_12_code
def yX3_countSignatures : MethodName := ⟨RX3, "countSignatures", "(LStartLedger$Policies;I)V"⟩
abbrev cX3_outlookAlone : ByteArray := prog_5_method_13_code
def yX3_outlookAlone : MethodName := ⟨RX3, "outlookAlone", "(II[I)I"⟩
def RX4 : String := "StartLedger$Keys"
def TX4 : u_T := fun k => match k with
  | 0 => ("StartLedger$Keys", "parents", "[I", true)
  | 1 => ("StartLedger$Keys", "secrets", "[I", true)
  | 2 => ("StartLedger$Keys", "swapped", "[I", true)
  | 3 => ("StartLedger$Keys", "size", "I", false)
  | 4 => ("StartLedger$Keys", "slots", "[I", true)
  | 5 => ("StartLedger$Keys", "contextStart", "[I", true)
  | 6 => ("StartLedger$Keys", "contextKey", "[I", true)
  | 7 => ("StartLedger$Keys", "contextSlot", "[I", true)
  | 8 => ("StartLedger$Keys", "contextUsed", "[I", true)
  | _ => ("StartLedger$Keys", "contexts", "I", false)
def tyX4 : Nat → FieldType := fun k => match k with
  | 0 => .array .int
  | 1 => .array .int
  | 2 => .array .int
  | 3 => .int
  | 4 => .array .int
  | 5 => .array .int
  | 6 => .array .int
  | 7 => .array .int
  | 8 => .array .int
  | _ => .int
theorem nmX4 : ∀ a, a < 10 → ∀ b, b < 10 → a ≠ b → (TX4 a).2.1 ≠ (TX4 b).2.1 := by decide +kernel
theorem tyX4_ok : ∀ k, k < 10 → parseFieldDescriptor (TX4 k).2.2.1 = some (tyX4 k) := by decide +kernel
abbrev cX4_init : ByteArray := prog_6_method_1_code
def yX4_init : MethodName := ⟨RX4, "<init>", "()V"⟩
abbrev cX4_take : ByteArray := prog_6_method_2_code
def yX4_take : MethodName := ⟨RX4, "take", "(LStartLedger$Keys;)V"⟩
abbrev cX4_unloadAll : ByteArray := prog_6_method_3_code
def yX4_unloadAll : MethodName := ⟨RX4, "unloadAll", "()V"⟩
abbrev cX4_has : ByteArray := prog_6_method_4_code
def yX4_has : MethodName := ⟨RX4, "has", "(I)Z"⟩
abbrev cX4_hasContext : ByteArray := prog_6_method_5_code
def yX4_hasContext : MethodName := ⟨RX4, "hasContext", "(I)Z"⟩
abbrev cX4_append : ByteArray := prog_6_method_6_code
def yX4_append : MethodName := ⟨RX4, "append", "(II)I"⟩
abbrev cX4_secretOf : ByteArray := prog_6_method_7_code
def yX4_secretOf : MethodName := ⟨RX4, "secretOf", "(I)I"⟩
abbrev cX4_giveSecret : ByteArray := prog_6_method_8_code
def yX4_giveSecret : MethodName := ⟨RX4, "giveSecret", "(II)V"⟩
abbrev cX4_isSwapped : ByteArray := prog_6_method_9_code
def yX4_isSwapped : MethodName := ⟨RX4, "isSwapped", "(I)Z"⟩
abbrev cX4_parentOf : ByteArray := prog_6_method_10_code
def yX4_parentOf : MethodName := ⟨RX4, "parentOf", "(I)I"⟩
abbrev cX4_inSlot : ByteArray := prog_6_method_11_code
def yX4_inSlot : MethodName := ⟨RX4, "inSlot", "(I)I"⟩
abbrev cX4_slotOf : ByteArray := prog_6_method_12_code
def yX4_slotOf : MethodName := ⟨RX4, "slotOf", "(I)I"⟩
abbrev cX4_freeSlot : ByteArray := prog_6_method_13_code
def yX4_freeSlot : MethodName := ⟨RX4, "freeSlot", "()I"⟩
abbrev cX4_freeSlots : ByteArray := prog_6_method_14_code
def yX4_freeSlots : MethodName := ⟨RX4, "freeSlots", "()I"⟩
abbrev cX4_usedSlots : ByteArray := prog_6_method_15_code
def yX4_usedSlots : MethodName := ⟨RX4, "usedSlots", "()I"⟩
abbrev cX4_put : ByteArray := prog_6_method_16_code
def yX4_put : MethodName := ⟨RX4, "put", "(II)V"⟩
abbrev cX4_isParentLoaded : ByteArray := prog_6_method_17_code
def yX4_isParentLoaded : MethodName := ⟨RX4, "isParentLoaded", "(I)Z"⟩
abbrev cX4_mayLoad : ByteArray := prog_6_method_18_code
def yX4_mayLoad : MethodName := ⟨RX4, "mayLoad", "(I)Z"⟩
abbrev cX4_above : ByteArray := prog_6_method_19_code
def yX4_above : MethodName := ⟨RX4, "above", "(I)I"⟩
abbrev cX4_appendContext : ByteArray := prog_6_method_20_code
def yX4_appendContext : MethodName := ⟨RX4, "appendContext", "(III)I"⟩
abbrev cX4_latestContext : ByteArray := prog_6_method_21_code
def yX4_latestContext : MethodName := ⟨RX4, "latestContext", "(I)I"⟩
abbrev cX4_slotOfContext : ByteArray := prog_6_method_22_code
def yX4_slotOfContext : MethodName := ⟨RX4, "slotOfContext", "(I)I"⟩
abbrev cX4_mayComeBack : ByteArray := prog_6_method_23_code
def yX4_mayComeBack : MethodName := ⟨RX4, "mayComeBack", "(II)Z"⟩
abbrev cX4_comeBack : ByteArray := prog_6_method_24_code
def yX4_comeBack : MethodName := ⟨RX4, "comeBack", "(I)V"⟩
def RX5 : String := "StartLedger$Numbers"
def TX5 : u_T := fun k => match k with
  | _ => ("", "", "", false)
def tyX5 : Nat → FieldType := fun k => match k with
  | _ => .int
theorem nmX5 : ∀ a, a < 0 → ∀ b, b < 0 → a ≠ b → (TX5 a).2.1 ≠ (TX5 b).2.1 := by decide +kernel
theorem tyX5_ok : ∀ k, k < 0 → parseFieldDescriptor (TX5 k).2.2.1 = some (tyX5 k) := by decide +kernel
abbrev cX5_mix : ByteArray := prog_7_method_2_code
def yX5_mix : MethodName := ⟨RX5, "mix", "(II)I"⟩
abbrev cX5_unmixed : ByteArray := prog_7_method_3_code
def yX5_unmixed : MethodName := ⟨RX5, "unmixed", "(I)I"⟩
abbrev cX5_unmixFirst : ByteArray := prog_7_method_4_code
def yX5_unmixFirst : MethodName := ⟨RX5, "unmixFirst", "(II)I"⟩
abbrev cX5_unmixSecond : ByteArray := prog_7_method_5_code
def yX5_unmixSecond : MethodName := ⟨RX5, "unmixSecond", "(II)I"⟩
abbrev cX5_hash : ByteArray := prog_7_method_6_code
def yX5_hash : MethodName := ⟨RX5, "hash", "(I)I"⟩
abbrev cX5_hash_ : ByteArray := prog_7_method_7_code
def yX5_hash_ : MethodName := ⟨RX5, "hash", "(II)I"⟩
abbrev cX5_hash__ : ByteArray := prog_7_method_8_code
def yX5_hash__ : MethodName := ⟨RX5, "hash", "(III)I"⟩
abbrev cX5_hash___ : ByteArray := prog_7_method_9_code
def yX5_hash___ : MethodName := ⟨RX5, "hash", "(IIII)I"⟩
abbrev cX5_floatBits : ByteArray := prog_7_method_10_code
def yX5_floatBits : MethodName := ⟨RX5, "floatBits", "(F)I"⟩
abbrev cX5_doubleBits : ByteArray := prog_7_method_11_code
def yX5_doubleBits : MethodName := ⟨RX5, "doubleBits", "(D)J"⟩
def RX6 : String := "StartLedger$Policies"
def TX6 : u_T := fun k => match k with
  | 0 => ("StartLedger$Policies", "sorts", "[I", true)
  | 1 => ("StartLedger$Policies", "as", "[I", true)
  | 2 => ("StartLedger$Policies", "bs", "[I", true)
  | 3 => ("StartLedger$Policies", "made", "[I", true)
  | 4 => ("StartLedger$Policies", "names", "[I", true)
  | 5 => ("StartLedger$Policies", "size", "I", false)
  | 6 => ("StartLedger$Policies", "approvers", "[I", true)
  | 7 => ("StartLedger$Policies", "approved", "[I", true)
  | _ => ("StartLedger$Policies", "approvals", "I", false)
def tyX6 : Nat → FieldType := fun k => match k with
  | 0 => .array .int
  | 1 => .array .int
  | 2 => .array .int
  | 3 => .array .int
  | 4 => .array .int
  | 5 => .int
  | 6 => .array .int
  | 7 => .array .int
  | _ => .int
theorem nmX6 : ∀ a, a < 9 → ∀ b, b < 9 → a ≠ b → (TX6 a).2.1 ≠ (TX6 b).2.1 := by decide +kernel
theorem tyX6_ok : ∀ k, k < 9 → parseFieldDescriptor (TX6 k).2.2.1 = some (tyX6 k) := by decide +kernel
abbrev cX6_init : ByteArray := prog_8_method_1_code
def yX6_init : MethodName := ⟨RX6, "<init>", "()V"⟩
abbrev cX6_take : ByteArray := prog_8_method_2_code
def yX6_take : MethodName := ⟨RX6, "take", "(LStartLedger$Policies;)V"⟩
abbrev cX6_has : ByteArray := prog_8_method_3_code
def yX6_has : MethodName := ⟨RX6, "has", "(I)Z"⟩
abbrev cX6_isJoining : ByteArray := prog_8_method_4_code
def yX6_isJoining : MethodName := ⟨RX6, "isJoining", "(I)Z"⟩
abbrev cX6_madeOf : ByteArray := prog_8_method_5_code
def yX6_madeOf : MethodName := ⟨RX6, "madeOf", "(III)I"⟩
abbrev cX6_nameOf : ByteArray := prog_8_method_6_code
def yX6_nameOf : MethodName := ⟨RX6, "nameOf", "(III)I"⟩
abbrev cX6_append : ByteArray := prog_8_method_7_code
def yX6_append : MethodName := ⟨RX6, "append", "(III)I"⟩
abbrev cX6_sameName : ByteArray := prog_8_method_8_code
def yX6_sameName : MethodName := ⟨RX6, "sameName", "(I)I"⟩
abbrev cX6_isApproved : ByteArray := prog_8_method_9_code
def yX6_isApproved : MethodName := ⟨RX6, "isApproved", "(II)Z"⟩
abbrev cX6_approvedBy : ByteArray := prog_8_method_10_code
def yX6_approvedBy : MethodName := ⟨RX6, "approvedBy", "(I)I"⟩
abbrev cX6_appendApproval : ByteArray := prog_8_method_11_code
def yX6_appendApproval : MethodName := ⟨RX6, "appendApproval", "(II)V"⟩
def RX7 : String := "StartLedger$Route"
def TX7 : u_T := fun k => match k with
  | 0 => ("StartLedger$Route", "moves", "[I", true)
  | _ => ("StartLedger$Route", "size", "I", false)
def tyX7 : Nat → FieldType := fun k => match k with
  | 0 => .array .int
  | _ => .int
theorem nmX7 : ∀ a, a < 2 → ∀ b, b < 2 → a ≠ b → (TX7 a).2.1 ≠ (TX7 b).2.1 := by decide +kernel
theorem tyX7_ok : ∀ k, k < 2 → parseFieldDescriptor (TX7 k).2.2.1 = some (tyX7 k) := by decide +kernel
abbrev cX7_init : ByteArray := prog_9_method_1_code
def yX7_init : MethodName := ⟨RX7, "<init>", "()V"⟩
abbrev cX7_find : ByteArray := prog_9_method_2_code
def yX7_find : MethodName := ⟨RX7, "find", "(LStartLedger$Keys;II)Z"⟩
abbrev cX7_note : ByteArray := prog_9_method_3_code
def yX7_note : MethodName := ⟨RX7, "note", "(I)V"⟩
abbrev cX7_distance : ByteArray := prog_9_method_4_code
def yX7_distance : MethodName := ⟨RX7, "distance", "(LStartLedger$Keys;I)I"⟩
abbrev cX7_slotToFlush : ByteArray := prog_9_method_5_code
def yX7_slotToFlush : MethodName := ⟨RX7, "slotToFlush", "(LStartLedger$Keys;II)I"⟩
abbrev cX7_bringIn : ByteArray := prog_9_method_6_code
def yX7_bringIn : MethodName := ⟨RX7, "bringIn", "(LStartLedger$Keys;I)V"⟩
def RX8 : String := "StartLedger$Seals"
def TX8 : u_T := fun k => match k with
  | 0 => ("StartLedger$Seals", "secrets", "[I", true)
  | 1 => ("StartLedger$Seals", "keys", "[I", true)
  | 2 => ("StartLedger$Seals", "policies", "[I", true)
  | _ => ("StartLedger$Seals", "size", "I", false)
def tyX8 : Nat → FieldType := fun k => match k with
  | 0 => .array .int
  | 1 => .array .int
  | 2 => .array .int
  | _ => .int
theorem nmX8 : ∀ a, a < 4 → ∀ b, b < 4 → a ≠ b → (TX8 a).2.1 ≠ (TX8 b).2.1 := by decide +kernel
theorem tyX8_ok : ∀ k, k < 4 → parseFieldDescriptor (TX8 k).2.2.1 = some (tyX8 k) := by decide +kernel
abbrev cX8_init : ByteArray := prog_10_method_1_code
def yX8_init : MethodName := ⟨RX8, "<init>", "()V"⟩
abbrev cX8_take : ByteArray := prog_10_method_2_code
def yX8_take : MethodName := ⟨RX8, "take", "(LStartLedger$Seals;)V"⟩
abbrev cX8_has : ByteArray := prog_10_method_3_code
def yX8_has : MethodName := ⟨RX8, "has", "(I)Z"⟩
abbrev cX8_append : ByteArray := prog_10_method_4_code
def yX8_append : MethodName := ⟨RX8, "append", "(III)I"⟩
abbrev cX8_below : ByteArray := prog_10_method_5_code
def yX8_below : MethodName := ⟨RX8, "below", "(I)I"⟩
def RX9 : String := "StartLedger$Sessions"
def TX9 : u_T := fun k => match k with
  | 0 => ("StartLedger$Sessions", "keys", "[I", true)
  | 1 => ("StartLedger$Sessions", "nonces", "[I", true)
  | 2 => ("StartLedger$Sessions", "audits", "[I", true)
  | _ => ("StartLedger$Sessions", "opened", "I", false)
def tyX9 : Nat → FieldType := fun k => match k with
  | 0 => .array .int
  | 1 => .array .int
  | 2 => .array .int
  | _ => .int
theorem nmX9 : ∀ a, a < 4 → ∀ b, b < 4 → a ≠ b → (TX9 a).2.1 ≠ (TX9 b).2.1 := by decide +kernel
theorem tyX9_ok : ∀ k, k < 4 → parseFieldDescriptor (TX9 k).2.2.1 = some (tyX9 k) := by decide +kernel
abbrev cX9_init : ByteArray := prog_11_method_1_code
def yX9_init : MethodName := ⟨RX9, "<init>", "()V"⟩
abbrev cX9_take : ByteArray := prog_11_method_2_code
def yX9_take : MethodName := ⟨RX9, "take", "(LStartLedger$Sessions;)V"⟩
abbrev cX9_isOpen : ByteArray := prog_11_method_3_code
def yX9_isOpen : MethodName := ⟨RX9, "isOpen", "(I)Z"⟩
abbrev cX9_firstClosed : ByteArray := prog_11_method_4_code
def yX9_firstClosed : MethodName := ⟨RX9, "firstClosed", "()I"⟩
abbrev cX9_openBits : ByteArray := prog_11_method_5_code
def yX9_openBits : MethodName := ⟨RX9, "openBits", "()I"⟩
abbrev cX9_openFor : ByteArray := prog_11_method_6_code
def yX9_openFor : MethodName := ⟨RX9, "openFor", "(IIII)V"⟩
abbrev cX9_closeOn : ByteArray := prog_11_method_7_code
def yX9_closeOn : MethodName := ⟨RX9, "closeOn", "(I)V"⟩
abbrev cX9_closeAll : ByteArray := prog_11_method_8_code
def yX9_closeAll : MethodName := ⟨RX9, "closeAll", "()V"⟩
abbrev cX9_roll : ByteArray := prog_11_method_9_code
def yX9_roll : MethodName := ⟨RX9, "roll", "(IIIII)V"⟩
def RX10 : String := "StartLedger$State"
def TX10 : u_T := fun k => match k with
  | 0 => ("StartLedger$State", "board", "LStartLedger$Board;", true)
  | 1 => ("StartLedger$State", "log", "LStartLedger$Entries;", true)
  | 2 => ("StartLedger$State", "claim", "LStartLedger$Entries;", true)
  | 3 => ("StartLedger$State", "keys", "LStartLedger$Keys;", true)
  | 4 => ("StartLedger$State", "policies", "LStartLedger$Policies;", true)
  | 5 => ("StartLedger$State", "seals", "LStartLedger$Seals;", true)
  | _ => ("StartLedger$State", "sessions", "LStartLedger$Sessions;", true)
def tyX10 : Nat → FieldType := fun k => match k with
  | 0 => .object "StartLedger$Board"
  | 1 => .object "StartLedger$Entries"
  | 2 => .object "StartLedger$Entries"
  | 3 => .object "StartLedger$Keys"
  | 4 => .object "StartLedger$Policies"
  | 5 => .object "StartLedger$Seals"
  | _ => .object "StartLedger$Sessions"
theorem nmX10 : ∀ a, a < 7 → ∀ b, b < 7 → a ≠ b → (TX10 a).2.1 ≠ (TX10 b).2.1 := by decide +kernel
theorem tyX10_ok : ∀ k, k < 7 → parseFieldDescriptor (TX10 k).2.2.1 = some (tyX10 k) := by decide +kernel
abbrev cX10_init : ByteArray := prog_12_method_1_code
def yX10_init : MethodName := ⟨RX10, "<init>", "()V"⟩
abbrev cX10_take : ByteArray := prog_12_method_2_code
def yX10_take : MethodName := ⟨RX10, "take", "(LStartLedger$State;)V"⟩
abbrev cX10_restart : ByteArray := prog_12_method_3_code
def yX10_restart : MethodName := ⟨RX10, "restart", "()V"⟩
abbrev cX10_writeDown : ByteArray := prog_12_method_4_code
def yX10_writeDown : MethodName := ⟨RX10, "writeDown", "(II)V"⟩
abbrev cX10_unload : ByteArray := prog_12_method_5_code
def yX10_unload : MethodName := ⟨RX10, "unload", "(II)V"⟩
def RX11 : String := "StartLedger"
def TX11 : u_T := fun k => match k with
  | 0 => ("StartLedger", "now", "LStartLedger$State;", true)
  | 1 => ("StartLedger", "paper", "LStartLedger$State;", true)
  | 2 => ("StartLedger", "judge", "LStartLedger$Judge;", true)
  | 3 => ("StartLedger", "route", "LStartLedger$Route;", true)
  | 4 => ("StartLedger", "history", "LStartLedger$History;", true)
  | 5 => ("StartLedger", "refusals", "[I", true)
  | _ => ("StartLedger", "latestRefusal", "I", false)
def tyX11 : Nat → FieldType := fun k => match k with
  | 0 => .object "StartLedger$State"
  | 1 => .object "StartLedger$State"
  | 2 => .object "StartLedger$Judge"
  | 3 => .object "StartLedger$Route"
  | 4 => .object "StartLedger$History"
  | 5 => .array .int
  | _ => .int
theorem nmX11 : ∀ a, a < 7 → ∀ b, b < 7 → a ≠ b → (TX11 a).2.1 ≠ (TX11 b).2.1 := by decide +kernel
theorem tyX11_ok : ∀ k, k < 7 → parseFieldDescriptor (TX11 k).2.2.1 = some (tyX11 k) := by decide +kernel
abbrev cX11_init : ByteArray := prog_1_method_1_code
def yX11_init : MethodName := ⟨RX11, "<init>", "()V"⟩
abbrev cX11_start : ByteArray := prog_1_method_2_code
def yX11_start : MethodName := ⟨RX11, "start", "()I"⟩
abbrev cX11_locality : ByteArray := prog_1_method_3_code
def yX11_locality : MethodName := ⟨RX11, "locality", "(I)I"⟩
abbrev cX11_tick : ByteArray := prog_1_method_4_code
def yX11_tick : MethodName := ⟨RX11, "tick", "(I)I"⟩
abbrev cX11_measure : ByteArray := prog_1_method_5_code
def yX11_measure : MethodName := ⟨RX11, "measure", "(II)I"⟩
abbrev cX11_extend : ByteArray := prog_1_method_6_code
def yX11_extend : MethodName := ⟨RX11, "extend", "(II)I"⟩
abbrev cX11_reset : ByteArray := prog_1_method_7_code
def yX11_reset : MethodName := ⟨RX11, "reset", "(I)I"⟩
abbrev cX11_claim : ByteArray := prog_1_method_8_code
def yX11_claim : MethodName := ⟨RX11, "claim", "(II)I"⟩
abbrev cX11_claimAs : ByteArray := prog_1_method_9_code
def yX11_claimAs : MethodName := ⟨RX11, "claimAs", "(I)I"⟩
abbrev cX11_forge : ByteArray := prog_1_method_10_code
def yX11_forge : MethodName := ⟨RX11, "forge", "(II)I"⟩
abbrev cX11_key : ByteArray := prog_1_method_11_code
def yX11_key : MethodName := ⟨RX11, "key", "(II)I"⟩
abbrev cX11_load : ByteArray := prog_1_method_12_code
def yX11_load : MethodName := ⟨RX11, "load", "(II)I"⟩
abbrev cX11_flush : ByteArray := prog_1_method_13_code
def yX11_flush : MethodName := ⟨RX11, "flush", "(I)I"⟩
abbrev cX11_swapOut : ByteArray := prog_1_method_14_code
def yX11_swapOut : MethodName := ⟨RX11, "swapOut", "(I)I"⟩
abbrev cX11_swapIn : ByteArray := prog_1_method_15_code
def yX11_swapIn : MethodName := ⟨RX11, "swapIn", "(I)I"⟩
abbrev cX11_drop : ByteArray := prog_1_method_16_code
def yX11_drop : MethodName := ⟨RX11, "drop", "(I)I"⟩
abbrev cX11_policy : ByteArray := prog_1_method_17_code
def yX11_policy : MethodName := ⟨RX11, "policy", "(III)I"⟩
abbrev cX11_policyNow : ByteArray := prog_1_method_18_code
def yX11_policyNow : MethodName := ⟨RX11, "policyNow", "(I)I"⟩
abbrev cX11_seal : ByteArray := prog_1_method_19_code
def yX11_seal : MethodName := ⟨RX11, "seal", "(III)I"⟩
abbrev cX11_open : ByteArray := prog_1_method_20_code
def yX11_open : MethodName := ⟨RX11, "open", "(II)I"⟩
abbrev cX11_close : ByteArray := prog_1_method_21_code
def yX11_close : MethodName := ⟨RX11, "close", "(I)I"⟩
abbrev cX11_unseal : ByteArray := prog_1_method_22_code
def yX11_unseal : MethodName := ⟨RX11, "unseal", "(III)I"⟩
abbrev cX11_approve : ByteArray := prog_1_method_23_code
def yX11_approve : MethodName := ⟨RX11, "approve", "(III)I"⟩
abbrev cX11_count : ByteArray := prog_1_method_24_code
def yX11_count : MethodName := ⟨RX11, "count", "(III)I"⟩
abbrev cX11_renew : ByteArray := prog_1_method_25_code
def yX11_renew : MethodName := ⟨RX11, "renew", "(III)I"⟩
abbrev cX11_undo : ByteArray := prog_1_method_26_code
def yX11_undo : MethodName := ⟨RX11, "undo", "()I"⟩
abbrev cX11_image : ByteArray := prog_1_method_27_code
def yX11_image : MethodName := ⟨RX11, "image", "(I)I"⟩
abbrev cX11_back : ByteArray := prog_1_method_28_code
def yX11_back : MethodName := ⟨RX11, "back", "(I)I"⟩
abbrev cX11_register : ByteArray := prog_1_method_29_code
def yX11_register : MethodName := ⟨RX11, "register", "(I)I"⟩
abbrev cX11_digest : ByteArray := prog_1_method_30_code
def yX11_digest : MethodName := ⟨RX11, "digest", "(I)I"⟩
abbrev cX11_replay : ByteArray := prog_1_method_31_code
def yX11_replay : MethodName := ⟨RX11, "replay", "(III)I"⟩
abbrev cX11_entry : ByteArray := prog_1_method_32_code
def yX11_entry : MethodName := ⟨RX11, "entry", "(III)I"⟩
abbrev cX11_wrong : ByteArray := prog_1_method_33_code
def yX11_wrong : MethodName := ⟨RX11, "wrong", "(I)I"⟩
abbrev cX11_mended : ByteArray := prog_1_method_34_code
def yX11_mended : MethodName := ⟨RX11, "mended", "()I"⟩
abbrev cX11_age : ByteArray := prog_1_method_35_code
def yX11_age : MethodName := ⟨RX11, "age", "(I)I"⟩
abbrev cX11_fresh : ByteArray := prog_1_method_36_code
def yX11_fresh : MethodName := ⟨RX11, "fresh", "(II)I"⟩
abbrev cX11_mean : ByteArray := prog_1_method_37_code
def yX11_mean : MethodName := ⟨RX11, "mean", "()J"⟩
abbrev cX11_word : ByteArray := prog_1_method_38_code
def yX11_word : MethodName := ⟨RX11, "word", "(III)I"⟩
abbrev cX11_quote : ByteArray := prog_1_method_39_code
def yX11_quote : MethodName := ⟨RX11, "quote", "(III)I"⟩
abbrev cX11_checks : ByteArray := prog_1_method_40_code
def yX11_checks : MethodName := ⟨RX11, "checks", "(IIIIII)Z"⟩
abbrev cX11_audit : ByteArray := prog_1_method_41_code
def yX11_audit : MethodName := ⟨RX11, "audit", "(I)I"⟩
abbrev cX11_guess : ByteArray := prog_1_method_42_code
def yX11_guess : MethodName := ⟨RX11, "guess", "(III)I"⟩
abbrev cX11_locked : ByteArray := prog_1_method_43_code
def yX11_locked : MethodName := ⟨RX11, "locked", "()I"⟩
abbrev cX11_asks : ByteArray := prog_1_method_44_code
def yX11_asks : MethodName := ⟨RX11, "asks", "(II)I"⟩
abbrev cX11_why : ByteArray := prog_1_method_45_code
def yX11_why : MethodName := ⟨RX11, "why", "(I)I"⟩
abbrev cX11_seals : ByteArray := prog_1_method_46_code
def yX11_seals : MethodName := ⟨RX11, "seals", "(I)I"⟩
abbrev cX11_reach : ByteArray := prog_1_method_47_code
def yX11_reach : MethodName := ⟨RX11, "reach", "(II)I"⟩
abbrev cX11_foreseen : ByteArray := prog_1_method_48_code
def yX11_foreseen : MethodName := ⟨RX11, "foreseen", "(I)I"⟩
abbrev cX11_orphans : ByteArray := prog_1_method_49_code
def yX11_orphans : MethodName := ⟨RX11, "orphans", "()I"⟩
abbrev cX11_ofKey : ByteArray := prog_1_method_50_code
def yX11_ofKey : MethodName := ⟨RX11, "ofKey", "(II)I"⟩
abbrev cX11_of : ByteArray := prog_1_method_51_code
def yX11_of : MethodName := ⟨RX11, "of", "(II)I"⟩
abbrev cX11_counts : ByteArray := prog_1_method_52_code
def yX11_counts : MethodName := ⟨RX11, "counts", "(I)I"⟩
abbrev cX11_status : ByteArray := prog_1_method_53_code
def yX11_status : MethodName := ⟨RX11, "status", "()I"⟩
abbrev cX11_accept : ByteArray := prog_1_method_54_code
def yX11_accept : MethodName := ⟨RX11, "accept", "(I)I"⟩
abbrev cX11_refuse : ByteArray := prog_1_method_55_code
def yX11_refuse : MethodName := ⟨RX11, "refuse", "(I)I"⟩
abbrev cX11_refuseAny : ByteArray := prog_1_method_56_code
def yX11_refuseAny : MethodName := ⟨RX11, "refuseAny", "(I)I"⟩
abbrev cX11_isRegister : ByteArray := prog_1_method_57_code
def yX11_isRegister : MethodName := ⟨RX11, "isRegister", "(I)Z"⟩
abbrev cX11_isSet : ByteArray := prog_1_method_58_code
def yX11_isSet : MethodName := ⟨RX11, "isSet", "(I)Z"⟩
abbrev cX11_isLocality : ByteArray := prog_1_method_59_code
def yX11_isLocality : MethodName := ⟨RX11, "isLocality", "(I)Z"⟩
abbrev cX11_isImage : ByteArray := prog_1_method_60_code
def yX11_isImage : MethodName := ⟨RX11, "isImage", "(I)Z"⟩
abbrev cX11_entriesOf : ByteArray := prog_1_method_61_code
def yX11_entriesOf : MethodName := ⟨RX11, "entriesOf", "(I)LStartLedger$Entries;"⟩
abbrev cX11_mayBePolicy : ByteArray := prog_1_method_62_code
def yX11_mayBePolicy : MethodName := ⟨RX11, "mayBePolicy", "(III)Z"⟩
abbrev cX11_standsBelowPolicy : ByteArray := prog_1_method_63_code
def yX11_standsBelowPolicy : MethodName := ⟨RX11, "standsBelowPolicy", "(III)Z"⟩
abbrev cX11_addPolicy : ByteArray := prog_1_method_64_code
def yX11_addPolicy : MethodName := ⟨RX11, "addPolicy", "(III)I"⟩
abbrev cX11_wordDue : ByteArray := prog_1_method_65_code
def yX11_wordDue : MethodName := ⟨RX11, "wordDue", "(III)I"⟩
abbrev cX11_hear : ByteArray := prog_1_method_66_code
def yX11_hear : MethodName := ⟨RX11, "hear", "(IIIII)I"⟩
abbrev cX11_isHeldNow : ByteArray := prog_1_method_67_code
def yX11_isHeldNow : MethodName := ⟨RX11, "isHeldNow", "(I)Z"⟩
abbrev cX11_localityFor : ByteArray := prog_1_method_68_code
def yX11_localityFor : MethodName := ⟨RX11, "localityFor", "(I)I"⟩
def RX12 : String := "StartLedgerModel"
def TX12 : u_T := fun k => match k with
  | 0 => ("StartLedgerModel", "thrown", "I", false)
  | 1 => ("StartLedgerModel", "status", "I", false)
  | 2 => ("StartLedgerModel", "refusals", "[I", true)
  | 3 => ("StartLedgerModel", "row", "[I", true)
  | 4 => ("StartLedgerModel", "strain", "F", false)
  | 5 => ("StartLedgerModel", "undos", "[I", true)
  | 6 => ("StartLedgerModel", "strains", "[F", true)
  | 7 => ("StartLedgerModel", "sorts", "[I", true)
  | 8 => ("StartLedgerModel", "nUndo", "I", false)
  | 9 => ("StartLedgerModel", "images", "[I", true)
  | 10 => ("StartLedgerModel", "ahead", "[I", true)
  | 11 => ("StartLedgerModel", "imageStrains", "[F", true)
  | 12 => ("StartLedgerModel", "isKept", "[Z", true)
  | 13 => ("StartLedgerModel", "holds", "[Z", true)
  | 14 => ("StartLedgerModel", "holdsBare", "[Z", true)
  | 15 => ("StartLedgerModel", "outlook", "[I", true)
  | 16 => ("StartLedgerModel", "name", "[I", true)
  | 17 => ("StartLedgerModel", "made", "[I", true)
  | 18 => ("StartLedgerModel", "whyNot", "[I", true)
  | 19 => ("StartLedgerModel", "till", "[I", true)
  | 20 => ("StartLedgerModel", "tillBare", "[I", true)
  | 21 => ("StartLedgerModel", "yet", "[I", true)
  | 22 => ("StartLedgerModel", "notGiven", "I", false)
  | 23 => ("StartLedgerModel", "replayed", "[I", true)
  | 24 => ("StartLedgerModel", "way", "[I", true)
  | 25 => ("StartLedgerModel", "nWay", "I", false)
  | 26 => ("StartLedgerModel", "topContext", "I", false)
  | 27 => ("StartLedgerModel", "states", "[I", true)
  | 28 => ("StartLedgerModel", "stateFrom", "[I", true)
  | 29 => ("StartLedgerModel", "stateMove", "[I", true)
  | 30 => ("StartLedgerModel", "seen", "[Z", true)
  | 31 => ("StartLedgerModel", "nStates", "I", false)
  | 32 => ("StartLedgerModel", "moves", "[I", true)
  | _ => ("StartLedgerModel", "nMoves", "I", false)
def tyX12 : Nat → FieldType := fun k => match k with
  | 0 => .int
  | 1 => .int
  | 2 => .array .int
  | 3 => .array .int
  | 4 => .float
  | 5 => .array .int
  | 6 => .array .float
  | 7 => .array .int
  | 8 => .int
  | 9 => .array .int
  | 10 => .array .int
  | 11 => .array .float
  | 12 => .array .boolean
  | 13 => .array .boolean
  | 14 => .array .boolean
  | 15 => .array .int
  | 16 => .array .int
  | 17 => .array .int
  | 18 => .array .int
  | 19 => .array .int
  | 20 => .array .int
  | 21 => .array .int
  | 22 => .int
  | 23 => .array .int
  | 24 => .array .int
  | 25 => .int
  | 26 => .int
  | 27 => .array .int
  | 28 => .array .int
  | 29 => .array .int
  | 30 => .array .boolean
  | 31 => .int
  | 32 => .array .int
  | _ => .int
theorem nmX12 : ∀ a, a < 34 → ∀ b, b < 34 → a ≠ b → (TX12 a).2.1 ≠ (TX12 b).2.1 := by decide +kernel
theorem tyX12_ok : ∀ k, k < 34 → parseFieldDescriptor (TX12 k).2.2.1 = some (tyX12 k) := by decide +kernel
abbrev cX12_init : ByteArray := prog_14_method_1_code
def yX12_init : MethodName := ⟨RX12, "<init>", "()V"⟩
abbrev cX12_in : ByteArray := prog_14_method_3_code
def yX12_in : MethodName := ⟨RX12, "in", "(JJJ)Z"⟩
abbrev cX12_tell : ByteArray := prog_14_method_4_code
def yX12_tell : MethodName := ⟨RX12, "tell", "(I)I"⟩
abbrev cX12_refuse : ByteArray := prog_14_method_5_code
def yX12_refuse : MethodName := ⟨RX12, "refuse", "(I)I"⟩
abbrev cX12_refuseAny : ByteArray := prog_14_method_6_code
def yX12_refuseAny : MethodName := ⟨RX12, "refuseAny", "(I)I"⟩
abbrev cX12_mix : ByteArray := prog_14_method_7_code
def yX12_mix : MethodName := ⟨RX12, "mix", "(II)I"⟩
abbrev cX12_copy : ByteArray := prog_14_method_8_code
def yX12_copy : MethodName := ⟨RX12, "copy", "([II[II)V"⟩
abbrev cX12_remember : ByteArray := prog_14_method_9_code
def yX12_remember : MethodName := ⟨RX12, "remember", "(I)V"⟩
abbrev cX12_undo : ByteArray := prog_14_method_10_code
def yX12_undo : MethodName := ⟨RX12, "undo", "()I"⟩
abbrev cX12_image : ByteArray := prog_14_method_11_code
def yX12_image : MethodName := ⟨RX12, "image", "(I)I"⟩
abbrev cX12_back : ByteArray := prog_14_method_12_code
def yX12_back : MethodName := ⟨RX12, "back", "(I)I"⟩
abbrev cX12_keyAt : ByteArray := prog_14_method_13_code
def yX12_keyAt : MethodName := ⟨RX12, "keyAt", "(I)I"⟩
abbrev cX12_contextAt : ByteArray := prog_14_method_14_code
def yX12_contextAt : MethodName := ⟨RX12, "contextAt", "(I)I"⟩
abbrev cX12_policyAt : ByteArray := prog_14_method_15_code
def yX12_policyAt : MethodName := ⟨RX12, "policyAt", "(I)I"⟩
abbrev cX12_sealAt : ByteArray := prog_14_method_16_code
def yX12_sealAt : MethodName := ⟨RX12, "sealAt", "(I)I"⟩
abbrev cX12_sessionAt : ByteArray := prog_14_method_17_code
def yX12_sessionAt : MethodName := ⟨RX12, "sessionAt", "(I)I"⟩
abbrev cX12_isKey : ByteArray := prog_14_method_18_code
def yX12_isKey : MethodName := ⟨RX12, "isKey", "(I)Z"⟩
abbrev cX12_isPolicy : ByteArray := prog_14_method_19_code
def yX12_isPolicy : MethodName := ⟨RX12, "isPolicy", "(I)Z"⟩
abbrev cX12_isSeal : ByteArray := prog_14_method_20_code
def yX12_isSeal : MethodName := ⟨RX12, "isSeal", "(I)Z"⟩
abbrev cX12_isOpen : ByteArray := prog_14_method_21_code
def yX12_isOpen : MethodName := ⟨RX12, "isOpen", "(I)Z"⟩
abbrev cX12_isRegister : ByteArray := prog_14_method_22_code
def yX12_isRegister : MethodName := ⟨RX12, "isRegister", "(I)Z"⟩
abbrev cX12_isSet : ByteArray := prog_14_method_23_code
def yX12_isSet : MethodName := ⟨RX12, "isSet", "(I)Z"⟩
abbrev cX12_keyIn : ByteArray := prog_14_method_24_code
def yX12_keyIn : MethodName := ⟨RX12, "keyIn", "(I)I"⟩
abbrev cX12_freeSlot : ByteArray := prog_14_method_25_code
def yX12_freeSlot : MethodName := ⟨RX12, "freeSlot", "()I"⟩
abbrev cX12_unload : ByteArray := prog_14_method_26_code
def yX12_unload : MethodName := ⟨RX12, "unload", "(I)V"⟩
abbrev cX12_start : ByteArray := prog_14_method_27_code
def yX12_start : MethodName := ⟨RX12, "start", "()I"⟩
abbrev cX12_asAtFirst : ByteArray := prog_14_method_28_code
def yX12_asAtFirst : MethodName := ⟨RX12, "asAtFirst", "(I)I"⟩
abbrev cX12_locality : ByteArray := prog_14_method_29_code
def yX12_locality : MethodName := ⟨RX12, "locality", "(I)I"⟩
abbrev cX12_tick : ByteArray := prog_14_method_30_code
def yX12_tick : MethodName := ⟨RX12, "tick", "(I)I"⟩
abbrev cX12_mayExtend : ByteArray := prog_14_method_31_code
def yX12_mayExtend : MethodName := ⟨RX12, "mayExtend", "(I)Z"⟩
abbrev cX12_write : ByteArray := prog_14_method_32_code
def yX12_write : MethodName := ⟨RX12, "write", "(IIII)I"⟩
abbrev cX12_measure : ByteArray := prog_14_method_33_code
def yX12_measure : MethodName := ⟨RX12, "measure", "(II)I"⟩
abbrev cX12_extend : ByteArray := prog_14_method_34_code
def yX12_extend : MethodName := ⟨RX12, "extend", "(II)I"⟩
abbrev cX12_reset : ByteArray := prog_14_method_35_code
def yX12_reset : MethodName := ⟨RX12, "reset", "(I)I"⟩
abbrev cX12_claim : ByteArray := prog_14_method_36_code
def yX12_claim : MethodName := ⟨RX12, "claim", "(II)I"⟩
abbrev cX12_claimAs : ByteArray := prog_14_method_37_code
def yX12_claimAs : MethodName := ⟨RX12, "claimAs", "(I)I"⟩
abbrev cX12_forge : ByteArray := prog_14_method_38_code
def yX12_forge : MethodName := ⟨RX12, "forge", "(II)I"⟩
abbrev cX12_key : ByteArray := prog_14_method_39_code
def yX12_key : MethodName := ⟨RX12, "key", "(II)I"⟩
abbrev cX12_load : ByteArray := prog_14_method_40_code
def yX12_load : MethodName := ⟨RX12, "load", "(II)I"⟩
abbrev cX12_flush : ByteArray := prog_14_method_41_code
def yX12_flush : MethodName := ⟨RX12, "flush", "(I)I"⟩
abbrev cX12_swapOut : ByteArray := prog_14_method_42_code
def yX12_swapOut : MethodName := ⟨RX12, "swapOut", "(I)I"⟩
abbrev cX12_isContext : ByteArray := prog_14_method_43_code
def yX12_isContext : MethodName := ⟨RX12, "isContext", "(I)Z"⟩
abbrev cX12_isGood : ByteArray := prog_14_method_44_code
def yX12_isGood : MethodName := ⟨RX12, "isGood", "(I)Z"⟩
abbrev cX12_swapIn : ByteArray := prog_14_method_45_code
def yX12_swapIn : MethodName := ⟨RX12, "swapIn", "(I)I"⟩
abbrev cX12_drop : ByteArray := prog_14_method_46_code
def yX12_drop : MethodName := ⟨RX12, "drop", "(I)I"⟩
abbrev cX12_isLogged : ByteArray := prog_14_method_47_code
def yX12_isLogged : MethodName := ⟨RX12, "isLogged", "(II)Z"⟩
abbrev cX12_digestOf : ByteArray := prog_14_method_48_code
def yX12_digestOf : MethodName := ⟨RX12, "digestOf", "(I)I"⟩
abbrev cX12_isBare : ByteArray := prog_14_method_49_code
def yX12_isBare : MethodName := ⟨RX12, "isBare", "(III)Z"⟩
abbrev cX12_isSigned : ByteArray := prog_14_method_50_code
def yX12_isSigned : MethodName := ⟨RX12, "isSigned", "(I)Z"⟩
abbrev cX12_greater : ByteArray := prog_14_method_51_code
def yX12_greater : MethodName := ⟨RX12, "greater", "(II)I"⟩
abbrev cX12_lesser : ByteArray := prog_14_method_52_code
def yX12_lesser : MethodName := ⟨RX12, "lesser", "(II)I"⟩
abbrev cX12_tillSigned : ByteArray := prog_14_method_53_code
def yX12_tillSigned : MethodName := ⟨RX12, "tillSigned", "(I)I"⟩
abbrev cX12_outlookOf : ByteArray := prog_14_method_54_code
def yX12_outlookOf : MethodName := ⟨RX12, "outlookOf", "(III)I"⟩
abbrev cX12_notGivenBy : ByteArray := prog_14_method_55_code
def yX12_notGivenBy : MethodName := ⟨RX12, "notGivenBy", "(I)I"⟩
abbrev cX12_layPolicies : ByteArray := prog_14_method_56_code
def yX12_layPolicies : MethodName := ⟨RX12, "layPolicies", "()V"⟩
abbrev cX12_isTold : ByteArray := prog_14_method_57_code
def yX12_isTold : MethodName := ⟨RX12, "isTold", "(III)Z"⟩
abbrev cX12_addPolicy : ByteArray := prog_14_method_58_code
def yX12_addPolicy : MethodName := ⟨RX12, "addPolicy", "(III)I"⟩
abbrev cX12_policy : ByteArray := prog_14_method_59_code
def yX12_policy : MethodName := ⟨RX12, "policy", "(III)I"⟩
abbrev cX12_policyNow : ByteArray := prog_14_method_60_code
def yX12_policyNow : MethodName := ⟨RX12, "policyNow", "(I)I"⟩
abbrev cX12_seal : ByteArray := prog_14_method_61_code
def yX12_seal : MethodName := ⟨RX12, "seal", "(III)I"⟩
abbrev cX12_open : ByteArray := prog_14_method_62_code
def yX12_open : MethodName := ⟨RX12, "open", "(II)I"⟩
abbrev cX12_close : ByteArray := prog_14_method_63_code
def yX12_close : MethodName := ⟨RX12, "close", "(I)I"⟩
abbrev cX12_wordOf : ByteArray := prog_14_method_64_code
def yX12_wordOf : MethodName := ⟨RX12, "wordOf", "(III)I"⟩
abbrev cX12_isLocked : ByteArray := prog_14_method_65_code
def yX12_isLocked : MethodName := ⟨RX12, "isLocked", "()Z"⟩
abbrev cX12_says : ByteArray := prog_14_method_66_code
def yX12_says : MethodName := ⟨RX12, "says", "(IIIIII)I"⟩
abbrev cX12_said : ByteArray := prog_14_method_67_code
def yX12_said : MethodName := ⟨RX12, "said", "(IIII)I"⟩
abbrev cX12_keyOf : ByteArray := prog_14_method_68_code
def yX12_keyOf : MethodName := ⟨RX12, "keyOf", "(I)I"⟩
abbrev cX12_unseal : ByteArray := prog_14_method_69_code
def yX12_unseal : MethodName := ⟨RX12, "unseal", "(III)I"⟩
abbrev cX12_hasApproved : ByteArray := prog_14_method_70_code
def yX12_hasApproved : MethodName := ⟨RX12, "hasApproved", "(II)Z"⟩
abbrev cX12_approvedBy : ByteArray := prog_14_method_71_code
def yX12_approvedBy : MethodName := ⟨RX12, "approvedBy", "(I)I"⟩
abbrev cX12_approve : ByteArray := prog_14_method_72_code
def yX12_approve : MethodName := ⟨RX12, "approve", "(III)I"⟩
abbrev cX12_count : ByteArray := prog_14_method_73_code
def yX12_count : MethodName := ⟨RX12, "count", "(III)I"⟩
abbrev cX12_renew : ByteArray := prog_14_method_74_code
def yX12_renew : MethodName := ⟨RX12, "renew", "(III)I"⟩
abbrev cX12_register : ByteArray := prog_14_method_75_code
def yX12_register : MethodName := ⟨RX12, "register", "(I)I"⟩
abbrev cX12_digest : ByteArray := prog_14_method_76_code
def yX12_digest : MethodName := ⟨RX12, "digest", "(I)I"⟩
abbrev cX12_replayBy : ByteArray := prog_14_method_77_code
def yX12_replayBy : MethodName := ⟨RX12, "replayBy", "(IIIIII)V"⟩
abbrev cX12_isGiven : ByteArray := prog_14_method_78_code
def yX12_isGiven : MethodName := ⟨RX12, "isGiven", "()Z"⟩
abbrev cX12_isRight : ByteArray := prog_14_method_79_code
def yX12_isRight : MethodName := ⟨RX12, "isRight", "(IIII)Z"⟩
abbrev cX12_replay : ByteArray := prog_14_method_80_code
def yX12_replay : MethodName := ⟨RX12, "replay", "(III)I"⟩
abbrev cX12_entry : ByteArray := prog_14_method_81_code
def yX12_entry : MethodName := ⟨RX12, "entry", "(III)I"⟩
abbrev cX12_wrong : ByteArray := prog_14_method_82_code
def yX12_wrong : MethodName := ⟨RX12, "wrong", "(I)I"⟩
abbrev cX12_mended : ByteArray := prog_14_method_83_code
def yX12_mended : MethodName := ⟨RX12, "mended", "()I"⟩
abbrev cX12_word : ByteArray := prog_14_method_84_code
def yX12_word : MethodName := ⟨RX12, "word", "(III)I"⟩
abbrev cX12_quoteBy : ByteArray := prog_14_method_85_code
def yX12_quoteBy : MethodName := ⟨RX12, "quoteBy", "(IIIII)I"⟩
abbrev cX12_quote : ByteArray := prog_14_method_86_code
def yX12_quote : MethodName := ⟨RX12, "quote", "(III)I"⟩
abbrev cX12_checks : ByteArray := prog_14_method_87_code
def yX12_checks : MethodName := ⟨RX12, "checks", "(IIIIII)Z"⟩
abbrev cX12_asks : ByteArray := prog_14_method_88_code
def yX12_asks : MethodName := ⟨RX12, "asks", "(II)I"⟩
abbrev cX12_likeNames : ByteArray := prog_14_method_89_code
def yX12_likeNames : MethodName := ⟨RX12, "likeNames", "(I)I"⟩
abbrev cX12_why : ByteArray := prog_14_method_90_code
def yX12_why : MethodName := ⟨RX12, "why", "(I)I"⟩
abbrev cX12_seals : ByteArray := prog_14_method_91_code
def yX12_seals : MethodName := ⟨RX12, "seals", "(I)I"⟩
abbrev cX12_inSlot : ByteArray := prog_14_method_92_code
def yX12_inSlot : MethodName := ⟨RX12, "inSlot", "(II)I"⟩
abbrev cX12_lowestFree : ByteArray := prog_14_method_93_code
def yX12_lowestFree : MethodName := ⟨RX12, "lowestFree", "(I)I"⟩
abbrev cX12_isIn : ByteArray := prog_14_method_94_code
def yX12_isIn : MethodName := ⟨RX12, "isIn", "(II)Z"⟩
abbrev cX12_stateNow : ByteArray := prog_14_method_95_code
def yX12_stateNow : MethodName := ⟨RX12, "stateNow", "()I"⟩
abbrev cX12_layWay : ByteArray := prog_14_method_96_code
def yX12_layWay : MethodName := ⟨RX12, "layWay", "(I)V"⟩
abbrev cX12_reached : ByteArray := prog_14_method_97_code
def yX12_reached : MethodName := ⟨RX12, "reached", "(III)V"⟩
abbrev cX12_movesFrom : ByteArray := prog_14_method_98_code
def yX12_movesFrom : MethodName := ⟨RX12, "movesFrom", "(I)V"⟩
abbrev cX12_isOnWay : ByteArray := prog_14_method_99_code
def yX12_isOnWay : MethodName := ⟨RX12, "isOnWay", "(I)Z"⟩
abbrev cX12_depthOf : ByteArray := prog_14_method_100_code
def yX12_depthOf : MethodName := ⟨RX12, "depthOf", "(I)I"⟩
abbrev cX12_seekKey : ByteArray := prog_14_method_101_code
def yX12_seekKey : MethodName := ⟨RX12, "seekKey", "(II)Z"⟩
abbrev cX12_localityFor : ByteArray := prog_14_method_102_code
def yX12_localityFor : MethodName := ⟨RX12, "localityFor", "(I)I"⟩
abbrev cX12_seek : ByteArray := prog_14_method_103_code
def yX12_seek : MethodName := ⟨RX12, "seek", "(I)Z"⟩
abbrev cX12_reach : ByteArray := prog_14_method_104_code
def yX12_reach : MethodName := ⟨RX12, "reach", "(II)I"⟩
abbrev cX12_foreseen : ByteArray := prog_14_method_105_code
def yX12_foreseen : MethodName := ⟨RX12, "foreseen", "(I)I"⟩
abbrev cX12_audit : ByteArray := prog_14_method_106_code
def yX12_audit : MethodName := ⟨RX12, "audit", "(I)I"⟩
abbrev cX12_guess : ByteArray := prog_14_method_107_code
def yX12_guess : MethodName := ⟨RX12, "guess", "(III)I"⟩
abbrev cX12_orphans : ByteArray := prog_14_method_108_code
def yX12_orphans : MethodName := ⟨RX12, "orphans", "()I"⟩
abbrev cX12_above : ByteArray := prog_14_method_109_code
def yX12_above : MethodName := ⟨RX12, "above", "(I)I"⟩
abbrev cX12_sealsBelow : ByteArray := prog_14_method_110_code
def yX12_sealsBelow : MethodName := ⟨RX12, "sealsBelow", "(I)I"⟩
abbrev cX12_ofKey : ByteArray := prog_14_method_111_code
def yX12_ofKey : MethodName := ⟨RX12, "ofKey", "(II)I"⟩
abbrev cX12_of : ByteArray := prog_14_method_112_code
def yX12_of : MethodName := ⟨RX12, "of", "(II)I"⟩
abbrev cX12_ageOf : ByteArray := prog_14_method_113_code
def yX12_ageOf : MethodName := ⟨RX12, "ageOf", "(I)I"⟩
abbrev cX12_age : ByteArray := prog_14_method_114_code
def yX12_age : MethodName := ⟨RX12, "age", "(I)I"⟩
abbrev cX12_fresh : ByteArray := prog_14_method_115_code
def yX12_fresh : MethodName := ⟨RX12, "fresh", "(II)I"⟩
abbrev cX12_mean : ByteArray := prog_14_method_116_code
def yX12_mean : MethodName := ⟨RX12, "mean", "()J"⟩
abbrev cX12_locked : ByteArray := prog_14_method_117_code
def yX12_locked : MethodName := ⟨RX12, "locked", "()I"⟩
abbrev cX12_slotBits : ByteArray := prog_14_method_118_code
def yX12_slotBits : MethodName := ⟨RX12, "slotBits", "()I"⟩
abbrev cX12_openBits : ByteArray := prog_14_method_119_code
def yX12_openBits : MethodName := ⟨RX12, "openBits", "()I"⟩
abbrev cX12_counts : ByteArray := prog_14_method_120_code
def yX12_counts : MethodName := ⟨RX12, "counts", "(I)I"⟩
abbrev cX12_status : ByteArray := prog_14_method_121_code
def yX12_status : MethodName := ⟨RX12, "status", "()I"⟩
def RJxe99ae : String := "java/lang/Double"
abbrev cJxe99ae_isNaN_b9ae7 : ByteArray := prog_15_method_6_code
def yJxe99ae_isNaN_b9ae7 : MethodName := ⟨RJxe99ae, "isNaN", "(D)Z"⟩
abbrev cJxe99ae_doubleToLongBits_ccdee : ByteArray := prog_15_method_23_code
def yJxe99ae_doubleToLongBits_ccdee : MethodName := ⟨RJxe99ae, "doubleToLongBits", "(D)J"⟩
def RJxf58ca : String := "java/lang/Float"
abbrev cJxf58ca_isNaN_12338 : ByteArray := prog_16_method_6_code
def yJxf58ca_isNaN_12338 : MethodName := ⟨RJxf58ca, "isNaN", "(F)Z"⟩
abbrev cJxf58ca_floatToIntBits_5c35a : ByteArray := prog_16_method_24_code
def yJxf58ca_floatToIntBits_5c35a : MethodName := ⟨RJxf58ca, "floatToIntBits", "(F)I"⟩
def RJ6 : String := "java/lang/Integer"
abbrev cJ6_bitCount_0f7a4 : ByteArray := prog_17_method_49_code
def yJ6_bitCount_0f7a4 : MethodName := ⟨RJ6, "bitCount", "(I)I"⟩
def RJ9 : String := "java/lang/Math"
abbrev cJ9_max_7cf53 : ByteArray := prog_18_method_65_code
def yJ9_max_7cf53 : MethodName := ⟨RJ9, "max", "(II)I"⟩
abbrev cJ9_min_7cf53 : ByteArray := prog_18_method_69_code
def yJ9_min_7cf53 : MethodName := ⟨RJ9, "min", "(II)I"⟩
def RJ10 : String := "java/lang/System"
def RL : String := "StartLedgerLaw"
abbrev cL_law : ByteArray := code
def yL_law : MethodName := ⟨RL, "law", "([I)Z"⟩
abbrev vwCl : List vw_C := [(RX0, TX0, 6), (RX1, TX1, 3), (RX2, TX2, 6), (RX3, TX3, 9), (RX4, TX4, 10), (RX6, TX6, 9), (RX7, TX7, 2), (RX8, TX8, 4), (RX9, TX9, 4), (RX10, TX10, 7), (RX11, TX11, 7), (RX12, TX12, 34)]
/-- the words that stay as the tables warm -/
def lw_gd : List Cond := lw_tbl.filter goodWord
/-- every class of the worlds: its fields' words are among the tables', its descriptors can be read, its names differ -/
def zCls (C : String) (T : u_T) (N : Nat) : Prop := (∀ w ∈ u_ws C T N, w ∈ lw_gd) ∧ (∃ ty : Nat → FieldType, ∀ k, k < N → parseFieldDescriptor (T k).2.2.1 = some (ty k)) ∧ ∀ a, a < N → ∀ b, b < N → a ≠ b → (T a).2.1 ≠ (T b).2.1
theorem zinX0 : ∀ w ∈ u_ws RX0 TX0 6, w ∈ lw_gd := by
  intro w hw
  have hg : (u_ws RX0 TX0 6).all goodWord = true := by decide +kernel
  have hw1 := List.all_eq_true.mp hg w hw
  have h : u_ws RX0 TX0 6 = ([129, 131, 133, 135, 137, 139] : List Nat).filterMap (fun i => lw_tbl[i]?) := by decide +kernel
  rw [h] at hw
  obtain ⟨i, -, hi⟩ := List.mem_filterMap.mp hw
  exact List.mem_filter.mpr ⟨List.mem_of_getElem? hi, hw1⟩
theorem zinX1 : ∀ w ∈ u_ws RX1 TX1 3, w ∈ lw_gd := by
  intro w hw
  have hg : (u_ws RX1 TX1 3).all goodWord = true := by decide +kernel
  have hw1 := List.all_eq_true.mp hg w hw
  have h : u_ws RX1 TX1 3 = ([157, 159, 161] : List Nat).filterMap (fun i => lw_tbl[i]?) := by decide +kernel
  rw [h] at hw
  obtain ⟨i, -, hi⟩ := List.mem_filterMap.mp hw
  exact List.mem_filter.mpr ⟨List.mem_of_getElem? hi, hw1⟩
theorem zinX2 : ∀ w ∈ u_ws RX2 TX2 6, w ∈ lw_gd := by
  intro w hw
  have hg : (u_ws RX2 TX2 6).all goodWord = true := by decide +kernel
  have hw1 := List.all_eq_true.mp hg w hw
  have h : u_ws RX2 TX2 6 = ([404, 406, 408, 410, 412, 414] : List Nat).filterMap (fun i => lw_tbl[i]?) := by decide +kernel
  rw [h] at hw
  obtain ⟨i, -, hi⟩ := List.mem_filterMap.mp hw
  exact List.mem_filter.mpr ⟨List.mem_of_getElem? hi, hw1⟩
theorem zinX3 : ∀ w ∈ u_ws RX3 TX3 9, w ∈ lw_gd := by
  intro w hw
  have hg : (u_ws RX3 TX3 9).all goodWord = true := by decide +kernel
  have hw1 := List.all_eq_true.mp hg w hw
  have h : u_ws RX3 TX3 9 = ([352, 354, 356, 358, 360, 362, 364, 366, 368] : List Nat).filterMap (fun i => lw_tbl[i]?) := by decide +kernel
  rw [h] at hw
  obtain ⟨i, -, hi⟩ := List.mem_filterMap.mp hw
  exact List.mem_filter.mpr ⟨List.mem_of_getElem? hi, hw1⟩
theorem zinX4 : ∀ w ∈ u_ws RX4 TX4 10, w ∈ lw_gd := by
  intro w hw
  have hg : (u_ws RX4 TX4 10).all goodWord = true := by decide +kernel
  have hw1 := List.all_eq_true.mp hg w hw
  have h : u_ws RX4 TX4 10 = ([186, 188, 190, 192, 194, 196, 198, 200, 202, 204] : List Nat).filterMap (fun i => lw_tbl[i]?) := by decide +kernel
  rw [h] at hw
  obtain ⟨i, -, hi⟩ := List.mem_filterMap.mp hw
  exact List.mem_filter.mpr ⟨List.mem_of_getElem? hi, hw1⟩
theorem zinX6 : ∀ w ∈ u_ws RX6 TX6 9, w ∈ lw_gd := by
  intro w hw
  have hg : (u_ws RX6 TX6 9).all goodWord = true := by decide +kernel
  have hw1 := List.all_eq_true.mp hg w hw
  have h : u_ws RX6 TX6 9 = ([235, 237, 239, 241, 243, 245, 247, 249, 251] : List Nat).filterMap (fun i => lw_tbl[i]?) := by decide +kernel
  rw [h] at hw
  obtain ⟨i, -, hi⟩ := List.mem_filterMap.mp hw
  exact List.mem_filter.mpr ⟨List.mem_of_getElem? hi, hw1⟩
theorem zinX7 : ∀ w ∈ u_ws RX7 TX7 2, w ∈ lw_gd := by
  intro w hw
  have hg : (u_ws RX7 TX7 2).all goodWord = true := by decide +kernel
  have hw1 := List.all_eq_true.mp hg w hw
  have h : u_ws RX7 TX7 2 = ([382, 384] : List Nat).filterMap (fun i => lw_tbl[i]?) := by decide +kernel
  rw [h] at hw
  obtain ⟨i, -, hi⟩ := List.mem_filterMap.mp hw
  exact List.mem_filter.mpr ⟨List.mem_of_getElem? hi, hw1⟩
theorem zinX8 : ∀ w ∈ u_ws RX8 TX8 4, w ∈ lw_gd := by
  intro w hw
  have hg : (u_ws RX8 TX8 4).all goodWord = true := by decide +kernel
  have hw1 := List.all_eq_true.mp hg w hw
  have h : u_ws RX8 TX8 4 = ([268, 270, 272, 274] : List Nat).filterMap (fun i => lw_tbl[i]?) := by decide +kernel
  rw [h] at hw
  obtain ⟨i, -, hi⟩ := List.mem_filterMap.mp hw
  exact List.mem_filter.mpr ⟨List.mem_of_getElem? hi, hw1⟩
theorem zinX9 : ∀ w ∈ u_ws RX9 TX9 4, w ∈ lw_gd := by
  intro w hw
  have hg : (u_ws RX9 TX9 4).all goodWord = true := by decide +kernel
  have hw1 := List.all_eq_true.mp hg w hw
  have h : u_ws RX9 TX9 4 = ([291, 293, 295, 297] : List Nat).filterMap (fun i => lw_tbl[i]?) := by decide +kernel
  rw [h] at hw
  obtain ⟨i, -, hi⟩ := List.mem_filterMap.mp hw
  exact List.mem_filter.mpr ⟨List.mem_of_getElem? hi, hw1⟩
theorem zinX10 : ∀ w ∈ u_ws RX10 TX10 7, w ∈ lw_gd := by
  intro w hw
  have hg : (u_ws RX10 TX10 7).all goodWord = true := by decide +kernel
  have hw1 := List.all_eq_true.mp hg w hw
  have h : u_ws RX10 TX10 7 = ([317, 319, 321, 323, 325, 327, 329] : List Nat).filterMap (fun i => lw_tbl[i]?) := by decide +kernel
  rw [h] at hw
  obtain ⟨i, -, hi⟩ := List.mem_filterMap.mp hw
  exact List.mem_filter.mpr ⟨List.mem_of_getElem? hi, hw1⟩
theorem zinX11 : ∀ w ∈ u_ws RX11 TX11 7, w ∈ lw_gd := by
  intro w hw
  have hg : (u_ws RX11 TX11 7).all goodWord = true := by decide +kernel
  have hw1 := List.all_eq_true.mp hg w hw
  have h : u_ws RX11 TX11 7 = ([424, 426, 428, 430, 432, 434, 436] : List Nat).filterMap (fun i => lw_tbl[i]?) := by decide +kernel
  rw [h] at hw
  obtain ⟨i, -, hi⟩ := List.mem_filterMap.mp hw
  exact List.mem_filter.mpr ⟨List.mem_of_getElem? hi, hw1⟩
theorem zinX12 : ∀ w ∈ u_ws RX12 TX12 34, w ∈ lw_gd := by
  intro w hw
  have hg : (u_ws RX12 TX12 34).all goodWord = true := by decide +kernel
  have hw1 := List.all_eq_true.mp hg w hw
  have h : u_ws RX12 TX12 34 = ([1224, 1226, 1228, 1230, 1232, 1234, 1236, 1238, 1240, 1242, 1244, 1246, 1248, 1250, 1252, 1254, 1256, 1258, 1260, 1262, 1264, 1266, 1268, 1270, 1272, 1274, 1276, 1278, 1280, 1282, 1284, 1286, 1288, 1290] : List Nat).filterMap (fun i => lw_tbl[i]?) := by decide +kernel
  rw [h] at hw
  obtain ⟨i, -, hi⟩ := List.mem_filterMap.mp hw
  exact List.mem_filter.mpr ⟨List.mem_of_getElem? hi, hw1⟩
theorem zCls_all : ∀ (c : Nat) (C : String) (T : u_T) (N : Nat), vwCl[c]? = some (C, T, N) → zCls C T N := by
  intro c C T N h
  match c, h with
  | 0, h => cases h; exact ⟨zinX0, ⟨tyX0, tyX0_ok⟩, nmX0⟩
  | 1, h => cases h; exact ⟨zinX1, ⟨tyX1, tyX1_ok⟩, nmX1⟩
  | 2, h => cases h; exact ⟨zinX2, ⟨tyX2, tyX2_ok⟩, nmX2⟩
  | 3, h => cases h; exact ⟨zinX3, ⟨tyX3, tyX3_ok⟩, nmX3⟩
  | 4, h => cases h; exact ⟨zinX4, ⟨tyX4, tyX4_ok⟩, nmX4⟩
  | 5, h => cases h; exact ⟨zinX6, ⟨tyX6, tyX6_ok⟩, nmX6⟩
  | 6, h => cases h; exact ⟨zinX7, ⟨tyX7, tyX7_ok⟩, nmX7⟩
  | 7, h => cases h; exact ⟨zinX8, ⟨tyX8, tyX8_ok⟩, nmX8⟩
  | 8, h => cases h; exact ⟨zinX9, ⟨tyX9, tyX9_ok⟩, nmX9⟩
  | 9, h => cases h; exact ⟨zinX10, ⟨tyX10, tyX10_ok⟩, nmX10⟩
  | 10, h => cases h; exact ⟨zinX11, ⟨tyX11, tyX11_ok⟩, nmX11⟩
  | 11, h => cases h; exact ⟨zinX12, ⟨tyX12, tyX12_ok⟩, nmX12⟩
  | j + 12, h => simp [vwCl] at h
/-- the calls of a nest mate's private methods -/
def zNst : List (String × Nat × MethodName × String) := [("StartLedger", 9, ⟨"StartLedger$State", "<init>", "()V"⟩, "StartLedger"), ("StartLedger$State", 20, ⟨"StartLedger$Entries", "<init>", "()V"⟩, "StartLedger"), ("StartLedger$State", 37, ⟨"StartLedger$Policies", "<init>", "()V"⟩, "StartLedger"), ("StartLedger$State", 44, ⟨"StartLedger$Seals", "<init>", "()V"⟩, "StartLedger"), ("StartLedger", 21, ⟨"StartLedger$Judge", "<init>", "()V"⟩, "StartLedger"), ("StartLedger", 28, ⟨"StartLedger$Route", "<init>", "()V"⟩, "StartLedger"), ("StartLedger$History", 28, ⟨"StartLedger$State", "<init>", "()V"⟩, "StartLedger"), ("StartLedger$Board", 42, ⟨"StartLedger", "isRegister", "(I)Z"⟩, "StartLedger"), ("StartLedger$Judge", 143, ⟨"StartLedger", "isRegister", "(I)Z"⟩, "StartLedger"), ("StartLedger$History", 46, ⟨"StartLedger", "isImage", "(I)Z"⟩, "StartLedger")]
def NstOK (U : State) : Prop := ∀ q ∈ zNst, va_Nw (.methodLinkNest q.1 q.2.1 q.2.2.1 q.2.2.2) U
theorem NstOK.warm {s U : State} (hW : s.WarmedH U.vm) (h : NstOK s) : NstOK U := fun q hq => va_Nw.warmM hW (h q hq)
theorem NstOK.same {s U : State} (hW : s.vm = U.vm) (h : NstOK s) : NstOK U := fun q hq => va_Nw.same rfl hW (h q hq)
theorem NstOK.of {s : State} {args : Array Value} (hts : ∀ w ∈ lw_tbl, w.before args s = true) : NstOK s := by
  intro q hq
  have h : zNst.map (fun q => Cond.methodLinkNest q.1 q.2.1 q.2.2.1 q.2.2.2) = ([104, 145, 209, 256, 334, 374, 395, 553, 838, 917] : List Nat).filterMap (fun i => lw_tbl[i]?) := by decide +kernel
  have hm : Cond.methodLinkNest q.1 q.2.1 q.2.2.1 q.2.2.2 ∈ zNst.map (fun q => Cond.methodLinkNest q.1 q.2.1 q.2.2.1 q.2.2.2) := List.mem_map.mpr ⟨q, hq, rfl⟩
  rw [h] at hm
  obtain ⟨i, -, hi⟩ := List.mem_filterMap.mp hm
  exact va_Nw.of rfl (hts _ (List.mem_of_getElem? hi))
