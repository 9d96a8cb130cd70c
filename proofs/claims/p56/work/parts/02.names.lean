def RX0 : String := "FrogParliament$1"
def TX0 : u_T := fun k => match k with
  | _ => ("", "", "", false)
def tyX0 : Nat → FieldType := fun k => match k with
  | _ => .int
abbrev wsX00 : List Cond := u_ws RX0 TX0 0
theorem nmX0 : ∀ a, a < 0 → ∀ b, b < 0 → a ≠ b → (TX0 a).2.1 ≠ (TX0 b).2.1 := by decide +kernel
theorem tyX0_ok : ∀ k, k < 0 → parseFieldDescriptor (TX0 k).2.2.1 = some (tyX0 k) := by decide +kernel
def RX1 : String := "FrogParliament$Action"
def TX1 : u_T := fun k => match k with
  | _ => ("", "", "", false)
def tyX1 : Nat → FieldType := fun k => match k with
  | _ => .int
abbrev wsX10 : List Cond := u_ws RX1 TX1 0
theorem nmX1 : ∀ a, a < 0 → ∀ b, b < 0 → a ≠ b → (TX1 a).2.1 ≠ (TX1 b).2.1 := by decide +kernel
theorem tyX1_ok : ∀ k, k < 0 → parseFieldDescriptor (TX1 k).2.2.1 = some (tyX1 k) := by decide +kernel
def RX2 : String := "FrogParliament$Assembly"
def TX2 : u_T := fun k => match k with
  | 0 => ("FrogParliament$Assembly", "frogs", "I", false)
  | 1 => ("FrogParliament$Assembly", "ponds", "[I", true)
  | 2 => ("FrogParliament$Assembly", "weights", "[I", true)
  | 3 => ("FrogParliament$Assembly", "seats", "[I", true)
  | 4 => ("FrogParliament$Assembly", "speechesBy", "[I", true)
  | 5 => ("FrogParliament$Assembly", "sitting", "I", false)
  | 6 => ("FrogParliament$Assembly", "pads", "I", false)
  | 7 => ("FrogParliament$Assembly", "capacities", "[I", true)
  | 8 => ("FrogParliament$Assembly", "motionsMade", "I", false)
  | 9 => ("FrogParliament$Assembly", "motions", "[LFrogParliament$Motion;", true)
  | 10 => ("FrogParliament$Assembly", "speechesMade", "I", false)
  | _ => ("FrogParliament$Assembly", "turnsMissed", "I", false)
def tyX2 : Nat → FieldType := fun k => match k with
  | 0 => .int
  | 1 => .array .int
  | 2 => .array .int
  | 3 => .array .int
  | 4 => .array .int
  | 5 => .int
  | 6 => .int
  | 7 => .array .int
  | 8 => .int
  | 9 => .array (.object "FrogParliament$Motion")
  | 10 => .int
  | _ => .int
abbrev wsX20 : List Cond := u_ws RX2 TX2 12
theorem nmX2 : ∀ a, a < 12 → ∀ b, b < 12 → a ≠ b → (TX2 a).2.1 ≠ (TX2 b).2.1 := by decide +kernel
theorem tyX2_ok : ∀ k, k < 12 → parseFieldDescriptor (TX2 k).2.2.1 = some (tyX2 k) := by decide +kernel
abbrev cX2_init : ByteArray := prog_4_method_1_code
def yX2_init : MethodName := ⟨RX2, "<init>", "()V"⟩
abbrev cX2_copyFrom : ByteArray := prog_4_method_2_code
def yX2_copyFrom : MethodName := ⟨RX2, "copyFrom", "(LFrogParliament$Assembly;)V"⟩
abbrev cX2_hasFrog : ByteArray := prog_4_method_3_code
def yX2_hasFrog : MethodName := ⟨RX2, "hasFrog", "(I)Z"⟩
abbrev cX2_hasPad : ByteArray := prog_4_method_4_code
def yX2_hasPad : MethodName := ⟨RX2, "hasPad", "(I)Z"⟩
abbrev cX2_hasMotion : ByteArray := prog_4_method_5_code
def yX2_hasMotion : MethodName := ⟨RX2, "hasMotion", "(I)Z"⟩
abbrev cX2_refusalOfPair : ByteArray := prog_4_method_6_code
def yX2_refusalOfPair : MethodName := ⟨RX2, "refusalOfPair", "(II)LFrogParliament$Refusal;"⟩
abbrev cX2_refusalToAdmit : ByteArray := prog_4_method_7_code
def yX2_refusalToAdmit : MethodName := ⟨RX2, "refusalToAdmit", "(II)LFrogParliament$Refusal;"⟩
abbrev cX2_admit : ByteArray := prog_4_method_8_code
def yX2_admit : MethodName := ⟨RX2, "\x61dmit", "(II)I"⟩
abbrev cX2_refusalToLay : ByteArray := prog_4_method_9_code
def yX2_refusalToLay : MethodName := ⟨RX2, "refusalToLay", "(I)LFrogParliament$Refusal;"⟩
abbrev cX2_lay : ByteArray := prog_4_method_10_code
def yX2_lay : MethodName := ⟨RX2, "lay", "(I)I"⟩
abbrev cX2_refusalToSeat : ByteArray := prog_4_method_11_code
def yX2_refusalToSeat : MethodName := ⟨RX2, "refusalToSeat", "(II)LFrogParliament$Refusal;"⟩
abbrev cX2_seat : ByteArray := prog_4_method_12_code
def yX2_seat : MethodName := ⟨RX2, "seat", "(II)I"⟩
abbrev cX2_refusalToUnseat : ByteArray := prog_4_method_13_code
def yX2_refusalToUnseat : MethodName := ⟨RX2, "refusalToUnseat", "(I)LFrogParliament$Refusal;"⟩
abbrev cX2_unseat : ByteArray := prog_4_method_14_code
def yX2_unseat : MethodName := ⟨RX2, "unseat", "(I)I"⟩
abbrev cX2_sits : ByteArray := prog_4_method_15_code
def yX2_sits : MethodName := ⟨RX2, "sits", "(I)Z"⟩
abbrev cX2_sittersOf : ByteArray := prog_4_method_16_code
def yX2_sittersOf : MethodName := ⟨RX2, "sittersOf", "(I)I"⟩
abbrev cX2_countOn : ByteArray := prog_4_method_17_code
def yX2_countOn : MethodName := ⟨RX2, "countOn", "(I)I"⟩
abbrev cX2_weightOfSet : ByteArray := prog_4_method_18_code
def yX2_weightOfSet : MethodName := ⟨RX2, "weightOfSet", "(I)I"⟩
abbrev cX2_refusalToPropose : ByteArray := prog_4_method_19_code
def yX2_refusalToPropose : MethodName := ⟨RX2, "refusalToPropose", "(I)LFrogParliament$Refusal;"⟩
abbrev cX2_propose : ByteArray := prog_4_method_20_code
def yX2_propose : MethodName := ⟨RX2, "propose", "(I)I"⟩
abbrev cX2_entitles : ByteArray := prog_4_method_21_code
def yX2_entitles : MethodName := ⟨RX2, "entitles", "(II)Z"⟩
abbrev cX2_entitledTo : ByteArray := prog_4_method_22_code
def yX2_entitledTo : MethodName := ⟨RX2, "entitledTo", "(I)I"⟩
abbrev cX2_refusalWhileListOpen : ByteArray := prog_4_method_23_code
def yX2_refusalWhileListOpen : MethodName := ⟨RX2, "refusalWhileListOpen", "(II)LFrogParliament$Refusal;"⟩
abbrev cX2_refusalToEnlist : ByteArray := prog_4_method_24_code
def yX2_refusalToEnlist : MethodName := ⟨RX2, "refusalToEnlist", "(II)LFrogParliament$Refusal;"⟩
abbrev cX2_enlist : ByteArray := prog_4_method_25_code
def yX2_enlist : MethodName := ⟨RX2, "enlist", "(II)I"⟩
abbrev cX2_refusalToUnlist : ByteArray := prog_4_method_26_code
def yX2_refusalToUnlist : MethodName := ⟨RX2, "refusalToUnlist", "(II)LFrogParliament$Refusal;"⟩
abbrev cX2_unlist : ByteArray := prog_4_method_27_code
def yX2_unlist : MethodName := ⟨RX2, "unlist", "(II)I"⟩
abbrev cX2_refusalToCall : ByteArray := prog_4_method_28_code
def yX2_refusalToCall : MethodName := ⟨RX2, "refusalToCall", "(I)LFrogParliament$Refusal;"⟩
abbrev cX2_callFirst : ByteArray := prog_4_method_29_code
def yX2_callFirst : MethodName := ⟨RX2, "callFirst", "(I)Z"⟩
abbrev cX2_firstPlace : ByteArray := prog_4_method_30_code
def yX2_firstPlace : MethodName := ⟨RX2, "firstPlace", "(I)I"⟩
abbrev cX2_isCalledBefore : ByteArray := prog_4_method_31_code
def yX2_isCalledBefore : MethodName := ⟨RX2, "isCalledBefore", "(LFrogParliament$Motion;II)Z"⟩
abbrev cX2_countRankedBefore : ByteArray := prog_4_method_32_code
def yX2_countRankedBefore : MethodName := ⟨RX2, "countRankedBefore", "(I)I"⟩
abbrev cX2_isRankedBefore : ByteArray := prog_4_method_33_code
def yX2_isRankedBefore : MethodName := ⟨RX2, "isRankedBefore", "(II)Z"⟩
abbrev cX2_refusalToSupport : ByteArray := prog_4_method_34_code
def yX2_refusalToSupport : MethodName := ⟨RX2, "refusalToSupport", "(II)LFrogParliament$Refusal;"⟩
abbrev cX2_support : ByteArray := prog_4_method_35_code
def yX2_support : MethodName := ⟨RX2, "support", "(II)Z"⟩
abbrev cX2_refusalToHear : ByteArray := prog_4_method_36_code
def yX2_refusalToHear : MethodName := ⟨RX2, "refusalToHear", "(III)LFrogParliament$Refusal;"⟩
abbrev cX2_hear : ByteArray := prog_4_method_37_code
def yX2_hear : MethodName := ⟨RX2, "hear", "(IIIZ)I"⟩
abbrev cX2_sumForFromPond : ByteArray := prog_4_method_38_code
def yX2_sumForFromPond : MethodName := ⟨RX2, "sumForFromPond", "(II)I"⟩
abbrev cX2_refusalToSettle : ByteArray := prog_4_method_39_code
def yX2_refusalToSettle : MethodName := ⟨RX2, "refusalToSettle", "(I)LFrogParliament$Refusal;"⟩
abbrev cX2_settle : ByteArray := prog_4_method_40_code
def yX2_settle : MethodName := ⟨RX2, "settle", "(I)Z"⟩
abbrev cX2_refusalOf : ByteArray := prog_4_method_41_code
def yX2_refusalOf : MethodName := ⟨RX2, "refusalOf", "(LFrogParliament$Command;)LFrogParliament$Refusal;"⟩
abbrev cX2_carryOut : ByteArray := prog_4_method_42_code
def yX2_carryOut : MethodName := ⟨RX2, "carryOut", "(LFrogParliament$Command;)V"⟩
def RX3 : String := "FrogParliament$Command"
def TX3 : u_T := fun k => match k with
  | 0 => ("FrogParliament$Command", "action", "LFrogParliament$Action;", false)
  | 1 => ("FrogParliament$Command", "numbers", "[I", true)
  | _ => ("FrogParliament$Command", "count", "I", false)
def tyX3 : Nat → FieldType := fun k => match k with
  | 0 => .object "FrogParliament$Action"
  | 1 => .array .int
  | _ => .int
abbrev wsX30 : List Cond := u_ws RX3 TX3 3
theorem nmX3 : ∀ a, a < 3 → ∀ b, b < 3 → a ≠ b → (TX3 a).2.1 ≠ (TX3 b).2.1 := by decide +kernel
theorem tyX3_ok : ∀ k, k < 3 → parseFieldDescriptor (TX3 k).2.2.1 = some (tyX3 k) := by decide +kernel
abbrev cX3_init : ByteArray := prog_5_method_1_code
def yX3_init : MethodName := ⟨RX3, "<init>", "()V"⟩
abbrev cX3_addNumber : ByteArray := prog_5_method_2_code
def yX3_addNumber : MethodName := ⟨RX3, "addNumber", "(I)V"⟩
def RX4 : String := "FrogParliament$CommandReader"
def TX4 : u_T := fun k => match k with
  | 0 => ("FrogParliament$CommandReader", "commands", "[LFrogParliament$Command;", true)
  | 1 => ("FrogParliament$CommandReader", "count", "I", false)
  | _ => ("FrogParliament$CommandReader", "position", "I", false)
def tyX4 : Nat → FieldType := fun k => match k with
  | 0 => .array (.object "FrogParliament$Command")
  | 1 => .int
  | _ => .int
abbrev wsX40 : List Cond := u_ws RX4 TX4 3
theorem nmX4 : ∀ a, a < 3 → ∀ b, b < 3 → a ≠ b → (TX4 a).2.1 ≠ (TX4 b).2.1 := by decide +kernel
theorem tyX4_ok : ∀ k, k < 3 → parseFieldDescriptor (TX4 k).2.2.1 = some (tyX4 k) := by decide +kernel
abbrev cX4_init : ByteArray := prog_6_method_1_code
def yX4_init : MethodName := ⟨RX4, "<init>", "()V"⟩
abbrev cX4_read : ByteArray := prog_6_method_2_code
def yX4_read : MethodName := ⟨RX4, "read", "(Ljava/lang/StringBuilder;)Z"⟩
abbrev cX4_readCommand : ByteArray := prog_6_method_3_code
def yX4_readCommand : MethodName := ⟨RX4, "readCommand", "(Ljava/lang/StringBuilder;LFrogParliament$Command;)Z"⟩
abbrev cX4_readForm : ByteArray := prog_6_method_4_code
def yX4_readForm : MethodName := ⟨RX4, "readForm", "(Ljava/lang/StringBuilder;LFrogParliament$Command;)Z"⟩
abbrev cX4_readNumber : ByteArray := prog_6_method_5_code
def yX4_readNumber : MethodName := ⟨RX4, "readNumber", "(Ljava/lang/StringBuilder;ILFrogParliament$Command;)Z"⟩
abbrev cX4_readSign : ByteArray := prog_6_method_6_code
def yX4_readSign : MethodName := ⟨RX4, "readSign", "(Ljava/lang/StringBuilder;LFrogParliament$Command;)Z"⟩
abbrev cX4_readCharacter : ByteArray := prog_6_method_7_code
def yX4_readCharacter : MethodName := ⟨RX4, "readCharacter", "(Ljava/lang/StringBuilder;C)Z"⟩
abbrev cX4_charAtPosition : ByteArray := prog_6_method_8_code
def yX4_charAtPosition : MethodName := ⟨RX4, "charAtPosition", "(Ljava/lang/StringBuilder;)C"⟩
abbrev cX4_isDigit : ByteArray := prog_6_method_9_code
def yX4_isDigit : MethodName := ⟨RX4, "isDigit", "(C)Z"⟩
def RX5 : String := "FrogParliament$History"
def TX5 : u_T := fun k => match k with
  | 0 => ("FrogParliament$History", "states", "[LFrogParliament$Assembly;", true)
  | 1 => ("FrogParliament$History", "next", "I", false)
  | _ => ("FrogParliament$History", "size", "I", false)
def tyX5 : Nat → FieldType := fun k => match k with
  | 0 => .array (.object "FrogParliament$Assembly")
  | 1 => .int
  | _ => .int
abbrev wsX50 : List Cond := u_ws RX5 TX5 3
theorem nmX5 : ∀ a, a < 3 → ∀ b, b < 3 → a ≠ b → (TX5 a).2.1 ≠ (TX5 b).2.1 := by decide +kernel
theorem tyX5_ok : ∀ k, k < 3 → parseFieldDescriptor (TX5 k).2.2.1 = some (tyX5 k) := by decide +kernel
abbrev cX5_init : ByteArray := prog_7_method_1_code
def yX5_init : MethodName := ⟨RX5, "<init>", "()V"⟩
abbrev cX5_push : ByteArray := prog_7_method_2_code
def yX5_push : MethodName := ⟨RX5, "push", "(LFrogParliament$Assembly;)V"⟩
abbrev cX5_pop : ByteArray := prog_7_method_3_code
def yX5_pop : MethodName := ⟨RX5, "pop", "(LFrogParliament$Assembly;)V"⟩
abbrev cX5_forget : ByteArray := prog_7_method_4_code
def yX5_forget : MethodName := ⟨RX5, "forget", "()V"⟩
def RX6 : String := "FrogParliament$Motion"
def TX6 : u_T := fun k => match k with
  | 0 => ("FrogParliament$Motion", "mask", "I", false)
  | 1 => ("FrogParliament$Motion", "list", "[I", true)
  | 2 => ("FrogParliament$Motion", "listed", "I", false)
  | 3 => ("FrogParliament$Motion", "closed", "Z", false)
  | 4 => ("FrogParliament$Motion", "supporters", "I", false)
  | 5 => ("FrogParliament$Motion", "croakers", "[I", true)
  | 6 => ("FrogParliament$Motion", "strengths", "[I", true)
  | 7 => ("FrogParliament$Motion", "croaks", "I", false)
  | 8 => ("FrogParliament$Motion", "inFavour", "I", false)
  | 9 => ("FrogParliament$Motion", "decided", "Z", false)
  | 10 => ("FrogParliament$Motion", "adopted", "Z", false)
  | _ => ("FrogParliament$Motion", "spoken", "I", false)
def tyX6 : Nat → FieldType := fun k => match k with
  | 0 => .int
  | 1 => .array .int
  | 2 => .int
  | 3 => .boolean
  | 4 => .int
  | 5 => .array .int
  | 6 => .array .int
  | 7 => .int
  | 8 => .int
  | 9 => .boolean
  | 10 => .boolean
  | _ => .int
abbrev wsX60 : List Cond := u_ws RX6 TX6 12
theorem nmX6 : ∀ a, a < 12 → ∀ b, b < 12 → a ≠ b → (TX6 a).2.1 ≠ (TX6 b).2.1 := by decide +kernel
theorem tyX6_ok : ∀ k, k < 12 → parseFieldDescriptor (TX6 k).2.2.1 = some (tyX6 k) := by decide +kernel
abbrev cX6_init : ByteArray := prog_8_method_1_code
def yX6_init : MethodName := ⟨RX6, "<init>", "()V"⟩
abbrev cX6_copyFrom : ByteArray := prog_8_method_2_code
def yX6_copyFrom : MethodName := ⟨RX6, "copyFrom", "(LFrogParliament$Motion;)V"⟩
abbrev cX6_placeOf : ByteArray := prog_8_method_3_code
def yX6_placeOf : MethodName := ⟨RX6, "placeOf", "(I)I"⟩
abbrev cX6_addToList : ByteArray := prog_8_method_4_code
def yX6_addToList : MethodName := ⟨RX6, "addToList", "(I)V"⟩
abbrev cX6_clearPlace : ByteArray := prog_8_method_5_code
def yX6_clearPlace : MethodName := ⟨RX6, "clearPlace", "(I)V"⟩
abbrev cX6_addCroak : ByteArray := prog_8_method_6_code
def yX6_addCroak : MethodName := ⟨RX6, "addCroak", "(IIZ)V"⟩
abbrev cX6_hasCroakOf : ByteArray := prog_8_method_7_code
def yX6_hasCroakOf : MethodName := ⟨RX6, "hasCroakOf", "(I)Z"⟩
abbrev cX6_isFor : ByteArray := prog_8_method_8_code
def yX6_isFor : MethodName := ⟨RX6, "isFor", "(I)Z"⟩
abbrev cX6_sumOfSide : ByteArray := prog_8_method_9_code
def yX6_sumOfSide : MethodName := ⟨RX6, "sumOfSide", "(Z)I"⟩
def RX7 : String := "FrogParliament$Refusal"
def TX7 : u_T := fun k => match k with
  | _ => ("", "", "", false)
def tyX7 : Nat → FieldType := fun k => match k with
  | _ => .int
abbrev wsX70 : List Cond := u_ws RX7 TX7 0
theorem nmX7 : ∀ a, a < 0 → ∀ b, b < 0 → a ≠ b → (TX7 a).2.1 ≠ (TX7 b).2.1 := by decide +kernel
theorem tyX7_ok : ∀ k, k < 0 → parseFieldDescriptor (TX7 k).2.2.1 = some (tyX7 k) := by decide +kernel
def RX8 : String := "FrogParliament$SpeakerQueue"
def TX8 : u_T := fun k => match k with
  | 0 => ("FrogParliament$SpeakerQueue", "keys", "[I", true)
  | _ => ("FrogParliament$SpeakerQueue", "size", "I", false)
def tyX8 : Nat → FieldType := fun k => match k with
  | 0 => .array .int
  | _ => .int
abbrev wsX80 : List Cond := u_ws RX8 TX8 2
theorem nmX8 : ∀ a, a < 2 → ∀ b, b < 2 → a ≠ b → (TX8 a).2.1 ≠ (TX8 b).2.1 := by decide +kernel
theorem tyX8_ok : ∀ k, k < 2 → parseFieldDescriptor (TX8 k).2.2.1 = some (tyX8 k) := by decide +kernel
abbrev cX8_init : ByteArray := prog_10_method_1_code
def yX8_init : MethodName := ⟨RX8, "<init>", "()V"⟩
abbrev cX8_clear : ByteArray := prog_10_method_2_code
def yX8_clear : MethodName := ⟨RX8, "clear", "()V"⟩
abbrev cX8_put : ByteArray := prog_10_method_3_code
def yX8_put : MethodName := ⟨RX8, "put", "(III)V"⟩
abbrev cX8_takeFirst : ByteArray := prog_10_method_4_code
def yX8_takeFirst : MethodName := ⟨RX8, "takeFirst", "()I"⟩
abbrev cX8_lesserChild : ByteArray := prog_10_method_5_code
def yX8_lesserChild : MethodName := ⟨RX8, "lesserChild", "(I)I"⟩
def RX9 : String := "FrogParliament"
def TX9 : u_T := fun k => match k with
  | 0 => ("FrogParliament", "now", "LFrogParliament$Assembly;", true)
  | 1 => ("FrogParliament", "backup", "LFrogParliament$Assembly;", true)
  | 2 => ("FrogParliament", "snapshot", "LFrogParliament$Assembly;", true)
  | 3 => ("FrogParliament", "hasSnapshot", "Z", false)
  | 4 => ("FrogParliament", "history", "LFrogParliament$History;", true)
  | 5 => ("FrogParliament", "queue", "LFrogParliament$SpeakerQueue;", true)
  | 6 => ("FrogParliament", "reader", "LFrogParliament$CommandReader;", true)
  | 7 => ("FrogParliament", "text", "Ljava/lang/StringBuilder;", true)
  | 8 => ("FrogParliament", "line", "Ljava/lang/StringBuilder;", true)
  | 9 => ("FrogParliament", "lastErrorPosition", "I", false)
  | _ => ("FrogParliament", "lastFailedCommand", "I", false)
def tyX9 : Nat → FieldType := fun k => match k with
  | 0 => .object "FrogParliament$Assembly"
  | 1 => .object "FrogParliament$Assembly"
  | 2 => .object "FrogParliament$Assembly"
  | 3 => .boolean
  | 4 => .object "FrogParliament$History"
  | 5 => .object "FrogParliament$SpeakerQueue"
  | 6 => .object "FrogParliament$CommandReader"
  | 7 => .object "java/lang/StringBuilder"
  | 8 => .object "java/lang/StringBuilder"
  | 9 => .int
  | _ => .int
abbrev wsX90 : List Cond := u_ws RX9 TX9 11
theorem nmX9 : ∀ a, a < 11 → ∀ b, b < 11 → a ≠ b → (TX9 a).2.1 ≠ (TX9 b).2.1 := by decide +kernel
theorem tyX9_ok : ∀ k, k < 11 → parseFieldDescriptor (TX9 k).2.2.1 = some (tyX9 k) := by decide +kernel
abbrev cX9_init : ByteArray := prog_1_method_1_code
def yX9_init : MethodName := ⟨RX9, "<init>", "()V"⟩
abbrev cX9_addFrog : ByteArray := prog_1_method_2_code
def yX9_addFrog : MethodName := ⟨RX9, "addFrog", "(II)I"⟩
abbrev cX9_addPad : ByteArray := prog_1_method_3_code
def yX9_addPad : MethodName := ⟨RX9, "addPad", "(I)I"⟩
abbrev cX9_hop : ByteArray := prog_1_method_4_code
def yX9_hop : MethodName := ⟨RX9, "hop", "(II)I"⟩
abbrev cX9_dive : ByteArray := prog_1_method_5_code
def yX9_dive : MethodName := ⟨RX9, "dive", "(I)I"⟩
abbrev cX9_frogCount : ByteArray := prog_1_method_6_code
def yX9_frogCount : MethodName := ⟨RX9, "frogCount", "()I"⟩
abbrev cX9_pondOf : ByteArray := prog_1_method_7_code
def yX9_pondOf : MethodName := ⟨RX9, "pondOf", "(I)I"⟩
abbrev cX9_weightOf : ByteArray := prog_1_method_8_code
def yX9_weightOf : MethodName := ⟨RX9, "weightOf", "(I)I"⟩
abbrev cX9_padOf : ByteArray := prog_1_method_9_code
def yX9_padOf : MethodName := ⟨RX9, "padOf", "(I)I"⟩
abbrev cX9_padCount : ByteArray := prog_1_method_10_code
def yX9_padCount : MethodName := ⟨RX9, "padCount", "()I"⟩
abbrev cX9_frogsOn : ByteArray := prog_1_method_11_code
def yX9_frogsOn : MethodName := ⟨RX9, "frogsOn", "(I)I"⟩
abbrev cX9_padWeight : ByteArray := prog_1_method_12_code
def yX9_padWeight : MethodName := ⟨RX9, "padWeight", "(I)I"⟩
abbrev cX9_sittingCount : ByteArray := prog_1_method_13_code
def yX9_sittingCount : MethodName := ⟨RX9, "sittingCount", "()I"⟩
abbrev cX9_sittingCountBySet : ByteArray := prog_1_method_14_code
def yX9_sittingCountBySet : MethodName := ⟨RX9, "sittingCountBySet", "()I"⟩
abbrev cX9_addMotion : ByteArray := prog_1_method_15_code
def yX9_addMotion : MethodName := ⟨RX9, "addMotion", "(I)I"⟩
abbrev cX9_motionCount : ByteArray := prog_1_method_16_code
def yX9_motionCount : MethodName := ⟨RX9, "motionCount", "()I"⟩
abbrev cX9_isEntitled : ByteArray := prog_1_method_17_code
def yX9_isEntitled : MethodName := ⟨RX9, "isEntitled", "(II)Z"⟩
abbrev cX9_signUp : ByteArray := prog_1_method_18_code
def yX9_signUp : MethodName := ⟨RX9, "signUp", "(II)I"⟩
abbrev cX9_strike : ByteArray := prog_1_method_19_code
def yX9_strike : MethodName := ⟨RX9, "strike", "(II)I"⟩
abbrev cX9_callNext : ByteArray := prog_1_method_20_code
def yX9_callNext : MethodName := ⟨RX9, "callNext", "(I)Z"⟩
abbrev cX9_listLength : ByteArray := prog_1_method_21_code
def yX9_listLength : MethodName := ⟨RX9, "listLength", "(I)I"⟩
abbrev cX9_nextFrog : ByteArray := prog_1_method_22_code
def yX9_nextFrog : MethodName := ⟨RX9, "nextFrog", "(I)I"⟩
abbrev cX9_nextFrogByScan : ByteArray := prog_1_method_23_code
def yX9_nextFrogByScan : MethodName := ⟨RX9, "nextFrogByScan", "(I)I"⟩
abbrev cX9_frogsBefore : ByteArray := prog_1_method_24_code
def yX9_frogsBefore : MethodName := ⟨RX9, "frogsBefore", "(II)I"⟩
abbrev cX9_speeches : ByteArray := prog_1_method_25_code
def yX9_speeches : MethodName := ⟨RX9, "speeches", "(I)I"⟩
abbrev cX9_speechesOn : ByteArray := prog_1_method_26_code
def yX9_speechesOn : MethodName := ⟨RX9, "speechesOn", "(I)I"⟩
abbrev cX9_frogAtRank : ByteArray := prog_1_method_27_code
def yX9_frogAtRank : MethodName := ⟨RX9, "frogAtRank", "(I)I"⟩
abbrev cX9_supportClosure : ByteArray := prog_1_method_28_code
def yX9_supportClosure : MethodName := ⟨RX9, "supportClosure", "(II)Z"⟩
abbrev cX9_isListClosed : ByteArray := prog_1_method_29_code
def yX9_isListClosed : MethodName := ⟨RX9, "isListClosed", "(I)Z"⟩
abbrev cX9_closureWeight : ByteArray := prog_1_method_30_code
def yX9_closureWeight : MethodName := ⟨RX9, "closureWeight", "(I)I"⟩
abbrev cX9_entitledWeight : ByteArray := prog_1_method_31_code
def yX9_entitledWeight : MethodName := ⟨RX9, "entitledWeight", "(I)I"⟩
abbrev cX9_croak : ByteArray := prog_1_method_32_code
def yX9_croak : MethodName := ⟨RX9, "croak", "(IIIZ)I"⟩
abbrev cX9_decide : ByteArray := prog_1_method_33_code
def yX9_decide : MethodName := ⟨RX9, "decide", "(I)Z"⟩
abbrev cX9_isDecided : ByteArray := prog_1_method_34_code
def yX9_isDecided : MethodName := ⟨RX9, "isDecided", "(I)Z"⟩
abbrev cX9_isAdopted : ByteArray := prog_1_method_35_code
def yX9_isAdopted : MethodName := ⟨RX9, "isAdopted", "(I)Z"⟩
abbrev cX9_croaksFor : ByteArray := prog_1_method_36_code
def yX9_croaksFor : MethodName := ⟨RX9, "croaksFor", "(I)I"⟩
abbrev cX9_croaksForByPonds : ByteArray := prog_1_method_37_code
def yX9_croaksForByPonds : MethodName := ⟨RX9, "croaksForByPonds", "(I)I"⟩
abbrev cX9_croaksAgainst : ByteArray := prog_1_method_38_code
def yX9_croaksAgainst : MethodName := ⟨RX9, "croaksAgainst", "(I)I"⟩
abbrev cX9_strongestFrog : ByteArray := prog_1_method_39_code
def yX9_strongestFrog : MethodName := ⟨RX9, "strongestFrog", "(I)I"⟩
abbrev cX9_shareFor : ByteArray := prog_1_method_40_code
def yX9_shareFor : MethodName := ⟨RX9, "shareFor", "(I)F"⟩
abbrev cX9_speechTotal : ByteArray := prog_1_method_41_code
def yX9_speechTotal : MethodName := ⟨RX9, "speechTotal", "()I"⟩
abbrev cX9_missedTotal : ByteArray := prog_1_method_42_code
def yX9_missedTotal : MethodName := ⟨RX9, "missedTotal", "()I"⟩
abbrev cX9_adoptedCount : ByteArray := prog_1_method_43_code
def yX9_adoptedCount : MethodName := ⟨RX9, "adoptedCount", "()I"⟩
abbrev cX9_append : ByteArray := prog_1_method_44_code
def yX9_append : MethodName := ⟨RX9, "append", "(C)I"⟩
abbrev cX9_run : ByteArray := prog_1_method_45_code
def yX9_run : MethodName := ⟨RX9, "run", "()I"⟩
abbrev cX9_errorPosition : ByteArray := prog_1_method_46_code
def yX9_errorPosition : MethodName := ⟨RX9, "errorPosition", "()I"⟩
abbrev cX9_failedCommand : ByteArray := prog_1_method_47_code
def yX9_failedCommand : MethodName := ⟨RX9, "failedCommand", "()I"⟩
abbrev cX9_describeList : ByteArray := prog_1_method_48_code
def yX9_describeList : MethodName := ⟨RX9, "describeList", "(I)I"⟩
abbrev cX9_lineAt : ByteArray := prog_1_method_49_code
def yX9_lineAt : MethodName := ⟨RX9, "lineAt", "(I)C"⟩
abbrev cX9_meanSittingWeight : ByteArray := prog_1_method_50_code
def yX9_meanSittingWeight : MethodName := ⟨RX9, "meanSittingWeight", "()D"⟩
abbrev cX9_isConsistent : ByteArray := prog_1_method_51_code
def yX9_isConsistent : MethodName := ⟨RX9, "isConsistent", "()Z"⟩
abbrev cX9_undo : ByteArray := prog_1_method_52_code
def yX9_undo : MethodName := ⟨RX9, "undo", "()I"⟩
abbrev cX9_save : ByteArray := prog_1_method_53_code
def yX9_save : MethodName := ⟨RX9, "save", "()I"⟩
abbrev cX9_restore : ByteArray := prog_1_method_54_code
def yX9_restore : MethodName := ⟨RX9, "restore", "()I"⟩
abbrev cX9_requireFrog : ByteArray := prog_1_method_55_code
def yX9_requireFrog : MethodName := ⟨RX9, "requireFrog", "(I)V"⟩
abbrev cX9_requirePad : ByteArray := prog_1_method_56_code
def yX9_requirePad : MethodName := ⟨RX9, "requirePad", "(I)V"⟩
abbrev cX9_requireMotion : ByteArray := prog_1_method_57_code
def yX9_requireMotion : MethodName := ⟨RX9, "requireMotion", "(I)V"⟩
abbrev cX9_fillQueue : ByteArray := prog_1_method_58_code
def yX9_fillQueue : MethodName := ⟨RX9, "fillQueue", "(I)V"⟩
abbrev cX9_carryOutCommands : ByteArray := prog_1_method_59_code
def yX9_carryOutCommands : MethodName := ⟨RX9, "carryOutCommands", "()I"⟩
abbrev cX9_refuse : ByteArray := prog_1_method_60_code
def yX9_refuse : MethodName := ⟨RX9, "refuse", "(LFrogParliament$Refusal;)V"⟩
abbrev cX9_refuseRarer : ByteArray := prog_1_method_61_code
def yX9_refuseRarer : MethodName := ⟨RX9, "refuseRarer", "(LFrogParliament$Refusal;)V"⟩
def RX10 : String := "FrogParliamentLaw$Bits"
def TX10 : u_T := fun k => match k with
  | _ => ("FrogParliamentLaw$Bits", "bits", "I", false)
def tyX10 : Nat → FieldType := fun k => match k with
  | _ => .int
abbrev wsX100 : List Cond := u_ws RX10 TX10 1
theorem nmX10 : ∀ a, a < 1 → ∀ b, b < 1 → a ≠ b → (TX10 a).2.1 ≠ (TX10 b).2.1 := by decide +kernel
theorem tyX10_ok : ∀ k, k < 1 → parseFieldDescriptor (TX10 k).2.2.1 = some (tyX10 k) := by decide +kernel
abbrev cX10_init : ByteArray := prog_12_method_1_code
def yX10_init : MethodName := ⟨RX10, "<init>", "(I)V"⟩
abbrev cX10_next : ByteArray := prog_12_method_2_code
def yX10_next : MethodName := ⟨RX10, "next", "(I)I"⟩
def RX11 : String := "FrogParliamentModel"
def TX11 : u_T := fun k => match k with
  | _ => ("", "", "", false)
def tyX11 : Nat → FieldType := fun k => match k with
  | _ => .int
abbrev wsX110 : List Cond := u_ws RX11 TX11 0
theorem nmX11 : ∀ a, a < 0 → ∀ b, b < 0 → a ≠ b → (TX11 a).2.1 ≠ (TX11 b).2.1 := by decide +kernel
theorem tyX11_ok : ∀ k, k < 0 → parseFieldDescriptor (TX11 k).2.2.1 = some (tyX11 k) := by decide +kernel
def RJx145de : String := "java/io/Serializable"
def TJx145de : u_T := fun k => match k with
  | _ => ("", "", "", false)
def tyJx145de : Nat → FieldType := fun k => match k with
  | _ => .int
abbrev wsJx145de0 : List Cond := u_ws RJx145de TJx145de 0
theorem nmJx145de : ∀ a, a < 0 → ∀ b, b < 0 → a ≠ b → (TJx145de a).2.1 ≠ (TJx145de b).2.1 := by decide +kernel
theorem tyJx145de_ok : ∀ k, k < 0 → parseFieldDescriptor (TJx145de k).2.2.1 = some (tyJx145de k) := by decide +kernel
def RJ5 : String := "java/lang/AbstractStringBuilder"
def TJ5 : u_T := fun k => match k with
  | _ => ("", "", "", false)
def tyJ5 : Nat → FieldType := fun k => match k with
  | _ => .int
abbrev wsJ50 : List Cond := u_ws RJ5 TJ5 0
theorem nmJ5 : ∀ a, a < 0 → ∀ b, b < 0 → a ≠ b → (TJ5 a).2.1 ≠ (TJ5 b).2.1 := by decide +kernel
theorem tyJ5_ok : ∀ k, k < 0 → parseFieldDescriptor (TJ5 k).2.2.1 = some (tyJ5 k) := by decide +kernel
abbrev cJ5_init_d00df : ByteArray := prog_15_method_2_code
def yJ5_init_d00df : MethodName := ⟨RJ5, "<init>", "(I)V"⟩
abbrev cJ5_length_8abf5 : ByteArray := prog_15_method_6_code
def yJ5_length_8abf5 : MethodName := ⟨RJ5, "length", "()I"⟩
abbrev cJ5_ensureCapacityInternal_d00df : ByteArray := prog_15_method_9_code
def yJ5_ensureCapacityInternal_d00df : MethodName := ⟨RJ5, "ensureCapacityInternal", "(I)V"⟩
abbrev cJ5_newCapacity_0f7a4 : ByteArray := prog_15_method_10_code
def yJ5_newCapacity_0f7a4 : MethodName := ⟨RJ5, "newCapacity", "(I)I"⟩
abbrev cJ5_inflate_da8c8 : ByteArray := prog_15_method_11_code
def yJ5_inflate_da8c8 : MethodName := ⟨RJ5, "inflate", "()V"⟩
abbrev cJ5_setLength_d00df : ByteArray := prog_15_method_13_code
def yJ5_setLength_d00df : MethodName := ⟨RJ5, "setLength", "(I)V"⟩
abbrev cJ5_charAt_5068e : ByteArray := prog_15_method_14_code
def yJ5_charAt_5068e : MethodName := ⟨RJ5, "charAt", "(I)C"⟩
abbrev cJ5_append_cf1ce : ByteArray := prog_15_method_22_code
def yJ5_append_cf1ce : MethodName := ⟨RJ5, "append", "(Ljava/lang/String;)Ljava/lang/AbstractStringBuilder;"⟩
abbrev cJ5_appendNull_278bc : ByteArray := prog_15_method_26_code
def yJ5_appendNull_278bc : MethodName := ⟨RJ5, "appendNull", "()Ljava/lang/AbstractStringBuilder;"⟩
abbrev cJ5_append_3fe6f : ByteArray := prog_15_method_31_code
def yJ5_append_3fe6f : MethodName := ⟨RJ5, "append", "(C)Ljava/lang/AbstractStringBuilder;"⟩
abbrev cJ5_append_c97b9 : ByteArray := prog_15_method_32_code
def yJ5_append_c97b9 : MethodName := ⟨RJ5, "append", "(I)Ljava/lang/AbstractStringBuilder;"⟩
abbrev cJ5_getValue_6d5f1 : ByteArray := prog_15_method_64_code
def yJ5_getValue_6d5f1 : MethodName := ⟨RJ5, "getValue", "()[B"⟩
abbrev cJ5_isLatin1_aae02 : ByteArray := prog_15_method_68_code
def yJ5_isLatin1_aae02 : MethodName := ⟨RJ5, "isLatin1", "()Z"⟩
abbrev cJ5_inflateIfNeededFor_a7421 : ByteArray := prog_15_method_71_code
def yJ5_inflateIfNeededFor_a7421 : MethodName := ⟨RJ5, "inflateIfNeededFor", "(Ljava/lang/String;)V"⟩
abbrev cJ5_putStringAt_47b60 : ByteArray := prog_15_method_73_code
def yJ5_putStringAt_47b60 : MethodName := ⟨RJ5, "putStringAt", "(ILjava/lang/String;)V"⟩
def RJx2cfe8 : String := "java/lang/Appendable"
def TJx2cfe8 : u_T := fun k => match k with
  | _ => ("", "", "", false)
def tyJx2cfe8 : Nat → FieldType := fun k => match k with
  | _ => .int
abbrev wsJx2cfe80 : List Cond := u_ws RJx2cfe8 TJx2cfe8 0
theorem nmJx2cfe8 : ∀ a, a < 0 → ∀ b, b < 0 → a ≠ b → (TJx2cfe8 a).2.1 ≠ (TJx2cfe8 b).2.1 := by decide +kernel
theorem tyJx2cfe8_ok : ∀ k, k < 0 → parseFieldDescriptor (TJx2cfe8 k).2.2.1 = some (tyJx2cfe8 k) := by decide +kernel
def RJx00060 : String := "java/lang/ArrayIndexOutOfBoundsException"
def TJx00060 : u_T := fun k => match k with
  | 0 => ("java/lang/Throwable", "backtrace", "Ljava/lang/Object;", false)
  | 1 => ("java/lang/Throwable", "detailMessage", "Ljava/lang/String;", false)
  | 2 => ("java/lang/Throwable", "cause", "Ljava/lang/Throwable;", false)
  | 3 => ("java/lang/Throwable", "stackTrace", "[Ljava/lang/StackTraceElement;", false)
  | 4 => ("java/lang/Throwable", "depth", "I", false)
  | _ => ("java/lang/Throwable", "suppressedExceptions", "Ljava/util/List;", false)
def tyJx00060 : Nat → FieldType := fun k => match k with
  | 0 => .object "java/lang/Object"
  | 1 => .object "java/lang/String"
  | 2 => .object "java/lang/Throwable"
  | 3 => .array (.object "java/lang/StackTraceElement")
  | 4 => .int
  | _ => .object "java/util/List"
abbrev wsJx000600 : List Cond := u_ws RJx00060 TJx00060 6
theorem nmJx00060 : ∀ a, a < 6 → ∀ b, b < 6 → a ≠ b → (TJx00060 a).2.1 ≠ (TJx00060 b).2.1 := by decide +kernel
theorem tyJx00060_ok : ∀ k, k < 6 → parseFieldDescriptor (TJx00060 k).2.2.1 = some (tyJx00060 k) := by decide +kernel
abbrev cJx00060_init_a7421 : ByteArray := prog_18_method_2_code
def yJx00060_init_a7421 : MethodName := ⟨RJx00060, "<init>", "(Ljava/lang/String;)V"⟩
abbrev cJx00060_init_d00df : ByteArray := prog_18_method_3_code
def yJx00060_init_d00df : MethodName := ⟨RJx00060, "<init>", "(I)V"⟩
def RJx9f9b0 : String := "java/lang/CharSequence"
def TJx9f9b0 : u_T := fun k => match k with
  | _ => ("", "", "", false)
def tyJx9f9b0 : Nat → FieldType := fun k => match k with
  | _ => .int
abbrev wsJx9f9b00 : List Cond := u_ws RJx9f9b0 TJx9f9b0 0
theorem nmJx9f9b0 : ∀ a, a < 0 → ∀ b, b < 0 → a ≠ b → (TJx9f9b0 a).2.1 ≠ (TJx9f9b0 b).2.1 := by decide +kernel
theorem tyJx9f9b0_ok : ∀ k, k < 0 → parseFieldDescriptor (TJx9f9b0 k).2.2.1 = some (tyJx9f9b0 k) := by decide +kernel
def RJx8e188 : String := "java/lang/Cloneable"
def TJx8e188 : u_T := fun k => match k with
  | _ => ("", "", "", false)
def tyJx8e188 : Nat → FieldType := fun k => match k with
  | _ => .int
abbrev wsJx8e1880 : List Cond := u_ws RJx8e188 TJx8e188 0
theorem nmJx8e188 : ∀ a, a < 0 → ∀ b, b < 0 → a ≠ b → (TJx8e188 a).2.1 ≠ (TJx8e188 b).2.1 := by decide +kernel
theorem tyJx8e188_ok : ∀ k, k < 0 → parseFieldDescriptor (TJx8e188 k).2.2.1 = some (tyJx8e188 k) := by decide +kernel
def RJxb160c : String := "java/lang/Comparable"
def TJxb160c : u_T := fun k => match k with
  | _ => ("", "", "", false)
def tyJxb160c : Nat → FieldType := fun k => match k with
  | _ => .int
abbrev wsJxb160c0 : List Cond := u_ws RJxb160c TJxb160c 0
theorem nmJxb160c : ∀ a, a < 0 → ∀ b, b < 0 → a ≠ b → (TJxb160c a).2.1 ≠ (TJxb160c b).2.1 := by decide +kernel
theorem tyJxb160c_ok : ∀ k, k < 0 → parseFieldDescriptor (TJxb160c k).2.2.1 = some (tyJxb160c k) := by decide +kernel
def RJx29ce0 : String := "java/lang/Enum"
def TJx29ce0 : u_T := fun k => match k with
  | _ => ("", "", "", false)
def tyJx29ce0 : Nat → FieldType := fun k => match k with
  | _ => .int
abbrev wsJx29ce00 : List Cond := u_ws RJx29ce0 TJx29ce0 0
theorem nmJx29ce0 : ∀ a, a < 0 → ∀ b, b < 0 → a ≠ b → (TJx29ce0 a).2.1 ≠ (TJx29ce0 b).2.1 := by decide +kernel
theorem tyJx29ce0_ok : ∀ k, k < 0 → parseFieldDescriptor (TJx29ce0 k).2.2.1 = some (tyJx29ce0 k) := by decide +kernel
abbrev cJx29ce0_ordinal_8abf5 : ByteArray := prog_22_method_2_code
def yJx29ce0_ordinal_8abf5 : MethodName := ⟨RJx29ce0, "ordinal", "()I"⟩
abbrev cJx29ce0_toString_0e30d : ByteArray := prog_22_method_4_code
def yJx29ce0_toString_0e30d : MethodName := ⟨RJx29ce0, "toString", "()Ljava/lang/String;"⟩
def RJ6 : String := "java/lang/Integer"
def TJ6 : u_T := fun k => match k with
  | _ => ("", "", "", false)
def tyJ6 : Nat → FieldType := fun k => match k with
  | _ => .int
abbrev wsJ60 : List Cond := u_ws RJ6 TJ6 0
theorem nmJ6 : ∀ a, a < 0 → ∀ b, b < 0 → a ≠ b → (TJ6 a).2.1 ≠ (TJ6 b).2.1 := by decide +kernel
theorem tyJ6_ok : ∀ k, k < 0 → parseFieldDescriptor (TJ6 k).2.2.1 = some (tyJ6 k) := by decide +kernel
abbrev cJ6_getChars_ba4f3 : ByteArray := prog_27_method_12_code
def yJ6_getChars_ba4f3 : MethodName := ⟨RJ6, "getChars", "(II[B)I"⟩
abbrev cJ6_stringSize_0f7a4 : ByteArray := prog_27_method_13_code
def yJ6_stringSize_0f7a4 : MethodName := ⟨RJ6, "stringSize", "(I)I"⟩
abbrev cJ6_bitCount_0f7a4 : ByteArray := prog_27_method_49_code
def yJ6_bitCount_0f7a4 : MethodName := ⟨RJ6, "bitCount", "(I)I"⟩
def RJ9 : String := "java/lang/Math"
def TJ9 : u_T := fun k => match k with
  | _ => ("", "", "", false)
def tyJ9 : Nat → FieldType := fun k => match k with
  | _ => .int
abbrev wsJ90 : List Cond := u_ws RJ9 TJ9 0
theorem nmJ9 : ∀ a, a < 0 → ∀ b, b < 0 → a ≠ b → (TJ9 a).2.1 ≠ (TJ9 b).2.1 := by decide +kernel
theorem tyJ9_ok : ∀ k, k < 0 → parseFieldDescriptor (TJ9 k).2.2.1 = some (tyJ9 k) := by decide +kernel
abbrev cJ9_max_7cf53 : ByteArray := prog_28_method_65_code
def yJ9_max_7cf53 : MethodName := ⟨RJ9, "max", "(II)I"⟩
abbrev cJ9_min_7cf53 : ByteArray := prog_28_method_69_code
def yJ9_min_7cf53 : MethodName := ⟨RJ9, "min", "(II)I"⟩
def RJxd2413 : String := "java/lang/Number"
def TJxd2413 : u_T := fun k => match k with
  | _ => ("", "", "", false)
def tyJxd2413 : Nat → FieldType := fun k => match k with
  | _ => .int
abbrev wsJxd24130 : List Cond := u_ws RJxd2413 TJxd2413 0
theorem nmJxd2413 : ∀ a, a < 0 → ∀ b, b < 0 → a ≠ b → (TJxd2413 a).2.1 ≠ (TJxd2413 b).2.1 := by decide +kernel
theorem tyJxd2413_ok : ∀ k, k < 0 → parseFieldDescriptor (TJxd2413 k).2.2.1 = some (tyJxd2413 k) := by decide +kernel
def RJ0 : String := "java/lang/String"
def TJ0 : u_T := fun k => match k with
  | 0 => ("java/lang/String", "value", "[B", true)
  | 1 => ("java/lang/String", "coder", "B", true)
  | 2 => ("java/lang/String", "hash", "I", false)
  | _ => ("java/lang/String", "hashIsZero", "Z", false)
def tyJ0 : Nat → FieldType := fun k => match k with
  | 0 => .array .byte
  | 1 => .byte
  | 2 => .int
  | _ => .boolean
abbrev wsJ00 : List Cond := u_ws RJ0 TJ0 4
theorem nmJ0 : ∀ a, a < 4 → ∀ b, b < 4 → a ≠ b → (TJ0 a).2.1 ≠ (TJ0 b).2.1 := by decide +kernel
theorem tyJ0_ok : ∀ k, k < 4 → parseFieldDescriptor (TJ0 k).2.2.1 = some (tyJ0 k) := by decide +kernel
abbrev cJ0_init_81219 : ByteArray := prog_31_method_53_code
def yJ0_init_81219 : MethodName := ⟨RJ0, "<init>", "(Ljava/lang/StringBuilder;)V"⟩
abbrev cJ0_length_8abf5 : ByteArray := prog_31_method_54_code
def yJ0_length_8abf5 : MethodName := ⟨RJ0, "length", "()I"⟩
abbrev cJ0_charAt_5068e : ByteArray := prog_31_method_56_code
def yJ0_charAt_5068e : MethodName := ⟨RJ0, "charAt", "(I)C"⟩
abbrev cJ0_equals_9ea2d : ByteArray := prog_31_method_66_code
def yJ0_equals_9ea2d : MethodName := ⟨RJ0, "equals", "(Ljava/lang/Object;)Z"⟩
abbrev cJ0_toString_0e30d : ByteArray := prog_31_method_126_code
def yJ0_toString_0e30d : MethodName := ⟨RJ0, "toString", "()Ljava/lang/String;"⟩
abbrev cJ0_valueOf_8a030 : ByteArray := prog_31_method_133_code
def yJ0_valueOf_8a030 : MethodName := ⟨RJ0, "valueOf", "(Ljava/lang/Object;)Ljava/lang/String;"⟩
abbrev cJ0_getBytes_840e7 : ByteArray := prog_31_method_147_code
def yJ0_getBytes_840e7 : MethodName := ⟨RJ0, "getBytes", "([BIB)V"⟩
abbrev cJ0_init_db425 : ByteArray := prog_31_method_150_code
def yJ0_init_db425 : MethodName := ⟨RJ0, "<init>", "(Ljava/lang/AbstractStringBuilder;Ljava/lang/Void;)V"⟩
abbrev cJ0_coder_7d493 : ByteArray := prog_31_method_152_code
def yJ0_coder_7d493 : MethodName := ⟨RJ0, "coder", "()B"⟩
abbrev cJ0_isLatin1_aae02 : ByteArray := prog_31_method_154_code
def yJ0_isLatin1_aae02 : MethodName := ⟨RJ0, "isLatin1", "()Z"⟩
abbrev cJ0_checkIndex_df160 : ByteArray := prog_31_method_155_code
def yJ0_checkIndex_df160 : MethodName := ⟨RJ0, "checkIndex", "(II)V"⟩
abbrev cJ0_checkBoundsOffCount_cabcc : ByteArray := prog_31_method_157_code
def yJ0_checkBoundsOffCount_cabcc : MethodName := ⟨RJ0, "checkBoundsOffCount", "(III)I"⟩
abbrev cJ0_checkBoundsBeginEnd_23922 : ByteArray := prog_31_method_158_code
def yJ0_checkBoundsBeginEnd_23922 : MethodName := ⟨RJ0, "checkBoundsBeginEnd", "(III)V"⟩
def RJ4 : String := "java/lang/StringBuilder"
def TJ4 : u_T := fun k => match k with
  | 0 => ("java/lang/AbstractStringBuilder", "value", "[B", false)
  | 1 => ("java/lang/AbstractStringBuilder", "coder", "B", false)
  | 2 => ("java/lang/AbstractStringBuilder", "maybeLatin1", "Z", false)
  | _ => ("java/lang/AbstractStringBuilder", "count", "I", false)
def tyJ4 : Nat → FieldType := fun k => match k with
  | 0 => .array .byte
  | 1 => .byte
  | 2 => .boolean
  | _ => .int
abbrev wsJ40 : List Cond := u_ws RJ4 TJ4 4
theorem nmJ4 : ∀ a, a < 4 → ∀ b, b < 4 → a ≠ b → (TJ4 a).2.1 ≠ (TJ4 b).2.1 := by decide +kernel
theorem tyJ4_ok : ∀ k, k < 4 → parseFieldDescriptor (TJ4 k).2.2.1 = some (tyJ4 k) := by decide +kernel
abbrev cJ4_init_da8c8 : ByteArray := prog_32_method_1_code
def yJ4_init_da8c8 : MethodName := ⟨RJ4, "<init>", "()V"⟩
abbrev cJ4_append_533cd : ByteArray := prog_32_method_6_code
def yJ4_append_533cd : MethodName := ⟨RJ4, "append", "(Ljava/lang/Object;)Ljava/lang/StringBuilder;"⟩
abbrev cJ4_append_15ec4 : ByteArray := prog_32_method_7_code
def yJ4_append_15ec4 : MethodName := ⟨RJ4, "append", "(Ljava/lang/String;)Ljava/lang/StringBuilder;"⟩
abbrev cJ4_append_cf468 : ByteArray := prog_32_method_14_code
def yJ4_append_cf468 : MethodName := ⟨RJ4, "append", "(C)Ljava/lang/StringBuilder;"⟩
abbrev cJ4_append_bf812 : ByteArray := prog_32_method_15_code
def yJ4_append_bf812 : MethodName := ⟨RJ4, "append", "(I)Ljava/lang/StringBuilder;"⟩
abbrev cJ4_toString_0e30d : ByteArray := prog_32_method_42_code
def yJ4_toString_0e30d : MethodName := ⟨RJ4, "toString", "()Ljava/lang/String;"⟩
abbrev cJ4_charAt_5068e : ByteArray := prog_32_method_88_code
def yJ4_charAt_5068e : MethodName := ⟨RJ4, "charAt", "(I)C"⟩
abbrev cJ4_setLength_d00df : ByteArray := prog_32_method_89_code
def yJ4_setLength_d00df : MethodName := ⟨RJ4, "setLength", "(I)V"⟩
abbrev cJ4_length_8abf5 : ByteArray := prog_32_method_93_code
def yJ4_length_8abf5 : MethodName := ⟨RJ4, "length", "()I"⟩
def RJx7c733 : String := "java/lang/StringIndexOutOfBoundsException"
def TJx7c733 : u_T := fun k => match k with
  | 0 => ("java/lang/Throwable", "backtrace", "Ljava/lang/Object;", false)
  | 1 => ("java/lang/Throwable", "detailMessage", "Ljava/lang/String;", false)
  | 2 => ("java/lang/Throwable", "cause", "Ljava/lang/Throwable;", false)
  | 3 => ("java/lang/Throwable", "stackTrace", "[Ljava/lang/StackTraceElement;", false)
  | 4 => ("java/lang/Throwable", "depth", "I", false)
  | _ => ("java/lang/Throwable", "suppressedExceptions", "Ljava/util/List;", false)
def tyJx7c733 : Nat → FieldType := fun k => match k with
  | 0 => .object "java/lang/Object"
  | 1 => .object "java/lang/String"
  | 2 => .object "java/lang/Throwable"
  | 3 => .array (.object "java/lang/StackTraceElement")
  | 4 => .int
  | _ => .object "java/util/List"
abbrev wsJx7c7330 : List Cond := u_ws RJx7c733 TJx7c733 6
theorem nmJx7c733 : ∀ a, a < 6 → ∀ b, b < 6 → a ≠ b → (TJx7c733 a).2.1 ≠ (TJx7c733 b).2.1 := by decide +kernel
theorem tyJx7c733_ok : ∀ k, k < 6 → parseFieldDescriptor (TJx7c733 k).2.2.1 = some (tyJx7c733 k) := by decide +kernel
abbrev cJx7c733_init_d00df : ByteArray := prog_33_method_3_code
def yJx7c733_init_d00df : MethodName := ⟨RJx7c733, "<init>", "(I)V"⟩
def RJ1 : String := "java/lang/StringLatin1"
def TJ1 : u_T := fun k => match k with
  | _ => ("", "", "", false)
def tyJ1 : Nat → FieldType := fun k => match k with
  | _ => .int
abbrev wsJ10 : List Cond := u_ws RJ1 TJ1 0
theorem nmJ1 : ∀ a, a < 0 → ∀ b, b < 0 → a ≠ b → (TJ1 a).2.1 ≠ (TJ1 b).2.1 := by decide +kernel
theorem tyJ1_ok : ∀ k, k < 0 → parseFieldDescriptor (TJ1 k).2.2.1 = some (tyJ1 k) := by decide +kernel
abbrev cJ1_charAt_3b067 : ByteArray := prog_34_method_2_code
def yJ1_charAt_3b067 : MethodName := ⟨RJ1, "charAt", "([BI)C"⟩
abbrev cJ1_canEncode_fc78d : ByteArray := prog_34_method_3_code
def yJ1_canEncode_fc78d : MethodName := ⟨RJ1, "canEncode", "(C)Z"⟩
abbrev cJ1_equals_b5fdf : ByteArray := prog_34_method_13_code
def yJ1_equals_b5fdf : MethodName := ⟨RJ1, "equals", "([B[B)Z"⟩
abbrev cJ1_fillNull_b72d1 : ByteArray := prog_34_method_48_code
def yJ1_fillNull_b72d1 : MethodName := ⟨RJ1, "fillNull", "([BII)V"⟩
abbrev cJ1_inflate_0e8fd : ByteArray := prog_34_method_50_code
def yJ1_inflate_0e8fd : MethodName := ⟨RJ1, "inflate", "([BI[BII)V"⟩
def RJ2 : String := "java/lang/StringUTF16"
def TJ2 : u_T := fun k => match k with
  | _ => ("", "", "", false)
def tyJ2 : Nat → FieldType := fun k => match k with
  | _ => .int
abbrev wsJ20 : List Cond := u_ws RJ2 TJ2 0
theorem nmJ2 : ∀ a, a < 0 → ∀ b, b < 0 → a ≠ b → (TJ2 a).2.1 ≠ (TJ2 b).2.1 := by decide +kernel
theorem tyJ2_ok : ∀ k, k < 0 → parseFieldDescriptor (TJ2 k).2.2.1 = some (tyJ2 k) := by decide +kernel
abbrev cJ2_newBytesFor_77867 : ByteArray := prog_35_method_2_code
def yJ2_newBytesFor_77867 : MethodName := ⟨RJ2, "newBytesFor", "(I)[B"⟩
abbrev cJ2_newBytesLength_0f7a4 : ByteArray := prog_35_method_3_code
def yJ2_newBytesLength_0f7a4 : MethodName := ⟨RJ2, "newBytesLength", "(I)I"⟩
abbrev cJ2_putChar_b72d1 : ByteArray := prog_35_method_4_code
def yJ2_putChar_b72d1 : MethodName := ⟨RJ2, "putChar", "([BII)V"⟩
abbrev cJ2_getChar_3b067 : ByteArray := prog_35_method_5_code
def yJ2_getChar_3b067 : MethodName := ⟨RJ2, "getChar", "([BI)C"⟩
abbrev cJ2_length_9d52b : ByteArray := prog_35_method_6_code
def yJ2_length_9d52b : MethodName := ⟨RJ2, "length", "([B)I"⟩
abbrev cJ2_coderFromArrayLen_85cad : ByteArray := prog_35_method_15_code
def yJ2_coderFromArrayLen_85cad : MethodName := ⟨RJ2, "coderFromArrayLen", "([BI)B"⟩
abbrev cJ2_compress_39247 : ByteArray := prog_35_method_17_code
def yJ2_compress_39247 : MethodName := ⟨RJ2, "compress", "([BII)[B"⟩
abbrev cJ2_compress_5af95 : ByteArray := prog_35_method_22_code
def yJ2_compress_5af95 : MethodName := ⟨RJ2, "compress", "([BI[BII)I"⟩
abbrev cJ2_fillNull_b72d1 : ByteArray := prog_35_method_70_code
def yJ2_fillNull_b72d1 : MethodName := ⟨RJ2, "fillNull", "([BII)V"⟩
abbrev cJ2_putCharSB_b72d1 : ByteArray := prog_35_method_71_code
def yJ2_putCharSB_b72d1 : MethodName := ⟨RJ2, "putCharSB", "([BII)V"⟩
abbrev cJ2_getChars_46870 : ByteArray := prog_35_method_77_code
def yJ2_getChars_46870 : MethodName := ⟨RJ2, "getChars", "(III[B)I"⟩
abbrev cJ2_putCharsAt_cd4e5 : ByteArray := prog_35_method_81_code
def yJ2_putCharsAt_cd4e5 : MethodName := ⟨RJ2, "putCharsAt", "([BICCCC)I"⟩
abbrev cJ2_charAt_3b067 : ByteArray := prog_35_method_83_code
def yJ2_charAt_3b067 : MethodName := ⟨RJ2, "charAt", "([BI)C"⟩
abbrev cJ2_inflate_0e8fd : ByteArray := prog_35_method_86_code
def yJ2_inflate_0e8fd : MethodName := ⟨RJ2, "inflate", "([BI[BII)V"⟩
abbrev cJ2_getChars_ba4f3 : ByteArray := prog_35_method_89_code
def yJ2_getChars_ba4f3 : MethodName := ⟨RJ2, "getChars", "(II[B)I"⟩
abbrev cJ2_checkIndex_2214a : ByteArray := prog_35_method_91_code
def yJ2_checkIndex_2214a : MethodName := ⟨RJ2, "checkIndex", "(I[B)V"⟩
abbrev cJ2_checkBoundsBeginEnd_d044e : ByteArray := prog_35_method_93_code
def yJ2_checkBoundsBeginEnd_d044e : MethodName := ⟨RJ2, "checkBoundsBeginEnd", "(II[B)V"⟩
abbrev cJ2_checkBoundsOffCount_d044e : ByteArray := prog_35_method_94_code
def yJ2_checkBoundsOffCount_d044e : MethodName := ⟨RJ2, "checkBoundsOffCount", "(II[B)V"⟩
def RJ10 : String := "java/lang/System"
def TJ10 : u_T := fun k => match k with
  | _ => ("", "", "", false)
def tyJ10 : Nat → FieldType := fun k => match k with
  | _ => .int
abbrev wsJ100 : List Cond := u_ws RJ10 TJ10 0
theorem nmJ10 : ∀ a, a < 0 → ∀ b, b < 0 → a ≠ b → (TJ10 a).2.1 ≠ (TJ10 b).2.1 := by decide +kernel
theorem tyJ10_ok : ∀ k, k < 0 → parseFieldDescriptor (TJ10 k).2.2.1 = some (tyJ10 k) := by decide +kernel
def RJxfd54e : String := "java/lang/constant/Constable"
def TJxfd54e : u_T := fun k => match k with
  | _ => ("", "", "", false)
def tyJxfd54e : Nat → FieldType := fun k => match k with
  | _ => .int
abbrev wsJxfd54e0 : List Cond := u_ws RJxfd54e TJxfd54e 0
theorem nmJxfd54e : ∀ a, a < 0 → ∀ b, b < 0 → a ≠ b → (TJxfd54e a).2.1 ≠ (TJxfd54e b).2.1 := by decide +kernel
theorem tyJxfd54e_ok : ∀ k, k < 0 → parseFieldDescriptor (TJxfd54e k).2.2.1 = some (tyJxfd54e k) := by decide +kernel
def RJx3cf43 : String := "java/lang/constant/ConstantDesc"
def TJx3cf43 : u_T := fun k => match k with
  | _ => ("", "", "", false)
def tyJx3cf43 : Nat → FieldType := fun k => match k with
  | _ => .int
abbrev wsJx3cf430 : List Cond := u_ws RJx3cf43 TJx3cf43 0
theorem nmJx3cf43 : ∀ a, a < 0 → ∀ b, b < 0 → a ≠ b → (TJx3cf43 a).2.1 ≠ (TJx3cf43 b).2.1 := by decide +kernel
theorem tyJx3cf43_ok : ∀ k, k < 0 → parseFieldDescriptor (TJx3cf43 k).2.2.1 = some (tyJx3cf43 k) := by decide +kernel
def RJ7 : String := "java/util/Arrays"
def TJ7 : u_T := fun k => match k with
  | _ => ("", "", "", false)
def tyJ7 : Nat → FieldType := fun k => match k with
  | _ => .int
abbrev wsJ70 : List Cond := u_ws RJ7 TJ7 0
theorem nmJ7 : ∀ a, a < 0 → ∀ b, b < 0 → a ≠ b → (TJ7 a).2.1 ≠ (TJ7 b).2.1 := by decide +kernel
theorem tyJ7_ok : ∀ k, k < 0 → parseFieldDescriptor (TJ7 k).2.2.1 = some (tyJ7 k) := by decide +kernel
abbrev cJ7_rangeCheck_23922 : ByteArray := prog_41_method_30_code
def yJ7_rangeCheck_23922 : MethodName := ⟨RJ7, "rangeCheck", "(III)V"⟩
abbrev cJ7_fill_eb02e : ByteArray := prog_41_method_110_code
def yJ7_fill_eb02e : MethodName := ⟨RJ7, "fill", "([BIIB)V"⟩
abbrev cJ7_copyOf_9075b : ByteArray := prog_41_method_121_code
def yJ7_copyOf_9075b : MethodName := ⟨RJ7, "copyOf", "([BI)[B"⟩
abbrev cJ7_checkLength_df160 : ByteArray := prog_41_method_131_code
def yJ7_checkLength_df160 : MethodName := ⟨RJ7, "checkLength", "(II)V"⟩
abbrev cJ7_copyOfRange_39247 : ByteArray := prog_41_method_132_code
def yJ7_copyOfRange_39247 : MethodName := ⟨RJ7, "copyOfRange", "([BII)[B"⟩
abbrev cJ7_copyOfRangeByte_39247 : ByteArray := prog_41_method_133_code
def yJ7_copyOfRangeByte_39247 : MethodName := ⟨RJ7, "copyOfRangeByte", "([BII)[B"⟩
def RJ8 : String := "jdk/internal/util/ArraysSupport"
def TJ8 : u_T := fun k => match k with
  | _ => ("", "", "", false)
def tyJ8 : Nat → FieldType := fun k => match k with
  | _ => .int
abbrev wsJ80 : List Cond := u_ws RJ8 TJ8 0
theorem nmJ8 : ∀ a, a < 0 → ∀ b, b < 0 → a ≠ b → (TJ8 a).2.1 ≠ (TJ8 b).2.1 := by decide +kernel
theorem tyJ8_ok : ∀ k, k < 0 → parseFieldDescriptor (TJ8 k).2.2.1 = some (tyJ8 k) := by decide +kernel
abbrev cJ8_newLength_cabcc : ByteArray := prog_43_method_27_code
def yJ8_newLength_cabcc : MethodName := ⟨RJ8, "newLength", "(III)I"⟩
abbrev cJ8_hugeLength_7cf53 : ByteArray := prog_43_method_28_code
def yJ8_hugeLength_7cf53 : MethodName := ⟨RJ8, "hugeLength", "(II)I"⟩
def RJ3 : String := "jdk/internal/util/Preconditions"
def TJ3 : u_T := fun k => match k with
  | _ => ("", "", "", false)
def tyJ3 : Nat → FieldType := fun k => match k with
  | _ => .int
abbrev wsJ30 : List Cond := u_ws RJ3 TJ3 0
theorem nmJ3 : ∀ a, a < 0 → ∀ b, b < 0 → a ≠ b → (TJ3 a).2.1 ≠ (TJ3 b).2.1 := by decide +kernel
theorem tyJ3_ok : ∀ k, k < 0 → parseFieldDescriptor (TJ3 k).2.2.1 = some (tyJ3 k) := by decide +kernel
abbrev cJ3_checkIndex_8e157 : ByteArray := prog_44_method_11_code
def yJ3_checkIndex_8e157 : MethodName := ⟨RJ3, "checkIndex", "(IILjava/util/function/BiFunction;)I"⟩
abbrev cJ3_checkFromToIndex_8c36e : ByteArray := prog_44_method_12_code
def yJ3_checkFromToIndex_8c36e : MethodName := ⟨RJ3, "checkFromToIndex", "(IIILjava/util/function/BiFunction;)I"⟩
abbrev cJ3_checkFromIndexSize_8c36e : ByteArray := prog_44_method_13_code
def yJ3_checkFromIndexSize_8c36e : MethodName := ⟨RJ3, "checkFromIndexSize", "(IIILjava/util/function/BiFunction;)I"⟩
def RL : String := "FrogParliamentLaw"
abbrev cL_cell : ByteArray := method_2_code
def yL_cell : MethodName := ⟨RL, "cell", "([II)I"⟩
abbrev cL_addFrog : ByteArray := method_3_code
def yL_addFrog : MethodName := ⟨RL, "addFrog", "(LFrogParliament;II)I"⟩
abbrev cL_addPad : ByteArray := method_4_code
def yL_addPad : MethodName := ⟨RL, "addPad", "(LFrogParliament;I)I"⟩
abbrev cL_hop : ByteArray := method_5_code
def yL_hop : MethodName := ⟨RL, "hop", "(LFrogParliament;II)I"⟩
abbrev cL_dive : ByteArray := method_6_code
def yL_dive : MethodName := ⟨RL, "dive", "(LFrogParliament;I)I"⟩
abbrev cL_pondOf : ByteArray := method_7_code
def yL_pondOf : MethodName := ⟨RL, "pondOf", "(LFrogParliament;I)I"⟩
abbrev cL_weightOf : ByteArray := method_8_code
def yL_weightOf : MethodName := ⟨RL, "weightOf", "(LFrogParliament;I)I"⟩
abbrev cL_padOf : ByteArray := method_9_code
def yL_padOf : MethodName := ⟨RL, "padOf", "(LFrogParliament;I)I"⟩
abbrev cL_frogsOn : ByteArray := method_10_code
def yL_frogsOn : MethodName := ⟨RL, "frogsOn", "(LFrogParliament;I)I"⟩
abbrev cL_padWeight : ByteArray := method_11_code
def yL_padWeight : MethodName := ⟨RL, "padWeight", "(LFrogParliament;I)I"⟩
abbrev cL_addMotion : ByteArray := method_12_code
def yL_addMotion : MethodName := ⟨RL, "addMotion", "(LFrogParliament;I)I"⟩
abbrev cL_isEntitled : ByteArray := method_13_code
def yL_isEntitled : MethodName := ⟨RL, "isEntitled", "(LFrogParliament;II)I"⟩
abbrev cL_signUp : ByteArray := method_14_code
def yL_signUp : MethodName := ⟨RL, "signUp", "(LFrogParliament;II)I"⟩
abbrev cL_strike : ByteArray := method_15_code
def yL_strike : MethodName := ⟨RL, "strike", "(LFrogParliament;II)I"⟩
abbrev cL_callNext : ByteArray := method_16_code
def yL_callNext : MethodName := ⟨RL, "callNext", "(LFrogParliament;I)I"⟩
abbrev cL_listLength : ByteArray := method_17_code
def yL_listLength : MethodName := ⟨RL, "listLength", "(LFrogParliament;I)I"⟩
abbrev cL_nextFrog : ByteArray := method_18_code
def yL_nextFrog : MethodName := ⟨RL, "nextFrog", "(LFrogParliament;I)I"⟩
abbrev cL_nextFrogByScan : ByteArray := method_19_code
def yL_nextFrogByScan : MethodName := ⟨RL, "nextFrogByScan", "(LFrogParliament;I)I"⟩
abbrev cL_frogsBefore : ByteArray := method_20_code
def yL_frogsBefore : MethodName := ⟨RL, "frogsBefore", "(LFrogParliament;II)I"⟩
abbrev cL_speeches : ByteArray := method_21_code
def yL_speeches : MethodName := ⟨RL, "speeches", "(LFrogParliament;I)I"⟩
abbrev cL_speechesOn : ByteArray := method_22_code
def yL_speechesOn : MethodName := ⟨RL, "speechesOn", "(LFrogParliament;I)I"⟩
abbrev cL_frogAtRank : ByteArray := method_23_code
def yL_frogAtRank : MethodName := ⟨RL, "frogAtRank", "(LFrogParliament;I)I"⟩
abbrev cL_supportClosure : ByteArray := method_24_code
def yL_supportClosure : MethodName := ⟨RL, "supportClosure", "(LFrogParliament;II)I"⟩
abbrev cL_isListClosed : ByteArray := method_25_code
def yL_isListClosed : MethodName := ⟨RL, "isListClosed", "(LFrogParliament;I)I"⟩
abbrev cL_closureWeight : ByteArray := method_26_code
def yL_closureWeight : MethodName := ⟨RL, "closureWeight", "(LFrogParliament;I)I"⟩
abbrev cL_entitledWeight : ByteArray := method_27_code
def yL_entitledWeight : MethodName := ⟨RL, "entitledWeight", "(LFrogParliament;I)I"⟩
abbrev cL_croak : ByteArray := method_28_code
def yL_croak : MethodName := ⟨RL, "croak", "(LFrogParliament;IIIZ)I"⟩
abbrev cL_decide : ByteArray := method_29_code
def yL_decide : MethodName := ⟨RL, "decide", "(LFrogParliament;I)I"⟩
abbrev cL_isDecided : ByteArray := method_30_code
def yL_isDecided : MethodName := ⟨RL, "isDecided", "(LFrogParliament;I)I"⟩
abbrev cL_isAdopted : ByteArray := method_31_code
def yL_isAdopted : MethodName := ⟨RL, "isAdopted", "(LFrogParliament;I)I"⟩
abbrev cL_croaksFor : ByteArray := method_32_code
def yL_croaksFor : MethodName := ⟨RL, "croaksFor", "(LFrogParliament;I)I"⟩
abbrev cL_croaksForByPonds : ByteArray := method_33_code
def yL_croaksForByPonds : MethodName := ⟨RL, "croaksForByPonds", "(LFrogParliament;I)I"⟩
abbrev cL_croaksAgainst : ByteArray := method_34_code
def yL_croaksAgainst : MethodName := ⟨RL, "croaksAgainst", "(LFrogParliament;I)I"⟩
abbrev cL_strongestFrog : ByteArray := method_35_code
def yL_strongestFrog : MethodName := ⟨RL, "strongestFrog", "(LFrogParliament;I)I"⟩
abbrev cL_shareFor : ByteArray := method_36_code
def yL_shareFor : MethodName := ⟨RL, "shareFor", "(LFrogParliament;I)F"⟩
abbrev cL_append : ByteArray := method_37_code
def yL_append : MethodName := ⟨RL, "append", "(LFrogParliament;C)I"⟩
abbrev cL_run : ByteArray := method_38_code
def yL_run : MethodName := ⟨RL, "run", "(LFrogParliament;)I"⟩
abbrev cL_errorPosition : ByteArray := method_39_code
def yL_errorPosition : MethodName := ⟨RL, "errorPosition", "(LFrogParliament;)I"⟩
abbrev cL_failedCommand : ByteArray := method_40_code
def yL_failedCommand : MethodName := ⟨RL, "failedCommand", "(LFrogParliament;)I"⟩
abbrev cL_describeList : ByteArray := method_41_code
def yL_describeList : MethodName := ⟨RL, "describeList", "(LFrogParliament;I)I"⟩
abbrev cL_lineAt : ByteArray := method_42_code
def yL_lineAt : MethodName := ⟨RL, "lineAt", "(LFrogParliament;I)I"⟩
abbrev cL_meanSittingWeight : ByteArray := method_43_code
def yL_meanSittingWeight : MethodName := ⟨RL, "meanSittingWeight", "(LFrogParliament;)D"⟩
abbrev cL_undo : ByteArray := method_44_code
def yL_undo : MethodName := ⟨RL, "undo", "(LFrogParliament;)I"⟩
abbrev cL_restore : ByteArray := method_45_code
def yL_restore : MethodName := ⟨RL, "restore", "(LFrogParliament;)I"⟩
abbrev cL_said : ByteArray := method_46_code
def yL_said : MethodName := ⟨RL, "said", "(LFrogParliament;I)Ljava/lang/String;"⟩
abbrev cL_some : ByteArray := method_48_code
def yL_some : MethodName := ⟨RL, "some", "(LFrogParliamentLaw$Bits;I)I"⟩
abbrev cL_acts : ByteArray := method_49_code
def yL_acts : MethodName := ⟨RL, "acts", "(LFrogParliament;ILFrogParliamentLaw$Bits;)I"⟩
abbrev cL_told : ByteArray := method_50_code
def yL_told : MethodName := ⟨RL, "told", "(LFrogParliament;)Ljava/lang/String;"⟩
abbrev cL_stock : ByteArray := method_51_code
def yL_stock : MethodName := ⟨RL, "stock", "(LFrogParliament;)I"⟩
abbrev cL_frogs : ByteArray := method_52_code
def yL_frogs : MethodName := ⟨RL, "frogs", "(LFrogParliament;)Z"⟩
abbrev cL_motion : ByteArray := method_53_code
def yL_motion : MethodName := ⟨RL, "motion", "(LFrogParliament;I)Z"⟩
abbrev cL_motions : ByteArray := method_54_code
def yL_motions : MethodName := ⟨RL, "motions", "(LFrogParliament;)Z"⟩
abbrev cL_foretold : ByteArray := method_55_code
def yL_foretold : MethodName := ⟨RL, "foretold", "(LFrogParliament;LFrogParliamentLaw$Bits;)Z"⟩
abbrev cL_law : ByteArray := code
def yL_law : MethodName := ⟨RL, "law", "([I)Z"⟩
abbrev vwCl : List vw_C := [(RJ0, TJ0, 4), (RJ4, TJ4, 4), (RJx00060, TJx00060, 6), (RJx7c733, TJx7c733, 6), (RX2, TX2, 12), (RX3, TX3, 3), (RX4, TX4, 3), (RX5, TX5, 3), (RX6, TX6, 12), (RX8, TX8, 2), (RX9, TX9, 11), (RX10, TX10, 1)]
