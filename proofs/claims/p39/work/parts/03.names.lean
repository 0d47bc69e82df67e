/-! ===== BEGIN printed: names, fields, word lists, decode rows ===== -/
def RX0 : String := "BellTelegraph$Command"
def TX0 : u_T := fun k => match k with
  | 0 => ("BellTelegraph$Command", "kind", "I", false)
  | 1 => ("BellTelegraph$Command", "first", "I", false)
  | 2 => ("BellTelegraph$Command", "second", "I", false)
  | _ => ("BellTelegraph$Command", "third", "I", false)
def tyX0 : Nat → FieldType := fun k => match k with
  | 0 => .int
  | 1 => .int
  | 2 => .int
  | _ => .int
abbrev wsX00 : List Cond := u_ws RX0 TX0 4
theorem nmX0 : ∀ a, a < 4 → ∀ b, b < 4 → a ≠ b → (TX0 a).2.1 ≠ (TX0 b).2.1 := by decide +kernel
theorem tyX0_ok : ∀ k, k < 4 → parseFieldDescriptor (TX0 k).2.2.1 = some (tyX0 k) := by decide +kernel
abbrev cX0_init : ByteArray := prog_2_method_1_code
def yX0_init : MethodName := ⟨RX0, "<init>", "()V"⟩
abbrev cX0_set : ByteArray := prog_2_method_2_code
def yX0_set : MethodName := ⟨RX0, "set", "(IIII)V"⟩
def RX1 : String := "BellTelegraph$CommandText"
def TX1 : u_T := fun k => match k with
  | 0 => ("BellTelegraph$CommandText", "characters", "[C", true)
  | 1 => ("BellTelegraph$CommandText", "length", "I", false)
  | 2 => ("BellTelegraph$CommandText", "commands", "[LBellTelegraph$Command;", true)
  | 3 => ("BellTelegraph$CommandText", "commandCount", "I", false)
  | _ => ("BellTelegraph$CommandText", "position", "I", false)
def tyX1 : Nat → FieldType := fun k => match k with
  | 0 => .array .char
  | 1 => .int
  | 2 => .array (.object "BellTelegraph$Command")
  | 3 => .int
  | _ => .int
abbrev wsX10 : List Cond := u_ws RX1 TX1 5
theorem nmX1 : ∀ a, a < 5 → ∀ b, b < 5 → a ≠ b → (TX1 a).2.1 ≠ (TX1 b).2.1 := by decide +kernel
theorem tyX1_ok : ∀ k, k < 5 → parseFieldDescriptor (TX1 k).2.2.1 = some (tyX1 k) := by decide +kernel
abbrev cX1_init : ByteArray := prog_3_method_1_code
def yX1_init : MethodName := ⟨RX1, "<init>", "()V"⟩
abbrev cX1_add : ByteArray := prog_3_method_2_code
def yX1_add : MethodName := ⟨RX1, "add", "(C)V"⟩
abbrev cX1_read : ByteArray := prog_3_method_3_code
def yX1_read : MethodName := ⟨RX1, "read", "()I"⟩
abbrev cX1_readCommand : ByteArray := prog_3_method_4_code
def yX1_readCommand : MethodName := ⟨RX1, "readCommand", "()Z"⟩
abbrev cX1_readSend : ByteArray := prog_3_method_5_code
def yX1_readSend : MethodName := ⟨RX1, "readSend", "(LBellTelegraph$Command;)Z"⟩
abbrev cX1_readOneNumber : ByteArray := prog_3_method_6_code
def yX1_readOneNumber : MethodName := ⟨RX1, "readOneNumber", "(LBellTelegraph$Command;I)Z"⟩
abbrev cX1_readSilence : ByteArray := prog_3_method_7_code
def yX1_readSilence : MethodName := ⟨RX1, "readSilence", "(LBellTelegraph$Command;)Z"⟩
abbrev cX1_readSetting : ByteArray := prog_3_method_8_code
def yX1_readSetting : MethodName := ⟨RX1, "readSetting", "(LBellTelegraph$Command;I)Z"⟩
abbrev cX1_nextCharacter : ByteArray := prog_3_method_9_code
def yX1_nextCharacter : MethodName := ⟨RX1, "nextCharacter", "()I"⟩
abbrev cX1_readCharacter : ByteArray := prog_3_method_10_code
def yX1_readCharacter : MethodName := ⟨RX1, "readCharacter", "(C)Z"⟩
abbrev cX1_readDigit : ByteArray := prog_3_method_11_code
def yX1_readDigit : MethodName := ⟨RX1, "readDigit", "(II)I"⟩
abbrev cX1_readNumber : ByteArray := prog_3_method_12_code
def yX1_readNumber : MethodName := ⟨RX1, "readNumber", "()I"⟩
abbrev cX1_readSigns : ByteArray := prog_3_method_13_code
def yX1_readSigns : MethodName := ⟨RX1, "readSigns", "()I"⟩
def RX2 : String := "BellTelegraph$Convent"
def TX2 : u_T := fun k => match k with
  | 0 => ("BellTelegraph$Convent", "tone", "I", false)
  | 1 => ("BellTelegraph$Convent", "ear", "I", false)
  | 2 => ("BellTelegraph$Convent", "silentFrom", "I", false)
  | 3 => ("BellTelegraph$Convent", "silentUntil", "I", false)
  | 4 => ("BellTelegraph$Convent", "hoursRung", "I", false)
  | 5 => ("BellTelegraph$Convent", "signsLost", "I", false)
  | 6 => ("BellTelegraph$Convent", "waitingCount", "I", false)
  | _ => ("BellTelegraph$Convent", "queue", "[I", true)
def tyX2 : Nat → FieldType := fun k => match k with
  | 0 => .int
  | 1 => .int
  | 2 => .int
  | 3 => .int
  | 4 => .int
  | 5 => .int
  | 6 => .int
  | _ => .array .int
abbrev wsX20 : List Cond := u_ws RX2 TX2 8
theorem nmX2 : ∀ a, a < 8 → ∀ b, b < 8 → a ≠ b → (TX2 a).2.1 ≠ (TX2 b).2.1 := by decide +kernel
theorem tyX2_ok : ∀ k, k < 8 → parseFieldDescriptor (TX2 k).2.2.1 = some (tyX2 k) := by decide +kernel
abbrev cX2_init : ByteArray := prog_4_method_1_code
def yX2_init : MethodName := ⟨RX2, "<init>", "()V"⟩
abbrev cX2_begin : ByteArray := prog_4_method_2_code
def yX2_begin : MethodName := ⟨RX2, "begin", "(II)V"⟩
abbrev cX2_takeFrom : ByteArray := prog_4_method_3_code
def yX2_takeFrom : MethodName := ⟨RX2, "takeFrom", "(LBellTelegraph$Convent;)V"⟩
abbrev cX2_isSilentAt : ByteArray := prog_4_method_4_code
def yX2_isSilentAt : MethodName := ⟨RX2, "isSilentAt", "(I)Z"⟩
abbrev cX2_firstWaiting : ByteArray := prog_4_method_5_code
def yX2_firstWaiting : MethodName := ⟨RX2, "firstWaiting", "()I"⟩
abbrev cX2_join : ByteArray := prog_4_method_6_code
def yX2_join : MethodName := ⟨RX2, "join", "(I)V"⟩
abbrev cX2_leave : ByteArray := prog_4_method_7_code
def yX2_leave : MethodName := ⟨RX2, "leave", "(I)V"⟩
def RX3 : String := "BellTelegraph$History"
def TX3 : u_T := fun k => match k with
  | 0 => ("BellTelegraph$History", "rows", "[LBellTelegraph$Network;", true)
  | 1 => ("BellTelegraph$History", "spareRow", "I", false)
  | _ => ("BellTelegraph$History", "kept", "I", false)
def tyX3 : Nat → FieldType := fun k => match k with
  | 0 => .array (.object "BellTelegraph$Network")
  | 1 => .int
  | _ => .int
abbrev wsX30 : List Cond := u_ws RX3 TX3 3
theorem nmX3 : ∀ a, a < 3 → ∀ b, b < 3 → a ≠ b → (TX3 a).2.1 ≠ (TX3 b).2.1 := by decide +kernel
theorem tyX3_ok : ∀ k, k < 3 → parseFieldDescriptor (TX3 k).2.2.1 = some (tyX3 k) := by decide +kernel
abbrev cX3_init : ByteArray := prog_5_method_1_code
def yX3_init : MethodName := ⟨RX3, "<init>", "()V"⟩
abbrev cX3_spare : ByteArray := prog_5_method_2_code
def yX3_spare : MethodName := ⟨RX3, "spare", "()LBellTelegraph$Network;"⟩
abbrev cX3_keepSpare : ByteArray := prog_5_method_3_code
def yX3_keepSpare : MethodName := ⟨RX3, "keepSpare", "()V"⟩
abbrev cX3_takeLatest : ByteArray := prog_5_method_4_code
def yX3_takeLatest : MethodName := ⟨RX3, "takeLatest", "()LBellTelegraph$Network;"⟩
def RX4 : String := "BellTelegraph$Message"
def TX4 : u_T := fun k => match k with
  | 0 => ("BellTelegraph$Message", "from", "I", false)
  | 1 => ("BellTelegraph$Message", "to", "I", false)
  | 2 => ("BellTelegraph$Message", "at", "I", false)
  | 3 => ("BellTelegraph$Message", "how", "I", false)
  | 4 => ("BellTelegraph$Message", "hourSent", "I", false)
  | 5 => ("BellTelegraph$Message", "place", "I", false)
  | 6 => ("BellTelegraph$Message", "hoursRung", "I", false)
  | 7 => ("BellTelegraph$Message", "isHeard", "Z", false)
  | 8 => ("BellTelegraph$Message", "signCount", "I", false)
  | _ => ("BellTelegraph$Message", "signs", "[I", true)
def tyX4 : Nat → FieldType := fun k => match k with
  | 0 => .int
  | 1 => .int
  | 2 => .int
  | 3 => .int
  | 4 => .int
  | 5 => .int
  | 6 => .int
  | 7 => .boolean
  | 8 => .int
  | _ => .array .int
abbrev wsX40 : List Cond := u_ws RX4 TX4 10
theorem nmX4 : ∀ a, a < 10 → ∀ b, b < 10 → a ≠ b → (TX4 a).2.1 ≠ (TX4 b).2.1 := by decide +kernel
theorem tyX4_ok : ∀ k, k < 10 → parseFieldDescriptor (TX4 k).2.2.1 = some (tyX4 k) := by decide +kernel
abbrev cX4_init : ByteArray := prog_6_method_1_code
def yX4_init : MethodName := ⟨RX4, "<init>", "()V"⟩
abbrev cX4_begin : ByteArray := prog_6_method_2_code
def yX4_begin : MethodName := ⟨RX4, "begin", "(III)V"⟩
abbrev cX4_takeFrom : ByteArray := prog_6_method_3_code
def yX4_takeFrom : MethodName := ⟨RX4, "takeFrom", "(LBellTelegraph$Message;)V"⟩
abbrev cX4_makeDue : ByteArray := prog_6_method_4_code
def yX4_makeDue : MethodName := ⟨RX4, "makeDue", "(I)V"⟩
abbrev cX4_isRungOut : ByteArray := prog_6_method_5_code
def yX4_isRungOut : MethodName := ⟨RX4, "isRungOut", "()Z"⟩
abbrev cX4_dueSign : ByteArray := prog_6_method_6_code
def yX4_dueSign : MethodName := ⟨RX4, "dueSign", "()I"⟩
abbrev cX4_loseDueSign : ByteArray := prog_6_method_7_code
def yX4_loseDueSign : MethodName := ⟨RX4, "loseDueSign", "()V"⟩
abbrev cX4_nextFrom : ByteArray := prog_6_method_8_code
def yX4_nextFrom : MethodName := ⟨RX4, "nextFrom", "(I)I"⟩
abbrev cX4_lostSigns : ByteArray := prog_6_method_9_code
def yX4_lostSigns : MethodName := ⟨RX4, "lostSigns", "()I"⟩
def RX5 : String := "BellTelegraph$Network"
def TX5 : u_T := fun k => match k with
  | 0 => ("BellTelegraph$Network", "hour", "I", false)
  | 1 => ("BellTelegraph$Network", "conventCount", "I", false)
  | 2 => ("BellTelegraph$Network", "convents", "[LBellTelegraph$Convent;", true)
  | 3 => ("BellTelegraph$Network", "ridges", "[LBellTelegraph$Ridge;", true)
  | 4 => ("BellTelegraph$Network", "psalms", "[I", true)
  | 5 => ("BellTelegraph$Network", "messageCount", "I", false)
  | 6 => ("BellTelegraph$Network", "messages", "[LBellTelegraph$Message;", true)
  | 7 => ("BellTelegraph$Network", "arrivedCount", "I", false)
  | 8 => ("BellTelegraph$Network", "arrivals", "[I", true)
  | _ => ("BellTelegraph$Network", "spelled", "[I", true)
def tyX5 : Nat → FieldType := fun k => match k with
  | 0 => .int
  | 1 => .int
  | 2 => .array (.object "BellTelegraph$Convent")
  | 3 => .array (.object "BellTelegraph$Ridge")
  | 4 => .array .int
  | 5 => .int
  | 6 => .array (.object "BellTelegraph$Message")
  | 7 => .int
  | 8 => .array .int
  | _ => .array .int
abbrev wsX50 : List Cond := u_ws RX5 TX5 10
theorem nmX5 : ∀ a, a < 10 → ∀ b, b < 10 → a ≠ b → (TX5 a).2.1 ≠ (TX5 b).2.1 := by decide +kernel
theorem tyX5_ok : ∀ k, k < 10 → parseFieldDescriptor (TX5 k).2.2.1 = some (tyX5 k) := by decide +kernel
abbrev cX5_init : ByteArray := prog_7_method_1_code
def yX5_init : MethodName := ⟨RX5, "<init>", "()V"⟩
abbrev cX5_takeFrom : ByteArray := prog_7_method_2_code
def yX5_takeFrom : MethodName := ⟨RX5, "takeFrom", "(LBellTelegraph$Network;)V"⟩
abbrev cX5_hasConvent : ByteArray := prog_7_method_3_code
def yX5_hasConvent : MethodName := ⟨RX5, "hasConvent", "(I)Z"⟩
abbrev cX5_hasRidge : ByteArray := prog_7_method_4_code
def yX5_hasRidge : MethodName := ⟨RX5, "hasRidge", "(I)Z"⟩
abbrev cX5_hasMessage : ByteArray := prog_7_method_5_code
def yX5_hasMessage : MethodName := ⟨RX5, "hasMessage", "(I)Z"⟩
abbrev cX5_hourOfDay : ByteArray := prog_7_method_6_code
def yX5_hourOfDay : MethodName := ⟨RX5, "hourOfDay", "()I"⟩
abbrev cX5_carryOut : ByteArray := prog_7_method_7_code
def yX5_carryOut : MethodName := ⟨RX5, "carryOut", "(LBellTelegraph$Command;LBellTelegraph$Refusal;)I"⟩
abbrev cX5_addConvent : ByteArray := prog_7_method_8_code
def yX5_addConvent : MethodName := ⟨RX5, "addConvent", "(IIILBellTelegraph$Refusal;)I"⟩
abbrev cX5_givePsalm : ByteArray := prog_7_method_9_code
def yX5_givePsalm : MethodName := ⟨RX5, "givePsalm", "(IILBellTelegraph$Refusal;)I"⟩
abbrev cX5_setSilence : ByteArray := prog_7_method_10_code
def yX5_setSilence : MethodName := ⟨RX5, "setSilence", "(IIILBellTelegraph$Refusal;)I"⟩
abbrev cX5_setWind : ByteArray := prog_7_method_11_code
def yX5_setWind : MethodName := ⟨RX5, "setWind", "(IILBellTelegraph$Refusal;)I"⟩
abbrev cX5_setEar : ByteArray := prog_7_method_12_code
def yX5_setEar : MethodName := ⟨RX5, "setEar", "(IILBellTelegraph$Refusal;)I"⟩
abbrev cX5_addMessage : ByteArray := prog_7_method_13_code
def yX5_addMessage : MethodName := ⟨RX5, "addMessage", "(IIILBellTelegraph$Refusal;)I"⟩
abbrev cX5_spell : ByteArray := prog_7_method_14_code
def yX5_spell : MethodName := ⟨RX5, "spell", "(I)I"⟩
abbrev cX5_dropMessage : ByteArray := prog_7_method_15_code
def yX5_dropMessage : MethodName := ⟨RX5, "dropMessage", "(ILBellTelegraph$Refusal;)I"⟩
abbrev cX5_passHours : ByteArray := prog_7_method_16_code
def yX5_passHours : MethodName := ⟨RX5, "passHours", "(ILBellTelegraph$Refusal;)I"⟩
abbrev cX5_passHour : ByteArray := prog_7_method_17_code
def yX5_passHour : MethodName := ⟨RX5, "passHour", "()V"⟩
abbrev cX5_ring : ByteArray := prog_7_method_18_code
def yX5_ring : MethodName := ⟨RX5, "ring", "(LBellTelegraph$Message;IZ)V"⟩
abbrev cX5_hoursOf : ByteArray := prog_7_method_19_code
def yX5_hoursOf : MethodName := ⟨RX5, "hoursOf", "(I)I"⟩
abbrev cX5_moveOn : ByteArray := prog_7_method_20_code
def yX5_moveOn : MethodName := ⟨RX5, "moveOn", "(LBellTelegraph$Message;II)V"⟩
abbrev cX5_arrive : ByteArray := prog_7_method_21_code
def yX5_arrive : MethodName := ⟨RX5, "arrive", "(LBellTelegraph$Message;I)V"⟩
abbrev cX5_beginNextHour : ByteArray := prog_7_method_22_code
def yX5_beginNextHour : MethodName := ⟨RX5, "beginNextHour", "()V"⟩
abbrev cX5_strengthBetween : ByteArray := prog_7_method_23_code
def yX5_strengthBetween : MethodName := ⟨RX5, "strengthBetween", "(II)I"⟩
abbrev cX5_isHeardBetween : ByteArray := prog_7_method_24_code
def yX5_isHeardBetween : MethodName := ⟨RX5, "isHeardBetween", "(II)Z"⟩
abbrev cX5_countAheadInRank : ByteArray := prog_7_method_25_code
def yX5_countAheadInRank : MethodName := ⟨RX5, "countAheadInRank", "(I)I"⟩
abbrev cX5_isAheadInRank : ByteArray := prog_7_method_26_code
def yX5_isAheadInRank : MethodName := ⟨RX5, "isAheadInRank", "(II)Z"⟩
abbrev cX5_countSignsWithPsalm : ByteArray := prog_7_method_27_code
def yX5_countSignsWithPsalm : MethodName := ⟨RX5, "countSignsWithPsalm", "()I"⟩
abbrev cX5_countMessages : ByteArray := prog_7_method_28_code
def yX5_countMessages : MethodName := ⟨RX5, "countMessages", "(I)I"⟩
abbrev cX5_countHoursRung : ByteArray := prog_7_method_29_code
def yX5_countHoursRung : MethodName := ⟨RX5, "countHoursRung", "()I"⟩
abbrev cX5_countSilentConvents : ByteArray := prog_7_method_30_code
def yX5_countSilentConvents : MethodName := ⟨RX5, "countSilentConvents", "()I"⟩
def RX6 : String := "BellTelegraph$Refusal"
def TX6 : u_T := fun k => match k with
  | 0 => ("BellTelegraph$Refusal", "reason", "I", false)
  | 1 => ("BellTelegraph$Refusal", "detail", "I", false)
  | _ => ("BellTelegraph$Refusal", "command", "I", false)
def tyX6 : Nat → FieldType := fun k => match k with
  | 0 => .int
  | 1 => .int
  | _ => .int
abbrev wsX60 : List Cond := u_ws RX6 TX6 3
theorem nmX6 : ∀ a, a < 3 → ∀ b, b < 3 → a ≠ b → (TX6 a).2.1 ≠ (TX6 b).2.1 := by decide +kernel
theorem tyX6_ok : ∀ k, k < 3 → parseFieldDescriptor (TX6 k).2.2.1 = some (tyX6 k) := by decide +kernel
abbrev cX6_init : ByteArray := prog_8_method_1_code
def yX6_init : MethodName := ⟨RX6, "<init>", "()V"⟩
abbrev cX6_because : ByteArray := prog_8_method_2_code
def yX6_because : MethodName := ⟨RX6, "because", "(II)I"⟩
def RX7 : String := "BellTelegraph$Ridge"
def TX7 : u_T := fun k => match k with
  | 0 => ("BellTelegraph$Ridge", "length", "I", false)
  | _ => ("BellTelegraph$Ridge", "wind", "I", false)
def tyX7 : Nat → FieldType := fun k => match k with
  | 0 => .int
  | _ => .int
abbrev wsX70 : List Cond := u_ws RX7 TX7 2
theorem nmX7 : ∀ a, a < 2 → ∀ b, b < 2 → a ≠ b → (TX7 a).2.1 ≠ (TX7 b).2.1 := by decide +kernel
theorem tyX7_ok : ∀ k, k < 2 → parseFieldDescriptor (TX7 k).2.2.1 = some (tyX7 k) := by decide +kernel
abbrev cX7_init : ByteArray := prog_9_method_1_code
def yX7_init : MethodName := ⟨RX7, "<init>", "()V"⟩
def RX8 : String := "BellTelegraph"
def TX8 : u_T := fun k => match k with
  | 0 => ("BellTelegraph", "now", "LBellTelegraph$Network;", true)
  | 1 => ("BellTelegraph", "trial", "LBellTelegraph$Network;", true)
  | 2 => ("BellTelegraph", "saved", "LBellTelegraph$Network;", true)
  | 3 => ("BellTelegraph", "isSaved", "Z", false)
  | 4 => ("BellTelegraph", "history", "LBellTelegraph$History;", true)
  | 5 => ("BellTelegraph", "refusal", "LBellTelegraph$Refusal;", true)
  | 6 => ("BellTelegraph", "single", "LBellTelegraph$Command;", true)
  | 7 => ("BellTelegraph", "text", "LBellTelegraph$CommandText;", true)
  | 8 => ("BellTelegraph", "faultPosition", "I", false)
  | 9 => ("BellTelegraph", "line", "[C", true)
  | _ => ("BellTelegraph", "lineLength", "I", false)
def tyX8 : Nat → FieldType := fun k => match k with
  | 0 => .object "BellTelegraph$Network"
  | 1 => .object "BellTelegraph$Network"
  | 2 => .object "BellTelegraph$Network"
  | 3 => .boolean
  | 4 => .object "BellTelegraph$History"
  | 5 => .object "BellTelegraph$Refusal"
  | 6 => .object "BellTelegraph$Command"
  | 7 => .object "BellTelegraph$CommandText"
  | 8 => .int
  | 9 => .array .char
  | _ => .int
abbrev wsX80 : List Cond := u_ws RX8 TX8 11
theorem nmX8 : ∀ a, a < 11 → ∀ b, b < 11 → a ≠ b → (TX8 a).2.1 ≠ (TX8 b).2.1 := by decide +kernel
theorem tyX8_ok : ∀ k, k < 11 → parseFieldDescriptor (TX8 k).2.2.1 = some (tyX8 k) := by decide +kernel
abbrev cX8_init : ByteArray := prog_1_method_1_code
def yX8_init : MethodName := ⟨RX8, "<init>", "()V"⟩
abbrev cX8_convent : ByteArray := prog_1_method_2_code
def yX8_convent : MethodName := ⟨RX8, "convent", "(III)I"⟩
abbrev cX8_code : ByteArray := prog_1_method_3_code
def yX8_code : MethodName := ⟨RX8, "code", "(II)I"⟩
abbrev cX8_silence : ByteArray := prog_1_method_4_code
def yX8_silence : MethodName := ⟨RX8, "silence", "(III)I"⟩
abbrev cX8_wind : ByteArray := prog_1_method_5_code
def yX8_wind : MethodName := ⟨RX8, "wind", "(II)I"⟩
abbrev cX8_ear : ByteArray := prog_1_method_6_code
def yX8_ear : MethodName := ⟨RX8, "ear", "(II)I"⟩
abbrev cX8_send : ByteArray := prog_1_method_7_code
def yX8_send : MethodName := ⟨RX8, "send", "(III)I"⟩
abbrev cX8_drop : ByteArray := prog_1_method_8_code
def yX8_drop : MethodName := ⟨RX8, "drop", "(I)I"⟩
abbrev cX8_hours : ByteArray := prog_1_method_9_code
def yX8_hours : MethodName := ⟨RX8, "hours", "(I)I"⟩
abbrev cX8_changeBySingle : ByteArray := prog_1_method_10_code
def yX8_changeBySingle : MethodName := ⟨RX8, "changeBySingle", "()I"⟩
abbrev cX8_conventOf : ByteArray := prog_1_method_11_code
def yX8_conventOf : MethodName := ⟨RX8, "conventOf", "(II)I"⟩
abbrev cX8_ridgeOf : ByteArray := prog_1_method_12_code
def yX8_ridgeOf : MethodName := ⟨RX8, "ridgeOf", "(II)I"⟩
abbrev cX8_psalm : ByteArray := prog_1_method_13_code
def yX8_psalm : MethodName := ⟨RX8, "psalm", "(I)I"⟩
abbrev cX8_strength : ByteArray := prog_1_method_14_code
def yX8_strength : MethodName := ⟨RX8, "strength", "(IZ)I"⟩
abbrev cX8_hears : ByteArray := prog_1_method_15_code
def yX8_hears : MethodName := ⟨RX8, "hears", "(IZ)Z"⟩
abbrev cX8_windIn : ByteArray := prog_1_method_16_code
def yX8_windIn : MethodName := ⟨RX8, "windIn", "(II)I"⟩
abbrev cX8_meanEar : ByteArray := prog_1_method_17_code
def yX8_meanEar : MethodName := ⟨RX8, "meanEar", "()F"⟩
abbrev cX8_askedConvent : ByteArray := prog_1_method_18_code
def yX8_askedConvent : MethodName := ⟨RX8, "askedConvent", "(I)LBellTelegraph$Convent;"⟩
abbrev cX8_askedRidge : ByteArray := prog_1_method_19_code
def yX8_askedRidge : MethodName := ⟨RX8, "askedRidge", "(I)LBellTelegraph$Ridge;"⟩
abbrev cX8_askedNeighbour : ByteArray := prog_1_method_20_code
def yX8_askedNeighbour : MethodName := ⟨RX8, "askedNeighbour", "(IZ)I"⟩
abbrev cX8_messageOf : ByteArray := prog_1_method_21_code
def yX8_messageOf : MethodName := ⟨RX8, "messageOf", "(II)I"⟩
abbrev cX8_sign : ByteArray := prog_1_method_22_code
def yX8_sign : MethodName := ⟨RX8, "sign", "(II)I"⟩
abbrev cX8_signs : ByteArray := prog_1_method_23_code
def yX8_signs : MethodName := ⟨RX8, "signs", "(I)I"⟩
abbrev cX8_waiting : ByteArray := prog_1_method_24_code
def yX8_waiting : MethodName := ⟨RX8, "waiting", "(II)I"⟩
abbrev cX8_arrived : ByteArray := prog_1_method_25_code
def yX8_arrived : MethodName := ⟨RX8, "arrived", "(I)I"⟩
abbrev cX8_arrivesIn : ByteArray := prog_1_method_26_code
def yX8_arrivesIn : MethodName := ⟨RX8, "arrivesIn", "(I)I"⟩
abbrev cX8_wouldLose : ByteArray := prog_1_method_27_code
def yX8_wouldLose : MethodName := ⟨RX8, "wouldLose", "(I)I"⟩
abbrev cX8_hoursUntilArrived : ByteArray := prog_1_method_28_code
def yX8_hoursUntilArrived : MethodName := ⟨RX8, "hoursUntilArrived", "(LBellTelegraph$Message;I)I"⟩
abbrev cX8_askedMessage : ByteArray := prog_1_method_29_code
def yX8_askedMessage : MethodName := ⟨RX8, "askedMessage", "(I)LBellTelegraph$Message;"⟩
abbrev cX8_ranked : ByteArray := prog_1_method_30_code
def yX8_ranked : MethodName := ⟨RX8, "ranked", "(I)I"⟩
abbrev cX8_lost : ByteArray := prog_1_method_31_code
def yX8_lost : MethodName := ⟨RX8, "lost", "()I"⟩
abbrev cX8_lostAgain : ByteArray := prog_1_method_32_code
def yX8_lostAgain : MethodName := ⟨RX8, "lostAgain", "()I"⟩
abbrev cX8_lostShare : ByteArray := prog_1_method_33_code
def yX8_lostShare : MethodName := ⟨RX8, "lostShare", "()D"⟩
abbrev cX8_append : ByteArray := prog_1_method_34_code
def yX8_append : MethodName := ⟨RX8, "append", "(C)I"⟩
abbrev cX8_commands : ByteArray := prog_1_method_35_code
def yX8_commands : MethodName := ⟨RX8, "commands", "()I"⟩
abbrev cX8_faultPosition : ByteArray := prog_1_method_36_code
def yX8_faultPosition : MethodName := ⟨RX8, "faultPosition", "()I"⟩
abbrev cX8_reason : ByteArray := prog_1_method_37_code
def yX8_reason : MethodName := ⟨RX8, "reason", "(I)I"⟩
abbrev cX8_line : ByteArray := prog_1_method_38_code
def yX8_line : MethodName := ⟨RX8, "line", "(I)I"⟩
abbrev cX8_writeDigit : ByteArray := prog_1_method_39_code
def yX8_writeDigit : MethodName := ⟨RX8, "writeDigit", "(I)V"⟩
abbrev cX8_write : ByteArray := prog_1_method_40_code
def yX8_write : MethodName := ⟨RX8, "write", "(C)V"⟩
abbrev cX8_character : ByteArray := prog_1_method_41_code
def yX8_character : MethodName := ⟨RX8, "character", "(I)C"⟩
abbrev cX8_account : ByteArray := prog_1_method_42_code
def yX8_account : MethodName := ⟨RX8, "account", "(I)I"⟩
abbrev cX8_undo : ByteArray := prog_1_method_43_code
def yX8_undo : MethodName := ⟨RX8, "undo", "()I"⟩
abbrev cX8_save : ByteArray := prog_1_method_44_code
def yX8_save : MethodName := ⟨RX8, "save", "()I"⟩
abbrev cX8_restore : ByteArray := prog_1_method_45_code
def yX8_restore : MethodName := ⟨RX8, "restore", "()I"⟩
abbrev cX8_isDigit : ByteArray := prog_1_method_46_code
def yX8_isDigit : MethodName := ⟨RX8, "isDigit", "(I)Z"⟩
abbrev cX8_isSign : ByteArray := prog_1_method_47_code
def yX8_isSign : MethodName := ⟨RX8, "isSign", "(I)Z"⟩
abbrev cX8_isHourOfDay : ByteArray := prog_1_method_48_code
def yX8_isHourOfDay : MethodName := ⟨RX8, "isHourOfDay", "(I)Z"⟩
abbrev cX8_turnedWind : ByteArray := prog_1_method_49_code
def yX8_turnedWind : MethodName := ⟨RX8, "turnedWind", "(II)I"⟩
def RX9 : String := "BellTelegraphModel"
def TX9 : u_T := fun k => match k with
  | _ => ("", "", "", false)
def tyX9 : Nat → FieldType := fun k => match k with
  | _ => .int
abbrev wsX90 : List Cond := u_ws RX9 TX9 0
theorem nmX9 : ∀ a, a < 0 → ∀ b, b < 0 → a ≠ b → (TX9 a).2.1 ≠ (TX9 b).2.1 := by decide +kernel
theorem tyX9_ok : ∀ k, k < 0 → parseFieldDescriptor (TX9 k).2.2.1 = some (tyX9 k) := by decide +kernel
def RJx145de : String := "java/io/Serializable"
def TJx145de : u_T := fun k => match k with
  | _ => ("", "", "", false)
def tyJx145de : Nat → FieldType := fun k => match k with
  | _ => .int
abbrev wsJx145de0 : List Cond := u_ws RJx145de TJx145de 0
theorem nmJx145de : ∀ a, a < 0 → ∀ b, b < 0 → a ≠ b → (TJx145de a).2.1 ≠ (TJx145de b).2.1 := by decide +kernel
theorem tyJx145de_ok : ∀ k, k < 0 → parseFieldDescriptor (TJx145de k).2.2.1 = some (tyJx145de k) := by decide +kernel
def RJ5 : String := "java/lang/AbstractStringBuilder"
def TJ5 : u_T := fun k => match k with
  | _ => ("", "", "", false)
def tyJ5 : Nat → FieldType := fun k => match k with
  | _ => .int
abbrev wsJ50 : List Cond := u_ws RJ5 TJ5 0
theorem nmJ5 : ∀ a, a < 0 → ∀ b, b < 0 → a ≠ b → (TJ5 a).2.1 ≠ (TJ5 b).2.1 := by decide +kernel
theorem tyJ5_ok : ∀ k, k < 0 → parseFieldDescriptor (TJ5 k).2.2.1 = some (tyJ5 k) := by decide +kernel
abbrev cJ5_init_d00df : ByteArray := prog_13_method_2_code
def yJ5_init_d00df : MethodName := ⟨RJ5, "<init>", "(I)V"⟩
abbrev cJ5_length_8abf5 : ByteArray := prog_13_method_6_code
def yJ5_length_8abf5 : MethodName := ⟨RJ5, "length", "()I"⟩
abbrev cJ5_ensureCapacityInternal_d00df : ByteArray := prog_13_method_9_code
def yJ5_ensureCapacityInternal_d00df : MethodName := ⟨RJ5, "ensureCapacityInternal", "(I)V"⟩
abbrev cJ5_newCapacity_0f7a4 : ByteArray := prog_13_method_10_code
def yJ5_newCapacity_0f7a4 : MethodName := ⟨RJ5, "newCapacity", "(I)I"⟩
abbrev cJ5_inflate_da8c8 : ByteArray := prog_13_method_11_code
def yJ5_inflate_da8c8 : MethodName := ⟨RJ5, "inflate", "()V"⟩
abbrev cJ5_append_cf1ce : ByteArray := prog_13_method_22_code
def yJ5_append_cf1ce : MethodName := ⟨RJ5, "append", "(Ljava/lang/String;)Ljava/lang/AbstractStringBuilder;"⟩
abbrev cJ5_appendNull_278bc : ByteArray := prog_13_method_26_code
def yJ5_appendNull_278bc : MethodName := ⟨RJ5, "appendNull", "()Ljava/lang/AbstractStringBuilder;"⟩
abbrev cJ5_append_c97b9 : ByteArray := prog_13_method_32_code
def yJ5_append_c97b9 : MethodName := ⟨RJ5, "append", "(I)Ljava/lang/AbstractStringBuilder;"⟩
abbrev cJ5_getValue_6d5f1 : ByteArray := prog_13_method_64_code
def yJ5_getValue_6d5f1 : MethodName := ⟨RJ5, "getValue", "()[B"⟩
abbrev cJ5_isLatin1_aae02 : ByteArray := prog_13_method_68_code
def yJ5_isLatin1_aae02 : MethodName := ⟨RJ5, "isLatin1", "()Z"⟩
abbrev cJ5_inflateIfNeededFor_a7421 : ByteArray := prog_13_method_71_code
def yJ5_inflateIfNeededFor_a7421 : MethodName := ⟨RJ5, "inflateIfNeededFor", "(Ljava/lang/String;)V"⟩
abbrev cJ5_putStringAt_47b60 : ByteArray := prog_13_method_73_code
def yJ5_putStringAt_47b60 : MethodName := ⟨RJ5, "putStringAt", "(ILjava/lang/String;)V"⟩
def RJx2cfe8 : String := "java/lang/Appendable"
def TJx2cfe8 : u_T := fun k => match k with
  | _ => ("", "", "", false)
def tyJx2cfe8 : Nat → FieldType := fun k => match k with
  | _ => .int
abbrev wsJx2cfe80 : List Cond := u_ws RJx2cfe8 TJx2cfe8 0
theorem nmJx2cfe8 : ∀ a, a < 0 → ∀ b, b < 0 → a ≠ b → (TJx2cfe8 a).2.1 ≠ (TJx2cfe8 b).2.1 := by decide +kernel
theorem tyJx2cfe8_ok : ∀ k, k < 0 → parseFieldDescriptor (TJx2cfe8 k).2.2.1 = some (tyJx2cfe8 k) := by decide +kernel
def RJx00060 : String := "java/lang/ArrayIndexOutOfBoundsException"
def TJx00060 : u_T := fun k => match k with
  | 0 => ("java/lang/Throwable", "backtrace", "Ljava/lang/Object;", false)
  | 1 => ("java/lang/Throwable", "detailMessage", "Ljava/lang/String;", false)
  | 2 => ("java/lang/Throwable", "cause", "Ljava/lang/Throwable;", false)
  | 3 => ("java/lang/Throwable", "stackTrace", "[Ljava/lang/StackTraceElement;", false)
  | 4 => ("java/lang/Throwable", "depth", "I", false)
  | _ => ("java/lang/Throwable", "suppressedExceptions", "Ljava/util/List;", false)
def tyJx00060 : Nat → FieldType := fun k => match k with
  | 0 => .object "java/lang/Object"
  | 1 => .object "java/lang/String"
  | 2 => .object "java/lang/Throwable"
  | 3 => .array (.object "java/lang/StackTraceElement")
  | 4 => .int
  | _ => .object "java/util/List"
abbrev wsJx000600 : List Cond := u_ws RJx00060 TJx00060 6
theorem nmJx00060 : ∀ a, a < 6 → ∀ b, b < 6 → a ≠ b → (TJx00060 a).2.1 ≠ (TJx00060 b).2.1 := by decide +kernel
theorem tyJx00060_ok : ∀ k, k < 6 → parseFieldDescriptor (TJx00060 k).2.2.1 = some (tyJx00060 k) := by decide +kernel
abbrev cJx00060_init_a7421 : ByteArray := prog_16_method_2_code
def yJx00060_init_a7421 : MethodName := ⟨RJx00060, "<init>", "(Ljava/lang/String;)V"⟩
def RJx9f9b0 : String := "java/lang/CharSequence"
def TJx9f9b0 : u_T := fun k => match k with
  | _ => ("", "", "", false)
def tyJx9f9b0 : Nat → FieldType := fun k => match k with
  | _ => .int
abbrev wsJx9f9b00 : List Cond := u_ws RJx9f9b0 TJx9f9b0 0
theorem nmJx9f9b0 : ∀ a, a < 0 → ∀ b, b < 0 → a ≠ b → (TJx9f9b0 a).2.1 ≠ (TJx9f9b0 b).2.1 := by decide +kernel
theorem tyJx9f9b0_ok : ∀ k, k < 0 → parseFieldDescriptor (TJx9f9b0 k).2.2.1 = some (tyJx9f9b0 k) := by decide +kernel
def RJx8e188 : String := "java/lang/Cloneable"
def TJx8e188 : u_T := fun k => match k with
  | _ => ("", "", "", false)
def tyJx8e188 : Nat → FieldType := fun k => match k with
  | _ => .int
abbrev wsJx8e1880 : List Cond := u_ws RJx8e188 TJx8e188 0
theorem nmJx8e188 : ∀ a, a < 0 → ∀ b, b < 0 → a ≠ b → (TJx8e188 a).2.1 ≠ (TJx8e188 b).2.1 := by decide +kernel
theorem tyJx8e188_ok : ∀ k, k < 0 → parseFieldDescriptor (TJx8e188 k).2.2.1 = some (tyJx8e188 k) := by decide +kernel
def RJxb160c : String := "java/lang/Comparable"
def TJxb160c : u_T := fun k => match k with
  | _ => ("", "", "", false)
def tyJxb160c : Nat → FieldType := fun k => match k with
  | _ => .int
abbrev wsJxb160c0 : List Cond := u_ws RJxb160c TJxb160c 0
theorem nmJxb160c : ∀ a, a < 0 → ∀ b, b < 0 → a ≠ b → (TJxb160c a).2.1 ≠ (TJxb160c b).2.1 := by decide +kernel
theorem tyJxb160c_ok : ∀ k, k < 0 → parseFieldDescriptor (TJxb160c k).2.2.1 = some (tyJxb160c k) := by decide +kernel
def RJxe99ae : String := "java/lang/Double"
def TJxe99ae : u_T := fun k => match k with
  | _ => ("", "", "", false)
def tyJxe99ae : Nat → FieldType := fun k => match k with
  | _ => .int
abbrev wsJxe99ae0 : List Cond := u_ws RJxe99ae TJxe99ae 0
theorem nmJxe99ae : ∀ a, a < 0 → ∀ b, b < 0 → a ≠ b → (TJxe99ae a).2.1 ≠ (TJxe99ae b).2.1 := by decide +kernel
theorem tyJxe99ae_ok : ∀ k, k < 0 → parseFieldDescriptor (TJxe99ae k).2.2.1 = some (tyJxe99ae k) := by decide +kernel
abbrev cJxe99ae_isNaN_b9ae7 : ByteArray := prog_20_method_6_code
def yJxe99ae_isNaN_b9ae7 : MethodName := ⟨RJxe99ae, "isNaN", "(D)Z"⟩
abbrev cJxe99ae_doubleToLongBits_ccdee : ByteArray := prog_20_method_23_code
def yJxe99ae_doubleToLongBits_ccdee : MethodName := ⟨RJxe99ae, "doubleToLongBits", "(D)J"⟩
def RJxf58ca : String := "java/lang/Float"
def TJxf58ca : u_T := fun k => match k with
  | _ => ("", "", "", false)
def tyJxf58ca : Nat → FieldType := fun k => match k with
  | _ => .int
abbrev wsJxf58ca0 : List Cond := u_ws RJxf58ca TJxf58ca 0
theorem nmJxf58ca : ∀ a, a < 0 → ∀ b, b < 0 → a ≠ b → (TJxf58ca a).2.1 ≠ (TJxf58ca b).2.1 := by decide +kernel
theorem tyJxf58ca_ok : ∀ k, k < 0 → parseFieldDescriptor (TJxf58ca k).2.2.1 = some (tyJxf58ca k) := by decide +kernel
abbrev cJxf58ca_isNaN_12338 : ByteArray := prog_22_method_6_code
def yJxf58ca_isNaN_12338 : MethodName := ⟨RJxf58ca, "isNaN", "(F)Z"⟩
abbrev cJxf58ca_floatToIntBits_5c35a : ByteArray := prog_22_method_24_code
def yJxf58ca_floatToIntBits_5c35a : MethodName := ⟨RJxf58ca, "floatToIntBits", "(F)I"⟩
def RJ6 : String := "java/lang/Integer"
def TJ6 : u_T := fun k => match k with
  | _ => ("", "", "", false)
def tyJ6 : Nat → FieldType := fun k => match k with
  | _ => .int
abbrev wsJ60 : List Cond := u_ws RJ6 TJ6 0
theorem nmJ6 : ∀ a, a < 0 → ∀ b, b < 0 → a ≠ b → (TJ6 a).2.1 ≠ (TJ6 b).2.1 := by decide +kernel
theorem tyJ6_ok : ∀ k, k < 0 → parseFieldDescriptor (TJ6 k).2.2.1 = some (tyJ6 k) := by decide +kernel
abbrev cJ6_getChars_ba4f3 : ByteArray := prog_26_method_12_code
def yJ6_getChars_ba4f3 : MethodName := ⟨RJ6, "getChars", "(II[B)I"⟩
abbrev cJ6_stringSize_0f7a4 : ByteArray := prog_26_method_13_code
def yJ6_stringSize_0f7a4 : MethodName := ⟨RJ6, "stringSize", "(I)I"⟩
def RJ9 : String := "java/lang/Math"
def TJ9 : u_T := fun k => match k with
  | _ => ("", "", "", false)
def tyJ9 : Nat → FieldType := fun k => match k with
  | _ => .int
abbrev wsJ90 : List Cond := u_ws RJ9 TJ9 0
theorem nmJ9 : ∀ a, a < 0 → ∀ b, b < 0 → a ≠ b → (TJ9 a).2.1 ≠ (TJ9 b).2.1 := by decide +kernel
theorem tyJ9_ok : ∀ k, k < 0 → parseFieldDescriptor (TJ9 k).2.2.1 = some (tyJ9 k) := by decide +kernel
abbrev cJ9_max_7cf53 : ByteArray := prog_27_method_65_code
def yJ9_max_7cf53 : MethodName := ⟨RJ9, "max", "(II)I"⟩
abbrev cJ9_min_7cf53 : ByteArray := prog_27_method_69_code
def yJ9_min_7cf53 : MethodName := ⟨RJ9, "min", "(II)I"⟩
def RJxd2413 : String := "java/lang/Number"
def TJxd2413 : u_T := fun k => match k with
  | _ => ("", "", "", false)
def tyJxd2413 : Nat → FieldType := fun k => match k with
  | _ => .int
abbrev wsJxd24130 : List Cond := u_ws RJxd2413 TJxd2413 0
theorem nmJxd2413 : ∀ a, a < 0 → ∀ b, b < 0 → a ≠ b → (TJxd2413 a).2.1 ≠ (TJxd2413 b).2.1 := by decide +kernel
theorem tyJxd2413_ok : ∀ k, k < 0 → parseFieldDescriptor (TJxd2413 k).2.2.1 = some (tyJxd2413 k) := by decide +kernel
def RJ0 : String := "java/lang/String"
def TJ0 : u_T := fun k => match k with
  | 0 => ("java/lang/String", "value", "[B", true)
  | 1 => ("java/lang/String", "coder", "B", true)
  | 2 => ("java/lang/String", "hash", "I", false)
  | _ => ("java/lang/String", "hashIsZero", "Z", false)
def tyJ0 : Nat → FieldType := fun k => match k with
  | 0 => .array .byte
  | 1 => .byte
  | 2 => .int
  | _ => .boolean
abbrev wsJ00 : List Cond := u_ws RJ0 TJ0 4
theorem nmJ0 : ∀ a, a < 4 → ∀ b, b < 4 → a ≠ b → (TJ0 a).2.1 ≠ (TJ0 b).2.1 := by decide +kernel
theorem tyJ0_ok : ∀ k, k < 4 → parseFieldDescriptor (TJ0 k).2.2.1 = some (tyJ0 k) := by decide +kernel
abbrev cJ0_init_81219 : ByteArray := prog_30_method_53_code
def yJ0_init_81219 : MethodName := ⟨RJ0, "<init>", "(Ljava/lang/StringBuilder;)V"⟩
abbrev cJ0_length_8abf5 : ByteArray := prog_30_method_54_code
def yJ0_length_8abf5 : MethodName := ⟨RJ0, "length", "()I"⟩
abbrev cJ0_charAt_5068e : ByteArray := prog_30_method_56_code
def yJ0_charAt_5068e : MethodName := ⟨RJ0, "charAt", "(I)C"⟩
abbrev cJ0_getBytes_840e7 : ByteArray := prog_30_method_147_code
def yJ0_getBytes_840e7 : MethodName := ⟨RJ0, "getBytes", "([BIB)V"⟩
abbrev cJ0_init_db425 : ByteArray := prog_30_method_150_code
def yJ0_init_db425 : MethodName := ⟨RJ0, "<init>", "(Ljava/lang/AbstractStringBuilder;Ljava/lang/Void;)V"⟩
abbrev cJ0_coder_7d493 : ByteArray := prog_30_method_152_code
def yJ0_coder_7d493 : MethodName := ⟨RJ0, "coder", "()B"⟩
abbrev cJ0_isLatin1_aae02 : ByteArray := prog_30_method_154_code
def yJ0_isLatin1_aae02 : MethodName := ⟨RJ0, "isLatin1", "()Z"⟩
abbrev cJ0_checkIndex_df160 : ByteArray := prog_30_method_155_code
def yJ0_checkIndex_df160 : MethodName := ⟨RJ0, "checkIndex", "(II)V"⟩
abbrev cJ0_checkBoundsOffCount_cabcc : ByteArray := prog_30_method_157_code
def yJ0_checkBoundsOffCount_cabcc : MethodName := ⟨RJ0, "checkBoundsOffCount", "(III)I"⟩
abbrev cJ0_checkBoundsBeginEnd_23922 : ByteArray := prog_30_method_158_code
def yJ0_checkBoundsBeginEnd_23922 : MethodName := ⟨RJ0, "checkBoundsBeginEnd", "(III)V"⟩
def RJ4 : String := "java/lang/StringBuilder"
def TJ4 : u_T := fun k => match k with
  | 0 => ("java/lang/AbstractStringBuilder", "value", "[B", false)
  | 1 => ("java/lang/AbstractStringBuilder", "coder", "B", false)
  | 2 => ("java/lang/AbstractStringBuilder", "maybeLatin1", "Z", false)
  | _ => ("java/lang/AbstractStringBuilder", "count", "I", false)
def tyJ4 : Nat → FieldType := fun k => match k with
  | 0 => .array .byte
  | 1 => .byte
  | 2 => .boolean
  | _ => .int
abbrev wsJ40 : List Cond := u_ws RJ4 TJ4 4
theorem nmJ4 : ∀ a, a < 4 → ∀ b, b < 4 → a ≠ b → (TJ4 a).2.1 ≠ (TJ4 b).2.1 := by decide +kernel
theorem tyJ4_ok : ∀ k, k < 4 → parseFieldDescriptor (TJ4 k).2.2.1 = some (tyJ4 k) := by decide +kernel
abbrev cJ4_init_da8c8 : ByteArray := prog_31_method_1_code
def yJ4_init_da8c8 : MethodName := ⟨RJ4, "<init>", "()V"⟩
abbrev cJ4_append_15ec4 : ByteArray := prog_31_method_7_code
def yJ4_append_15ec4 : MethodName := ⟨RJ4, "append", "(Ljava/lang/String;)Ljava/lang/StringBuilder;"⟩
abbrev cJ4_append_bf812 : ByteArray := prog_31_method_15_code
def yJ4_append_bf812 : MethodName := ⟨RJ4, "append", "(I)Ljava/lang/StringBuilder;"⟩
abbrev cJ4_toString_0e30d : ByteArray := prog_31_method_42_code
def yJ4_toString_0e30d : MethodName := ⟨RJ4, "toString", "()Ljava/lang/String;"⟩
abbrev cJ4_length_8abf5 : ByteArray := prog_31_method_93_code
def yJ4_length_8abf5 : MethodName := ⟨RJ4, "length", "()I"⟩
def RJ1 : String := "java/lang/StringLatin1"
def TJ1 : u_T := fun k => match k with
  | _ => ("", "", "", false)
def tyJ1 : Nat → FieldType := fun k => match k with
  | _ => .int
abbrev wsJ10 : List Cond := u_ws RJ1 TJ1 0
theorem nmJ1 : ∀ a, a < 0 → ∀ b, b < 0 → a ≠ b → (TJ1 a).2.1 ≠ (TJ1 b).2.1 := by decide +kernel
theorem tyJ1_ok : ∀ k, k < 0 → parseFieldDescriptor (TJ1 k).2.2.1 = some (tyJ1 k) := by decide +kernel
abbrev cJ1_charAt_3b067 : ByteArray := prog_32_method_2_code
def yJ1_charAt_3b067 : MethodName := ⟨RJ1, "charAt", "([BI)C"⟩
abbrev cJ1_inflate_0e8fd : ByteArray := prog_32_method_50_code
def yJ1_inflate_0e8fd : MethodName := ⟨RJ1, "inflate", "([BI[BII)V"⟩
def RJ2 : String := "java/lang/StringUTF16"
def TJ2 : u_T := fun k => match k with
  | _ => ("", "", "", false)
def tyJ2 : Nat → FieldType := fun k => match k with
  | _ => .int
abbrev wsJ20 : List Cond := u_ws RJ2 TJ2 0
theorem nmJ2 : ∀ a, a < 0 → ∀ b, b < 0 → a ≠ b → (TJ2 a).2.1 ≠ (TJ2 b).2.1 := by decide +kernel
theorem tyJ2_ok : ∀ k, k < 0 → parseFieldDescriptor (TJ2 k).2.2.1 = some (tyJ2 k) := by decide +kernel
abbrev cJ2_newBytesFor_77867 : ByteArray := prog_33_method_2_code
def yJ2_newBytesFor_77867 : MethodName := ⟨RJ2, "newBytesFor", "(I)[B"⟩
abbrev cJ2_newBytesLength_0f7a4 : ByteArray := prog_33_method_3_code
def yJ2_newBytesLength_0f7a4 : MethodName := ⟨RJ2, "newBytesLength", "(I)I"⟩
abbrev cJ2_putChar_b72d1 : ByteArray := prog_33_method_4_code
def yJ2_putChar_b72d1 : MethodName := ⟨RJ2, "putChar", "([BII)V"⟩
abbrev cJ2_getChar_3b067 : ByteArray := prog_33_method_5_code
def yJ2_getChar_3b067 : MethodName := ⟨RJ2, "getChar", "([BI)C"⟩
abbrev cJ2_length_9d52b : ByteArray := prog_33_method_6_code
def yJ2_length_9d52b : MethodName := ⟨RJ2, "length", "([B)I"⟩
abbrev cJ2_coderFromArrayLen_85cad : ByteArray := prog_33_method_15_code
def yJ2_coderFromArrayLen_85cad : MethodName := ⟨RJ2, "coderFromArrayLen", "([BI)B"⟩
abbrev cJ2_compress_39247 : ByteArray := prog_33_method_17_code
def yJ2_compress_39247 : MethodName := ⟨RJ2, "compress", "([BII)[B"⟩
abbrev cJ2_compress_5af95 : ByteArray := prog_33_method_22_code
def yJ2_compress_5af95 : MethodName := ⟨RJ2, "compress", "([BI[BII)I"⟩
abbrev cJ2_getChars_46870 : ByteArray := prog_33_method_77_code
def yJ2_getChars_46870 : MethodName := ⟨RJ2, "getChars", "(III[B)I"⟩
abbrev cJ2_putCharsAt_cd4e5 : ByteArray := prog_33_method_81_code
def yJ2_putCharsAt_cd4e5 : MethodName := ⟨RJ2, "putCharsAt", "([BICCCC)I"⟩
abbrev cJ2_charAt_3b067 : ByteArray := prog_33_method_83_code
def yJ2_charAt_3b067 : MethodName := ⟨RJ2, "charAt", "([BI)C"⟩
abbrev cJ2_inflate_0e8fd : ByteArray := prog_33_method_86_code
def yJ2_inflate_0e8fd : MethodName := ⟨RJ2, "inflate", "([BI[BII)V"⟩
abbrev cJ2_getChars_ba4f3 : ByteArray := prog_33_method_89_code
def yJ2_getChars_ba4f3 : MethodName := ⟨RJ2, "getChars", "(II[B)I"⟩
abbrev cJ2_checkIndex_2214a : ByteArray := prog_33_method_91_code
def yJ2_checkIndex_2214a : MethodName := ⟨RJ2, "checkIndex", "(I[B)V"⟩
abbrev cJ2_checkBoundsBeginEnd_d044e : ByteArray := prog_33_method_93_code
def yJ2_checkBoundsBeginEnd_d044e : MethodName := ⟨RJ2, "checkBoundsBeginEnd", "(II[B)V"⟩
abbrev cJ2_checkBoundsOffCount_d044e : ByteArray := prog_33_method_94_code
def yJ2_checkBoundsOffCount_d044e : MethodName := ⟨RJ2, "checkBoundsOffCount", "(II[B)V"⟩
def RJ10 : String := "java/lang/System"
def TJ10 : u_T := fun k => match k with
  | _ => ("", "", "", false)
def tyJ10 : Nat → FieldType := fun k => match k with
  | _ => .int
abbrev wsJ100 : List Cond := u_ws RJ10 TJ10 0
theorem nmJ10 : ∀ a, a < 0 → ∀ b, b < 0 → a ≠ b → (TJ10 a).2.1 ≠ (TJ10 b).2.1 := by decide +kernel
theorem tyJ10_ok : ∀ k, k < 0 → parseFieldDescriptor (TJ10 k).2.2.1 = some (tyJ10 k) := by decide +kernel
def RJxfd54e : String := "java/lang/constant/Constable"
def TJxfd54e : u_T := fun k => match k with
  | _ => ("", "", "", false)
def tyJxfd54e : Nat → FieldType := fun k => match k with
  | _ => .int
abbrev wsJxfd54e0 : List Cond := u_ws RJxfd54e TJxfd54e 0
theorem nmJxfd54e : ∀ a, a < 0 → ∀ b, b < 0 → a ≠ b → (TJxfd54e a).2.1 ≠ (TJxfd54e b).2.1 := by decide +kernel
theorem tyJxfd54e_ok : ∀ k, k < 0 → parseFieldDescriptor (TJxfd54e k).2.2.1 = some (tyJxfd54e k) := by decide +kernel
def RJx3cf43 : String := "java/lang/constant/ConstantDesc"
def TJx3cf43 : u_T := fun k => match k with
  | _ => ("", "", "", false)
def tyJx3cf43 : Nat → FieldType := fun k => match k with
  | _ => .int
abbrev wsJx3cf430 : List Cond := u_ws RJx3cf43 TJx3cf43 0
theorem nmJx3cf43 : ∀ a, a < 0 → ∀ b, b < 0 → a ≠ b → (TJx3cf43 a).2.1 ≠ (TJx3cf43 b).2.1 := by decide +kernel
theorem tyJx3cf43_ok : ∀ k, k < 0 → parseFieldDescriptor (TJx3cf43 k).2.2.1 = some (tyJx3cf43 k) := by decide +kernel
def RJ7 : String := "java/util/Arrays"
def TJ7 : u_T := fun k => match k with
  | _ => ("", "", "", false)
def tyJ7 : Nat → FieldType := fun k => match k with
  | _ => .int
abbrev wsJ70 : List Cond := u_ws RJ7 TJ7 0
theorem nmJ7 : ∀ a, a < 0 → ∀ b, b < 0 → a ≠ b → (TJ7 a).2.1 ≠ (TJ7 b).2.1 := by decide +kernel
theorem tyJ7_ok : ∀ k, k < 0 → parseFieldDescriptor (TJ7 k).2.2.1 = some (tyJ7 k) := by decide +kernel
abbrev cJ7_copyOf_9075b : ByteArray := prog_39_method_121_code
def yJ7_copyOf_9075b : MethodName := ⟨RJ7, "copyOf", "([BI)[B"⟩
abbrev cJ7_checkLength_df160 : ByteArray := prog_39_method_131_code
def yJ7_checkLength_df160 : MethodName := ⟨RJ7, "checkLength", "(II)V"⟩
abbrev cJ7_copyOfRange_39247 : ByteArray := prog_39_method_132_code
def yJ7_copyOfRange_39247 : MethodName := ⟨RJ7, "copyOfRange", "([BII)[B"⟩
abbrev cJ7_copyOfRangeByte_39247 : ByteArray := prog_39_method_133_code
def yJ7_copyOfRangeByte_39247 : MethodName := ⟨RJ7, "copyOfRangeByte", "([BII)[B"⟩
def RJ8 : String := "jdk/internal/util/ArraysSupport"
def TJ8 : u_T := fun k => match k with
  | _ => ("", "", "", false)
def tyJ8 : Nat → FieldType := fun k => match k with
  | _ => .int
abbrev wsJ80 : List Cond := u_ws RJ8 TJ8 0
theorem nmJ8 : ∀ a, a < 0 → ∀ b, b < 0 → a ≠ b → (TJ8 a).2.1 ≠ (TJ8 b).2.1 := by decide +kernel
theorem tyJ8_ok : ∀ k, k < 0 → parseFieldDescriptor (TJ8 k).2.2.1 = some (tyJ8 k) := by decide +kernel
abbrev cJ8_newLength_cabcc : ByteArray := prog_41_method_27_code
def yJ8_newLength_cabcc : MethodName := ⟨RJ8, "newLength", "(III)I"⟩
abbrev cJ8_hugeLength_7cf53 : ByteArray := prog_41_method_28_code
def yJ8_hugeLength_7cf53 : MethodName := ⟨RJ8, "hugeLength", "(II)I"⟩
def RJ3 : String := "jdk/internal/util/Preconditions"
def TJ3 : u_T := fun k => match k with
  | _ => ("", "", "", false)
def tyJ3 : Nat → FieldType := fun k => match k with
  | _ => .int
abbrev wsJ30 : List Cond := u_ws RJ3 TJ3 0
theorem nmJ3 : ∀ a, a < 0 → ∀ b, b < 0 → a ≠ b → (TJ3 a).2.1 ≠ (TJ3 b).2.1 := by decide +kernel
theorem tyJ3_ok : ∀ k, k < 0 → parseFieldDescriptor (TJ3 k).2.2.1 = some (tyJ3 k) := by decide +kernel
abbrev cJ3_checkIndex_8e157 : ByteArray := prog_42_method_11_code
def yJ3_checkIndex_8e157 : MethodName := ⟨RJ3, "checkIndex", "(IILjava/util/function/BiFunction;)I"⟩
abbrev cJ3_checkFromToIndex_8c36e : ByteArray := prog_42_method_12_code
def yJ3_checkFromToIndex_8c36e : MethodName := ⟨RJ3, "checkFromToIndex", "(IIILjava/util/function/BiFunction;)I"⟩
abbrev cJ3_checkFromIndexSize_8c36e : ByteArray := prog_42_method_13_code
def yJ3_checkFromIndexSize_8c36e : MethodName := ⟨RJ3, "checkFromIndexSize", "(IIILjava/util/function/BiFunction;)I"⟩
def RL : String := "BellTelegraphLaw"
abbrev cL_at : ByteArray := method_2_code
def yL_at : MethodName := ⟨RL, "at", "([II)I"⟩
abbrev cL_some : ByteArray := method_3_code
def yL_some : MethodName := ⟨RL, "some", "(II)I"⟩
abbrev cL_convent : ByteArray := method_4_code
def yL_convent : MethodName := ⟨RL, "convent", "(LBellTelegraph;III)I"⟩
abbrev cL_code : ByteArray := method_5_code
def yL_code : MethodName := ⟨RL, "code", "(LBellTelegraph;II)I"⟩
abbrev cL_silence : ByteArray := method_6_code
def yL_silence : MethodName := ⟨RL, "silence", "(LBellTelegraph;III)I"⟩
abbrev cL_wind : ByteArray := method_7_code
def yL_wind : MethodName := ⟨RL, "wind", "(LBellTelegraph;II)I"⟩
abbrev cL_ear : ByteArray := method_8_code
def yL_ear : MethodName := ⟨RL, "ear", "(LBellTelegraph;II)I"⟩
abbrev cL_send : ByteArray := method_9_code
def yL_send : MethodName := ⟨RL, "send", "(LBellTelegraph;III)I"⟩
abbrev cL_drop : ByteArray := method_10_code
def yL_drop : MethodName := ⟨RL, "drop", "(LBellTelegraph;I)I"⟩
abbrev cL_hours : ByteArray := method_11_code
def yL_hours : MethodName := ⟨RL, "hours", "(LBellTelegraph;I)I"⟩
abbrev cL_conventOf : ByteArray := method_12_code
def yL_conventOf : MethodName := ⟨RL, "conventOf", "(LBellTelegraph;II)I"⟩
abbrev cL_ridgeOf : ByteArray := method_13_code
def yL_ridgeOf : MethodName := ⟨RL, "ridgeOf", "(LBellTelegraph;II)I"⟩
abbrev cL_psalm : ByteArray := method_14_code
def yL_psalm : MethodName := ⟨RL, "psalm", "(LBellTelegraph;I)I"⟩
abbrev cL_messageOf : ByteArray := method_15_code
def yL_messageOf : MethodName := ⟨RL, "messageOf", "(LBellTelegraph;II)I"⟩
abbrev cL_sign : ByteArray := method_16_code
def yL_sign : MethodName := ⟨RL, "sign", "(LBellTelegraph;II)I"⟩
abbrev cL_signs : ByteArray := method_17_code
def yL_signs : MethodName := ⟨RL, "signs", "(LBellTelegraph;I)I"⟩
abbrev cL_waiting : ByteArray := method_18_code
def yL_waiting : MethodName := ⟨RL, "waiting", "(LBellTelegraph;II)I"⟩
abbrev cL_arrived : ByteArray := method_19_code
def yL_arrived : MethodName := ⟨RL, "arrived", "(LBellTelegraph;I)I"⟩
abbrev cL_strength : ByteArray := method_20_code
def yL_strength : MethodName := ⟨RL, "strength", "(LBellTelegraph;IZ)I"⟩
abbrev cL_windIn : ByteArray := method_21_code
def yL_windIn : MethodName := ⟨RL, "windIn", "(LBellTelegraph;II)I"⟩
abbrev cL_arrivesIn : ByteArray := method_22_code
def yL_arrivesIn : MethodName := ⟨RL, "arrivesIn", "(LBellTelegraph;I)I"⟩
abbrev cL_wouldLose : ByteArray := method_23_code
def yL_wouldLose : MethodName := ⟨RL, "wouldLose", "(LBellTelegraph;I)I"⟩
abbrev cL_ranked : ByteArray := method_24_code
def yL_ranked : MethodName := ⟨RL, "ranked", "(LBellTelegraph;I)I"⟩
abbrev cL_append : ByteArray := method_25_code
def yL_append : MethodName := ⟨RL, "append", "(LBellTelegraph;C)I"⟩
abbrev cL_commands : ByteArray := method_26_code
def yL_commands : MethodName := ⟨RL, "commands", "(LBellTelegraph;)I"⟩
abbrev cL_reason : ByteArray := method_27_code
def yL_reason : MethodName := ⟨RL, "reason", "(LBellTelegraph;I)I"⟩
abbrev cL_line : ByteArray := method_28_code
def yL_line : MethodName := ⟨RL, "line", "(LBellTelegraph;I)I"⟩
abbrev cL_character : ByteArray := method_29_code
def yL_character : MethodName := ⟨RL, "character", "(LBellTelegraph;I)I"⟩
abbrev cL_meanEar : ByteArray := method_30_code
def yL_meanEar : MethodName := ⟨RL, "meanEar", "(LBellTelegraph;)F"⟩
abbrev cL_lostShare : ByteArray := method_31_code
def yL_lostShare : MethodName := ⟨RL, "lostShare", "(LBellTelegraph;)D"⟩
abbrev cL_account : ByteArray := method_32_code
def yL_account : MethodName := ⟨RL, "account", "(LBellTelegraph;I)I"⟩
abbrev cL_undo : ByteArray := method_33_code
def yL_undo : MethodName := ⟨RL, "undo", "(LBellTelegraph;)I"⟩
abbrev cL_restore : ByteArray := method_34_code
def yL_restore : MethodName := ⟨RL, "restore", "(LBellTelegraph;)I"⟩
abbrev cL_hears : ByteArray := method_35_code
def yL_hears : MethodName := ⟨RL, "hears", "(LBellTelegraph;IZ)I"⟩
abbrev cL_reads : ByteArray := method_36_code
def yL_reads : MethodName := ⟨RL, "reads", "(LBellTelegraph;Ljava/lang/String;)I"⟩
abbrev cL_is : ByteArray := method_37_code
def yL_is : MethodName := ⟨RL, "is", "(LBellTelegraph;III)Z"⟩
abbrev cL_isLine : ByteArray := method_38_code
def yL_isLine : MethodName := ⟨RL, "isLine", "(LBellTelegraph;ILjava/lang/String;)Z"⟩
abbrev cL_makes : ByteArray := method_39_code
def yL_makes : MethodName := ⟨RL, "makes", "(LBellTelegraph;[I)Z"⟩
abbrev cL_some8 : ByteArray := method_40_code
def yL_some8 : MethodName := ⟨RL, "some8", "(I)I"⟩
abbrev cL_asks : ByteArray := method_41_code
def yL_asks : MethodName := ⟨RL, "asks", "(LBellTelegraph;)J"⟩
abbrev cL_changes : ByteArray := method_42_code
def yL_changes : MethodName := ⟨RL, "changes", "(LBellTelegraph;I)Z"⟩
abbrev cL_refused : ByteArray := method_43_code
def yL_refused : MethodName := ⟨RL, "refused", "(LBellTelegraph;)Z"⟩
abbrev cL_law : ByteArray := code
def yL_law : MethodName := ⟨RL, "law", "([I)Z"⟩
