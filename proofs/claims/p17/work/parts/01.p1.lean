def RX0 : String := "CellSwitch$Assembler"
def TX0 : u_T := fun k => match k with
  | 0 => ("CellSwitch$Assembler", "bytes", "[I", true)
  | 1 => ("CellSwitch$Assembler", "cells", "I", false)
  | _ => ("CellSwitch$Assembler", "length", "I", false)
def tyX0 : Nat → FieldType := fun k => match k with
  | 0 => .array .int
  | 1 => .int
  | _ => .int
abbrev wsX00 : List Cond := u_ws RX0 TX0 3
theorem nmX0 : ∀ a, a < 3 → ∀ b, b < 3 → a ≠ b → (TX0 a).2.1 ≠ (TX0 b).2.1 := by decide +kernel
theorem tyX0_ok : ∀ k, k < 3 → parseFieldDescriptor (TX0 k).2.2.1 = some (tyX0 k) := by decide +kernel
abbrev cX0_init : ByteArray := prog_2_method_1_code
def yX0_init : MethodName := ⟨RX0, "<init>", "()V"⟩
abbrev cX0_add : ByteArray := prog_2_method_2_code
def yX0_add : MethodName := ⟨RX0, "add", "([IZ)I"⟩
abbrev cX0_isWhole : ByteArray := prog_2_method_3_code
def yX0_isWhole : MethodName := ⟨RX0, "isWhole", "(I)Z"⟩
def RX1 : String := "CellSwitch$Call"
def TX1 : u_T := fun k => match k with
  | 0 => ("CellSwitch$Call", "side", "LCellSwitch$Side;", true)
  | 1 => ("CellSwitch$Call", "reference", "I", true)
  | 2 => ("CellSwitch$Call", "own", "Z", true)
  | 3 => ("CellSwitch$Call", "number", "I", false)
  | 4 => ("CellSwitch$Call", "state", "I", false)
  | 5 => ("CellSwitch$Call", "channel", "I", false)
  | 6 => ("CellSwitch$Call", "rate", "I", false)
  | 7 => ("CellSwitch$Call", "other", "I", false)
  | 8 => ("CellSwitch$Call", "cause", "I", false)
  | 9 => ("CellSwitch$Call", "due", "I", false)
  | 10 => ("CellSwitch$Call", "repeated", "Z", false)
  | 11 => ("CellSwitch$Call", "partner", "LCellSwitch$Call;", false)
  | 12 => ("CellSwitch$Call", "frames", "[[I", false)
  | 13 => ("CellSwitch$Call", "frameCells", "[I", false)
  | 14 => ("CellSwitch$Call", "assembler", "LCellSwitch$Assembler;", false)
  | 15 => ("CellSwitch$Call", "firstFrame", "I", false)
  | 16 => ("CellSwitch$Call", "framesWaiting", "I", false)
  | _ => ("CellSwitch$Call", "cellsGone", "I", false)
def tyX1 : Nat → FieldType := fun k => match k with
  | 0 => .object "CellSwitch$Side"
  | 1 => .int
  | 2 => .boolean
  | 3 => .int
  | 4 => .int
  | 5 => .int
  | 6 => .int
  | 7 => .int
  | 8 => .int
  | 9 => .int
  | 10 => .boolean
  | 11 => .object "CellSwitch$Call"
  | 12 => .array (.array .int)
  | 13 => .array .int
  | 14 => .object "CellSwitch$Assembler"
  | 15 => .int
  | 16 => .int
  | _ => .int
abbrev wsX10 : List Cond := u_ws RX1 TX1 18
theorem nmX1 : ∀ a, a < 18 → ∀ b, b < 18 → a ≠ b → (TX1 a).2.1 ≠ (TX1 b).2.1 := by decide +kernel
theorem tyX1_ok : ∀ k, k < 18 → parseFieldDescriptor (TX1 k).2.2.1 = some (tyX1 k) := by decide +kernel
abbrev cX1_init : ByteArray := prog_3_method_1_code
def yX1_init : MethodName := ⟨RX1, "<init>", "(LCellSwitch$Side;IZ)V"⟩
abbrev cX1_enter : ByteArray := prog_3_method_2_code
def yX1_enter : MethodName := ⟨RX1, "enter", "(II)V"⟩
abbrev cX1_repeat : ByteArray := prog_3_method_3_code
def yX1_repeat : MethodName := ⟨RX1, "repeat", "(I)V"⟩
abbrev cX1_isOpen : ByteArray := prog_3_method_4_code
def yX1_isOpen : MethodName := ⟨RX1, "isOpen", "()Z"⟩
abbrev cX1_release : ByteArray := prog_3_method_5_code
def yX1_release : MethodName := ⟨RX1, "release", "(II)V"⟩
abbrev cX1_finish : ByteArray := prog_3_method_6_code
def yX1_finish : MethodName := ⟨RX1, "finish", "(I)V"⟩
abbrev cX1_addFrame : ByteArray := prog_3_method_7_code
def yX1_addFrame : MethodName := ⟨RX1, "addFrame", "([II)Z"⟩
abbrev cX1_sendCells : ByteArray := prog_3_method_8_code
def yX1_sendCells : MethodName := ⟨RX1, "sendCells", "(LCellSwitch$Direction;)V"⟩
abbrev cX1_assembler : ByteArray := prog_3_method_9_code
def yX1_assembler : MethodName := ⟨RX1, "assembler", "()LCellSwitch$Assembler;"⟩
def RX2 : String := "CellSwitch$CellQueue"
def TX2 : u_T := fun k => match k with
  | 0 => ("CellSwitch$CellQueue", "octets", "[I", true)
  | 1 => ("CellSwitch$CellQueue", "heads", "[I", true)
  | 2 => ("CellSwitch$CellQueue", "first", "I", false)
  | _ => ("CellSwitch$CellQueue", "size", "I", false)
def tyX2 : Nat → FieldType := fun k => match k with
  | 0 => .array .int
  | 1 => .array .int
  | 2 => .int
  | _ => .int
abbrev wsX20 : List Cond := u_ws RX2 TX2 4
theorem nmX2 : ∀ a, a < 4 → ∀ b, b < 4 → a ≠ b → (TX2 a).2.1 ≠ (TX2 b).2.1 := by decide +kernel
theorem tyX2_ok : ∀ k, k < 4 → parseFieldDescriptor (TX2 k).2.2.1 = some (tyX2 k) := by decide +kernel
abbrev cX2_init : ByteArray := prog_4_method_1_code
def yX2_init : MethodName := ⟨RX2, "<init>", "()V"⟩
abbrev cX2_add : ByteArray := prog_4_method_2_code
def yX2_add : MethodName := ⟨RX2, "add", "(I[II)Z"⟩
abbrev cX2_takeFirst : ByteArray := prog_4_method_3_code
def yX2_takeFirst : MethodName := ⟨RX2, "takeFirst", "([II)I"⟩
def RX3 : String := "CellSwitch$Direction"
def TX3 : u_T := fun k => match k with
  | 0 => ("CellSwitch$Direction", "messages", "LCellSwitch$CellQueue;", true)
  | 1 => ("CellSwitch$Direction", "data", "LCellSwitch$CellQueue;", true)
  | 2 => ("CellSwitch$Direction", "receiver", "LCellSwitch$Receiver;", true)
  | 3 => ("CellSwitch$Direction", "assembler", "LCellSwitch$Assembler;", true)
  | 4 => ("CellSwitch$Direction", "wire", "[I", true)
  | 5 => ("CellSwitch$Direction", "onWire", "I", false)
  | 6 => ("CellSwitch$Direction", "damageKinds", "[I", true)
  | 7 => ("CellSwitch$Direction", "damageCells", "[I", true)
  | 8 => ("CellSwitch$Direction", "damageOctets", "[I", true)
  | 9 => ("CellSwitch$Direction", "damageMasks", "[I", true)
  | 10 => ("CellSwitch$Direction", "damages", "I", false)
  | 11 => ("CellSwitch$Direction", "cellsPut", "I", false)
  | 12 => ("CellSwitch$Direction", "lost", "I", false)
  | 13 => ("CellSwitch$Direction", "spoilt", "I", false)
  | 14 => ("CellSwitch$Direction", "unit", "[I", true)
  | _ => ("CellSwitch$Direction", "unitLength", "I", false)
def tyX3 : Nat → FieldType := fun k => match k with
  | 0 => .object "CellSwitch$CellQueue"
  | 1 => .object "CellSwitch$CellQueue"
  | 2 => .object "CellSwitch$Receiver"
  | 3 => .object "CellSwitch$Assembler"
  | 4 => .array .int
  | 5 => .int
  | 6 => .array .int
  | 7 => .array .int
  | 8 => .array .int
  | 9 => .array .int
  | 10 => .int
  | 11 => .int
  | 12 => .int
  | 13 => .int
  | 14 => .array .int
  | _ => .int
abbrev wsX30 : List Cond := u_ws RX3 TX3 16
theorem nmX3 : ∀ a, a < 16 → ∀ b, b < 16 → a ≠ b → (TX3 a).2.1 ≠ (TX3 b).2.1 := by decide +kernel
theorem tyX3_ok : ∀ k, k < 16 → parseFieldDescriptor (TX3 k).2.2.1 = some (tyX3 k) := by decide +kernel
abbrev cX3_init : ByteArray := prog_5_method_1_code
def yX3_init : MethodName := ⟨RX3, "<init>", "()V"⟩
abbrev cX3_addDamage : ByteArray := prog_5_method_2_code
def yX3_addDamage : MethodName := ⟨RX3, "addDamage", "(IIII)I"⟩
abbrev cX3_putCells : ByteArray := prog_5_method_3_code
def yX3_putCells : MethodName := ⟨RX3, "putCells", "()I"⟩
abbrev cX3_putHeader : ByteArray := prog_5_method_4_code
def yX3_putHeader : MethodName := ⟨RX3, "putHeader", "(I)V"⟩
abbrev cX3_spoilCell : ByteArray := prog_5_method_5_code
def yX3_spoilCell : MethodName := ⟨RX3, "spoilCell", "()I"⟩
abbrev cX3_addData : ByteArray := prog_5_method_6_code
def yX3_addData : MethodName := ⟨RX3, "addData", "(I[II)V"⟩
abbrev cX3_word : ByteArray := prog_5_method_7_code
def yX3_word : MethodName := ⟨RX3, "word", "(I)V"⟩
abbrev cX3_row : ByteArray := prog_5_method_8_code
def yX3_row : MethodName := ⟨RX3, "row", "([III)V"⟩
abbrev cX3_sendUnit : ByteArray := prog_5_method_9_code
def yX3_sendUnit : MethodName := ⟨RX3, "sendUnit", "(II)V"⟩
abbrev cX3_tell : ByteArray := prog_5_method_10_code
def yX3_tell : MethodName := ⟨RX3, "tell", "(I)I"⟩
def RX4 : String := "CellSwitch$EndSide"
def TX4 : u_T := fun k => match k with
  | 0 => ("CellSwitch$Side", "link", "I", true)
  | 1 => ("CellSwitch$Side", "line", "LCellSwitch$Line;", true)
  | 2 => ("CellSwitch$Side", "references", "Ljava/util/ArrayList;", true)
  | 3 => ("CellSwitch$Side", "lastReference", "I", false)
  | 4 => ("CellSwitch$EndSide", "policyKind", "I", false)
  | 5 => ("CellSwitch$EndSide", "policyTicks", "I", false)
  | 6 => ("CellSwitch$EndSide", "numbered", "[LCellSwitch$Call;", true)
  | 7 => ("CellSwitch$EndSide", "had", "I", false)
  | 8 => ("CellSwitch$EndSide", "receivedInAll", "I", false)
  | 9 => ("CellSwitch$EndSide", "receivedBytes", "[I", true)
  | 10 => ("CellSwitch$EndSide", "receivedLengths", "[I", true)
  | 11 => ("CellSwitch$EndSide", "receivedCalls", "[I", true)
  | _ => ("CellSwitch$EndSide", "receivedTimes", "[I", true)
def tyX4 : Nat → FieldType := fun k => match k with
  | 0 => .int
  | 1 => .object "CellSwitch$Line"
  | 2 => .object "java/util/ArrayList"
  | 3 => .int
  | 4 => .int
  | 5 => .int
  | 6 => .array (.object "CellSwitch$Call")
  | 7 => .int
  | 8 => .int
  | 9 => .array .int
  | 10 => .array .int
  | 11 => .array .int
  | _ => .array .int
abbrev wsX40 : List Cond := u_ws RX4 TX4 13
theorem nmX4 : ∀ a, a < 13 → ∀ b, b < 13 → a ≠ b → (TX4 a).2.1 ≠ (TX4 b).2.1 := by decide +kernel
theorem tyX4_ok : ∀ k, k < 13 → parseFieldDescriptor (TX4 k).2.2.1 = some (tyX4 k) := by decide +kernel
abbrev cX4_init : ByteArray := prog_6_method_1_code
def yX4_init : MethodName := ⟨RX4, "<init>", "(ILCellSwitch$Line;)V"⟩
abbrev cX4_hasRoom : ByteArray := prog_6_method_2_code
def yX4_hasRoom : MethodName := ⟨RX4, "hasRoom", "()Z"⟩
abbrev cX4_add : ByteArray := prog_6_method_3_code
def yX4_add : MethodName := ⟨RX4, "add", "(LCellSwitch$Call;)V"⟩
abbrev cX4_ask : ByteArray := prog_6_method_4_code
def yX4_ask : MethodName := ⟨RX4, "ask", "(III)I"⟩
abbrev cX4_saySetup : ByteArray := prog_6_method_5_code
def yX4_saySetup : MethodName := ⟨RX4, "saySetup", "(LCellSwitch$Call;)V"⟩
abbrev cX4_setupCame : ByteArray := prog_6_method_6_code
def yX4_setupCame : MethodName := ⟨RX4, "setupCame", "(LCellSwitch$Signal;I)V"⟩
abbrev cX4_answer : ByteArray := prog_6_method_7_code
def yX4_answer : MethodName := ⟨RX4, "answer", "(LCellSwitch$Call;I)V"⟩
abbrev cX4_progress : ByteArray := prog_6_method_8_code
def yX4_progress : MethodName := ⟨RX4, "progress", "(LCellSwitch$Call;LCellSwitch$Signal;I)V"⟩
abbrev cX4_timer : ByteArray := prog_6_method_9_code
def yX4_timer : MethodName := ⟨RX4, "timer", "(LCellSwitch$Call;I)V"⟩
abbrev cX4_sendCells : ByteArray := prog_6_method_10_code
def yX4_sendCells : MethodName := ⟨RX4, "sendCells", "(LCellSwitch$Direction;)V"⟩
abbrev cX4_active : ByteArray := prog_6_method_11_code
def yX4_active : MethodName := ⟨RX4, "active", "(I)LCellSwitch$Call;"⟩
abbrev cX4_dataCame : ByteArray := prog_6_method_12_code
def yX4_dataCame : MethodName := ⟨RX4, "dataCame", "(LCellSwitch$Call;[IZI)I"⟩
abbrev cX4_placeOfFrame : ByteArray := prog_6_method_13_code
def yX4_placeOfFrame : MethodName := ⟨RX4, "placeOfFrame", "(I)I"⟩
def RX5 : String := "CellSwitch$Line"
def TX5 : u_T := fun k => match k with
  | 0 => ("CellSwitch$Line", "out", "LCellSwitch$Direction;", true)
  | 1 => ("CellSwitch$Line", "waiting", "LCellSwitch$Messages;", true)
  | 2 => ("CellSwitch$Line", "sent", "LCellSwitch$Messages;", true)
  | 3 => ("CellSwitch$Line", "ahead", "LCellSwitch$Messages;", true)
  | 4 => ("CellSwitch$Line", "state", "I", false)
  | 5 => ("CellSwitch$Line", "s", "I", false)
  | 6 => ("CellSwitch$Line", "a", "I", false)
  | 7 => ("CellSwitch$Line", "may", "I", false)
  | 8 => ("CellSwitch$Line", "p", "I", false)
  | 9 => ("CellSwitch$Line", "pa", "I", false)
  | 10 => ("CellSwitch$Line", "\x72", "I", false)
  | 11 => ("CellSwitch$Line", "h", "I", false)
  | 12 => ("CellSwitch$Line", "cuts", "I", false)
  | 13 => ("CellSwitch$Line", "lastNumber", "I", false)
  | 14 => ("CellSwitch$Line", "lastBegin", "I", false)
  | 15 => ("CellSwitch$Line", "lastReset", "I", false)
  | 16 => ("CellSwitch$Line", "asked", "I", false)
  | 17 => ("CellSwitch$Line", "tries", "I", false)
  | 18 => ("CellSwitch$Line", "askedAt", "I", false)
  | 19 => ("CellSwitch$Line", "dataSincePoll", "I", false)
  | _ => ("CellSwitch$Line", "lastStatus", "I", false)
def tyX5 : Nat → FieldType := fun k => match k with
  | 0 => .object "CellSwitch$Direction"
  | 1 => .object "CellSwitch$Messages"
  | 2 => .object "CellSwitch$Messages"
  | 3 => .object "CellSwitch$Messages"
  | 4 => .int
  | 5 => .int
  | 6 => .int
  | 7 => .int
  | 8 => .int
  | 9 => .int
  | 10 => .int
  | 11 => .int
  | 12 => .int
  | 13 => .int
  | 14 => .int
  | 15 => .int
  | 16 => .int
  | 17 => .int
  | 18 => .int
  | 19 => .int
  | _ => .int
abbrev wsX50 : List Cond := u_ws RX5 TX5 21
theorem nmX5 : ∀ a, a < 21 → ∀ b, b < 21 → a ≠ b → (TX5 a).2.1 ≠ (TX5 b).2.1 := by decide +kernel
theorem tyX5_ok : ∀ k, k < 21 → parseFieldDescriptor (TX5 k).2.2.1 = some (tyX5 k) := by decide +kernel
abbrev cX5_init : ByteArray := prog_7_method_1_code
def yX5_init : MethodName := ⟨RX5, "<init>", "(LCellSwitch$Direction;)V"⟩
abbrev cX5_tell : ByteArray := prog_7_method_2_code
def yX5_tell : MethodName := ⟨RX5, "tell", "(I)I"⟩
abbrev cX5_cameAhead : ByteArray := prog_7_method_3_code
def yX5_cameAhead : MethodName := ⟨RX5, "cameAhead", "()I"⟩
abbrev cX5_anew : ByteArray := prog_7_method_4_code
def yX5_anew : MethodName := ⟨RX5, "anew", "(I)V"⟩
abbrev cX5_becomeReady : ByteArray := prog_7_method_5_code
def yX5_becomeReady : MethodName := ⟨RX5, "becomeReady", "(I)V"⟩
abbrev cX5_cut : ByteArray := prog_7_method_6_code
def yX5_cut : MethodName := ⟨RX5, "cut", "()V"⟩
abbrev cX5_ask : ByteArray := prog_7_method_7_code
def yX5_ask : MethodName := ⟨RX5, "ask", "(III)V"⟩
abbrev cX5_askAgain : ByteArray := prog_7_method_8_code
def yX5_askAgain : MethodName := ⟨RX5, "askAgain", "(I)V"⟩
abbrev cX5_timers : ByteArray := prog_7_method_9_code
def yX5_timers : MethodName := ⟨RX5, "timers", "(I)Z"⟩
abbrev cX5_poll : ByteArray := prog_7_method_10_code
def yX5_poll : MethodName := ⟨RX5, "poll", "(I)V"⟩
abbrev cX5_turn : ByteArray := prog_7_method_11_code
def yX5_turn : MethodName := ⟨RX5, "turn", "(I)V"⟩
abbrev cX5_sendData : ByteArray := prog_7_method_12_code
def yX5_sendData : MethodName := ⟨RX5, "sendData", "(I)Z"⟩
abbrev cX5_unitCame : ByteArray := prog_7_method_13_code
def yX5_unitCame : MethodName := ⟨RX5, "unitCame", "([III)I"⟩
abbrev cX5_isUnit : ByteArray := prog_7_method_14_code
def yX5_isUnit : MethodName := ⟨RX5, "isUnit", "([II)Z"⟩
abbrev cX5_beginCame : ByteArray := prog_7_method_15_code
def yX5_beginCame : MethodName := ⟨RX5, "beginCame", "(II)I"⟩
abbrev cX5_endCame : ByteArray := prog_7_method_16_code
def yX5_endCame : MethodName := ⟨RX5, "endCame", "()I"⟩
abbrev cX5_resetCame : ByteArray := prog_7_method_17_code
def yX5_resetCame : MethodName := ⟨RX5, "resetCame", "(III)V"⟩
abbrev cX5_answerCame : ByteArray := prog_7_method_18_code
def yX5_answerCame : MethodName := ⟨RX5, "answerCame", "(II)V"⟩
abbrev cX5_dataCame : ByteArray := prog_7_method_19_code
def yX5_dataCame : MethodName := ⟨RX5, "dataCame", "([III)V"⟩
abbrev cX5_takeNext : ByteArray := prog_7_method_20_code
def yX5_takeNext : MethodName := ⟨RX5, "takeNext", "([I)I"⟩
abbrev cX5_pollCame : ByteArray := prog_7_method_21_code
def yX5_pollCame : MethodName := ⟨RX5, "pollCame", "(II)V"⟩
abbrev cX5_tellList : ByteArray := prog_7_method_22_code
def yX5_tellList : MethodName := ⟨RX5, "tellList", "()V"⟩
abbrev cX5_statusCame : ByteArray := prog_7_method_23_code
def yX5_statusCame : MethodName := ⟨RX5, "statusCame", "([IIII)Z"⟩
abbrev cX5_gapCame : ByteArray := prog_7_method_24_code
def yX5_gapCame : MethodName := ⟨RX5, "gapCame", "(III)Z"⟩
abbrev cX5_acknowledge : ByteArray := prog_7_method_25_code
def yX5_acknowledge : MethodName := ⟨RX5, "acknowledge", "(I)V"⟩
abbrev cX5_markAgain : ByteArray := prog_7_method_26_code
def yX5_markAgain : MethodName := ⟨RX5, "markAgain", "(III)V"⟩
def RX6 : String := "CellSwitch$Messages"
def TX6 : u_T := fun k => match k with
  | 0 => ("CellSwitch$Messages", "places", "I", true)
  | 1 => ("CellSwitch$Messages", "bytes", "[I", true)
  | 2 => ("CellSwitch$Messages", "lengths", "[I", true)
  | 3 => ("CellSwitch$Messages", "polls", "[I", true)
  | 4 => ("CellSwitch$Messages", "again", "[Z", true)
  | 5 => ("CellSwitch$Messages", "first", "I", false)
  | _ => ("CellSwitch$Messages", "size", "I", false)
def tyX6 : Nat → FieldType := fun k => match k with
  | 0 => .int
  | 1 => .array .int
  | 2 => .array .int
  | 3 => .array .int
  | 4 => .array .boolean
  | 5 => .int
  | _ => .int
abbrev wsX60 : List Cond := u_ws RX6 TX6 7
theorem nmX6 : ∀ a, a < 7 → ∀ b, b < 7 → a ≠ b → (TX6 a).2.1 ≠ (TX6 b).2.1 := by decide +kernel
theorem tyX6_ok : ∀ k, k < 7 → parseFieldDescriptor (TX6 k).2.2.1 = some (tyX6 k) := by decide +kernel
abbrev cX6_init : ByteArray := prog_8_method_1_code
def yX6_init : MethodName := ⟨RX6, "<init>", "(I)V"⟩
abbrev cX6_clearAll : ByteArray := prog_8_method_2_code
def yX6_clearAll : MethodName := ⟨RX6, "clearAll", "()V"⟩
abbrev cX6_clear : ByteArray := prog_8_method_3_code
def yX6_clear : MethodName := ⟨RX6, "clear", "(I)V"⟩
abbrev cX6_put : ByteArray := prog_8_method_4_code
def yX6_put : MethodName := ⟨RX6, "put", "(I[III)V"⟩
abbrev cX6_begin : ByteArray := prog_8_method_5_code
def yX6_begin : MethodName := ⟨RX6, "begin", "(IIZI)Z"⟩
abbrev cX6_element : ByteArray := prog_8_method_6_code
def yX6_element : MethodName := ⟨RX6, "element", "(III)V"⟩
abbrev cX6_dropFirst : ByteArray := prog_8_method_7_code
def yX6_dropFirst : MethodName := ⟨RX6, "dropFirst", "()V"⟩
def RX7 : String := "CellSwitch$Receiver"
def TX7 : u_T := fun k => match k with
  | 0 => ("CellSwitch$Receiver", "payload", "[I", true)
  | 1 => ("CellSwitch$Receiver", "state", "I", false)
  | 2 => ("CellSwitch$Receiver", "detection", "Z", false)
  | 3 => ("CellSwitch$Receiver", "run", "I", false)
  | 4 => ("CellSwitch$Receiver", "taken", "I", false)
  | 5 => ("CellSwitch$Receiver", "thrown", "I", false)
  | 6 => ("CellSwitch$Receiver", "putRight", "I", false)
  | 7 => ("CellSwitch$Receiver", "head", "I", false)
  | 8 => ("CellSwitch$Receiver", "hec", "I", false)
  | 9 => ("CellSwitch$Receiver", "place", "I", false)
  | 10 => ("CellSwitch$Receiver", "keep", "Z", false)
  | _ => ("CellSwitch$Receiver", "ready", "Z", false)
def tyX7 : Nat → FieldType := fun k => match k with
  | 0 => .array .int
  | 1 => .int
  | 2 => .boolean
  | 3 => .int
  | 4 => .int
  | 5 => .int
  | 6 => .int
  | 7 => .int
  | 8 => .int
  | 9 => .int
  | 10 => .boolean
  | _ => .boolean
abbrev wsX70 : List Cond := u_ws RX7 TX7 12
theorem nmX7 : ∀ a, a < 12 → ∀ b, b < 12 → a ≠ b → (TX7 a).2.1 ≠ (TX7 b).2.1 := by decide +kernel
theorem tyX7_ok : ∀ k, k < 12 → parseFieldDescriptor (TX7 k).2.2.1 = some (tyX7 k) := by decide +kernel
abbrev cX7_init : ByteArray := prog_9_method_1_code
def yX7_init : MethodName := ⟨RX7, "<init>", "()V"⟩
abbrev cX7_take : ByteArray := prog_9_method_2_code
def yX7_take : MethodName := ⟨RX7, "take", "([III)I"⟩
abbrev cX7_headerOctet : ByteArray := prog_9_method_3_code
def yX7_headerOctet : MethodName := ⟨RX7, "headerOctet", "(I)V"⟩
abbrev cX7_presyncHeader : ByteArray := prog_9_method_4_code
def yX7_presyncHeader : MethodName := ⟨RX7, "presyncHeader", "(Z)V"⟩
abbrev cX7_syncHeader : ByteArray := prog_9_method_5_code
def yX7_syncHeader : MethodName := ⟨RX7, "syncHeader", "(Z)V"⟩
abbrev cX7_hunt : ByteArray := prog_9_method_6_code
def yX7_hunt : MethodName := ⟨RX7, "hunt", "()V"⟩
def RX8 : String := "CellSwitch$Side"
def TX8 : u_T := fun k => match k with
  | _ => ("", "", "", false)
def tyX8 : Nat → FieldType := fun k => match k with
  | _ => .int
abbrev wsX80 : List Cond := u_ws RX8 TX8 0
theorem nmX8 : ∀ a, a < 0 → ∀ b, b < 0 → a ≠ b → (TX8 a).2.1 ≠ (TX8 b).2.1 := by decide +kernel
theorem tyX8_ok : ∀ k, k < 0 → parseFieldDescriptor (TX8 k).2.2.1 = some (tyX8 k) := by decide +kernel
abbrev cX8_init : ByteArray := prog_10_method_1_code
def yX8_init : MethodName := ⟨RX8, "<init>", "(ILCellSwitch$Line;)V"⟩
abbrev cX8_openCalls : ByteArray := prog_10_method_5_code
def yX8_openCalls : MethodName := ⟨RX8, "openCalls", "()I"⟩
abbrev cX8_placeOfReference : ByteArray := prog_10_method_6_code
def yX8_placeOfReference : MethodName := ⟨RX8, "placeOfReference", "(IZ)I"⟩
abbrev cX8_keep : ByteArray := prog_10_method_7_code
def yX8_keep : MethodName := ⟨RX8, "keep", "(LCellSwitch$Call;)V"⟩
abbrev cX8_came : ByteArray := prog_10_method_8_code
def yX8_came : MethodName := ⟨RX8, "came", "(LCellSwitch$Signal;I)V"⟩
abbrev cX8_cleared : ByteArray := prog_10_method_9_code
def yX8_cleared : MethodName := ⟨RX8, "cleared", "(LCellSwitch$Call;LCellSwitch$Signal;I)V"⟩
abbrev cX8_allOver : ByteArray := prog_10_method_10_code
def yX8_allOver : MethodName := ⟨RX8, "allOver", "(I)V"⟩
abbrev cX8_callTimers : ByteArray := prog_10_method_11_code
def yX8_callTimers : MethodName := ⟨RX8, "callTimers", "(I)V"⟩
abbrev cX8_sayPlain : ByteArray := prog_10_method_12_code
def yX8_sayPlain : MethodName := ⟨RX8, "sayPlain", "(ILCellSwitch$Call;)V"⟩
abbrev cX8_sayCause : ByteArray := prog_10_method_13_code
def yX8_sayCause : MethodName := ⟨RX8, "sayCause", "(IIZI)V"⟩
def RX9 : String := "CellSwitch$Signal"
def TX9 : u_T := fun k => match k with
  | 0 => ("CellSwitch$Signal", "type", "I", false)
  | 1 => ("CellSwitch$Signal", "reference", "I", false)
  | 2 => ("CellSwitch$Signal", "bySender", "Z", false)
  | 3 => ("CellSwitch$Signal", "called", "I", false)
  | 4 => ("CellSwitch$Signal", "caller", "I", false)
  | 5 => ("CellSwitch$Signal", "rate", "I", false)
  | 6 => ("CellSwitch$Signal", "channel", "I", false)
  | 7 => ("CellSwitch$Signal", "cause", "I", false)
  | _ => ("CellSwitch$Signal", "at", "I", false)
def tyX9 : Nat → FieldType := fun k => match k with
  | 0 => .int
  | 1 => .int
  | 2 => .boolean
  | 3 => .int
  | 4 => .int
  | 5 => .int
  | 6 => .int
  | 7 => .int
  | _ => .int
abbrev wsX90 : List Cond := u_ws RX9 TX9 9
theorem nmX9 : ∀ a, a < 9 → ∀ b, b < 9 → a ≠ b → (TX9 a).2.1 ≠ (TX9 b).2.1 := by decide +kernel
theorem tyX9_ok : ∀ k, k < 9 → parseFieldDescriptor (TX9 k).2.2.1 = some (tyX9 k) := by decide +kernel
abbrev cX9_init : ByteArray := prog_11_method_1_code
def yX9_init : MethodName := ⟨RX9, "<init>", "()V"⟩
abbrev cX9_read : ByteArray := prog_11_method_2_code
def yX9_read : MethodName := ⟨RX9, "read", "([IIZ)Z"⟩
abbrev cX9_readElements : ByteArray := prog_11_method_3_code
def yX9_readElements : MethodName := ⟨RX9, "readElements", "([IIZ)Z"⟩
abbrev cX9_element : ByteArray := prog_11_method_4_code
def yX9_element : MethodName := ⟨RX9, "element", "([IIII)I"⟩
def RX10 : String := "CellSwitch$SwitchSide"
def TX10 : u_T := fun k => match k with
  | 0 => ("CellSwitch$Side", "link", "I", true)
  | 1 => ("CellSwitch$Side", "line", "LCellSwitch$Line;", true)
  | 2 => ("CellSwitch$Side", "references", "Ljava/util/ArrayList;", true)
  | 3 => ("CellSwitch$Side", "lastReference", "I", false)
  | _ => ("CellSwitch$SwitchSide", "all", "[LCellSwitch$SwitchSide;", true)
def tyX10 : Nat → FieldType := fun k => match k with
  | 0 => .int
  | 1 => .object "CellSwitch$Line"
  | 2 => .object "java/util/ArrayList"
  | 3 => .int
  | _ => .array (.object "CellSwitch$SwitchSide")
abbrev wsX100 : List Cond := u_ws RX10 TX10 5
theorem nmX10 : ∀ a, a < 5 → ∀ b, b < 5 → a ≠ b → (TX10 a).2.1 ≠ (TX10 b).2.1 := by decide +kernel
theorem tyX10_ok : ∀ k, k < 5 → parseFieldDescriptor (TX10 k).2.2.1 = some (tyX10 k) := by decide +kernel
abbrev cX10_init : ByteArray := prog_12_method_1_code
def yX10_init : MethodName := ⟨RX10, "<init>", "(ILCellSwitch$Line;[LCellSwitch$SwitchSide;)V"⟩
abbrev cX10_rates : ByteArray := prog_12_method_2_code
def yX10_rates : MethodName := ⟨RX10, "rates", "()I"⟩
abbrev cX10_isJoined : ByteArray := prog_12_method_3_code
def yX10_isJoined : MethodName := ⟨RX10, "isJoined", "(LCellSwitch$Call;)Z"⟩
abbrev cX10_joinedChannels : ByteArray := prog_12_method_4_code
def yX10_joinedChannels : MethodName := ⟨RX10, "joinedChannels", "()I"⟩
abbrev cX10_joined : ByteArray := prog_12_method_5_code
def yX10_joined : MethodName := ⟨RX10, "joined", "(I)LCellSwitch$Call;"⟩
abbrev cX10_farChannel : ByteArray := prog_12_method_6_code
def yX10_farChannel : MethodName := ⟨RX10, "farChannel", "(I)I"⟩
abbrev cX10_leastChannel : ByteArray := prog_12_method_7_code
def yX10_leastChannel : MethodName := ⟨RX10, "leastChannel", "()I"⟩
abbrev cX10_isTaken : ByteArray := prog_12_method_8_code
def yX10_isTaken : MethodName := ⟨RX10, "isTaken", "(I)Z"⟩
abbrev cX10_refusal : ByteArray := prog_12_method_9_code
def yX10_refusal : MethodName := ⟨RX10, "refusal", "(LCellSwitch$Signal;)I"⟩
abbrev cX10_setupCame : ByteArray := prog_12_method_10_code
def yX10_setupCame : MethodName := ⟨RX10, "setupCame", "(LCellSwitch$Signal;I)V"⟩
abbrev cX10_sayProceeding : ByteArray := prog_12_method_11_code
def yX10_sayProceeding : MethodName := ⟨RX10, "sayProceeding", "(LCellSwitch$Call;)V"⟩
abbrev cX10_saySetup : ByteArray := prog_12_method_12_code
def yX10_saySetup : MethodName := ⟨RX10, "saySetup", "(LCellSwitch$Call;)V"⟩
abbrev cX10_progress : ByteArray := prog_12_method_13_code
def yX10_progress : MethodName := ⟨RX10, "progress", "(LCellSwitch$Call;LCellSwitch$Signal;I)V"⟩
abbrev cX10_timer : ByteArray := prog_12_method_14_code
def yX10_timer : MethodName := ⟨RX10, "timer", "(LCellSwitch$Call;I)V"⟩
def TX11 : u_T := fun k => match k with
  | 0 => ("CellSwitch", "ends", "I", true)
  | 1 => ("CellSwitch", "directions", "[LCellSwitch$Direction;", true)
  | 2 => ("CellSwitch", "endSides", "[LCellSwitch$EndSide;", true)
  | 3 => ("CellSwitch", "switchSides", "[LCellSwitch$SwitchSide;", true)
  | 4 => ("CellSwitch", "sides", "[LCellSwitch$Side;", true)
  | 5 => ("CellSwitch", "signal", "LCellSwitch$Signal;", true)
  | 6 => ("CellSwitch", "message", "[I", true)
  | 7 => ("CellSwitch", "image", "[I", true)
  | 8 => ("CellSwitch", "tape", "[I", true)
  | 9 => ("CellSwitch", "tapeLength", "I", false)
  | 10 => ("CellSwitch", "time", "I", false)
  | _ => ("CellSwitch", "idleCells", "I", false)
def tyX11 : Nat → FieldType := fun k => match k with
  | 0 => .int
  | 1 => .array (.object "CellSwitch$Direction")
  | 2 => .array (.object "CellSwitch$EndSide")
  | 3 => .array (.object "CellSwitch$SwitchSide")
  | 4 => .array (.object "CellSwitch$Side")
  | 5 => .object "CellSwitch$Signal"
  | 6 => .array .int
  | 7 => .array .int
  | 8 => .array .int
  | 9 => .int
  | 10 => .int
  | _ => .int
abbrev wsX110 : List Cond := u_ws RX11 TX11 12
theorem nmX11 : ∀ a, a < 12 → ∀ b, b < 12 → a ≠ b → (TX11 a).2.1 ≠ (TX11 b).2.1 := by decide +kernel
theorem tyX11_ok : ∀ k, k < 12 → parseFieldDescriptor (TX11 k).2.2.1 = some (tyX11 k) := by decide +kernel
abbrev cX11_init : ByteArray := prog_1_method_1_code
def yX11_init : MethodName := ⟨RX11, "<init>", "(I)V"⟩
abbrev cX11_feed : ByteArray := prog_1_method_2_code
def yX11_feed : MethodName := ⟨RX11, "feed", "(IIIII)I"⟩
abbrev cX11_putOnTape : ByteArray := prog_1_method_3_code
def yX11_putOnTape : MethodName := ⟨RX11, "putOnTape", "(I)V"⟩
abbrev cX11_end : ByteArray := prog_1_method_4_code
def yX11_end : MethodName := ⟨RX11, "end", "(I)I"⟩
abbrev cX11_tick : ByteArray := prog_1_method_5_code
def yX11_tick : MethodName := ⟨RX11, "tick", "(I)I"⟩
abbrev cX11_arrive : ByteArray := prog_1_method_6_code
def yX11_arrive : MethodName := ⟨RX11, "arrive", "(ILCellSwitch$Direction;)V"⟩
abbrev cX11_cellCame : ByteArray := prog_1_method_7_code
def yX11_cellCame : MethodName := ⟨RX11, "cellCame", "(ILCellSwitch$Direction;)Z"⟩
abbrev cX11_passOn : ByteArray := prog_1_method_8_code
def yX11_passOn : MethodName := ⟨RX11, "passOn", "(LCellSwitch$Call;I[I)V"⟩
abbrev cX11_call : ByteArray := prog_1_method_9_code
def yX11_call : MethodName := ⟨RX11, "call", "(III)I"⟩
abbrev cX11_hang : ByteArray := prog_1_method_10_code
def yX11_hang : MethodName := ⟨RX11, "hang", "(II)I"⟩
abbrev cX11_policy : ByteArray := prog_1_method_11_code
def yX11_policy : MethodName := ⟨RX11, "policy", "(III)I"⟩
abbrev cX11_send : ByteArray := prog_1_method_12_code
def yX11_send : MethodName := ⟨RX11, "send", "(II)I"⟩
abbrev cX11_about : ByteArray := prog_1_method_13_code
def yX11_about : MethodName := ⟨RX11, "about", "(III)I"⟩
abbrev cX11_calls : ByteArray := prog_1_method_14_code
def yX11_calls : MethodName := ⟨RX11, "calls", "(I)I"⟩
abbrev cX11_received : ByteArray := prog_1_method_15_code
def yX11_received : MethodName := ⟨RX11, "received", "(III)I"⟩
abbrev cX11_byteOf : ByteArray := prog_1_method_16_code
def yX11_byteOf : MethodName := ⟨RX11, "byteOf", "(III)I"⟩
abbrev cX11_isEnd : ByteArray := prog_1_method_17_code
def yX11_isEnd : MethodName := ⟨RX11, "isEnd", "(I)Z"⟩
abbrev cX11_callAt : ByteArray := prog_1_method_18_code
def yX11_callAt : MethodName := ⟨RX11, "callAt", "(II)LCellSwitch$Call;"⟩
abbrev cX11_link : ByteArray := prog_1_method_19_code
def yX11_link : MethodName := ⟨RX11, "link", "(III)I"⟩
abbrev cX11_line : ByteArray := prog_1_method_20_code
def yX11_line : MethodName := ⟨RX11, "line", "(II)I"⟩
abbrev cX11_reset : ByteArray := prog_1_method_21_code
def yX11_reset : MethodName := ⟨RX11, "reset", "(I)I"⟩
abbrev cX11_quit : ByteArray := prog_1_method_22_code
def yX11_quit : MethodName := ⟨RX11, "quit", "(I)I"⟩
abbrev cX11_isSide : ByteArray := prog_1_method_23_code
def yX11_isSide : MethodName := ⟨RX11, "isSide", "(I)Z"⟩
abbrev cX11_damage : ByteArray := prog_1_method_24_code
def yX11_damage : MethodName := ⟨RX11, "damage", "(IIIII)I"⟩
abbrev cX11_direction : ByteArray := prog_1_method_25_code
def yX11_direction : MethodName := ⟨RX11, "direction", "(II)I"⟩
abbrev cX11_crc : ByteArray := prog_1_method_27_code
def yX11_crc : MethodName := ⟨RX11, "crc", "()I"⟩
abbrev cX11_count : ByteArray := prog_1_method_28_code
def yX11_count : MethodName := ⟨RX11, "count", "(I)I"⟩
abbrev cX11_isDirection : ByteArray := prog_1_method_29_code
def yX11_isDirection : MethodName := ⟨RX11, "isDirection", "(I)Z"⟩
abbrev cX11_crcOf : ByteArray := prog_1_method_32_code
def yX11_crcOf : MethodName := ⟨RX11, "crcOf", "([II)I"⟩
abbrev cX11_cellsFor : ByteArray := prog_1_method_33_code
def yX11_cellsFor : MethodName := ⟨RX11, "cellsFor", "(I)I"⟩
abbrev cX11_closeFrame : ByteArray := prog_1_method_34_code
def yX11_closeFrame : MethodName := ⟨RX11, "closeFrame", "([II)I"⟩
abbrev cX11_wordAt : ByteArray := prog_1_method_35_code
def yX11_wordAt : MethodName := ⟨RX11, "wordAt", "([II)I"⟩
def RJx145de : String := "java/io/Serializable"
def TJx145de : u_T := fun k => match k with
  | _ => ("", "", "", false)
def tyJx145de : Nat → FieldType := fun k => match k with
  | _ => .int
abbrev wsJx145de0 : List Cond := u_ws RJx145de TJx145de 0
theorem nmJx145de : ∀ a, a < 0 → ∀ b, b < 0 → a ≠ b → (TJx145de a).2.1 ≠ (TJx145de b).2.1 := by decide +kernel
theorem tyJx145de_ok : ∀ k, k < 0 → parseFieldDescriptor (TJx145de k).2.2.1 = some (tyJx145de k) := by decide +kernel
def RJx8e188 : String := "java/lang/Cloneable"
def TJx8e188 : u_T := fun k => match k with
  | _ => ("", "", "", false)
def tyJx8e188 : Nat → FieldType := fun k => match k with
  | _ => .int
abbrev wsJx8e1880 : List Cond := u_ws RJx8e188 TJx8e188 0
theorem nmJx8e188 : ∀ a, a < 0 → ∀ b, b < 0 → a ≠ b → (TJx8e188 a).2.1 ≠ (TJx8e188 b).2.1 := by decide +kernel
theorem tyJx8e188_ok : ∀ k, k < 0 → parseFieldDescriptor (TJx8e188 k).2.2.1 = some (tyJx8e188 k) := by decide +kernel
def TJ6 : u_T := fun k => match k with
  | _ => ("", "", "", false)
def tyJ6 : Nat → FieldType := fun k => match k with
  | _ => .int
abbrev wsJ60 : List Cond := u_ws RJ6 TJ6 0
theorem nmJ6 : ∀ a, a < 0 → ∀ b, b < 0 → a ≠ b → (TJ6 a).2.1 ≠ (TJ6 b).2.1 := by decide +kernel
theorem tyJ6_ok : ∀ k, k < 0 → parseFieldDescriptor (TJ6 k).2.2.1 = some (tyJ6 k) := by decide +kernel
def RJxab1ab : String := "java/lang/Iterable"
def TJxab1ab : u_T := fun k => match k with
  | _ => ("", "", "", false)
def tyJxab1ab : Nat → FieldType := fun k => match k with
  | _ => .int
abbrev wsJxab1ab0 : List Cond := u_ws RJxab1ab TJxab1ab 0
theorem nmJxab1ab : ∀ a, a < 0 → ∀ b, b < 0 → a ≠ b → (TJxab1ab a).2.1 ≠ (TJxab1ab b).2.1 := by decide +kernel
theorem tyJxab1ab_ok : ∀ k, k < 0 → parseFieldDescriptor (TJxab1ab k).2.2.1 = some (tyJxab1ab k) := by decide +kernel
def RJ9 : String := "java/lang/Math"
def TJ9 : u_T := fun k => match k with
  | _ => ("", "", "", false)
def tyJ9 : Nat → FieldType := fun k => match k with
  | _ => .int
abbrev wsJ90 : List Cond := u_ws RJ9 TJ9 0
theorem nmJ9 : ∀ a, a < 0 → ∀ b, b < 0 → a ≠ b → (TJ9 a).2.1 ≠ (TJ9 b).2.1 := by decide +kernel
theorem tyJ9_ok : ∀ k, k < 0 → parseFieldDescriptor (TJ9 k).2.2.1 = some (tyJ9 k) := by decide +kernel
abbrev cJ9_max_7cf53 : ByteArray := prog_19_method_65_code
def yJ9_max_7cf53 : MethodName := ⟨RJ9, "max", "(II)I"⟩
abbrev cJ9_min_7cf53 : ByteArray := prog_19_method_69_code
def yJ9_min_7cf53 : MethodName := ⟨RJ9, "min", "(II)I"⟩
def RJ10 : String := "java/lang/System"
def TJ10 : u_T := fun k => match k with
  | _ => ("", "", "", false)
def tyJ10 : Nat → FieldType := fun k => match k with
  | _ => .int
abbrev wsJ100 : List Cond := u_ws RJ10 TJ10 0
theorem nmJ10 : ∀ a, a < 0 → ∀ b, b < 0 → a ≠ b → (TJ10 a).2.1 ≠ (TJ10 b).2.1 := by decide +kernel
theorem tyJ10_ok : ∀ k, k < 0 → parseFieldDescriptor (TJ10 k).2.2.1 = some (tyJ10 k) := by decide +kernel
def RJxa1e45 : String := "java/util/AbstractCollection"
def TJxa1e45 : u_T := fun k => match k with
  | _ => ("", "", "", false)
def tyJxa1e45 : Nat → FieldType := fun k => match k with
  | _ => .int
abbrev wsJxa1e450 : List Cond := u_ws RJxa1e45 TJxa1e45 0
theorem nmJxa1e45 : ∀ a, a < 0 → ∀ b, b < 0 → a ≠ b → (TJxa1e45 a).2.1 ≠ (TJxa1e45 b).2.1 := by decide +kernel
theorem tyJxa1e45_ok : ∀ k, k < 0 → parseFieldDescriptor (TJxa1e45 k).2.2.1 = some (tyJxa1e45 k) := by decide +kernel
abbrev cJxa1e45_init_da8c8 : ByteArray := prog_21_method_1_code
def yJxa1e45_init_da8c8 : MethodName := ⟨RJxa1e45, "<init>", "()V"⟩
def RJxc12de : String := "java/util/AbstractList"
def TJxc12de : u_T := fun k => match k with
  | _ => ("", "", "", false)
def tyJxc12de : Nat → FieldType := fun k => match k with
  | _ => .int
abbrev wsJxc12de0 : List Cond := u_ws RJxc12de TJxc12de 0
theorem nmJxc12de : ∀ a, a < 0 → ∀ b, b < 0 → a ≠ b → (TJxc12de a).2.1 ≠ (TJxc12de b).2.1 := by decide +kernel
theorem tyJxc12de_ok : ∀ k, k < 0 → parseFieldDescriptor (TJxc12de k).2.2.1 = some (tyJxc12de k) := by decide +kernel
abbrev cJxc12de_init_da8c8 : ByteArray := prog_22_method_1_code
def yJxc12de_init_da8c8 : MethodName := ⟨RJxc12de, "<init>", "()V"⟩
def RJx4a65c : String := "java/util/ArrayList"
def TJx4a65c : u_T := fun k => match k with
  | 0 => ("java/util/AbstractList", "modCount", "I", false)
  | 1 => ("java/util/ArrayList", "elementData", "[Ljava/lang/Object;", false)
  | _ => ("java/util/ArrayList", "size", "I", false)
def tyJx4a65c : Nat → FieldType := fun k => match k with
  | 0 => .int
  | 1 => .array (.object "java/lang/Object")
  | _ => .int
abbrev wsJx4a65c0 : List Cond := u_ws RJx4a65c TJx4a65c 3
theorem nmJx4a65c : ∀ a, a < 3 → ∀ b, b < 3 → a ≠ b → (TJx4a65c a).2.1 ≠ (TJx4a65c b).2.1 := by decide +kernel
theorem tyJx4a65c_ok : ∀ k, k < 3 → parseFieldDescriptor (TJx4a65c k).2.2.1 = some (tyJx4a65c k) := by decide +kernel
abbrev cJx4a65c_init_da8c8 : ByteArray := prog_23_method_2_code
def yJx4a65c_init_da8c8 : MethodName := ⟨RJx4a65c, "<init>", "()V"⟩
abbrev cJx4a65c_grow_92f84 : ByteArray := prog_23_method_6_code
def yJx4a65c_grow_92f84 : MethodName := ⟨RJx4a65c, "grow", "(I)[Ljava/lang/Object;"⟩
abbrev cJx4a65c_grow_d5877 : ByteArray := prog_23_method_7_code
def yJx4a65c_grow_d5877 : MethodName := ⟨RJx4a65c, "grow", "()[Ljava/lang/Object;"⟩
abbrev cJx4a65c_size_8abf5 : ByteArray := prog_23_method_8_code
def yJx4a65c_size_8abf5 : MethodName := ⟨RJx4a65c, "size", "()I"⟩
abbrev cJx4a65c_elementData_915e3 : ByteArray := prog_23_method_18_code
def yJx4a65c_elementData_915e3 : MethodName := ⟨RJx4a65c, "elementData", "(I)Ljava/lang/Object;"⟩
abbrev cJx4a65c_get_915e3 : ByteArray := prog_23_method_20_code
def yJx4a65c_get_915e3 : MethodName := ⟨RJx4a65c, "get", "(I)Ljava/lang/Object;"⟩
abbrev cJx4a65c_set_bcc79 : ByteArray := prog_23_method_23_code
def yJx4a65c_set_bcc79 : MethodName := ⟨RJx4a65c, "set", "(ILjava/lang/Object;)Ljava/lang/Object;"⟩
abbrev cJx4a65c_add_72be8 : ByteArray := prog_23_method_24_code
def yJx4a65c_add_72be8 : MethodName := ⟨RJx4a65c, "add", "(Ljava/lang/Object;[Ljava/lang/Object;I)V"⟩
abbrev cJx4a65c_add_9ea2d : ByteArray := prog_23_method_25_code
def yJx4a65c_add_9ea2d : MethodName := ⟨RJx4a65c, "add", "(Ljava/lang/Object;)Z"⟩
def RJ7 : String := "java/util/Arrays"
def TJ7 : u_T := fun k => match k with
  | _ => ("", "", "", false)
def tyJ7 : Nat → FieldType := fun k => match k with
  | _ => .int
abbrev wsJ70 : List Cond := u_ws RJ7 TJ7 0
theorem nmJ7 : ∀ a, a < 0 → ∀ b, b < 0 → a ≠ b → (TJ7 a).2.1 ≠ (TJ7 b).2.1 := by decide +kernel
theorem tyJ7_ok : ∀ k, k < 0 → parseFieldDescriptor (TJ7 k).2.2.1 = some (tyJ7 k) := by decide +kernel
abbrev cJ7_rangeCheck_23922 : ByteArray := prog_24_method_30_code
def yJ7_rangeCheck_23922 : MethodName := ⟨RJ7, "rangeCheck", "(III)V"⟩
abbrev cJ7_fill_fda19 : ByteArray := prog_24_method_104_code
def yJ7_fill_fda19 : MethodName := ⟨RJ7, "fill", "([IIII)V"⟩
abbrev cJ7_copyOf_1904c : ByteArray := prog_24_method_119_code
def yJ7_copyOf_1904c : MethodName := ⟨RJ7, "copyOf", "([Ljava/lang/Object;I)[Ljava/lang/Object;"⟩
abbrev cJ7_copyOf_6403c : ByteArray := prog_24_method_120_code
def yJ7_copyOf_6403c : MethodName := ⟨RJ7, "copyOf", "([Ljava/lang/Object;ILjava/lang/Class;)[Ljava/lang/Object;"⟩
def RJx5ef63 : String := "java/util/Collection"
def TJx5ef63 : u_T := fun k => match k with
  | _ => ("", "", "", false)
def tyJx5ef63 : Nat → FieldType := fun k => match k with
  | _ => .int
abbrev wsJx5ef630 : List Cond := u_ws RJx5ef63 TJx5ef63 0
theorem nmJx5ef63 : ∀ a, a < 0 → ∀ b, b < 0 → a ≠ b → (TJx5ef63 a).2.1 ≠ (TJx5ef63 b).2.1 := by decide +kernel
theorem tyJx5ef63_ok : ∀ k, k < 0 → parseFieldDescriptor (TJx5ef63 k).2.2.1 = some (tyJx5ef63 k) := by decide +kernel
def RJxbd725 : String := "java/util/List"
def TJxbd725 : u_T := fun k => match k with
  | _ => ("", "", "", false)
def tyJxbd725 : Nat → FieldType := fun k => match k with
  | _ => .int
abbrev wsJxbd7250 : List Cond := u_ws RJxbd725 TJxbd725 0
theorem nmJxbd725 : ∀ a, a < 0 → ∀ b, b < 0 → a ≠ b → (TJxbd725 a).2.1 ≠ (TJxbd725 b).2.1 := by decide +kernel
theorem tyJxbd725_ok : ∀ k, k < 0 → parseFieldDescriptor (TJxbd725 k).2.2.1 = some (tyJxbd725 k) := by decide +kernel
def RJ15 : String := "java/util/Objects"
def TJ15 : u_T := fun k => match k with
  | _ => ("", "", "", false)
def tyJ15 : Nat → FieldType := fun k => match k with
  | _ => .int
abbrev wsJ150 : List Cond := u_ws RJ15 TJ15 0
theorem nmJ15 : ∀ a, a < 0 → ∀ b, b < 0 → a ≠ b → (TJ15 a).2.1 ≠ (TJ15 b).2.1 := by decide +kernel
theorem tyJ15_ok : ∀ k, k < 0 → parseFieldDescriptor (TJ15 k).2.2.1 = some (tyJ15 k) := by decide +kernel
abbrev cJ15_checkIndex_7cf53 : ByteArray := prog_27_method_17_code
def yJ15_checkIndex_7cf53 : MethodName := ⟨RJ15, "checkIndex", "(II)I"⟩
def RJxf0a74 : String := "java/util/RandomAccess"
def TJxf0a74 : u_T := fun k => match k with
  | _ => ("", "", "", false)
def tyJxf0a74 : Nat → FieldType := fun k => match k with
  | _ => .int
abbrev wsJxf0a740 : List Cond := u_ws RJxf0a74 TJxf0a74 0
theorem nmJxf0a74 : ∀ a, a < 0 → ∀ b, b < 0 → a ≠ b → (TJxf0a74 a).2.1 ≠ (TJxf0a74 b).2.1 := by decide +kernel
theorem tyJxf0a74_ok : ∀ k, k < 0 → parseFieldDescriptor (TJxf0a74 k).2.2.1 = some (tyJxf0a74 k) := by decide +kernel
def RJxa66e6 : String := "java/util/SequencedCollection"
def TJxa66e6 : u_T := fun k => match k with
  | _ => ("", "", "", false)
def tyJxa66e6 : Nat → FieldType := fun k => match k with
  | _ => .int
abbrev wsJxa66e60 : List Cond := u_ws RJxa66e6 TJxa66e6 0
theorem nmJxa66e6 : ∀ a, a < 0 → ∀ b, b < 0 → a ≠ b → (TJxa66e6 a).2.1 ≠ (TJxa66e6 b).2.1 := by decide +kernel
theorem tyJxa66e6_ok : ∀ k, k < 0 → parseFieldDescriptor (TJxa66e6 k).2.2.1 = some (tyJxa66e6 k) := by decide +kernel
def RJ8 : String := "jdk/internal/util/ArraysSupport"
def TJ8 : u_T := fun k => match k with
  | _ => ("", "", "", false)
def tyJ8 : Nat → FieldType := fun k => match k with
  | _ => .int
abbrev wsJ80 : List Cond := u_ws RJ8 TJ8 0
theorem nmJ8 : ∀ a, a < 0 → ∀ b, b < 0 → a ≠ b → (TJ8 a).2.1 ≠ (TJ8 b).2.1 := by decide +kernel
theorem tyJ8_ok : ∀ k, k < 0 → parseFieldDescriptor (TJ8 k).2.2.1 = some (tyJ8 k) := by decide +kernel
abbrev cJ8_newLength_cabcc : ByteArray := prog_30_method_27_code
def yJ8_newLength_cabcc : MethodName := ⟨RJ8, "newLength", "(III)I"⟩
abbrev cJ8_hugeLength_7cf53 : ByteArray := prog_30_method_28_code
def yJ8_hugeLength_7cf53 : MethodName := ⟨RJ8, "hugeLength", "(II)I"⟩
def RJ3 : String := "jdk/internal/util/Preconditions"
def TJ3 : u_T := fun k => match k with
  | _ => ("", "", "", false)
def tyJ3 : Nat → FieldType := fun k => match k with
  | _ => .int
abbrev wsJ30 : List Cond := u_ws RJ3 TJ3 0
theorem nmJ3 : ∀ a, a < 0 → ∀ b, b < 0 → a ≠ b → (TJ3 a).2.1 ≠ (TJ3 b).2.1 := by decide +kernel
theorem tyJ3_ok : ∀ k, k < 0 → parseFieldDescriptor (TJ3 k).2.2.1 = some (tyJ3 k) := by decide +kernel
abbrev cJ3_checkIndex_8e157 : ByteArray := prog_31_method_11_code
def yJ3_checkIndex_8e157 : MethodName := ⟨RJ3, "checkIndex", "(IILjava/util/function/BiFunction;)I"⟩
theorem dX0_init_0 : decode cX0_init 0 = .ok (.aload_n 0, 1) := by decide +kernel
theorem dX0_init_1 : decode cX0_init 1 = .ok (.invokespecial 3, 3) := by decide +kernel
theorem dX0_init_4 : decode cX0_init 4 = .ok (.aload_n 0, 1) := by decide +kernel
theorem dX0_init_5 : decode cX0_init 5 = .ok (.sipush 240, 3) := by decide +kernel
theorem dX0_init_8 : decode cX0_init 8 = .ok (.newarray .int, 2) := by decide +kernel
theorem dX0_init_10 : decode cX0_init 10 = .ok (.putfield 9, 3) := by decide +kernel
theorem dX0_init_13 : decode cX0_init 13 = .ok (.return_, 1) := by decide +kernel
theorem dX0_add_0 : decode cX0_add 0 = .ok (.aload_n 0, 1) := by decide +kernel
theorem dX0_add_1 : decode cX0_add 1 = .ok (.getfield 15, 3) := by decide +kernel
theorem dX0_add_4 : decode cX0_add 4 = .ok (.iconst 5, 1) := by decide +kernel
theorem dX0_add_5 : decode cX0_add 5 = .ok (.if_icmp .ge 10, 3) := by decide +kernel
theorem dX0_add_8 : decode cX0_add 8 = .ok (.aload_n 1, 1) := by decide +kernel
theorem dX0_add_9 : decode cX0_add 9 = .ok (.arraylength, 1) := by decide +kernel
theorem dX0_add_10 : decode cX0_add 10 = .ok (.bipush 48, 2) := by decide +kernel
theorem dX0_add_12 : decode cX0_add 12 = .ok (.if_icmp .ge 5, 3) := by decide +kernel
theorem dX0_add_15 : decode cX0_add 15 = .ok (.iconst 0, 1) := by decide +kernel
theorem dX0_add_16 : decode cX0_add 16 = .ok (.ireturn, 1) := by decide +kernel
theorem dX0_add_17 : decode cX0_add 17 = .ok (.aload_n 1, 1) := by decide +kernel
theorem dX0_add_18 : decode cX0_add 18 = .ok (.iconst 0, 1) := by decide +kernel
theorem dX0_add_19 : decode cX0_add 19 = .ok (.aload_n 0, 1) := by decide +kernel
theorem dX0_add_20 : decode cX0_add 20 = .ok (.getfield 9, 3) := by decide +kernel
theorem dX0_add_23 : decode cX0_add 23 = .ok (.aload_n 0, 1) := by decide +kernel
theorem dX0_add_24 : decode cX0_add 24 = .ok (.getfield 15, 3) := by decide +kernel
theorem dX0_add_27 : decode cX0_add 27 = .ok (.bipush 48, 2) := by decide +kernel
theorem dX0_add_29 : decode cX0_add 29 = .ok (.imul, 1) := by decide +kernel
theorem dX0_add_30 : decode cX0_add 30 = .ok (.bipush 48, 2) := by decide +kernel
theorem dX0_add_32 : decode cX0_add 32 = .ok (.invokestatic 19, 3) := by decide +kernel
theorem dX0_add_35 : decode cX0_add 35 = .ok (.aload_n 0, 1) := by decide +kernel
theorem dX0_add_36 : decode cX0_add 36 = .ok (.dup, 1) := by decide +kernel
theorem dX0_add_37 : decode cX0_add 37 = .ok (.getfield 15, 3) := by decide +kernel
theorem dX0_add_40 : decode cX0_add 40 = .ok (.iconst 1, 1) := by decide +kernel
theorem dX0_add_41 : decode cX0_add 41 = .ok (.iadd, 1) := by decide +kernel
theorem dX0_add_42 : decode cX0_add 42 = .ok (.putfield 15, 3) := by decide +kernel
theorem dX0_add_45 : decode cX0_add 45 = .ok (.iload_n 2, 1) := by decide +kernel
theorem dX0_add_46 : decode cX0_add 46 = .ok (.ifCond .ne 13, 3) := by decide +kernel
theorem dX0_add_49 : decode cX0_add 49 = .ok (.aload_n 0, 1) := by decide +kernel
theorem dX0_add_50 : decode cX0_add 50 = .ok (.getfield 15, 3) := by decide +kernel
theorem dX0_add_53 : decode cX0_add 53 = .ok (.iconst 5, 1) := by decide +kernel
theorem dX0_add_54 : decode cX0_add 54 = .ok (.if_icmp .ge 5, 3) := by decide +kernel
theorem dX0_add_57 : decode cX0_add 57 = .ok (.iconst 0, 1) := by decide +kernel
theorem dX0_add_58 : decode cX0_add 58 = .ok (.ireturn, 1) := by decide +kernel
theorem dX0_add_59 : decode cX0_add 59 = .ok (.aload_n 0, 1) := by decide +kernel
theorem dX0_add_60 : decode cX0_add 60 = .ok (.getfield 15, 3) := by decide +kernel
theorem dX0_add_63 : decode cX0_add 63 = .ok (.istore_n 3, 1) := by decide +kernel
theorem dX0_add_64 : decode cX0_add 64 = .ok (.aload_n 0, 1) := by decide +kernel
theorem dX0_add_65 : decode cX0_add 65 = .ok (.iconst 0, 1) := by decide +kernel
theorem dX0_add_66 : decode cX0_add 66 = .ok (.putfield 15, 3) := by decide +kernel
theorem dX0_add_69 : decode cX0_add 69 = .ok (.iload_n 2, 1) := by decide +kernel
theorem dX0_add_70 : decode cX0_add 70 = .ok (.ifCond .eq 15, 3) := by decide +kernel
theorem dX0_add_73 : decode cX0_add 73 = .ok (.aload_n 0, 1) := by decide +kernel
theorem dX0_add_74 : decode cX0_add 74 = .ok (.iload_n 3, 1) := by decide +kernel
theorem dX0_add_75 : decode cX0_add 75 = .ok (.invokevirtual 25, 3) := by decide +kernel
theorem dX0_add_78 : decode cX0_add 78 = .ok (.ifCond .eq 7, 3) := by decide +kernel
theorem dX0_add_81 : decode cX0_add 81 = .ok (.iconst 1, 1) := by decide +kernel
theorem dX0_add_82 : decode cX0_add 82 = .ok (.goto 4, 3) := by decide +kernel
theorem dX0_add_85 : decode cX0_add 85 = .ok (.iconst 2, 1) := by decide +kernel
theorem dX0_add_86 : decode cX0_add 86 = .ok (.ireturn, 1) := by decide +kernel
theorem dX0_isWhole_0 : decode cX0_isWhole 0 = .ok (.iload_n 1, 1) := by decide +kernel
theorem dX0_isWhole_1 : decode cX0_isWhole 1 = .ok (.bipush 48, 2) := by decide +kernel
theorem dX0_isWhole_3 : decode cX0_isWhole 3 = .ok (.imul, 1) := by decide +kernel
theorem dX0_isWhole_4 : decode cX0_isWhole 4 = .ok (.istore_n 2, 1) := by decide +kernel
theorem dX0_isWhole_5 : decode cX0_isWhole 5 = .ok (.aload_n 0, 1) := by decide +kernel
theorem dX0_isWhole_6 : decode cX0_isWhole 6 = .ok (.aload_n 0, 1) := by decide +kernel
theorem dX0_isWhole_7 : decode cX0_isWhole 7 = .ok (.getfield 9, 3) := by decide +kernel
theorem dX0_isWhole_10 : decode cX0_isWhole 10 = .ok (.iload_n 2, 1) := by decide +kernel
theorem dX0_isWhole_11 : decode cX0_isWhole 11 = .ok (.bipush 6, 2) := by decide +kernel
theorem dX0_isWhole_13 : decode cX0_isWhole 13 = .ok (.isub, 1) := by decide +kernel
theorem dX0_isWhole_14 : decode cX0_isWhole 14 = .ok (.iaload, 1) := by decide +kernel
theorem dX0_isWhole_15 : decode cX0_isWhole 15 = .ok (.bipush 8, 2) := by decide +kernel
theorem dX0_isWhole_17 : decode cX0_isWhole 17 = .ok (.ishl, 1) := by decide +kernel
theorem dX0_isWhole_18 : decode cX0_isWhole 18 = .ok (.aload_n 0, 1) := by decide +kernel
theorem dX0_isWhole_19 : decode cX0_isWhole 19 = .ok (.getfield 9, 3) := by decide +kernel
theorem dX0_isWhole_22 : decode cX0_isWhole 22 = .ok (.iload_n 2, 1) := by decide +kernel
theorem dX0_isWhole_23 : decode cX0_isWhole 23 = .ok (.iconst 5, 1) := by decide +kernel
theorem dX0_isWhole_24 : decode cX0_isWhole 24 = .ok (.isub, 1) := by decide +kernel
theorem dX0_isWhole_25 : decode cX0_isWhole 25 = .ok (.iaload, 1) := by decide +kernel
theorem dX0_isWhole_26 : decode cX0_isWhole 26 = .ok (.ior, 1) := by decide +kernel
theorem dX0_isWhole_27 : decode cX0_isWhole 27 = .ok (.putfield 29, 3) := by decide +kernel
theorem dX0_isWhole_30 : decode cX0_isWhole 30 = .ok (.aload_n 0, 1) := by decide +kernel
theorem dX0_isWhole_31 : decode cX0_isWhole 31 = .ok (.getfield 29, 3) := by decide +kernel
theorem dX0_isWhole_34 : decode cX0_isWhole 34 = .ok (.iconst 1, 1) := by decide +kernel
theorem dX0_isWhole_35 : decode cX0_isWhole 35 = .ok (.if_icmp .lt 51, 3) := by decide +kernel
theorem dX0_isWhole_38 : decode cX0_isWhole 38 = .ok (.aload_n 0, 1) := by decide +kernel
theorem dX0_isWhole_39 : decode cX0_isWhole 39 = .ok (.getfield 29, 3) := by decide +kernel
theorem dX0_isWhole_42 : decode cX0_isWhole 42 = .ok (.sipush 200, 3) := by decide +kernel
theorem dX0_isWhole_45 : decode cX0_isWhole 45 = .ok (.if_icmp .gt 41, 3) := by decide +kernel
theorem dX0_isWhole_48 : decode cX0_isWhole 48 = .ok (.aload_n 0, 1) := by decide +kernel
theorem dX0_isWhole_49 : decode cX0_isWhole 49 = .ok (.getfield 29, 3) := by decide +kernel
theorem dX0_isWhole_52 : decode cX0_isWhole 52 = .ok (.invokestatic 32, 3) := by decide +kernel
theorem dX0_isWhole_55 : decode cX0_isWhole 55 = .ok (.iload_n 1, 1) := by decide +kernel
theorem dX0_isWhole_56 : decode cX0_isWhole 56 = .ok (.if_icmp .ne 30, 3) := by decide +kernel
theorem dX0_isWhole_59 : decode cX0_isWhole 59 = .ok (.aload_n 0, 1) := by decide +kernel
theorem dX0_isWhole_60 : decode cX0_isWhole 60 = .ok (.getfield 9, 3) := by decide +kernel
theorem dX0_isWhole_63 : decode cX0_isWhole 63 = .ok (.iload_n 2, 1) := by decide +kernel
theorem dX0_isWhole_64 : decode cX0_isWhole 64 = .ok (.iconst 4, 1) := by decide +kernel
theorem dX0_isWhole_65 : decode cX0_isWhole 65 = .ok (.isub, 1) := by decide +kernel
theorem dX0_isWhole_66 : decode cX0_isWhole 66 = .ok (.invokestatic 36, 3) := by decide +kernel
theorem dX0_isWhole_69 : decode cX0_isWhole 69 = .ok (.aload_n 0, 1) := by decide +kernel
theorem dX0_isWhole_70 : decode cX0_isWhole 70 = .ok (.getfield 9, 3) := by decide +kernel
theorem dX0_isWhole_73 : decode cX0_isWhole 73 = .ok (.iload_n 2, 1) := by decide +kernel
theorem dX0_isWhole_74 : decode cX0_isWhole 74 = .ok (.iconst 4, 1) := by decide +kernel
theorem dX0_isWhole_75 : decode cX0_isWhole 75 = .ok (.isub, 1) := by decide +kernel
theorem dX0_isWhole_76 : decode cX0_isWhole 76 = .ok (.invokestatic 40, 3) := by decide +kernel
theorem dX0_isWhole_79 : decode cX0_isWhole 79 = .ok (.if_icmp .ne 7, 3) := by decide +kernel
theorem dX0_isWhole_82 : decode cX0_isWhole 82 = .ok (.iconst 1, 1) := by decide +kernel
theorem dX0_isWhole_83 : decode cX0_isWhole 83 = .ok (.goto 4, 3) := by decide +kernel
theorem dX0_isWhole_86 : decode cX0_isWhole 86 = .ok (.iconst 0, 1) := by decide +kernel
theorem dX0_isWhole_87 : decode cX0_isWhole 87 = .ok (.ireturn, 1) := by decide +kernel
theorem dX1_init_0 : decode cX1_init 0 = .ok (.aload_n 0, 1) := by decide +kernel
theorem dX1_init_1 : decode cX1_init 1 = .ok (.invokespecial 3, 3) := by decide +kernel
theorem dX1_init_4 : decode cX1_init 4 = .ok (.aload_n 0, 1) := by decide +kernel
theorem dX1_init_5 : decode cX1_init 5 = .ok (.bipush (-2), 2) := by decide +kernel
theorem dX1_init_7 : decode cX1_init 7 = .ok (.putfield 9, 3) := by decide +kernel
theorem dX1_init_10 : decode cX1_init 10 = .ok (.aload_n 0, 1) := by decide +kernel
theorem dX1_init_11 : decode cX1_init 11 = .ok (.bipush (-2), 2) := by decide +kernel
theorem dX1_init_13 : decode cX1_init 13 = .ok (.putfield 15, 3) := by decide +kernel
theorem dX1_init_16 : decode cX1_init 16 = .ok (.aload_n 0, 1) := by decide +kernel
theorem dX1_init_17 : decode cX1_init 17 = .ok (.aload_n 1, 1) := by decide +kernel
theorem dX1_init_18 : decode cX1_init 18 = .ok (.putfield 18, 3) := by decide +kernel
theorem dX1_init_21 : decode cX1_init 21 = .ok (.aload_n 0, 1) := by decide +kernel
theorem dX1_init_22 : decode cX1_init 22 = .ok (.iload_n 2, 1) := by decide +kernel
theorem dX1_init_23 : decode cX1_init 23 = .ok (.putfield 22, 3) := by decide +kernel
theorem dX1_init_26 : decode cX1_init 26 = .ok (.aload_n 0, 1) := by decide +kernel
theorem dX1_init_27 : decode cX1_init 27 = .ok (.iload_n 3, 1) := by decide +kernel
theorem dX1_init_28 : decode cX1_init 28 = .ok (.putfield 25, 3) := by decide +kernel
theorem dX1_init_31 : decode cX1_init 31 = .ok (.return_, 1) := by decide +kernel
theorem dX1_enter_0 : decode cX1_enter 0 = .ok (.aload_n 0, 1) := by decide +kernel
theorem dX1_enter_1 : decode cX1_enter 1 = .ok (.iload_n 1, 1) := by decide +kernel
theorem dX1_enter_2 : decode cX1_enter 2 = .ok (.putfield 29, 3) := by decide +kernel
theorem dX1_enter_5 : decode cX1_enter 5 = .ok (.aload_n 0, 1) := by decide +kernel
theorem dX1_enter_6 : decode cX1_enter 6 = .ok (.iload_n 2, 1) := by decide +kernel
theorem dX1_enter_7 : decode cX1_enter 7 = .ok (.putfield 32, 3) := by decide +kernel
theorem dX1_enter_10 : decode cX1_enter 10 = .ok (.aload_n 0, 1) := by decide +kernel
theorem dX1_enter_11 : decode cX1_enter 11 = .ok (.iconst 0, 1) := by decide +kernel
theorem dX1_enter_12 : decode cX1_enter 12 = .ok (.putfield 35, 3) := by decide +kernel
theorem dX1_enter_15 : decode cX1_enter 15 = .ok (.iload_n 1, 1) := by decide +kernel
theorem dX1_enter_16 : decode cX1_enter 16 = .ok (.bipush 10, 2) := by decide +kernel
theorem dX1_enter_18 : decode cX1_enter 18 = .ok (.if_icmp .eq 23, 3) := by decide +kernel
theorem dX1_enter_21 : decode cX1_enter 21 = .ok (.aload_n 0, 1) := by decide +kernel
theorem dX1_enter_22 : decode cX1_enter 22 = .ok (.aconst_null, 1) := by decide +kernel
theorem dX1_enter_23 : decode cX1_enter 23 = .ok (.putfield 38, 3) := by decide +kernel
theorem dX1_enter_26 : decode cX1_enter 26 = .ok (.aload_n 0, 1) := by decide +kernel
theorem dX1_enter_27 : decode cX1_enter 27 = .ok (.aconst_null, 1) := by decide +kernel
theorem dX1_enter_28 : decode cX1_enter 28 = .ok (.putfield 42, 3) := by decide +kernel
theorem dX1_enter_31 : decode cX1_enter 31 = .ok (.aload_n 0, 1) := by decide +kernel
theorem dX1_enter_32 : decode cX1_enter 32 = .ok (.aconst_null, 1) := by decide +kernel
theorem dX1_enter_33 : decode cX1_enter 33 = .ok (.putfield 46, 3) := by decide +kernel
theorem dX1_enter_36 : decode cX1_enter 36 = .ok (.aload_n 0, 1) := by decide +kernel
theorem dX1_enter_37 : decode cX1_enter 37 = .ok (.iconst 0, 1) := by decide +kernel
theorem dX1_enter_38 : decode cX1_enter 38 = .ok (.putfield 50, 3) := by decide +kernel
theorem dX1_enter_41 : decode cX1_enter 41 = .ok (.return_, 1) := by decide +kernel
theorem dX1_repeat_0 : decode cX1_repeat 0 = .ok (.aload_n 0, 1) := by decide +kernel
theorem dX1_repeat_1 : decode cX1_repeat 1 = .ok (.iload_n 1, 1) := by decide +kernel
theorem dX1_repeat_2 : decode cX1_repeat 2 = .ok (.putfield 32, 3) := by decide +kernel
theorem dX1_repeat_5 : decode cX1_repeat 5 = .ok (.aload_n 0, 1) := by decide +kernel
theorem dX1_repeat_6 : decode cX1_repeat 6 = .ok (.iconst 1, 1) := by decide +kernel
theorem dX1_repeat_7 : decode cX1_repeat 7 = .ok (.putfield 35, 3) := by decide +kernel
theorem dX1_repeat_10 : decode cX1_repeat 10 = .ok (.return_, 1) := by decide +kernel
theorem dX1_isOpen_0 : decode cX1_isOpen 0 = .ok (.aload_n 0, 1) := by decide +kernel
theorem dX1_isOpen_1 : decode cX1_isOpen 1 = .ok (.getfield 29, 3) := by decide +kernel
theorem dX1_isOpen_4 : decode cX1_isOpen 4 = .ok (.ifCond .eq 7, 3) := by decide +kernel
theorem dX1_isOpen_7 : decode cX1_isOpen 7 = .ok (.iconst 1, 1) := by decide +kernel
theorem dX1_isOpen_8 : decode cX1_isOpen 8 = .ok (.goto 4, 3) := by decide +kernel
theorem dX1_isOpen_11 : decode cX1_isOpen 11 = .ok (.iconst 0, 1) := by decide +kernel
theorem dX1_isOpen_12 : decode cX1_isOpen 12 = .ok (.ireturn, 1) := by decide +kernel
theorem dX1_release_0 : decode cX1_release 0 = .ok (.aload_n 0, 1) := by decide +kernel
theorem dX1_release_1 : decode cX1_release 1 = .ok (.getfield 29, 3) := by decide +kernel
theorem dX1_release_4 : decode cX1_release 4 = .ok (.ifCond .eq 12, 3) := by decide +kernel
theorem dX1_release_7 : decode cX1_release 7 = .ok (.aload_n 0, 1) := by decide +kernel
theorem dX1_release_8 : decode cX1_release 8 = .ok (.getfield 29, 3) := by decide +kernel
theorem dX1_release_11 : decode cX1_release 11 = .ok (.bipush 11, 2) := by decide +kernel
theorem dX1_release_13 : decode cX1_release 13 = .ok (.if_icmp .ne 4, 3) := by decide +kernel
theorem dX1_release_16 : decode cX1_release 16 = .ok (.return_, 1) := by decide +kernel
theorem dX1_release_17 : decode cX1_release 17 = .ok (.aload_n 0, 1) := by decide +kernel
theorem dX1_release_18 : decode cX1_release 18 = .ok (.iload_n 1, 1) := by decide +kernel
theorem dX1_release_19 : decode cX1_release 19 = .ok (.putfield 53, 3) := by decide +kernel
theorem dX1_release_22 : decode cX1_release 22 = .ok (.aload_n 0, 1) := by decide +kernel
theorem dX1_release_23 : decode cX1_release 23 = .ok (.bipush 11, 2) := by decide +kernel
theorem dX1_release_25 : decode cX1_release 25 = .ok (.iload_n 2, 1) := by decide +kernel
theorem dX1_release_26 : decode cX1_release 26 = .ok (.bipush 10, 2) := by decide +kernel
theorem dX1_release_28 : decode cX1_release 28 = .ok (.iadd, 1) := by decide +kernel
theorem dX1_release_29 : decode cX1_release 29 = .ok (.invokevirtual 58, 3) := by decide +kernel
theorem dX1_release_32 : decode cX1_release 32 = .ok (.aload_n 0, 1) := by decide +kernel
theorem dX1_release_33 : decode cX1_release 33 = .ok (.getfield 18, 3) := by decide +kernel
theorem dX1_release_36 : decode cX1_release 36 = .ok (.bipush 77, 2) := by decide +kernel
theorem dX1_release_38 : decode cX1_release 38 = .ok (.aload_n 0, 1) := by decide +kernel
theorem dX1_release_39 : decode cX1_release 39 = .ok (.getfield 22, 3) := by decide +kernel
theorem dX1_release_42 : decode cX1_release 42 = .ok (.aload_n 0, 1) := by decide +kernel
theorem dX1_release_43 : decode cX1_release 43 = .ok (.getfield 25, 3) := by decide +kernel
theorem dX1_release_46 : decode cX1_release 46 = .ok (.iload_n 1, 1) := by decide +kernel
theorem dX1_release_47 : decode cX1_release 47 = .ok (.invokevirtual 64, 3) := by decide +kernel
theorem dX1_release_50 : decode cX1_release 50 = .ok (.return_, 1) := by decide +kernel
theorem dX1_finish_0 : decode cX1_finish 0 = .ok (.aload_n 0, 1) := by decide +kernel
theorem dX1_finish_1 : decode cX1_finish 1 = .ok (.iload_n 1, 1) := by decide +kernel
theorem dX1_finish_2 : decode cX1_finish 2 = .ok (.putfield 53, 3) := by decide +kernel
theorem dX1_finish_5 : decode cX1_finish 5 = .ok (.aload_n 0, 1) := by decide +kernel
theorem dX1_finish_6 : decode cX1_finish 6 = .ok (.iconst 0, 1) := by decide +kernel
theorem dX1_finish_7 : decode cX1_finish 7 = .ok (.iconst 0, 1) := by decide +kernel
theorem dX1_finish_8 : decode cX1_finish 8 = .ok (.invokevirtual 58, 3) := by decide +kernel
theorem dX1_finish_11 : decode cX1_finish 11 = .ok (.return_, 1) := by decide +kernel
theorem dX1_addFrame_0 : decode cX1_addFrame 0 = .ok (.aload_n 0, 1) := by decide +kernel
theorem dX1_addFrame_1 : decode cX1_addFrame 1 = .ok (.getfield 50, 3) := by decide +kernel
theorem dX1_addFrame_4 : decode cX1_addFrame 4 = .ok (.iconst 4, 1) := by decide +kernel
theorem dX1_addFrame_5 : decode cX1_addFrame 5 = .ok (.if_icmp .ge 21, 3) := by decide +kernel
theorem dX1_addFrame_8 : decode cX1_addFrame 8 = .ok (.iload_n 2, 1) := by decide +kernel
theorem dX1_addFrame_9 : decode cX1_addFrame 9 = .ok (.iconst 1, 1) := by decide +kernel
theorem dX1_addFrame_10 : decode cX1_addFrame 10 = .ok (.if_icmp .lt 16, 3) := by decide +kernel
theorem dX1_addFrame_13 : decode cX1_addFrame 13 = .ok (.iload_n 2, 1) := by decide +kernel
theorem dX1_addFrame_14 : decode cX1_addFrame 14 = .ok (.sipush 200, 3) := by decide +kernel
theorem dX1_addFrame_17 : decode cX1_addFrame 17 = .ok (.if_icmp .gt 9, 3) := by decide +kernel
theorem dX1_addFrame_20 : decode cX1_addFrame 20 = .ok (.iload_n 2, 1) := by decide +kernel
theorem dX1_addFrame_21 : decode cX1_addFrame 21 = .ok (.aload_n 1, 1) := by decide +kernel
theorem dX1_addFrame_22 : decode cX1_addFrame 22 = .ok (.arraylength, 1) := by decide +kernel
theorem dX1_addFrame_23 : decode cX1_addFrame 23 = .ok (.if_icmp .le 5, 3) := by decide +kernel
theorem dX1_addFrame_26 : decode cX1_addFrame 26 = .ok (.iconst 0, 1) := by decide +kernel
theorem dX1_addFrame_27 : decode cX1_addFrame 27 = .ok (.ireturn, 1) := by decide +kernel
theorem dX1_addFrame_28 : decode cX1_addFrame 28 = .ok (.aload_n 0, 1) := by decide +kernel
theorem dX1_addFrame_29 : decode cX1_addFrame 29 = .ok (.getfield 38, 3) := by decide +kernel
theorem dX1_addFrame_32 : decode cX1_addFrame 32 = .ok (.ifnull 10, 3) := by decide +kernel
theorem dX1_addFrame_35 : decode cX1_addFrame 35 = .ok (.aload_n 0, 1) := by decide +kernel
theorem dX1_addFrame_36 : decode cX1_addFrame 36 = .ok (.getfield 42, 3) := by decide +kernel
theorem dX1_addFrame_39 : decode cX1_addFrame 39 = .ok (.ifnonnull 32, 3) := by decide +kernel
theorem dX1_addFrame_42 : decode cX1_addFrame 42 = .ok (.aload_n 0, 1) := by decide +kernel
theorem dX1_addFrame_43 : decode cX1_addFrame 43 = .ok (.iconst 4, 1) := by decide +kernel
theorem dX1_addFrame_44 : decode cX1_addFrame 44 = .ok (.sipush 240, 3) := by decide +kernel
theorem dX1_addFrame_47 : decode cX1_addFrame 47 = .ok (.multianewarray 68 2, 4) := by decide +kernel
theorem dX1_addFrame_51 : decode cX1_addFrame 51 = .ok (.putfield 38, 3) := by decide +kernel
theorem dX1_addFrame_54 : decode cX1_addFrame 54 = .ok (.aload_n 0, 1) := by decide +kernel
theorem dX1_addFrame_55 : decode cX1_addFrame 55 = .ok (.iconst 4, 1) := by decide +kernel
theorem dX1_addFrame_56 : decode cX1_addFrame 56 = .ok (.newarray .int, 2) := by decide +kernel
theorem dX1_addFrame_58 : decode cX1_addFrame 58 = .ok (.putfield 42, 3) := by decide +kernel
theorem dX1_addFrame_61 : decode cX1_addFrame 61 = .ok (.aload_n 0, 1) := by decide +kernel
theorem dX1_addFrame_62 : decode cX1_addFrame 62 = .ok (.iconst 0, 1) := by decide +kernel
theorem dX1_addFrame_63 : decode cX1_addFrame 63 = .ok (.putfield 69, 3) := by decide +kernel
theorem dX1_addFrame_66 : decode cX1_addFrame 66 = .ok (.aload_n 0, 1) := by decide +kernel
theorem dX1_addFrame_67 : decode cX1_addFrame 67 = .ok (.iconst 0, 1) := by decide +kernel
theorem dX1_addFrame_68 : decode cX1_addFrame 68 = .ok (.putfield 72, 3) := by decide +kernel
theorem dX1_addFrame_71 : decode cX1_addFrame 71 = .ok (.aload_n 0, 1) := by decide +kernel
theorem dX1_addFrame_72 : decode cX1_addFrame 72 = .ok (.getfield 69, 3) := by decide +kernel
theorem dX1_addFrame_75 : decode cX1_addFrame 75 = .ok (.aload_n 0, 1) := by decide +kernel
theorem dX1_addFrame_76 : decode cX1_addFrame 76 = .ok (.getfield 50, 3) := by decide +kernel
theorem dX1_addFrame_79 : decode cX1_addFrame 79 = .ok (.iadd, 1) := by decide +kernel
theorem dX1_addFrame_80 : decode cX1_addFrame 80 = .ok (.iconst 4, 1) := by decide +kernel
theorem dX1_addFrame_81 : decode cX1_addFrame 81 = .ok (.irem, 1) := by decide +kernel
theorem dX1_addFrame_82 : decode cX1_addFrame 82 = .ok (.istore_n 3, 1) := by decide +kernel
theorem dX1_addFrame_83 : decode cX1_addFrame 83 = .ok (.aload_n 1, 1) := by decide +kernel
theorem dX1_addFrame_84 : decode cX1_addFrame 84 = .ok (.iconst 0, 1) := by decide +kernel
theorem dX1_addFrame_85 : decode cX1_addFrame 85 = .ok (.aload_n 0, 1) := by decide +kernel
theorem dX1_addFrame_86 : decode cX1_addFrame 86 = .ok (.getfield 38, 3) := by decide +kernel
theorem dX1_addFrame_89 : decode cX1_addFrame 89 = .ok (.iload_n 3, 1) := by decide +kernel
theorem dX1_addFrame_90 : decode cX1_addFrame 90 = .ok (.aaload, 1) := by decide +kernel
theorem dX1_addFrame_91 : decode cX1_addFrame 91 = .ok (.iconst 0, 1) := by decide +kernel
theorem dX1_addFrame_92 : decode cX1_addFrame 92 = .ok (.iload_n 2, 1) := by decide +kernel
theorem dX1_addFrame_93 : decode cX1_addFrame 93 = .ok (.invokestatic 75, 3) := by decide +kernel
theorem dX1_addFrame_96 : decode cX1_addFrame 96 = .ok (.aload_n 0, 1) := by decide +kernel
theorem dX1_addFrame_97 : decode cX1_addFrame 97 = .ok (.getfield 42, 3) := by decide +kernel
theorem dX1_addFrame_100 : decode cX1_addFrame 100 = .ok (.iload_n 3, 1) := by decide +kernel
theorem dX1_addFrame_101 : decode cX1_addFrame 101 = .ok (.aload_n 0, 1) := by decide +kernel
theorem dX1_addFrame_102 : decode cX1_addFrame 102 = .ok (.getfield 38, 3) := by decide +kernel
theorem dX1_addFrame_105 : decode cX1_addFrame 105 = .ok (.iload_n 3, 1) := by decide +kernel
theorem dX1_addFrame_106 : decode cX1_addFrame 106 = .ok (.aaload, 1) := by decide +kernel
theorem dX1_addFrame_107 : decode cX1_addFrame 107 = .ok (.iload_n 2, 1) := by decide +kernel
theorem dX1_addFrame_108 : decode cX1_addFrame 108 = .ok (.invokestatic 81, 3) := by decide +kernel
theorem dX1_addFrame_111 : decode cX1_addFrame 111 = .ok (.iastore, 1) := by decide +kernel
theorem dX1_addFrame_112 : decode cX1_addFrame 112 = .ok (.aload_n 0, 1) := by decide +kernel
theorem dX1_addFrame_113 : decode cX1_addFrame 113 = .ok (.dup, 1) := by decide +kernel
theorem dX1_addFrame_114 : decode cX1_addFrame 114 = .ok (.getfield 50, 3) := by decide +kernel
theorem dX1_addFrame_117 : decode cX1_addFrame 117 = .ok (.iconst 1, 1) := by decide +kernel
theorem dX1_addFrame_118 : decode cX1_addFrame 118 = .ok (.iadd, 1) := by decide +kernel
theorem dX1_addFrame_119 : decode cX1_addFrame 119 = .ok (.putfield 50, 3) := by decide +kernel
theorem dX1_addFrame_122 : decode cX1_addFrame 122 = .ok (.iconst 1, 1) := by decide +kernel
theorem dX1_addFrame_123 : decode cX1_addFrame 123 = .ok (.ireturn, 1) := by decide +kernel
theorem dX1_sendCells_0 : decode cX1_sendCells 0 = .ok (.iconst 0, 1) := by decide +kernel
theorem dX1_sendCells_1 : decode cX1_sendCells 1 = .ok (.istore_n 2, 1) := by decide +kernel
theorem dX1_sendCells_2 : decode cX1_sendCells 2 = .ok (.iload_n 2, 1) := by decide +kernel
theorem dX1_sendCells_3 : decode cX1_sendCells 3 = .ok (.aload_n 0, 1) := by decide +kernel
theorem dX1_sendCells_4 : decode cX1_sendCells 4 = .ok (.getfield 85, 3) := by decide +kernel
theorem dX1_sendCells_7 : decode cX1_sendCells 7 = .ok (.if_icmp .ge 131, 3) := by decide +kernel
theorem dX1_sendCells_10 : decode cX1_sendCells 10 = .ok (.aload_n 0, 1) := by decide +kernel
theorem dX1_sendCells_11 : decode cX1_sendCells 11 = .ok (.getfield 50, 3) := by decide +kernel
theorem dX1_sendCells_14 : decode cX1_sendCells 14 = .ok (.ifCond .le 124, 3) := by decide +kernel
theorem dX1_sendCells_17 : decode cX1_sendCells 17 = .ok (.aload_n 0, 1) := by decide +kernel
theorem dX1_sendCells_18 : decode cX1_sendCells 18 = .ok (.getfield 38, 3) := by decide +kernel
theorem dX1_sendCells_21 : decode cX1_sendCells 21 = .ok (.ifnull 117, 3) := by decide +kernel
theorem dX1_sendCells_24 : decode cX1_sendCells 24 = .ok (.aload_n 0, 1) := by decide +kernel
theorem dX1_sendCells_25 : decode cX1_sendCells 25 = .ok (.getfield 42, 3) := by decide +kernel
theorem dX1_sendCells_28 : decode cX1_sendCells 28 = .ok (.ifnull 110, 3) := by decide +kernel
theorem dX1_sendCells_31 : decode cX1_sendCells 31 = .ok (.aload_n 0, 1) := by decide +kernel
theorem dX1_sendCells_32 : decode cX1_sendCells 32 = .ok (.getfield 72, 3) := by decide +kernel
theorem dX1_sendCells_35 : decode cX1_sendCells 35 = .ok (.iconst 1, 1) := by decide +kernel
theorem dX1_sendCells_36 : decode cX1_sendCells 36 = .ok (.iadd, 1) := by decide +kernel
theorem dX1_sendCells_37 : decode cX1_sendCells 37 = .ok (.aload_n 0, 1) := by decide +kernel
theorem dX1_sendCells_38 : decode cX1_sendCells 38 = .ok (.getfield 42, 3) := by decide +kernel
theorem dX1_sendCells_41 : decode cX1_sendCells 41 = .ok (.aload_n 0, 1) := by decide +kernel
theorem dX1_sendCells_42 : decode cX1_sendCells 42 = .ok (.getfield 69, 3) := by decide +kernel
theorem dX1_sendCells_45 : decode cX1_sendCells 45 = .ok (.iaload, 1) := by decide +kernel
theorem dX1_sendCells_46 : decode cX1_sendCells 46 = .ok (.if_icmp .lt 7, 3) := by decide +kernel
theorem dX1_sendCells_49 : decode cX1_sendCells 49 = .ok (.iconst 1, 1) := by decide +kernel
theorem dX1_sendCells_50 : decode cX1_sendCells 50 = .ok (.goto 4, 3) := by decide +kernel
theorem dX1_sendCells_53 : decode cX1_sendCells 53 = .ok (.iconst 0, 1) := by decide +kernel
theorem dX1_sendCells_54 : decode cX1_sendCells 54 = .ok (.istore_n 3, 1) := by decide +kernel
theorem dX1_sendCells_55 : decode cX1_sendCells 55 = .ok (.aload_n 1, 1) := by decide +kernel
theorem dX1_sendCells_56 : decode cX1_sendCells 56 = .ok (.aload_n 0, 1) := by decide +kernel
theorem dX1_sendCells_57 : decode cX1_sendCells 57 = .ok (.getfield 9, 3) := by decide +kernel
theorem dX1_sendCells_60 : decode cX1_sendCells 60 = .ok (.iconst 4, 1) := by decide +kernel
theorem dX1_sendCells_61 : decode cX1_sendCells 61 = .ok (.ishl, 1) := by decide +kernel
theorem dX1_sendCells_62 : decode cX1_sendCells 62 = .ok (.iload_n 3, 1) := by decide +kernel
theorem dX1_sendCells_63 : decode cX1_sendCells 63 = .ok (.ifCond .eq 7, 3) := by decide +kernel
theorem dX1_sendCells_66 : decode cX1_sendCells 66 = .ok (.iconst 2, 1) := by decide +kernel
theorem dX1_sendCells_67 : decode cX1_sendCells 67 = .ok (.goto 4, 3) := by decide +kernel
theorem dX1_sendCells_70 : decode cX1_sendCells 70 = .ok (.iconst 0, 1) := by decide +kernel
theorem dX1_sendCells_71 : decode cX1_sendCells 71 = .ok (.ior, 1) := by decide +kernel
theorem dX1_sendCells_72 : decode cX1_sendCells 72 = .ok (.aload_n 0, 1) := by decide +kernel
theorem dX1_sendCells_73 : decode cX1_sendCells 73 = .ok (.getfield 38, 3) := by decide +kernel
theorem dX1_sendCells_76 : decode cX1_sendCells 76 = .ok (.aload_n 0, 1) := by decide +kernel
theorem dX1_sendCells_77 : decode cX1_sendCells 77 = .ok (.getfield 69, 3) := by decide +kernel
theorem dX1_sendCells_80 : decode cX1_sendCells 80 = .ok (.aaload, 1) := by decide +kernel
theorem dX1_sendCells_81 : decode cX1_sendCells 81 = .ok (.aload_n 0, 1) := by decide +kernel
theorem dX1_sendCells_82 : decode cX1_sendCells 82 = .ok (.getfield 72, 3) := by decide +kernel
theorem dX1_sendCells_85 : decode cX1_sendCells 85 = .ok (.bipush 48, 2) := by decide +kernel
theorem dX1_sendCells_87 : decode cX1_sendCells 87 = .ok (.imul, 1) := by decide +kernel
theorem dX1_sendCells_88 : decode cX1_sendCells 88 = .ok (.invokevirtual 88, 3) := by decide +kernel
theorem dX1_sendCells_91 : decode cX1_sendCells 91 = .ok (.aload_n 0, 1) := by decide +kernel
theorem dX1_sendCells_92 : decode cX1_sendCells 92 = .ok (.dup, 1) := by decide +kernel
theorem dX1_sendCells_93 : decode cX1_sendCells 93 = .ok (.getfield 72, 3) := by decide +kernel
theorem dX1_sendCells_96 : decode cX1_sendCells 96 = .ok (.iconst 1, 1) := by decide +kernel
theorem dX1_sendCells_97 : decode cX1_sendCells 97 = .ok (.iadd, 1) := by decide +kernel
theorem dX1_sendCells_98 : decode cX1_sendCells 98 = .ok (.putfield 72, 3) := by decide +kernel
theorem dX1_sendCells_101 : decode cX1_sendCells 101 = .ok (.iload_n 3, 1) := by decide +kernel
theorem dX1_sendCells_102 : decode cX1_sendCells 102 = .ok (.ifCond .eq 30, 3) := by decide +kernel
theorem dX1_sendCells_105 : decode cX1_sendCells 105 = .ok (.aload_n 0, 1) := by decide +kernel
theorem dX1_sendCells_106 : decode cX1_sendCells 106 = .ok (.iconst 0, 1) := by decide +kernel
theorem dX1_sendCells_107 : decode cX1_sendCells 107 = .ok (.putfield 72, 3) := by decide +kernel
theorem dX1_sendCells_110 : decode cX1_sendCells 110 = .ok (.aload_n 0, 1) := by decide +kernel
theorem dX1_sendCells_111 : decode cX1_sendCells 111 = .ok (.aload_n 0, 1) := by decide +kernel
theorem dX1_sendCells_112 : decode cX1_sendCells 112 = .ok (.getfield 69, 3) := by decide +kernel
theorem dX1_sendCells_115 : decode cX1_sendCells 115 = .ok (.iconst 1, 1) := by decide +kernel
theorem dX1_sendCells_116 : decode cX1_sendCells 116 = .ok (.iadd, 1) := by decide +kernel
theorem dX1_sendCells_117 : decode cX1_sendCells 117 = .ok (.iconst 4, 1) := by decide +kernel
theorem dX1_sendCells_118 : decode cX1_sendCells 118 = .ok (.irem, 1) := by decide +kernel
theorem dX1_sendCells_119 : decode cX1_sendCells 119 = .ok (.putfield 69, 3) := by decide +kernel
theorem dX1_sendCells_122 : decode cX1_sendCells 122 = .ok (.aload_n 0, 1) := by decide +kernel
theorem dX1_sendCells_123 : decode cX1_sendCells 123 = .ok (.dup, 1) := by decide +kernel
theorem dX1_sendCells_124 : decode cX1_sendCells 124 = .ok (.getfield 50, 3) := by decide +kernel
theorem dX1_sendCells_127 : decode cX1_sendCells 127 = .ok (.iconst 1, 1) := by decide +kernel
theorem dX1_sendCells_128 : decode cX1_sendCells 128 = .ok (.isub, 1) := by decide +kernel
theorem dX1_sendCells_129 : decode cX1_sendCells 129 = .ok (.putfield 50, 3) := by decide +kernel
theorem dX1_sendCells_132 : decode cX1_sendCells 132 = .ok (.iinc 2 1, 3) := by decide +kernel
theorem dX1_sendCells_135 : decode cX1_sendCells 135 = .ok (.goto (-133), 3) := by decide +kernel
theorem dX1_sendCells_138 : decode cX1_sendCells 138 = .ok (.return_, 1) := by decide +kernel
theorem dX1_assembler_0 : decode cX1_assembler 0 = .ok (.aload_n 0, 1) := by decide +kernel
theorem dX1_assembler_1 : decode cX1_assembler 1 = .ok (.getfield 46, 3) := by decide +kernel
theorem dX1_assembler_4 : decode cX1_assembler 4 = .ok (.ifnonnull 14, 3) := by decide +kernel
theorem dX1_assembler_7 : decode cX1_assembler 7 = .ok (.aload_n 0, 1) := by decide +kernel
theorem dX1_assembler_8 : decode cX1_assembler 8 = .ok (.new 94, 3) := by decide +kernel
theorem dX1_assembler_11 : decode cX1_assembler 11 = .ok (.dup, 1) := by decide +kernel
theorem dX1_assembler_12 : decode cX1_assembler 12 = .ok (.invokespecial 96, 3) := by decide +kernel
theorem dX1_assembler_15 : decode cX1_assembler 15 = .ok (.putfield 46, 3) := by decide +kernel
theorem dX1_assembler_18 : decode cX1_assembler 18 = .ok (.aload_n 0, 1) := by decide +kernel
theorem dX1_assembler_19 : decode cX1_assembler 19 = .ok (.getfield 46, 3) := by decide +kernel
theorem dX1_assembler_22 : decode cX1_assembler 22 = .ok (.areturn, 1) := by decide +kernel
theorem dX2_init_0 : decode cX2_init 0 = .ok (.aload_n 0, 1) := by decide +kernel
theorem dX2_init_1 : decode cX2_init 1 = .ok (.invokespecial 3, 3) := by decide +kernel
theorem dX2_init_4 : decode cX2_init 4 = .ok (.aload_n 0, 1) := by decide +kernel
theorem dX2_init_5 : decode cX2_init 5 = .ok (.sipush 1920, 3) := by decide +kernel
theorem dX2_init_8 : decode cX2_init 8 = .ok (.newarray .int, 2) := by decide +kernel
theorem dX2_init_10 : decode cX2_init 10 = .ok (.putfield 9, 3) := by decide +kernel
theorem dX2_init_13 : decode cX2_init 13 = .ok (.aload_n 0, 1) := by decide +kernel
theorem dX2_init_14 : decode cX2_init 14 = .ok (.bipush 40, 2) := by decide +kernel
theorem dX2_init_16 : decode cX2_init 16 = .ok (.newarray .int, 2) := by decide +kernel
theorem dX2_init_18 : decode cX2_init 18 = .ok (.putfield 15, 3) := by decide +kernel
theorem dX2_init_21 : decode cX2_init 21 = .ok (.return_, 1) := by decide +kernel
theorem dX2_add_0 : decode cX2_add 0 = .ok (.aload_n 0, 1) := by decide +kernel
theorem dX2_add_1 : decode cX2_add 1 = .ok (.getfield 18, 3) := by decide +kernel
theorem dX2_add_4 : decode cX2_add 4 = .ok (.bipush 40, 2) := by decide +kernel
theorem dX2_add_6 : decode cX2_add 6 = .ok (.if_icmp .ge 16, 3) := by decide +kernel
theorem dX2_add_9 : decode cX2_add 9 = .ok (.iload_n 3, 1) := by decide +kernel
theorem dX2_add_10 : decode cX2_add 10 = .ok (.ifCond .lt 12, 3) := by decide +kernel
theorem dX2_add_13 : decode cX2_add 13 = .ok (.iload_n 3, 1) := by decide +kernel
theorem dX2_add_14 : decode cX2_add 14 = .ok (.bipush 48, 2) := by decide +kernel
theorem dX2_add_16 : decode cX2_add 16 = .ok (.iadd, 1) := by decide +kernel
theorem dX2_add_17 : decode cX2_add 17 = .ok (.aload_n 2, 1) := by decide +kernel
theorem dX2_add_18 : decode cX2_add 18 = .ok (.arraylength, 1) := by decide +kernel
theorem dX2_add_19 : decode cX2_add 19 = .ok (.if_icmp .le 5, 3) := by decide +kernel
theorem dX2_add_22 : decode cX2_add 22 = .ok (.iconst 0, 1) := by decide +kernel
theorem dX2_add_23 : decode cX2_add 23 = .ok (.ireturn, 1) := by decide +kernel
theorem dX2_add_24 : decode cX2_add 24 = .ok (.aload_n 0, 1) := by decide +kernel
theorem dX2_add_25 : decode cX2_add 25 = .ok (.getfield 22, 3) := by decide +kernel
theorem dX2_add_28 : decode cX2_add 28 = .ok (.aload_n 0, 1) := by decide +kernel
theorem dX2_add_29 : decode cX2_add 29 = .ok (.getfield 18, 3) := by decide +kernel
theorem dX2_add_32 : decode cX2_add 32 = .ok (.iadd, 1) := by decide +kernel
theorem dX2_add_33 : decode cX2_add 33 = .ok (.bipush 40, 2) := by decide +kernel
theorem dX2_add_35 : decode cX2_add 35 = .ok (.irem, 1) := by decide +kernel
theorem dX2_add_36 : decode cX2_add 36 = .ok (.istore 4, 2) := by decide +kernel
theorem dX2_add_38 : decode cX2_add 38 = .ok (.aload_n 0, 1) := by decide +kernel
theorem dX2_add_39 : decode cX2_add 39 = .ok (.getfield 15, 3) := by decide +kernel
theorem dX2_add_42 : decode cX2_add 42 = .ok (.iload 4, 2) := by decide +kernel
theorem dX2_add_44 : decode cX2_add 44 = .ok (.iload_n 1, 1) := by decide +kernel
theorem dX2_add_45 : decode cX2_add 45 = .ok (.iastore, 1) := by decide +kernel
theorem dX2_add_46 : decode cX2_add 46 = .ok (.aload_n 2, 1) := by decide +kernel
theorem dX2_add_47 : decode cX2_add 47 = .ok (.iload_n 3, 1) := by decide +kernel
theorem dX2_add_48 : decode cX2_add 48 = .ok (.aload_n 0, 1) := by decide +kernel
theorem dX2_add_49 : decode cX2_add 49 = .ok (.getfield 9, 3) := by decide +kernel
theorem dX2_add_52 : decode cX2_add 52 = .ok (.iload 4, 2) := by decide +kernel
theorem dX2_add_54 : decode cX2_add 54 = .ok (.bipush 48, 2) := by decide +kernel
theorem dX2_add_56 : decode cX2_add 56 = .ok (.imul, 1) := by decide +kernel
theorem dX2_add_57 : decode cX2_add 57 = .ok (.bipush 48, 2) := by decide +kernel
theorem dX2_add_59 : decode cX2_add 59 = .ok (.invokestatic 25, 3) := by decide +kernel
theorem dX2_add_62 : decode cX2_add 62 = .ok (.aload_n 0, 1) := by decide +kernel
theorem dX2_add_63 : decode cX2_add 63 = .ok (.dup, 1) := by decide +kernel
theorem dX2_add_64 : decode cX2_add 64 = .ok (.getfield 18, 3) := by decide +kernel
theorem dX2_add_67 : decode cX2_add 67 = .ok (.iconst 1, 1) := by decide +kernel
theorem dX2_add_68 : decode cX2_add 68 = .ok (.iadd, 1) := by decide +kernel
theorem dX2_add_69 : decode cX2_add 69 = .ok (.putfield 18, 3) := by decide +kernel
theorem dX2_add_72 : decode cX2_add 72 = .ok (.iconst 1, 1) := by decide +kernel
theorem dX2_add_73 : decode cX2_add 73 = .ok (.ireturn, 1) := by decide +kernel
theorem dX2_takeFirst_0 : decode cX2_takeFirst 0 = .ok (.aload_n 0, 1) := by decide +kernel
theorem dX2_takeFirst_1 : decode cX2_takeFirst 1 = .ok (.getfield 18, 3) := by decide +kernel
theorem dX2_takeFirst_4 : decode cX2_takeFirst 4 = .ok (.iconst 1, 1) := by decide +kernel
theorem dX2_takeFirst_5 : decode cX2_takeFirst 5 = .ok (.if_icmp .lt 16, 3) := by decide +kernel
theorem dX2_takeFirst_8 : decode cX2_takeFirst 8 = .ok (.iload_n 2, 1) := by decide +kernel
theorem dX2_takeFirst_9 : decode cX2_takeFirst 9 = .ok (.ifCond .lt 12, 3) := by decide +kernel
theorem dX2_takeFirst_12 : decode cX2_takeFirst 12 = .ok (.iload_n 2, 1) := by decide +kernel
theorem dX2_takeFirst_13 : decode cX2_takeFirst 13 = .ok (.bipush 48, 2) := by decide +kernel
theorem dX2_takeFirst_15 : decode cX2_takeFirst 15 = .ok (.iadd, 1) := by decide +kernel
theorem dX2_takeFirst_16 : decode cX2_takeFirst 16 = .ok (.aload_n 1, 1) := by decide +kernel
theorem dX2_takeFirst_17 : decode cX2_takeFirst 17 = .ok (.arraylength, 1) := by decide +kernel
theorem dX2_takeFirst_18 : decode cX2_takeFirst 18 = .ok (.if_icmp .le 5, 3) := by decide +kernel
theorem dX2_takeFirst_21 : decode cX2_takeFirst 21 = .ok (.iconst 1, 1) := by decide +kernel
theorem dX2_takeFirst_22 : decode cX2_takeFirst 22 = .ok (.ireturn, 1) := by decide +kernel
theorem dX2_takeFirst_23 : decode cX2_takeFirst 23 = .ok (.aload_n 0, 1) := by decide +kernel
theorem dX2_takeFirst_24 : decode cX2_takeFirst 24 = .ok (.getfield 22, 3) := by decide +kernel
theorem dX2_takeFirst_27 : decode cX2_takeFirst 27 = .ok (.istore_n 3, 1) := by decide +kernel
theorem dX2_takeFirst_28 : decode cX2_takeFirst 28 = .ok (.aload_n 0, 1) := by decide +kernel
theorem dX2_takeFirst_29 : decode cX2_takeFirst 29 = .ok (.getfield 9, 3) := by decide +kernel
theorem dX2_takeFirst_32 : decode cX2_takeFirst 32 = .ok (.iload_n 3, 1) := by decide +kernel
theorem dX2_takeFirst_33 : decode cX2_takeFirst 33 = .ok (.bipush 48, 2) := by decide +kernel
theorem dX2_takeFirst_35 : decode cX2_takeFirst 35 = .ok (.imul, 1) := by decide +kernel
theorem dX2_takeFirst_36 : decode cX2_takeFirst 36 = .ok (.aload_n 1, 1) := by decide +kernel
theorem dX2_takeFirst_37 : decode cX2_takeFirst 37 = .ok (.iload_n 2, 1) := by decide +kernel
theorem dX2_takeFirst_38 : decode cX2_takeFirst 38 = .ok (.bipush 48, 2) := by decide +kernel
theorem dX2_takeFirst_40 : decode cX2_takeFirst 40 = .ok (.invokestatic 25, 3) := by decide +kernel
theorem dX2_takeFirst_43 : decode cX2_takeFirst 43 = .ok (.aload_n 0, 1) := by decide +kernel
theorem dX2_takeFirst_44 : decode cX2_takeFirst 44 = .ok (.aload_n 0, 1) := by decide +kernel
theorem dX2_takeFirst_45 : decode cX2_takeFirst 45 = .ok (.getfield 22, 3) := by decide +kernel
theorem dX2_takeFirst_48 : decode cX2_takeFirst 48 = .ok (.iconst 1, 1) := by decide +kernel
theorem dX2_takeFirst_49 : decode cX2_takeFirst 49 = .ok (.iadd, 1) := by decide +kernel
theorem dX2_takeFirst_50 : decode cX2_takeFirst 50 = .ok (.bipush 40, 2) := by decide +kernel
theorem dX2_takeFirst_52 : decode cX2_takeFirst 52 = .ok (.irem, 1) := by decide +kernel
theorem dX2_takeFirst_53 : decode cX2_takeFirst 53 = .ok (.putfield 22, 3) := by decide +kernel
theorem dX2_takeFirst_56 : decode cX2_takeFirst 56 = .ok (.aload_n 0, 1) := by decide +kernel
theorem dX2_takeFirst_57 : decode cX2_takeFirst 57 = .ok (.dup, 1) := by decide +kernel
theorem dX2_takeFirst_58 : decode cX2_takeFirst 58 = .ok (.getfield 18, 3) := by decide +kernel
theorem dX2_takeFirst_61 : decode cX2_takeFirst 61 = .ok (.iconst 1, 1) := by decide +kernel
theorem dX2_takeFirst_62 : decode cX2_takeFirst 62 = .ok (.isub, 1) := by decide +kernel
theorem dX2_takeFirst_63 : decode cX2_takeFirst 63 = .ok (.putfield 18, 3) := by decide +kernel
theorem dX2_takeFirst_66 : decode cX2_takeFirst 66 = .ok (.aload_n 0, 1) := by decide +kernel
theorem dX2_takeFirst_67 : decode cX2_takeFirst 67 = .ok (.getfield 15, 3) := by decide +kernel
theorem dX2_takeFirst_70 : decode cX2_takeFirst 70 = .ok (.iload_n 3, 1) := by decide +kernel
theorem dX2_takeFirst_71 : decode cX2_takeFirst 71 = .ok (.iaload, 1) := by decide +kernel
theorem dX2_takeFirst_72 : decode cX2_takeFirst 72 = .ok (.ireturn, 1) := by decide +kernel
theorem dX3_init_0 : decode cX3_init 0 = .ok (.aload_n 0, 1) := by decide +kernel
theorem dX3_init_1 : decode cX3_init 1 = .ok (.invokespecial 3, 3) := by decide +kernel
theorem dX3_init_4 : decode cX3_init 4 = .ok (.aload_n 0, 1) := by decide +kernel
theorem dX3_init_5 : decode cX3_init 5 = .ok (.new 9, 3) := by decide +kernel
theorem dX3_init_8 : decode cX3_init 8 = .ok (.dup, 1) := by decide +kernel
theorem dX3_init_9 : decode cX3_init 9 = .ok (.invokespecial 11, 3) := by decide +kernel
theorem dX3_init_12 : decode cX3_init 12 = .ok (.putfield 12, 3) := by decide +kernel
theorem dX3_init_15 : decode cX3_init 15 = .ok (.aload_n 0, 1) := by decide +kernel
theorem dX3_init_16 : decode cX3_init 16 = .ok (.new 9, 3) := by decide +kernel
theorem dX3_init_19 : decode cX3_init 19 = .ok (.dup, 1) := by decide +kernel
theorem dX3_init_20 : decode cX3_init 20 = .ok (.invokespecial 11, 3) := by decide +kernel
theorem dX3_init_23 : decode cX3_init 23 = .ok (.putfield 18, 3) := by decide +kernel
theorem dX3_init_26 : decode cX3_init 26 = .ok (.aload_n 0, 1) := by decide +kernel
theorem dX3_init_27 : decode cX3_init 27 = .ok (.new 21, 3) := by decide +kernel
theorem dX3_init_30 : decode cX3_init 30 = .ok (.dup, 1) := by decide +kernel
theorem dX3_init_31 : decode cX3_init 31 = .ok (.invokespecial 23, 3) := by decide +kernel
theorem dX3_init_34 : decode cX3_init 34 = .ok (.putfield 24, 3) := by decide +kernel
theorem dX3_init_37 : decode cX3_init 37 = .ok (.aload_n 0, 1) := by decide +kernel
theorem dX3_init_38 : decode cX3_init 38 = .ok (.new 28, 3) := by decide +kernel
theorem dX3_init_41 : decode cX3_init 41 = .ok (.dup, 1) := by decide +kernel
theorem dX3_init_42 : decode cX3_init 42 = .ok (.invokespecial 30, 3) := by decide +kernel
theorem dX3_init_45 : decode cX3_init 45 = .ok (.putfield 31, 3) := by decide +kernel
theorem dX3_init_48 : decode cX3_init 48 = .ok (.aload_n 0, 1) := by decide +kernel
theorem dX3_init_49 : decode cX3_init 49 = .ok (.sipush 212, 3) := by decide +kernel
theorem dX3_init_52 : decode cX3_init 52 = .ok (.newarray .int, 2) := by decide +kernel
theorem dX3_init_54 : decode cX3_init 54 = .ok (.putfield 35, 3) := by decide +kernel
theorem dX3_init_57 : decode cX3_init 57 = .ok (.aload_n 0, 1) := by decide +kernel
theorem dX3_init_58 : decode cX3_init 58 = .ok (.bipush 8, 2) := by decide +kernel
theorem dX3_init_60 : decode cX3_init 60 = .ok (.newarray .int, 2) := by decide +kernel
theorem dX3_init_62 : decode cX3_init 62 = .ok (.putfield 39, 3) := by decide +kernel
theorem dX3_init_65 : decode cX3_init 65 = .ok (.aload_n 0, 1) := by decide +kernel
theorem dX3_init_66 : decode cX3_init 66 = .ok (.bipush 8, 2) := by decide +kernel
theorem dX3_init_68 : decode cX3_init 68 = .ok (.newarray .int, 2) := by decide +kernel
theorem dX3_init_70 : decode cX3_init 70 = .ok (.putfield 42, 3) := by decide +kernel
theorem dX3_init_73 : decode cX3_init 73 = .ok (.aload_n 0, 1) := by decide +kernel
theorem dX3_init_74 : decode cX3_init 74 = .ok (.bipush 8, 2) := by decide +kernel
theorem dX3_init_76 : decode cX3_init 76 = .ok (.newarray .int, 2) := by decide +kernel
theorem dX3_init_78 : decode cX3_init 78 = .ok (.putfield 45, 3) := by decide +kernel
theorem dX3_init_81 : decode cX3_init 81 = .ok (.aload_n 0, 1) := by decide +kernel
theorem dX3_init_82 : decode cX3_init 82 = .ok (.bipush 8, 2) := by decide +kernel
theorem dX3_init_84 : decode cX3_init 84 = .ok (.newarray .int, 2) := by decide +kernel
theorem dX3_init_86 : decode cX3_init 86 = .ok (.putfield 48, 3) := by decide +kernel
theorem dX3_init_89 : decode cX3_init 89 = .ok (.aload_n 0, 1) := by decide +kernel
theorem dX3_init_90 : decode cX3_init 90 = .ok (.sipush 240, 3) := by decide +kernel
theorem dX3_init_93 : decode cX3_init 93 = .ok (.newarray .int, 2) := by decide +kernel
theorem dX3_init_95 : decode cX3_init 95 = .ok (.putfield 51, 3) := by decide +kernel
theorem dX3_init_98 : decode cX3_init 98 = .ok (.return_, 1) := by decide +kernel
theorem dX3_addDamage_0 : decode cX3_addDamage 0 = .ok (.aload_n 0, 1) := by decide +kernel
theorem dX3_addDamage_1 : decode cX3_addDamage 1 = .ok (.getfield 54, 3) := by decide +kernel
theorem dX3_addDamage_4 : decode cX3_addDamage 4 = .ok (.bipush 8, 2) := by decide +kernel
theorem dX3_addDamage_6 : decode cX3_addDamage 6 = .ok (.if_icmp .lt 6, 3) := by decide +kernel
theorem dX3_addDamage_9 : decode cX3_addDamage 9 = .ok (.bipush (-3), 2) := by decide +kernel
theorem dX3_addDamage_11 : decode cX3_addDamage 11 = .ok (.ireturn, 1) := by decide +kernel
theorem dX3_addDamage_12 : decode cX3_addDamage 12 = .ok (.aload_n 0, 1) := by decide +kernel
theorem dX3_addDamage_13 : decode cX3_addDamage 13 = .ok (.getfield 39, 3) := by decide +kernel
theorem dX3_addDamage_16 : decode cX3_addDamage 16 = .ok (.aload_n 0, 1) := by decide +kernel
theorem dX3_addDamage_17 : decode cX3_addDamage 17 = .ok (.getfield 54, 3) := by decide +kernel
theorem dX3_addDamage_20 : decode cX3_addDamage 20 = .ok (.iload_n 1, 1) := by decide +kernel
theorem dX3_addDamage_21 : decode cX3_addDamage 21 = .ok (.iastore, 1) := by decide +kernel
theorem dX3_addDamage_22 : decode cX3_addDamage 22 = .ok (.aload_n 0, 1) := by decide +kernel
theorem dX3_addDamage_23 : decode cX3_addDamage 23 = .ok (.getfield 42, 3) := by decide +kernel
theorem dX3_addDamage_26 : decode cX3_addDamage 26 = .ok (.aload_n 0, 1) := by decide +kernel
theorem dX3_addDamage_27 : decode cX3_addDamage 27 = .ok (.getfield 54, 3) := by decide +kernel
theorem dX3_addDamage_30 : decode cX3_addDamage 30 = .ok (.aload_n 0, 1) := by decide +kernel
theorem dX3_addDamage_31 : decode cX3_addDamage 31 = .ok (.getfield 58, 3) := by decide +kernel
theorem dX3_addDamage_34 : decode cX3_addDamage 34 = .ok (.iload_n 2, 1) := by decide +kernel
theorem dX3_addDamage_35 : decode cX3_addDamage 35 = .ok (.iadd, 1) := by decide +kernel
theorem dX3_addDamage_36 : decode cX3_addDamage 36 = .ok (.iastore, 1) := by decide +kernel
theorem dX3_addDamage_37 : decode cX3_addDamage 37 = .ok (.aload_n 0, 1) := by decide +kernel
theorem dX3_addDamage_38 : decode cX3_addDamage 38 = .ok (.getfield 45, 3) := by decide +kernel
theorem dX3_addDamage_41 : decode cX3_addDamage 41 = .ok (.aload_n 0, 1) := by decide +kernel
theorem dX3_addDamage_42 : decode cX3_addDamage 42 = .ok (.getfield 54, 3) := by decide +kernel
theorem dX3_addDamage_45 : decode cX3_addDamage 45 = .ok (.iload_n 3, 1) := by decide +kernel
theorem dX3_addDamage_46 : decode cX3_addDamage 46 = .ok (.iastore, 1) := by decide +kernel
theorem dX3_addDamage_47 : decode cX3_addDamage 47 = .ok (.aload_n 0, 1) := by decide +kernel
theorem dX3_addDamage_48 : decode cX3_addDamage 48 = .ok (.getfield 48, 3) := by decide +kernel
theorem dX3_addDamage_51 : decode cX3_addDamage 51 = .ok (.aload_n 0, 1) := by decide +kernel
theorem dX3_addDamage_52 : decode cX3_addDamage 52 = .ok (.getfield 54, 3) := by decide +kernel
theorem dX3_addDamage_55 : decode cX3_addDamage 55 = .ok (.iload 4, 2) := by decide +kernel
theorem dX3_addDamage_57 : decode cX3_addDamage 57 = .ok (.iastore, 1) := by decide +kernel
theorem dX3_addDamage_58 : decode cX3_addDamage 58 = .ok (.aload_n 0, 1) := by decide +kernel
theorem dX3_addDamage_59 : decode cX3_addDamage 59 = .ok (.dup, 1) := by decide +kernel
theorem dX3_addDamage_60 : decode cX3_addDamage 60 = .ok (.getfield 54, 3) := by decide +kernel
theorem dX3_addDamage_63 : decode cX3_addDamage 63 = .ok (.iconst 1, 1) := by decide +kernel
theorem dX3_addDamage_64 : decode cX3_addDamage 64 = .ok (.iadd, 1) := by decide +kernel
theorem dX3_addDamage_65 : decode cX3_addDamage 65 = .ok (.putfield 54, 3) := by decide +kernel
theorem dX3_addDamage_68 : decode cX3_addDamage 68 = .ok (.aload_n 0, 1) := by decide +kernel
theorem dX3_addDamage_69 : decode cX3_addDamage 69 = .ok (.getfield 54, 3) := by decide +kernel
theorem dX3_addDamage_72 : decode cX3_addDamage 72 = .ok (.ireturn, 1) := by decide +kernel
theorem dX3_putCells_0 : decode cX3_putCells 0 = .ok (.iconst 0, 1) := by decide +kernel
theorem dX3_putCells_1 : decode cX3_putCells 1 = .ok (.istore_n 1, 1) := by decide +kernel
theorem dX3_putCells_2 : decode cX3_putCells 2 = .ok (.aload_n 0, 1) := by decide +kernel
theorem dX3_putCells_3 : decode cX3_putCells 3 = .ok (.iconst 0, 1) := by decide +kernel
theorem dX3_putCells_4 : decode cX3_putCells 4 = .ok (.putfield 61, 3) := by decide +kernel
theorem dX3_putCells_7 : decode cX3_putCells 7 = .ok (.iconst 0, 1) := by decide +kernel
theorem dX3_putCells_8 : decode cX3_putCells 8 = .ok (.istore_n 2, 1) := by decide +kernel
theorem dX3_putCells_9 : decode cX3_putCells 9 = .ok (.iload_n 2, 1) := by decide +kernel
theorem dX3_putCells_10 : decode cX3_putCells 10 = .ok (.iconst 4, 1) := by decide +kernel
theorem dX3_putCells_11 : decode cX3_putCells 11 = .ok (.if_icmp .ge 138, 3) := by decide +kernel
theorem dX3_putCells_14 : decode cX3_putCells 14 = .ok (.iconst 1, 1) := by decide +kernel
theorem dX3_putCells_15 : decode cX3_putCells 15 = .ok (.istore_n 3, 1) := by decide +kernel
theorem dX3_putCells_16 : decode cX3_putCells 16 = .ok (.aload_n 0, 1) := by decide +kernel
theorem dX3_putCells_17 : decode cX3_putCells 17 = .ok (.getfield 12, 3) := by decide +kernel
theorem dX3_putCells_20 : decode cX3_putCells 20 = .ok (.getfield 64, 3) := by decide +kernel
theorem dX3_putCells_23 : decode cX3_putCells 23 = .ok (.ifCond .le 24, 3) := by decide +kernel
theorem dX3_putCells_26 : decode cX3_putCells 26 = .ok (.aload_n 0, 1) := by decide +kernel
theorem dX3_putCells_27 : decode cX3_putCells 27 = .ok (.getfield 12, 3) := by decide +kernel
theorem dX3_putCells_30 : decode cX3_putCells 30 = .ok (.aload_n 0, 1) := by decide +kernel
theorem dX3_putCells_31 : decode cX3_putCells 31 = .ok (.getfield 35, 3) := by decide +kernel
theorem dX3_putCells_34 : decode cX3_putCells 34 = .ok (.aload_n 0, 1) := by decide +kernel
theorem dX3_putCells_35 : decode cX3_putCells 35 = .ok (.getfield 61, 3) := by decide +kernel
theorem dX3_putCells_38 : decode cX3_putCells 38 = .ok (.iconst 5, 1) := by decide +kernel
theorem dX3_putCells_39 : decode cX3_putCells 39 = .ok (.iadd, 1) := by decide +kernel
theorem dX3_putCells_40 : decode cX3_putCells 40 = .ok (.invokevirtual 67, 3) := by decide +kernel
theorem dX3_putCells_43 : decode cX3_putCells 43 = .ok (.istore_n 3, 1) := by decide +kernel
theorem dX3_putCells_44 : decode cX3_putCells 44 = .ok (.goto 59, 3) := by decide +kernel
theorem dX3_putCells_47 : decode cX3_putCells 47 = .ok (.aload_n 0, 1) := by decide +kernel
theorem dX3_putCells_48 : decode cX3_putCells 48 = .ok (.getfield 18, 3) := by decide +kernel
theorem dX3_putCells_51 : decode cX3_putCells 51 = .ok (.getfield 64, 3) := by decide +kernel
theorem dX3_putCells_54 : decode cX3_putCells 54 = .ok (.ifCond .le 24, 3) := by decide +kernel
theorem dX3_putCells_57 : decode cX3_putCells 57 = .ok (.aload_n 0, 1) := by decide +kernel
theorem dX3_putCells_58 : decode cX3_putCells 58 = .ok (.getfield 18, 3) := by decide +kernel
theorem dX3_putCells_61 : decode cX3_putCells 61 = .ok (.aload_n 0, 1) := by decide +kernel
theorem dX3_putCells_62 : decode cX3_putCells 62 = .ok (.getfield 35, 3) := by decide +kernel
theorem dX3_putCells_65 : decode cX3_putCells 65 = .ok (.aload_n 0, 1) := by decide +kernel
theorem dX3_putCells_66 : decode cX3_putCells 66 = .ok (.getfield 61, 3) := by decide +kernel
theorem dX3_putCells_69 : decode cX3_putCells 69 = .ok (.iconst 5, 1) := by decide +kernel
theorem dX3_putCells_70 : decode cX3_putCells 70 = .ok (.iadd, 1) := by decide +kernel
theorem dX3_putCells_71 : decode cX3_putCells 71 = .ok (.invokevirtual 67, 3) := by decide +kernel
theorem dX3_putCells_74 : decode cX3_putCells 74 = .ok (.istore_n 3, 1) := by decide +kernel
theorem dX3_putCells_75 : decode cX3_putCells 75 = .ok (.goto 28, 3) := by decide +kernel
theorem dX3_putCells_78 : decode cX3_putCells 78 = .ok (.aload_n 0, 1) := by decide +kernel
theorem dX3_putCells_79 : decode cX3_putCells 79 = .ok (.getfield 35, 3) := by decide +kernel
theorem dX3_putCells_82 : decode cX3_putCells 82 = .ok (.aload_n 0, 1) := by decide +kernel
theorem dX3_putCells_83 : decode cX3_putCells 83 = .ok (.getfield 61, 3) := by decide +kernel
theorem dX3_putCells_86 : decode cX3_putCells 86 = .ok (.iconst 5, 1) := by decide +kernel
theorem dX3_putCells_87 : decode cX3_putCells 87 = .ok (.iadd, 1) := by decide +kernel
theorem dX3_putCells_88 : decode cX3_putCells 88 = .ok (.aload_n 0, 1) := by decide +kernel
theorem dX3_putCells_89 : decode cX3_putCells 89 = .ok (.getfield 61, 3) := by decide +kernel
theorem dX3_putCells_92 : decode cX3_putCells 92 = .ok (.bipush 53, 2) := by decide +kernel
theorem dX3_putCells_94 : decode cX3_putCells 94 = .ok (.iadd, 1) := by decide +kernel
theorem dX3_putCells_95 : decode cX3_putCells 95 = .ok (.bipush 106, 2) := by decide +kernel
theorem dX3_putCells_97 : decode cX3_putCells 97 = .ok (.invokestatic 71, 3) := by decide +kernel
theorem dX3_putCells_100 : decode cX3_putCells 100 = .ok (.iinc 1 1, 3) := by decide +kernel
theorem dX3_putCells_103 : decode cX3_putCells 103 = .ok (.aload_n 0, 1) := by decide +kernel
theorem dX3_putCells_104 : decode cX3_putCells 104 = .ok (.iload_n 3, 1) := by decide +kernel
theorem dX3_putCells_105 : decode cX3_putCells 105 = .ok (.invokevirtual 77, 3) := by decide +kernel
theorem dX3_putCells_108 : decode cX3_putCells 108 = .ok (.aload_n 0, 1) := by decide +kernel
theorem dX3_putCells_109 : decode cX3_putCells 109 = .ok (.dup, 1) := by decide +kernel
theorem dX3_putCells_110 : decode cX3_putCells 110 = .ok (.getfield 61, 3) := by decide +kernel
theorem dX3_putCells_113 : decode cX3_putCells 113 = .ok (.aload_n 0, 1) := by decide +kernel
theorem dX3_putCells_114 : decode cX3_putCells 114 = .ok (.getfield 54, 3) := by decide +kernel
theorem dX3_putCells_117 : decode cX3_putCells 117 = .ok (.ifCond .le 10, 3) := by decide +kernel
theorem dX3_putCells_120 : decode cX3_putCells 120 = .ok (.aload_n 0, 1) := by decide +kernel
theorem dX3_putCells_121 : decode cX3_putCells 121 = .ok (.invokevirtual 81, 3) := by decide +kernel
theorem dX3_putCells_124 : decode cX3_putCells 124 = .ok (.goto 5, 3) := by decide +kernel
theorem dX3_putCells_127 : decode cX3_putCells 127 = .ok (.bipush 53, 2) := by decide +kernel
theorem dX3_putCells_129 : decode cX3_putCells 129 = .ok (.iadd, 1) := by decide +kernel
theorem dX3_putCells_130 : decode cX3_putCells 130 = .ok (.putfield 61, 3) := by decide +kernel
theorem dX3_putCells_133 : decode cX3_putCells 133 = .ok (.aload_n 0, 1) := by decide +kernel
theorem dX3_putCells_134 : decode cX3_putCells 134 = .ok (.dup, 1) := by decide +kernel
theorem dX3_putCells_135 : decode cX3_putCells 135 = .ok (.getfield 58, 3) := by decide +kernel
theorem dX3_putCells_138 : decode cX3_putCells 138 = .ok (.iconst 1, 1) := by decide +kernel
theorem dX3_putCells_139 : decode cX3_putCells 139 = .ok (.iadd, 1) := by decide +kernel
theorem dX3_putCells_140 : decode cX3_putCells 140 = .ok (.putfield 58, 3) := by decide +kernel
theorem dX3_putCells_143 : decode cX3_putCells 143 = .ok (.iinc 2 1, 3) := by decide +kernel
theorem dX3_putCells_146 : decode cX3_putCells 146 = .ok (.goto (-137), 3) := by decide +kernel
theorem dX3_putCells_149 : decode cX3_putCells 149 = .ok (.iload_n 1, 1) := by decide +kernel
theorem dX3_putCells_150 : decode cX3_putCells 150 = .ok (.ireturn, 1) := by decide +kernel
theorem dX3_putHeader_0 : decode cX3_putHeader 0 = .ok (.aload_n 0, 1) := by decide +kernel
theorem dX3_putHeader_1 : decode cX3_putHeader 1 = .ok (.getfield 35, 3) := by decide +kernel
theorem dX3_putHeader_4 : decode cX3_putHeader 4 = .ok (.aload_n 0, 1) := by decide +kernel
theorem dX3_putHeader_5 : decode cX3_putHeader 5 = .ok (.getfield 61, 3) := by decide +kernel
theorem dX3_putHeader_8 : decode cX3_putHeader 8 = .ok (.iload_n 1, 1) := by decide +kernel
theorem dX3_putHeader_9 : decode cX3_putHeader 9 = .ok (.bipush 24, 2) := by decide +kernel
theorem dX3_putHeader_11 : decode cX3_putHeader 11 = .ok (.iushr, 1) := by decide +kernel
theorem dX3_putHeader_12 : decode cX3_putHeader 12 = .ok (.iastore, 1) := by decide +kernel
theorem dX3_putHeader_13 : decode cX3_putHeader 13 = .ok (.aload_n 0, 1) := by decide +kernel
theorem dX3_putHeader_14 : decode cX3_putHeader 14 = .ok (.getfield 35, 3) := by decide +kernel
theorem dX3_putHeader_17 : decode cX3_putHeader 17 = .ok (.aload_n 0, 1) := by decide +kernel
theorem dX3_putHeader_18 : decode cX3_putHeader 18 = .ok (.getfield 61, 3) := by decide +kernel
theorem dX3_putHeader_21 : decode cX3_putHeader 21 = .ok (.iconst 1, 1) := by decide +kernel
theorem dX3_putHeader_22 : decode cX3_putHeader 22 = .ok (.iadd, 1) := by decide +kernel
theorem dX3_putHeader_23 : decode cX3_putHeader 23 = .ok (.iload_n 1, 1) := by decide +kernel
theorem dX3_putHeader_24 : decode cX3_putHeader 24 = .ok (.bipush 16, 2) := by decide +kernel
theorem dX3_putHeader_26 : decode cX3_putHeader 26 = .ok (.iushr, 1) := by decide +kernel
theorem dX3_putHeader_27 : decode cX3_putHeader 27 = .ok (.sipush 255, 3) := by decide +kernel
theorem dX3_putHeader_30 : decode cX3_putHeader 30 = .ok (.iand, 1) := by decide +kernel
theorem dX3_putHeader_31 : decode cX3_putHeader 31 = .ok (.iastore, 1) := by decide +kernel
theorem dX3_putHeader_32 : decode cX3_putHeader 32 = .ok (.aload_n 0, 1) := by decide +kernel
theorem dX3_putHeader_33 : decode cX3_putHeader 33 = .ok (.getfield 35, 3) := by decide +kernel
theorem dX3_putHeader_36 : decode cX3_putHeader 36 = .ok (.aload_n 0, 1) := by decide +kernel
theorem dX3_putHeader_37 : decode cX3_putHeader 37 = .ok (.getfield 61, 3) := by decide +kernel
theorem dX3_putHeader_40 : decode cX3_putHeader 40 = .ok (.iconst 2, 1) := by decide +kernel
theorem dX3_putHeader_41 : decode cX3_putHeader 41 = .ok (.iadd, 1) := by decide +kernel
theorem dX3_putHeader_42 : decode cX3_putHeader 42 = .ok (.iload_n 1, 1) := by decide +kernel
theorem dX3_putHeader_43 : decode cX3_putHeader 43 = .ok (.bipush 8, 2) := by decide +kernel
theorem dX3_putHeader_45 : decode cX3_putHeader 45 = .ok (.iushr, 1) := by decide +kernel
theorem dX3_putHeader_46 : decode cX3_putHeader 46 = .ok (.sipush 255, 3) := by decide +kernel
theorem dX3_putHeader_49 : decode cX3_putHeader 49 = .ok (.iand, 1) := by decide +kernel
theorem dX3_putHeader_50 : decode cX3_putHeader 50 = .ok (.iastore, 1) := by decide +kernel
theorem dX3_putHeader_51 : decode cX3_putHeader 51 = .ok (.aload_n 0, 1) := by decide +kernel
theorem dX3_putHeader_52 : decode cX3_putHeader 52 = .ok (.getfield 35, 3) := by decide +kernel
theorem dX3_putHeader_55 : decode cX3_putHeader 55 = .ok (.aload_n 0, 1) := by decide +kernel
theorem dX3_putHeader_56 : decode cX3_putHeader 56 = .ok (.getfield 61, 3) := by decide +kernel
theorem dX3_putHeader_59 : decode cX3_putHeader 59 = .ok (.iconst 3, 1) := by decide +kernel
theorem dX3_putHeader_60 : decode cX3_putHeader 60 = .ok (.iadd, 1) := by decide +kernel
theorem dX3_putHeader_61 : decode cX3_putHeader 61 = .ok (.iload_n 1, 1) := by decide +kernel
theorem dX3_putHeader_62 : decode cX3_putHeader 62 = .ok (.sipush 255, 3) := by decide +kernel
theorem dX3_putHeader_65 : decode cX3_putHeader 65 = .ok (.iand, 1) := by decide +kernel
theorem dX3_putHeader_66 : decode cX3_putHeader 66 = .ok (.iastore, 1) := by decide +kernel
theorem dX3_putHeader_67 : decode cX3_putHeader 67 = .ok (.aload_n 0, 1) := by decide +kernel
theorem dX3_putHeader_68 : decode cX3_putHeader 68 = .ok (.getfield 35, 3) := by decide +kernel
theorem dX3_putHeader_71 : decode cX3_putHeader 71 = .ok (.aload_n 0, 1) := by decide +kernel
theorem dX3_putHeader_72 : decode cX3_putHeader 72 = .ok (.getfield 61, 3) := by decide +kernel
theorem dX3_putHeader_75 : decode cX3_putHeader 75 = .ok (.iconst 4, 1) := by decide +kernel
theorem dX3_putHeader_76 : decode cX3_putHeader 76 = .ok (.iadd, 1) := by decide +kernel
theorem dX3_putHeader_77 : decode cX3_putHeader 77 = .ok (.iload_n 1, 1) := by decide +kernel
theorem dX3_putHeader_78 : decode cX3_putHeader 78 = .ok (.invokestatic 85, 3) := by decide +kernel
theorem dX3_putHeader_81 : decode cX3_putHeader 81 = .ok (.iastore, 1) := by decide +kernel
theorem dX3_putHeader_82 : decode cX3_putHeader 82 = .ok (.return_, 1) := by decide +kernel
theorem dX3_spoilCell_0 : decode cX3_spoilCell 0 = .ok (.bipush 53, 2) := by decide +kernel
theorem dX3_spoilCell_2 : decode cX3_spoilCell 2 = .ok (.istore_n 1, 1) := by decide +kernel
theorem dX3_spoilCell_3 : decode cX3_spoilCell 3 = .ok (.iconst 0, 1) := by decide +kernel
theorem dX3_spoilCell_4 : decode cX3_spoilCell 4 = .ok (.istore_n 2, 1) := by decide +kernel
theorem dX3_spoilCell_5 : decode cX3_spoilCell 5 = .ok (.iconst 0, 1) := by decide +kernel
theorem dX3_spoilCell_6 : decode cX3_spoilCell 6 = .ok (.istore_n 3, 1) := by decide +kernel
theorem dX3_spoilCell_7 : decode cX3_spoilCell 7 = .ok (.iload_n 3, 1) := by decide +kernel
theorem dX3_spoilCell_8 : decode cX3_spoilCell 8 = .ok (.aload_n 0, 1) := by decide +kernel
theorem dX3_spoilCell_9 : decode cX3_spoilCell 9 = .ok (.getfield 54, 3) := by decide +kernel
theorem dX3_spoilCell_12 : decode cX3_spoilCell 12 = .ok (.if_icmp .ge 134, 3) := by decide +kernel
theorem dX3_spoilCell_15 : decode cX3_spoilCell 15 = .ok (.aload_n 0, 1) := by decide +kernel
theorem dX3_spoilCell_16 : decode cX3_spoilCell 16 = .ok (.getfield 42, 3) := by decide +kernel
theorem dX3_spoilCell_19 : decode cX3_spoilCell 19 = .ok (.iload_n 3, 1) := by decide +kernel
theorem dX3_spoilCell_20 : decode cX3_spoilCell 20 = .ok (.iaload, 1) := by decide +kernel
theorem dX3_spoilCell_21 : decode cX3_spoilCell 21 = .ok (.aload_n 0, 1) := by decide +kernel
theorem dX3_spoilCell_22 : decode cX3_spoilCell 22 = .ok (.getfield 58, 3) := by decide +kernel
theorem dX3_spoilCell_25 : decode cX3_spoilCell 25 = .ok (.if_icmp .eq 57, 3) := by decide +kernel
theorem dX3_spoilCell_28 : decode cX3_spoilCell 28 = .ok (.aload_n 0, 1) := by decide +kernel
theorem dX3_spoilCell_29 : decode cX3_spoilCell 29 = .ok (.getfield 39, 3) := by decide +kernel
theorem dX3_spoilCell_32 : decode cX3_spoilCell 32 = .ok (.iload_n 2, 1) := by decide +kernel
theorem dX3_spoilCell_33 : decode cX3_spoilCell 33 = .ok (.aload_n 0, 1) := by decide +kernel
theorem dX3_spoilCell_34 : decode cX3_spoilCell 34 = .ok (.getfield 39, 3) := by decide +kernel
theorem dX3_spoilCell_37 : decode cX3_spoilCell 37 = .ok (.iload_n 3, 1) := by decide +kernel
theorem dX3_spoilCell_38 : decode cX3_spoilCell 38 = .ok (.iaload, 1) := by decide +kernel
theorem dX3_spoilCell_39 : decode cX3_spoilCell 39 = .ok (.iastore, 1) := by decide +kernel
theorem dX3_spoilCell_40 : decode cX3_spoilCell 40 = .ok (.aload_n 0, 1) := by decide +kernel
theorem dX3_spoilCell_41 : decode cX3_spoilCell 41 = .ok (.getfield 42, 3) := by decide +kernel
theorem dX3_spoilCell_44 : decode cX3_spoilCell 44 = .ok (.iload_n 2, 1) := by decide +kernel
theorem dX3_spoilCell_45 : decode cX3_spoilCell 45 = .ok (.aload_n 0, 1) := by decide +kernel
theorem dX3_spoilCell_46 : decode cX3_spoilCell 46 = .ok (.getfield 42, 3) := by decide +kernel
theorem dX3_spoilCell_49 : decode cX3_spoilCell 49 = .ok (.iload_n 3, 1) := by decide +kernel
theorem dX3_spoilCell_50 : decode cX3_spoilCell 50 = .ok (.iaload, 1) := by decide +kernel
theorem dX3_spoilCell_51 : decode cX3_spoilCell 51 = .ok (.iastore, 1) := by decide +kernel
theorem dX3_spoilCell_52 : decode cX3_spoilCell 52 = .ok (.aload_n 0, 1) := by decide +kernel
theorem dX3_spoilCell_53 : decode cX3_spoilCell 53 = .ok (.getfield 45, 3) := by decide +kernel
theorem dX3_spoilCell_56 : decode cX3_spoilCell 56 = .ok (.iload_n 2, 1) := by decide +kernel
theorem dX3_spoilCell_57 : decode cX3_spoilCell 57 = .ok (.aload_n 0, 1) := by decide +kernel
theorem dX3_spoilCell_58 : decode cX3_spoilCell 58 = .ok (.getfield 45, 3) := by decide +kernel
theorem dX3_spoilCell_61 : decode cX3_spoilCell 61 = .ok (.iload_n 3, 1) := by decide +kernel
theorem dX3_spoilCell_62 : decode cX3_spoilCell 62 = .ok (.iaload, 1) := by decide +kernel
theorem dX3_spoilCell_63 : decode cX3_spoilCell 63 = .ok (.iastore, 1) := by decide +kernel
theorem dX3_spoilCell_64 : decode cX3_spoilCell 64 = .ok (.aload_n 0, 1) := by decide +kernel
theorem dX3_spoilCell_65 : decode cX3_spoilCell 65 = .ok (.getfield 48, 3) := by decide +kernel
theorem dX3_spoilCell_68 : decode cX3_spoilCell 68 = .ok (.iload_n 2, 1) := by decide +kernel
theorem dX3_spoilCell_69 : decode cX3_spoilCell 69 = .ok (.aload_n 0, 1) := by decide +kernel
theorem dX3_spoilCell_70 : decode cX3_spoilCell 70 = .ok (.getfield 48, 3) := by decide +kernel
theorem dX3_spoilCell_73 : decode cX3_spoilCell 73 = .ok (.iload_n 3, 1) := by decide +kernel
theorem dX3_spoilCell_74 : decode cX3_spoilCell 74 = .ok (.iaload, 1) := by decide +kernel
theorem dX3_spoilCell_75 : decode cX3_spoilCell 75 = .ok (.iastore, 1) := by decide +kernel
theorem dX3_spoilCell_76 : decode cX3_spoilCell 76 = .ok (.iinc 2 1, 3) := by decide +kernel
theorem dX3_spoilCell_79 : decode cX3_spoilCell 79 = .ok (.goto 61, 3) := by decide +kernel
theorem dX3_spoilCell_82 : decode cX3_spoilCell 82 = .ok (.aload_n 0, 1) := by decide +kernel
theorem dX3_spoilCell_83 : decode cX3_spoilCell 83 = .ok (.getfield 39, 3) := by decide +kernel
theorem dX3_spoilCell_86 : decode cX3_spoilCell 86 = .ok (.iload_n 3, 1) := by decide +kernel
theorem dX3_spoilCell_87 : decode cX3_spoilCell 87 = .ok (.iaload, 1) := by decide +kernel
theorem dX3_spoilCell_88 : decode cX3_spoilCell 88 = .ok (.iconst 1, 1) := by decide +kernel
theorem dX3_spoilCell_89 : decode cX3_spoilCell 89 = .ok (.if_icmp .ne 31, 3) := by decide +kernel
theorem dX3_spoilCell_92 : decode cX3_spoilCell 92 = .ok (.aload_n 0, 1) := by decide +kernel
theorem dX3_spoilCell_93 : decode cX3_spoilCell 93 = .ok (.getfield 35, 3) := by decide +kernel
theorem dX3_spoilCell_96 : decode cX3_spoilCell 96 = .ok (.aload_n 0, 1) := by decide +kernel
theorem dX3_spoilCell_97 : decode cX3_spoilCell 97 = .ok (.getfield 61, 3) := by decide +kernel
theorem dX3_spoilCell_100 : decode cX3_spoilCell 100 = .ok (.aload_n 0, 1) := by decide +kernel
theorem dX3_spoilCell_101 : decode cX3_spoilCell 101 = .ok (.getfield 45, 3) := by decide +kernel
theorem dX3_spoilCell_104 : decode cX3_spoilCell 104 = .ok (.iload_n 3, 1) := by decide +kernel
theorem dX3_spoilCell_105 : decode cX3_spoilCell 105 = .ok (.iaload, 1) := by decide +kernel
theorem dX3_spoilCell_106 : decode cX3_spoilCell 106 = .ok (.iadd, 1) := by decide +kernel
theorem dX3_spoilCell_107 : decode cX3_spoilCell 107 = .ok (.dup2, 1) := by decide +kernel
theorem dX3_spoilCell_108 : decode cX3_spoilCell 108 = .ok (.iaload, 1) := by decide +kernel
theorem dX3_spoilCell_109 : decode cX3_spoilCell 109 = .ok (.aload_n 0, 1) := by decide +kernel
theorem dX3_spoilCell_110 : decode cX3_spoilCell 110 = .ok (.getfield 48, 3) := by decide +kernel
theorem dX3_spoilCell_113 : decode cX3_spoilCell 113 = .ok (.iload_n 3, 1) := by decide +kernel
theorem dX3_spoilCell_114 : decode cX3_spoilCell 114 = .ok (.iaload, 1) := by decide +kernel
theorem dX3_spoilCell_115 : decode cX3_spoilCell 115 = .ok (.ixor, 1) := by decide +kernel
theorem dX3_spoilCell_116 : decode cX3_spoilCell 116 = .ok (.iastore, 1) := by decide +kernel
theorem dX3_spoilCell_117 : decode cX3_spoilCell 117 = .ok (.goto 23, 3) := by decide +kernel
theorem dX3_spoilCell_120 : decode cX3_spoilCell 120 = .ok (.iload_n 1, 1) := by decide +kernel
theorem dX3_spoilCell_121 : decode cX3_spoilCell 121 = .ok (.aload_n 0, 1) := by decide +kernel
theorem dX3_spoilCell_122 : decode cX3_spoilCell 122 = .ok (.getfield 39, 3) := by decide +kernel
theorem dX3_spoilCell_125 : decode cX3_spoilCell 125 = .ok (.iload_n 3, 1) := by decide +kernel
theorem dX3_spoilCell_126 : decode cX3_spoilCell 126 = .ok (.iaload, 1) := by decide +kernel
theorem dX3_spoilCell_127 : decode cX3_spoilCell 127 = .ok (.ifCond .ne 7, 3) := by decide +kernel
theorem dX3_spoilCell_130 : decode cX3_spoilCell 130 = .ok (.iconst 0, 1) := by decide +kernel
theorem dX3_spoilCell_131 : decode cX3_spoilCell 131 = .ok (.goto 5, 3) := by decide +kernel
theorem dX3_spoilCell_134 : decode cX3_spoilCell 134 = .ok (.bipush 52, 2) := by decide +kernel
theorem dX3_spoilCell_136 : decode cX3_spoilCell 136 = .ok (.invokestatic 89, 3) := by decide +kernel
theorem dX3_spoilCell_139 : decode cX3_spoilCell 139 = .ok (.istore_n 1, 1) := by decide +kernel
theorem dX3_spoilCell_140 : decode cX3_spoilCell 140 = .ok (.iinc 3 1, 3) := by decide +kernel
theorem dX3_spoilCell_143 : decode cX3_spoilCell 143 = .ok (.goto (-136), 3) := by decide +kernel
theorem dX3_spoilCell_146 : decode cX3_spoilCell 146 = .ok (.aload_n 0, 1) := by decide +kernel
theorem dX3_spoilCell_147 : decode cX3_spoilCell 147 = .ok (.iload_n 2, 1) := by decide +kernel
theorem dX3_spoilCell_148 : decode cX3_spoilCell 148 = .ok (.putfield 54, 3) := by decide +kernel
theorem dX3_spoilCell_151 : decode cX3_spoilCell 151 = .ok (.iload_n 1, 1) := by decide +kernel
theorem dX3_spoilCell_152 : decode cX3_spoilCell 152 = .ok (.ireturn, 1) := by decide +kernel
theorem dX3_addData_0 : decode cX3_addData 0 = .ok (.aload_n 0, 1) := by decide +kernel
theorem dX3_addData_1 : decode cX3_addData 1 = .ok (.getfield 18, 3) := by decide +kernel
theorem dX3_addData_4 : decode cX3_addData 4 = .ok (.iload_n 1, 1) := by decide +kernel
theorem dX3_addData_5 : decode cX3_addData 5 = .ok (.aload_n 2, 1) := by decide +kernel
theorem dX3_addData_6 : decode cX3_addData 6 = .ok (.iload_n 3, 1) := by decide +kernel
theorem dX3_addData_7 : decode cX3_addData 7 = .ok (.invokevirtual 95, 3) := by decide +kernel
theorem dX3_addData_10 : decode cX3_addData 10 = .ok (.ifCond .ne 13, 3) := by decide +kernel
theorem dX3_addData_13 : decode cX3_addData 13 = .ok (.aload_n 0, 1) := by decide +kernel
theorem dX3_addData_14 : decode cX3_addData 14 = .ok (.dup, 1) := by decide +kernel
theorem dX3_addData_15 : decode cX3_addData 15 = .ok (.getfield 99, 3) := by decide +kernel
theorem dX3_addData_18 : decode cX3_addData 18 = .ok (.iconst 1, 1) := by decide +kernel
theorem dX3_addData_19 : decode cX3_addData 19 = .ok (.iadd, 1) := by decide +kernel
theorem dX3_addData_20 : decode cX3_addData 20 = .ok (.putfield 99, 3) := by decide +kernel
theorem dX3_addData_23 : decode cX3_addData 23 = .ok (.return_, 1) := by decide +kernel
theorem dX3_word_0 : decode cX3_word 0 = .ok (.bipush 24, 2) := by decide +kernel
theorem dX3_word_2 : decode cX3_word 2 = .ok (.istore_n 2, 1) := by decide +kernel
theorem dX3_word_3 : decode cX3_word 3 = .ok (.iload_n 2, 1) := by decide +kernel
theorem dX3_word_4 : decode cX3_word 4 = .ok (.ifCond .lt 45, 3) := by decide +kernel
theorem dX3_word_7 : decode cX3_word 7 = .ok (.aload_n 0, 1) := by decide +kernel
theorem dX3_word_8 : decode cX3_word 8 = .ok (.getfield 102, 3) := by decide +kernel
theorem dX3_word_11 : decode cX3_word 11 = .ok (.sipush 200, 3) := by decide +kernel
theorem dX3_word_14 : decode cX3_word 14 = .ok (.if_icmp .ge 35, 3) := by decide +kernel
theorem dX3_word_17 : decode cX3_word 17 = .ok (.aload_n 0, 1) := by decide +kernel
theorem dX3_word_18 : decode cX3_word 18 = .ok (.getfield 51, 3) := by decide +kernel
theorem dX3_word_21 : decode cX3_word 21 = .ok (.aload_n 0, 1) := by decide +kernel
theorem dX3_word_22 : decode cX3_word 22 = .ok (.getfield 102, 3) := by decide +kernel
theorem dX3_word_25 : decode cX3_word 25 = .ok (.iload_n 1, 1) := by decide +kernel
theorem dX3_word_26 : decode cX3_word 26 = .ok (.iload_n 2, 1) := by decide +kernel
theorem dX3_word_27 : decode cX3_word 27 = .ok (.iushr, 1) := by decide +kernel
theorem dX3_word_28 : decode cX3_word 28 = .ok (.sipush 255, 3) := by decide +kernel
theorem dX3_word_31 : decode cX3_word 31 = .ok (.iand, 1) := by decide +kernel
theorem dX3_word_32 : decode cX3_word 32 = .ok (.iastore, 1) := by decide +kernel
theorem dX3_word_33 : decode cX3_word 33 = .ok (.aload_n 0, 1) := by decide +kernel
theorem dX3_word_34 : decode cX3_word 34 = .ok (.dup, 1) := by decide +kernel
theorem dX3_word_35 : decode cX3_word 35 = .ok (.getfield 102, 3) := by decide +kernel
theorem dX3_word_38 : decode cX3_word 38 = .ok (.iconst 1, 1) := by decide +kernel
theorem dX3_word_39 : decode cX3_word 39 = .ok (.iadd, 1) := by decide +kernel
theorem dX3_word_40 : decode cX3_word 40 = .ok (.putfield 102, 3) := by decide +kernel
theorem dX3_word_43 : decode cX3_word 43 = .ok (.iinc 2 (-8), 3) := by decide +kernel
theorem dX3_word_46 : decode cX3_word 46 = .ok (.goto (-43), 3) := by decide +kernel
theorem dX3_word_49 : decode cX3_word 49 = .ok (.return_, 1) := by decide +kernel
theorem dX3_row_0 : decode cX3_row 0 = .ok (.iload_n 2, 1) := by decide +kernel
theorem dX3_row_1 : decode cX3_row 1 = .ok (.ifCond .lt 27, 3) := by decide +kernel
theorem dX3_row_4 : decode cX3_row 4 = .ok (.iload_n 3, 1) := by decide +kernel
theorem dX3_row_5 : decode cX3_row 5 = .ok (.ifCond .lt 23, 3) := by decide +kernel
theorem dX3_row_8 : decode cX3_row 8 = .ok (.iload_n 2, 1) := by decide +kernel
theorem dX3_row_9 : decode cX3_row 9 = .ok (.iload_n 3, 1) := by decide +kernel
theorem dX3_row_10 : decode cX3_row 10 = .ok (.iadd, 1) := by decide +kernel
theorem dX3_row_11 : decode cX3_row 11 = .ok (.aload_n 1, 1) := by decide +kernel
theorem dX3_row_12 : decode cX3_row 12 = .ok (.arraylength, 1) := by decide +kernel
theorem dX3_row_13 : decode cX3_row 13 = .ok (.if_icmp .gt 15, 3) := by decide +kernel
theorem dX3_row_16 : decode cX3_row 16 = .ok (.aload_n 0, 1) := by decide +kernel
theorem dX3_row_17 : decode cX3_row 17 = .ok (.getfield 102, 3) := by decide +kernel
theorem dX3_row_20 : decode cX3_row 20 = .ok (.iload_n 3, 1) := by decide +kernel
theorem dX3_row_21 : decode cX3_row 21 = .ok (.iadd, 1) := by decide +kernel
theorem dX3_row_22 : decode cX3_row 22 = .ok (.sipush 200, 3) := by decide +kernel
theorem dX3_row_25 : decode cX3_row 25 = .ok (.if_icmp .le 4, 3) := by decide +kernel
theorem dX3_row_28 : decode cX3_row 28 = .ok (.return_, 1) := by decide +kernel
theorem dX3_row_29 : decode cX3_row 29 = .ok (.aload_n 1, 1) := by decide +kernel
theorem dX3_row_30 : decode cX3_row 30 = .ok (.iload_n 2, 1) := by decide +kernel
theorem dX3_row_31 : decode cX3_row 31 = .ok (.aload_n 0, 1) := by decide +kernel
theorem dX3_row_32 : decode cX3_row 32 = .ok (.getfield 51, 3) := by decide +kernel
theorem dX3_row_35 : decode cX3_row 35 = .ok (.aload_n 0, 1) := by decide +kernel
theorem dX3_row_36 : decode cX3_row 36 = .ok (.getfield 102, 3) := by decide +kernel
theorem dX3_row_39 : decode cX3_row 39 = .ok (.iload_n 3, 1) := by decide +kernel
theorem dX3_row_40 : decode cX3_row 40 = .ok (.invokestatic 105, 3) := by decide +kernel
theorem dX3_row_43 : decode cX3_row 43 = .ok (.aload_n 0, 1) := by decide +kernel
theorem dX3_row_44 : decode cX3_row 44 = .ok (.dup, 1) := by decide +kernel
theorem dX3_row_45 : decode cX3_row 45 = .ok (.getfield 102, 3) := by decide +kernel
theorem dX3_row_48 : decode cX3_row 48 = .ok (.iload_n 3, 1) := by decide +kernel
theorem dX3_row_49 : decode cX3_row 49 = .ok (.iadd, 1) := by decide +kernel
theorem dX3_row_50 : decode cX3_row 50 = .ok (.putfield 102, 3) := by decide +kernel
theorem dX3_row_53 : decode cX3_row 53 = .ok (.return_, 1) := by decide +kernel
theorem dX3_sendUnit_0 : decode cX3_sendUnit 0 = .ok (.aload_n 0, 1) := by decide +kernel
theorem dX3_sendUnit_1 : decode cX3_sendUnit 1 = .ok (.iload_n 1, 1) := by decide +kernel
theorem dX3_sendUnit_2 : decode cX3_sendUnit 2 = .ok (.bipush 24, 2) := by decide +kernel
theorem dX3_sendUnit_4 : decode cX3_sendUnit 4 = .ok (.ishl, 1) := by decide +kernel
theorem dX3_sendUnit_5 : decode cX3_sendUnit 5 = .ok (.iload_n 2, 1) := by decide +kernel
theorem dX3_sendUnit_6 : decode cX3_sendUnit 6 = .ok (.ior, 1) := by decide +kernel
theorem dX3_sendUnit_7 : decode cX3_sendUnit 7 = .ok (.invokevirtual 111, 3) := by decide +kernel
theorem dX3_sendUnit_10 : decode cX3_sendUnit 10 = .ok (.aload_n 0, 1) := by decide +kernel
theorem dX3_sendUnit_11 : decode cX3_sendUnit 11 = .ok (.getfield 51, 3) := by decide +kernel
theorem dX3_sendUnit_14 : decode cX3_sendUnit 14 = .ok (.aload_n 0, 1) := by decide +kernel
theorem dX3_sendUnit_15 : decode cX3_sendUnit 15 = .ok (.getfield 102, 3) := by decide +kernel
theorem dX3_sendUnit_18 : decode cX3_sendUnit 18 = .ok (.invokestatic 114, 3) := by decide +kernel
theorem dX3_sendUnit_21 : decode cX3_sendUnit 21 = .ok (.istore_n 3, 1) := by decide +kernel
theorem dX3_sendUnit_22 : decode cX3_sendUnit 22 = .ok (.aload_n 0, 1) := by decide +kernel
theorem dX3_sendUnit_23 : decode cX3_sendUnit 23 = .ok (.iconst 0, 1) := by decide +kernel
theorem dX3_sendUnit_24 : decode cX3_sendUnit 24 = .ok (.putfield 102, 3) := by decide +kernel
theorem dX3_sendUnit_27 : decode cX3_sendUnit 27 = .ok (.aload_n 0, 1) := by decide +kernel
theorem dX3_sendUnit_28 : decode cX3_sendUnit 28 = .ok (.getfield 12, 3) := by decide +kernel
theorem dX3_sendUnit_31 : decode cX3_sendUnit 31 = .ok (.getfield 64, 3) := by decide +kernel
theorem dX3_sendUnit_34 : decode cX3_sendUnit 34 = .ok (.iload_n 3, 1) := by decide +kernel
theorem dX3_sendUnit_35 : decode cX3_sendUnit 35 = .ok (.iadd, 1) := by decide +kernel
theorem dX3_sendUnit_36 : decode cX3_sendUnit 36 = .ok (.bipush 40, 2) := by decide +kernel
theorem dX3_sendUnit_38 : decode cX3_sendUnit 38 = .ok (.if_icmp .le 14, 3) := by decide +kernel
theorem dX3_sendUnit_41 : decode cX3_sendUnit 41 = .ok (.aload_n 0, 1) := by decide +kernel
theorem dX3_sendUnit_42 : decode cX3_sendUnit 42 = .ok (.dup, 1) := by decide +kernel
theorem dX3_sendUnit_43 : decode cX3_sendUnit 43 = .ok (.getfield 99, 3) := by decide +kernel
theorem dX3_sendUnit_46 : decode cX3_sendUnit 46 = .ok (.iload_n 3, 1) := by decide +kernel
theorem dX3_sendUnit_47 : decode cX3_sendUnit 47 = .ok (.iadd, 1) := by decide +kernel
theorem dX3_sendUnit_48 : decode cX3_sendUnit 48 = .ok (.putfield 99, 3) := by decide +kernel
theorem dX3_sendUnit_51 : decode cX3_sendUnit 51 = .ok (.return_, 1) := by decide +kernel
theorem dX3_sendUnit_52 : decode cX3_sendUnit 52 = .ok (.iconst 0, 1) := by decide +kernel
theorem dX3_sendUnit_53 : decode cX3_sendUnit 53 = .ok (.istore 4, 2) := by decide +kernel
theorem dX3_sendUnit_55 : decode cX3_sendUnit 55 = .ok (.iload 4, 2) := by decide +kernel
theorem dX3_sendUnit_57 : decode cX3_sendUnit 57 = .ok (.iload_n 3, 1) := by decide +kernel
theorem dX3_sendUnit_58 : decode cX3_sendUnit 58 = .ok (.if_icmp .ge 42, 3) := by decide +kernel
theorem dX3_sendUnit_61 : decode cX3_sendUnit 61 = .ok (.aload_n 0, 1) := by decide +kernel
theorem dX3_sendUnit_62 : decode cX3_sendUnit 62 = .ok (.getfield 12, 3) := by decide +kernel
theorem dX3_sendUnit_65 : decode cX3_sendUnit 65 = .ok (.bipush 80, 2) := by decide +kernel
theorem dX3_sendUnit_67 : decode cX3_sendUnit 67 = .ok (.iload 4, 2) := by decide +kernel
theorem dX3_sendUnit_69 : decode cX3_sendUnit 69 = .ok (.iload_n 3, 1) := by decide +kernel
theorem dX3_sendUnit_70 : decode cX3_sendUnit 70 = .ok (.iconst 1, 1) := by decide +kernel
theorem dX3_sendUnit_71 : decode cX3_sendUnit 71 = .ok (.isub, 1) := by decide +kernel
theorem dX3_sendUnit_72 : decode cX3_sendUnit 72 = .ok (.if_icmp .ne 7, 3) := by decide +kernel
theorem dX3_sendUnit_75 : decode cX3_sendUnit 75 = .ok (.iconst 2, 1) := by decide +kernel
theorem dX3_sendUnit_76 : decode cX3_sendUnit 76 = .ok (.goto 4, 3) := by decide +kernel
theorem dX3_sendUnit_79 : decode cX3_sendUnit 79 = .ok (.iconst 0, 1) := by decide +kernel
theorem dX3_sendUnit_80 : decode cX3_sendUnit 80 = .ok (.ior, 1) := by decide +kernel
theorem dX3_sendUnit_81 : decode cX3_sendUnit 81 = .ok (.aload_n 0, 1) := by decide +kernel
theorem dX3_sendUnit_82 : decode cX3_sendUnit 82 = .ok (.getfield 51, 3) := by decide +kernel
theorem dX3_sendUnit_85 : decode cX3_sendUnit 85 = .ok (.iload 4, 2) := by decide +kernel
theorem dX3_sendUnit_87 : decode cX3_sendUnit 87 = .ok (.bipush 48, 2) := by decide +kernel
theorem dX3_sendUnit_89 : decode cX3_sendUnit 89 = .ok (.imul, 1) := by decide +kernel
theorem dX3_sendUnit_90 : decode cX3_sendUnit 90 = .ok (.invokevirtual 95, 3) := by decide +kernel
theorem dX3_sendUnit_93 : decode cX3_sendUnit 93 = .ok (.pop, 1) := by decide +kernel
theorem dX3_sendUnit_94 : decode cX3_sendUnit 94 = .ok (.iinc 4 1, 3) := by decide +kernel
theorem dX3_sendUnit_97 : decode cX3_sendUnit 97 = .ok (.goto (-42), 3) := by decide +kernel
theorem dX3_sendUnit_100 : decode cX3_sendUnit 100 = .ok (.return_, 1) := by decide +kernel
theorem dX3_tell_0 : decode cX3_tell 0 = .ok (.iload_n 1, 1) := by decide +kernel
theorem dX3_tell_1 : decode cX3_tell 1 = .ok (.tableswitch 148 0 9 #[55, 63, 90, 98, 106, 114, 122, 127, 132, 140], 55) := by decide +kernel
theorem dX3_tell_56 : decode cX3_tell 56 = .ok (.aload_n 0, 1) := by decide +kernel
theorem dX3_tell_57 : decode cX3_tell 57 = .ok (.getfield 24, 3) := by decide +kernel
theorem dX3_tell_60 : decode cX3_tell 60 = .ok (.getfield 117, 3) := by decide +kernel
theorem dX3_tell_63 : decode cX3_tell 63 = .ok (.ireturn, 1) := by decide +kernel
theorem dX3_tell_64 : decode cX3_tell 64 = .ok (.aload_n 0, 1) := by decide +kernel
theorem dX3_tell_65 : decode cX3_tell 65 = .ok (.getfield 24, 3) := by decide +kernel
theorem dX3_tell_68 : decode cX3_tell 68 = .ok (.getfield 117, 3) := by decide +kernel
theorem dX3_tell_71 : decode cX3_tell 71 = .ok (.iconst 2, 1) := by decide +kernel
theorem dX3_tell_72 : decode cX3_tell 72 = .ok (.if_icmp .ne 17, 3) := by decide +kernel
theorem dX3_tell_75 : decode cX3_tell 75 = .ok (.aload_n 0, 1) := by decide +kernel
theorem dX3_tell_76 : decode cX3_tell 76 = .ok (.getfield 24, 3) := by decide +kernel
theorem dX3_tell_79 : decode cX3_tell 79 = .ok (.getfield 120, 3) := by decide +kernel
theorem dX3_tell_82 : decode cX3_tell 82 = .ok (.ifCond .eq 7, 3) := by decide +kernel
theorem dX3_tell_85 : decode cX3_tell 85 = .ok (.iconst 1, 1) := by decide +kernel
theorem dX3_tell_86 : decode cX3_tell 86 = .ok (.goto 4, 3) := by decide +kernel
theorem dX3_tell_89 : decode cX3_tell 89 = .ok (.iconst 0, 1) := by decide +kernel
theorem dX3_tell_90 : decode cX3_tell 90 = .ok (.ireturn, 1) := by decide +kernel
theorem dX3_tell_91 : decode cX3_tell 91 = .ok (.aload_n 0, 1) := by decide +kernel
theorem dX3_tell_92 : decode cX3_tell 92 = .ok (.getfield 24, 3) := by decide +kernel
theorem dX3_tell_95 : decode cX3_tell 95 = .ok (.getfield 124, 3) := by decide +kernel
theorem dX3_tell_98 : decode cX3_tell 98 = .ok (.ireturn, 1) := by decide +kernel
theorem dX3_tell_99 : decode cX3_tell 99 = .ok (.aload_n 0, 1) := by decide +kernel
theorem dX3_tell_100 : decode cX3_tell 100 = .ok (.getfield 24, 3) := by decide +kernel
theorem dX3_tell_103 : decode cX3_tell 103 = .ok (.getfield 127, 3) := by decide +kernel
theorem dX3_tell_106 : decode cX3_tell 106 = .ok (.ireturn, 1) := by decide +kernel
theorem dX3_tell_107 : decode cX3_tell 107 = .ok (.aload_n 0, 1) := by decide +kernel
theorem dX3_tell_108 : decode cX3_tell 108 = .ok (.getfield 24, 3) := by decide +kernel
theorem dX3_tell_111 : decode cX3_tell 111 = .ok (.getfield 130, 3) := by decide +kernel
theorem dX3_tell_114 : decode cX3_tell 114 = .ok (.ireturn, 1) := by decide +kernel
theorem dX3_tell_115 : decode cX3_tell 115 = .ok (.aload_n 0, 1) := by decide +kernel
theorem dX3_tell_116 : decode cX3_tell 116 = .ok (.getfield 24, 3) := by decide +kernel
theorem dX3_tell_119 : decode cX3_tell 119 = .ok (.getfield 133, 3) := by decide +kernel
theorem dX3_tell_122 : decode cX3_tell 122 = .ok (.ireturn, 1) := by decide +kernel
theorem dX3_tell_123 : decode cX3_tell 123 = .ok (.aload_n 0, 1) := by decide +kernel
theorem dX3_tell_124 : decode cX3_tell 124 = .ok (.getfield 136, 3) := by decide +kernel
theorem dX3_tell_127 : decode cX3_tell 127 = .ok (.ireturn, 1) := by decide +kernel
theorem dX3_tell_128 : decode cX3_tell 128 = .ok (.aload_n 0, 1) := by decide +kernel
theorem dX3_tell_129 : decode cX3_tell 129 = .ok (.getfield 99, 3) := by decide +kernel
theorem dX3_tell_132 : decode cX3_tell 132 = .ok (.ireturn, 1) := by decide +kernel
theorem dX3_tell_133 : decode cX3_tell 133 = .ok (.aload_n 0, 1) := by decide +kernel
theorem dX3_tell_134 : decode cX3_tell 134 = .ok (.getfield 12, 3) := by decide +kernel
theorem dX3_tell_137 : decode cX3_tell 137 = .ok (.getfield 64, 3) := by decide +kernel
theorem dX3_tell_140 : decode cX3_tell 140 = .ok (.ireturn, 1) := by decide +kernel
theorem dX3_tell_141 : decode cX3_tell 141 = .ok (.aload_n 0, 1) := by decide +kernel
theorem dX3_tell_142 : decode cX3_tell 142 = .ok (.getfield 18, 3) := by decide +kernel
theorem dX3_tell_145 : decode cX3_tell 145 = .ok (.getfield 64, 3) := by decide +kernel
theorem dX3_tell_148 : decode cX3_tell 148 = .ok (.ireturn, 1) := by decide +kernel
theorem dX3_tell_149 : decode cX3_tell 149 = .ok (.iconst (-1), 1) := by decide +kernel
theorem dX3_tell_150 : decode cX3_tell 150 = .ok (.ireturn, 1) := by decide +kernel
theorem dX4_init_0 : decode cX4_init 0 = .ok (.aload_n 0, 1) := by decide +kernel
theorem dX4_init_1 : decode cX4_init 1 = .ok (.iload_n 1, 1) := by decide +kernel
theorem dX4_init_2 : decode cX4_init 2 = .ok (.aload_n 2, 1) := by decide +kernel
theorem dX4_init_3 : decode cX4_init 3 = .ok (.invokespecial 3, 3) := by decide +kernel
theorem dX4_init_6 : decode cX4_init 6 = .ok (.aload_n 0, 1) := by decide +kernel
theorem dX4_init_7 : decode cX4_init 7 = .ok (.iconst 0, 1) := by decide +kernel
theorem dX4_init_8 : decode cX4_init 8 = .ok (.putfield 11, 3) := by decide +kernel
theorem dX4_init_11 : decode cX4_init 11 = .ok (.aload_n 0, 1) := by decide +kernel
theorem dX4_init_12 : decode cX4_init 12 = .ok (.iconst 1, 1) := by decide +kernel
theorem dX4_init_13 : decode cX4_init 13 = .ok (.putfield 15, 3) := by decide +kernel
theorem dX4_init_16 : decode cX4_init 16 = .ok (.aload_n 0, 1) := by decide +kernel
theorem dX4_init_17 : decode cX4_init 17 = .ok (.bipush 40, 2) := by decide +kernel
theorem dX4_init_19 : decode cX4_init 19 = .ok (.anewarray 18, 3) := by decide +kernel
theorem dX4_init_22 : decode cX4_init 22 = .ok (.putfield 20, 3) := by decide +kernel
theorem dX4_init_25 : decode cX4_init 25 = .ok (.aload_n 0, 1) := by decide +kernel
theorem dX4_init_26 : decode cX4_init 26 = .ok (.sipush 4000, 3) := by decide +kernel
theorem dX4_init_29 : decode cX4_init 29 = .ok (.newarray .int, 2) := by decide +kernel
theorem dX4_init_31 : decode cX4_init 31 = .ok (.putfield 24, 3) := by decide +kernel
theorem dX4_init_34 : decode cX4_init 34 = .ok (.aload_n 0, 1) := by decide +kernel
theorem dX4_init_35 : decode cX4_init 35 = .ok (.bipush 20, 2) := by decide +kernel
theorem dX4_init_37 : decode cX4_init 37 = .ok (.newarray .int, 2) := by decide +kernel
theorem dX4_init_39 : decode cX4_init 39 = .ok (.putfield 28, 3) := by decide +kernel
theorem dX4_init_42 : decode cX4_init 42 = .ok (.aload_n 0, 1) := by decide +kernel
theorem dX4_init_43 : decode cX4_init 43 = .ok (.bipush 20, 2) := by decide +kernel
theorem dX4_init_45 : decode cX4_init 45 = .ok (.newarray .int, 2) := by decide +kernel
theorem dX4_init_47 : decode cX4_init 47 = .ok (.putfield 31, 3) := by decide +kernel
theorem dX4_init_50 : decode cX4_init 50 = .ok (.aload_n 0, 1) := by decide +kernel
theorem dX4_init_51 : decode cX4_init 51 = .ok (.bipush 20, 2) := by decide +kernel
theorem dX4_init_53 : decode cX4_init 53 = .ok (.newarray .int, 2) := by decide +kernel
theorem dX4_init_55 : decode cX4_init 55 = .ok (.putfield 34, 3) := by decide +kernel
theorem dX4_init_58 : decode cX4_init 58 = .ok (.return_, 1) := by decide +kernel
theorem dX4_hasRoom_0 : decode cX4_hasRoom 0 = .ok (.aload_n 0, 1) := by decide +kernel
theorem dX4_hasRoom_1 : decode cX4_hasRoom 1 = .ok (.getfield 37, 3) := by decide +kernel
theorem dX4_hasRoom_4 : decode cX4_hasRoom 4 = .ok (.bipush 40, 2) := by decide +kernel
theorem dX4_hasRoom_6 : decode cX4_hasRoom 6 = .ok (.if_icmp .ge 16, 3) := by decide +kernel
theorem dX4_hasRoom_9 : decode cX4_hasRoom 9 = .ok (.aload_n 0, 1) := by decide +kernel
theorem dX4_hasRoom_10 : decode cX4_hasRoom 10 = .ok (.invokevirtual 40, 3) := by decide +kernel
theorem dX4_hasRoom_13 : decode cX4_hasRoom 13 = .ok (.bipush 8, 2) := by decide +kernel
theorem dX4_hasRoom_15 : decode cX4_hasRoom 15 = .ok (.if_icmp .ge 7, 3) := by decide +kernel
theorem dX4_hasRoom_18 : decode cX4_hasRoom 18 = .ok (.iconst 1, 1) := by decide +kernel
theorem dX4_hasRoom_19 : decode cX4_hasRoom 19 = .ok (.goto 4, 3) := by decide +kernel
theorem dX4_hasRoom_22 : decode cX4_hasRoom 22 = .ok (.iconst 0, 1) := by decide +kernel
theorem dX4_hasRoom_23 : decode cX4_hasRoom 23 = .ok (.ireturn, 1) := by decide +kernel
theorem dX4_add_0 : decode cX4_add 0 = .ok (.aload_n 0, 1) := by decide +kernel
theorem dX4_add_1 : decode cX4_add 1 = .ok (.getfield 37, 3) := by decide +kernel
theorem dX4_add_4 : decode cX4_add 4 = .ok (.bipush 40, 2) := by decide +kernel
theorem dX4_add_6 : decode cX4_add 6 = .ok (.if_icmp .ge 36, 3) := by decide +kernel
theorem dX4_add_9 : decode cX4_add 9 = .ok (.aload_n 1, 1) := by decide +kernel
theorem dX4_add_10 : decode cX4_add 10 = .ok (.aload_n 0, 1) := by decide +kernel
theorem dX4_add_11 : decode cX4_add 11 = .ok (.getfield 37, 3) := by decide +kernel
theorem dX4_add_14 : decode cX4_add 14 = .ok (.putfield 44, 3) := by decide +kernel
theorem dX4_add_17 : decode cX4_add 17 = .ok (.aload_n 0, 1) := by decide +kernel
theorem dX4_add_18 : decode cX4_add 18 = .ok (.getfield 20, 3) := by decide +kernel
theorem dX4_add_21 : decode cX4_add 21 = .ok (.aload_n 0, 1) := by decide +kernel
theorem dX4_add_22 : decode cX4_add 22 = .ok (.getfield 37, 3) := by decide +kernel
theorem dX4_add_25 : decode cX4_add 25 = .ok (.aload_n 1, 1) := by decide +kernel
theorem dX4_add_26 : decode cX4_add 26 = .ok (.aastore, 1) := by decide +kernel
theorem dX4_add_27 : decode cX4_add 27 = .ok (.aload_n 0, 1) := by decide +kernel
theorem dX4_add_28 : decode cX4_add 28 = .ok (.dup, 1) := by decide +kernel
theorem dX4_add_29 : decode cX4_add 29 = .ok (.getfield 37, 3) := by decide +kernel
theorem dX4_add_32 : decode cX4_add 32 = .ok (.iconst 1, 1) := by decide +kernel
theorem dX4_add_33 : decode cX4_add 33 = .ok (.iadd, 1) := by decide +kernel
theorem dX4_add_34 : decode cX4_add 34 = .ok (.putfield 37, 3) := by decide +kernel
theorem dX4_add_37 : decode cX4_add 37 = .ok (.aload_n 0, 1) := by decide +kernel
theorem dX4_add_38 : decode cX4_add 38 = .ok (.aload_n 1, 1) := by decide +kernel
theorem dX4_add_39 : decode cX4_add 39 = .ok (.invokevirtual 47, 3) := by decide +kernel
theorem dX4_add_42 : decode cX4_add 42 = .ok (.return_, 1) := by decide +kernel
theorem dX4_ask_0 : decode cX4_ask 0 = .ok (.aload_n 0, 1) := by decide +kernel
theorem dX4_ask_1 : decode cX4_ask 1 = .ok (.invokevirtual 51, 3) := by decide +kernel
theorem dX4_ask_4 : decode cX4_ask 4 = .ok (.ifCond .eq 26, 3) := by decide +kernel
theorem dX4_ask_7 : decode cX4_ask 7 = .ok (.aload_n 0, 1) := by decide +kernel
theorem dX4_ask_8 : decode cX4_ask 8 = .ok (.getfield 55, 3) := by decide +kernel
theorem dX4_ask_11 : decode cX4_ask 11 = .ok (.getfield 59, 3) := by decide +kernel
theorem dX4_ask_14 : decode cX4_ask 14 = .ok (.getfield 65, 3) := by decide +kernel
theorem dX4_ask_17 : decode cX4_ask 17 = .ok (.aload_n 0, 1) := by decide +kernel
theorem dX4_ask_18 : decode cX4_ask 18 = .ok (.getfield 55, 3) := by decide +kernel
theorem dX4_ask_21 : decode cX4_ask 21 = .ok (.getfield 59, 3) := by decide +kernel
theorem dX4_ask_24 : decode cX4_ask 24 = .ok (.getfield 70, 3) := by decide +kernel
theorem dX4_ask_27 : decode cX4_ask 27 = .ok (.if_icmp .lt 6, 3) := by decide +kernel
theorem dX4_ask_30 : decode cX4_ask 30 = .ok (.bipush (-3), 2) := by decide +kernel
theorem dX4_ask_32 : decode cX4_ask 32 = .ok (.ireturn, 1) := by decide +kernel
theorem dX4_ask_33 : decode cX4_ask 33 = .ok (.aload_n 0, 1) := by decide +kernel
theorem dX4_ask_34 : decode cX4_ask 34 = .ok (.dup, 1) := by decide +kernel
theorem dX4_ask_35 : decode cX4_ask 35 = .ok (.getfield 73, 3) := by decide +kernel
theorem dX4_ask_38 : decode cX4_ask 38 = .ok (.iconst 1, 1) := by decide +kernel
theorem dX4_ask_39 : decode cX4_ask 39 = .ok (.iadd, 1) := by decide +kernel
theorem dX4_ask_40 : decode cX4_ask 40 = .ok (.putfield 73, 3) := by decide +kernel
theorem dX4_ask_43 : decode cX4_ask 43 = .ok (.new 18, 3) := by decide +kernel
theorem dX4_ask_46 : decode cX4_ask 46 = .ok (.dup, 1) := by decide +kernel
theorem dX4_ask_47 : decode cX4_ask 47 = .ok (.aload_n 0, 1) := by decide +kernel
theorem dX4_ask_48 : decode cX4_ask 48 = .ok (.aload_n 0, 1) := by decide +kernel
theorem dX4_ask_49 : decode cX4_ask 49 = .ok (.getfield 73, 3) := by decide +kernel
theorem dX4_ask_52 : decode cX4_ask 52 = .ok (.iconst 1, 1) := by decide +kernel
theorem dX4_ask_53 : decode cX4_ask 53 = .ok (.invokespecial 76, 3) := by decide +kernel
theorem dX4_ask_56 : decode cX4_ask 56 = .ok (.astore 4, 2) := by decide +kernel
theorem dX4_ask_58 : decode cX4_ask 58 = .ok (.aload 4, 2) := by decide +kernel
theorem dX4_ask_60 : decode cX4_ask 60 = .ok (.iload_n 1, 1) := by decide +kernel
theorem dX4_ask_61 : decode cX4_ask 61 = .ok (.putfield 79, 3) := by decide +kernel
theorem dX4_ask_64 : decode cX4_ask 64 = .ok (.aload 4, 2) := by decide +kernel
theorem dX4_ask_66 : decode cX4_ask 66 = .ok (.iload_n 2, 1) := by decide +kernel
theorem dX4_ask_67 : decode cX4_ask 67 = .ok (.putfield 82, 3) := by decide +kernel
theorem dX4_ask_70 : decode cX4_ask 70 = .ok (.aload 4, 2) := by decide +kernel
theorem dX4_ask_72 : decode cX4_ask 72 = .ok (.iconst 1, 1) := by decide +kernel
theorem dX4_ask_73 : decode cX4_ask 73 = .ok (.iload_n 3, 1) := by decide +kernel
theorem dX4_ask_74 : decode cX4_ask 74 = .ok (.bipush 8, 2) := by decide +kernel
theorem dX4_ask_76 : decode cX4_ask 76 = .ok (.iadd, 1) := by decide +kernel
theorem dX4_ask_77 : decode cX4_ask 77 = .ok (.invokevirtual 85, 3) := by decide +kernel
theorem dX4_ask_80 : decode cX4_ask 80 = .ok (.aload_n 0, 1) := by decide +kernel
theorem dX4_ask_81 : decode cX4_ask 81 = .ok (.aload 4, 2) := by decide +kernel
theorem dX4_ask_83 : decode cX4_ask 83 = .ok (.invokevirtual 89, 3) := by decide +kernel
theorem dX4_ask_86 : decode cX4_ask 86 = .ok (.aload_n 0, 1) := by decide +kernel
theorem dX4_ask_87 : decode cX4_ask 87 = .ok (.aload 4, 2) := by decide +kernel
theorem dX4_ask_89 : decode cX4_ask 89 = .ok (.invokevirtual 92, 3) := by decide +kernel
theorem dX4_ask_92 : decode cX4_ask 92 = .ok (.aload 4, 2) := by decide +kernel
theorem dX4_ask_94 : decode cX4_ask 94 = .ok (.getfield 44, 3) := by decide +kernel
theorem dX4_ask_97 : decode cX4_ask 97 = .ok (.ireturn, 1) := by decide +kernel
theorem dX4_saySetup_0 : decode cX4_saySetup 0 = .ok (.aload_n 0, 1) := by decide +kernel
theorem dX4_saySetup_1 : decode cX4_saySetup 1 = .ok (.getfield 55, 3) := by decide +kernel
theorem dX4_saySetup_4 : decode cX4_saySetup 4 = .ok (.getfield 59, 3) := by decide +kernel
theorem dX4_saySetup_7 : decode cX4_saySetup 7 = .ok (.iconst 5, 1) := by decide +kernel
theorem dX4_saySetup_8 : decode cX4_saySetup 8 = .ok (.aload_n 1, 1) := by decide +kernel
theorem dX4_saySetup_9 : decode cX4_saySetup 9 = .ok (.getfield 97, 3) := by decide +kernel
theorem dX4_saySetup_12 : decode cX4_saySetup 12 = .ok (.aload_n 1, 1) := by decide +kernel
theorem dX4_saySetup_13 : decode cX4_saySetup 13 = .ok (.getfield 100, 3) := by decide +kernel
theorem dX4_saySetup_16 : decode cX4_saySetup 16 = .ok (.bipush 10, 2) := by decide +kernel
theorem dX4_saySetup_18 : decode cX4_saySetup 18 = .ok (.invokevirtual 104, 3) := by decide +kernel
theorem dX4_saySetup_21 : decode cX4_saySetup 21 = .ok (.ifCond .eq 37, 3) := by decide +kernel
theorem dX4_saySetup_24 : decode cX4_saySetup 24 = .ok (.aload_n 0, 1) := by decide +kernel
theorem dX4_saySetup_25 : decode cX4_saySetup 25 = .ok (.getfield 55, 3) := by decide +kernel
theorem dX4_saySetup_28 : decode cX4_saySetup 28 = .ok (.getfield 59, 3) := by decide +kernel
theorem dX4_saySetup_31 : decode cX4_saySetup 31 = .ok (.bipush 112, 2) := by decide +kernel
theorem dX4_saySetup_33 : decode cX4_saySetup 33 = .ok (.iconst 1, 1) := by decide +kernel
theorem dX4_saySetup_34 : decode cX4_saySetup 34 = .ok (.aload_n 1, 1) := by decide +kernel
theorem dX4_saySetup_35 : decode cX4_saySetup 35 = .ok (.getfield 79, 3) := by decide +kernel
theorem dX4_saySetup_38 : decode cX4_saySetup 38 = .ok (.invokevirtual 108, 3) := by decide +kernel
theorem dX4_saySetup_41 : decode cX4_saySetup 41 = .ok (.aload_n 0, 1) := by decide +kernel
theorem dX4_saySetup_42 : decode cX4_saySetup 42 = .ok (.getfield 55, 3) := by decide +kernel
theorem dX4_saySetup_45 : decode cX4_saySetup 45 = .ok (.getfield 59, 3) := by decide +kernel
theorem dX4_saySetup_48 : decode cX4_saySetup 48 = .ok (.bipush 89, 2) := by decide +kernel
theorem dX4_saySetup_50 : decode cX4_saySetup 50 = .ok (.iconst 1, 1) := by decide +kernel
theorem dX4_saySetup_51 : decode cX4_saySetup 51 = .ok (.aload_n 1, 1) := by decide +kernel
theorem dX4_saySetup_52 : decode cX4_saySetup 52 = .ok (.getfield 82, 3) := by decide +kernel
theorem dX4_saySetup_55 : decode cX4_saySetup 55 = .ok (.invokevirtual 108, 3) := by decide +kernel
theorem dX4_saySetup_58 : decode cX4_saySetup 58 = .ok (.return_, 1) := by decide +kernel
theorem dX4_setupCame_0 : decode cX4_setupCame 0 = .ok (.aload_n 0, 1) := by decide +kernel
theorem dX4_setupCame_1 : decode cX4_setupCame 1 = .ok (.invokevirtual 51, 3) := by decide +kernel
theorem dX4_setupCame_4 : decode cX4_setupCame 4 = .ok (.ifCond .ne 17, 3) := by decide +kernel
theorem dX4_setupCame_7 : decode cX4_setupCame 7 = .ok (.aload_n 0, 1) := by decide +kernel
theorem dX4_setupCame_8 : decode cX4_setupCame 8 = .ok (.bipush 90, 2) := by decide +kernel
theorem dX4_setupCame_10 : decode cX4_setupCame 10 = .ok (.aload_n 1, 1) := by decide +kernel
theorem dX4_setupCame_11 : decode cX4_setupCame 11 = .ok (.getfield 112, 3) := by decide +kernel
theorem dX4_setupCame_14 : decode cX4_setupCame 14 = .ok (.iconst 0, 1) := by decide +kernel
theorem dX4_setupCame_15 : decode cX4_setupCame 15 = .ok (.bipush 47, 2) := by decide +kernel
theorem dX4_setupCame_17 : decode cX4_setupCame 17 = .ok (.invokevirtual 113, 3) := by decide +kernel
theorem dX4_setupCame_20 : decode cX4_setupCame 20 = .ok (.return_, 1) := by decide +kernel
theorem dX4_setupCame_21 : decode cX4_setupCame 21 = .ok (.new 18, 3) := by decide +kernel
theorem dX4_setupCame_24 : decode cX4_setupCame 24 = .ok (.dup, 1) := by decide +kernel
theorem dX4_setupCame_25 : decode cX4_setupCame 25 = .ok (.aload_n 0, 1) := by decide +kernel
theorem dX4_setupCame_26 : decode cX4_setupCame 26 = .ok (.aload_n 1, 1) := by decide +kernel
theorem dX4_setupCame_27 : decode cX4_setupCame 27 = .ok (.getfield 112, 3) := by decide +kernel
theorem dX4_setupCame_30 : decode cX4_setupCame 30 = .ok (.iconst 0, 1) := by decide +kernel
theorem dX4_setupCame_31 : decode cX4_setupCame 31 = .ok (.invokespecial 76, 3) := by decide +kernel
theorem dX4_setupCame_34 : decode cX4_setupCame 34 = .ok (.astore_n 3, 1) := by decide +kernel
theorem dX4_setupCame_35 : decode cX4_setupCame 35 = .ok (.aload_n 3, 1) := by decide +kernel
theorem dX4_setupCame_36 : decode cX4_setupCame 36 = .ok (.aload_n 1, 1) := by decide +kernel
theorem dX4_setupCame_37 : decode cX4_setupCame 37 = .ok (.getfield 117, 3) := by decide +kernel
theorem dX4_setupCame_40 : decode cX4_setupCame 40 = .ok (.putfield 79, 3) := by decide +kernel
theorem dX4_setupCame_43 : decode cX4_setupCame 43 = .ok (.aload_n 3, 1) := by decide +kernel
theorem dX4_setupCame_44 : decode cX4_setupCame 44 = .ok (.aload_n 1, 1) := by decide +kernel
theorem dX4_setupCame_45 : decode cX4_setupCame 45 = .ok (.getfield 120, 3) := by decide +kernel
theorem dX4_setupCame_48 : decode cX4_setupCame 48 = .ok (.putfield 82, 3) := by decide +kernel
theorem dX4_setupCame_51 : decode cX4_setupCame 51 = .ok (.aload_n 3, 1) := by decide +kernel
theorem dX4_setupCame_52 : decode cX4_setupCame 52 = .ok (.aload_n 1, 1) := by decide +kernel
theorem dX4_setupCame_53 : decode cX4_setupCame 53 = .ok (.getfield 121, 3) := by decide +kernel
theorem dX4_setupCame_56 : decode cX4_setupCame 56 = .ok (.putfield 124, 3) := by decide +kernel
theorem dX4_setupCame_59 : decode cX4_setupCame 59 = .ok (.aload_n 0, 1) := by decide +kernel
theorem dX4_setupCame_60 : decode cX4_setupCame 60 = .ok (.aload_n 3, 1) := by decide +kernel
theorem dX4_setupCame_61 : decode cX4_setupCame 61 = .ok (.invokevirtual 89, 3) := by decide +kernel
theorem dX4_setupCame_64 : decode cX4_setupCame 64 = .ok (.aload_n 0, 1) := by decide +kernel
theorem dX4_setupCame_65 : decode cX4_setupCame 65 = .ok (.getfield 11, 3) := by decide +kernel
theorem dX4_setupCame_68 : decode cX4_setupCame 68 = .ok (.iconst 2, 1) := by decide +kernel
theorem dX4_setupCame_69 : decode cX4_setupCame 69 = .ok (.if_icmp .ne 25, 3) := by decide +kernel
theorem dX4_setupCame_72 : decode cX4_setupCame 72 = .ok (.aload_n 3, 1) := by decide +kernel
theorem dX4_setupCame_73 : decode cX4_setupCame 73 = .ok (.bipush 17, 2) := by decide +kernel
theorem dX4_setupCame_75 : decode cX4_setupCame 75 = .ok (.invokevirtual 125, 3) := by decide +kernel
theorem dX4_setupCame_78 : decode cX4_setupCame 78 = .ok (.aload_n 0, 1) := by decide +kernel
theorem dX4_setupCame_79 : decode cX4_setupCame 79 = .ok (.bipush 90, 2) := by decide +kernel
theorem dX4_setupCame_81 : decode cX4_setupCame 81 = .ok (.aload_n 3, 1) := by decide +kernel
theorem dX4_setupCame_82 : decode cX4_setupCame 82 = .ok (.getfield 97, 3) := by decide +kernel
theorem dX4_setupCame_85 : decode cX4_setupCame 85 = .ok (.iconst 0, 1) := by decide +kernel
theorem dX4_setupCame_86 : decode cX4_setupCame 86 = .ok (.bipush 17, 2) := by decide +kernel
theorem dX4_setupCame_88 : decode cX4_setupCame 88 = .ok (.invokevirtual 113, 3) := by decide +kernel
theorem dX4_setupCame_91 : decode cX4_setupCame 91 = .ok (.goto 38, 3) := by decide +kernel
theorem dX4_setupCame_94 : decode cX4_setupCame 94 = .ok (.aload_n 0, 1) := by decide +kernel
theorem dX4_setupCame_95 : decode cX4_setupCame 95 = .ok (.getfield 11, 3) := by decide +kernel
theorem dX4_setupCame_98 : decode cX4_setupCame 98 = .ok (.iconst 1, 1) := by decide +kernel
theorem dX4_setupCame_99 : decode cX4_setupCame 99 = .ok (.if_icmp .ne 24, 3) := by decide +kernel
theorem dX4_setupCame_102 : decode cX4_setupCame 102 = .ok (.aload_n 3, 1) := by decide +kernel
theorem dX4_setupCame_103 : decode cX4_setupCame 103 = .ok (.bipush 6, 2) := by decide +kernel
theorem dX4_setupCame_105 : decode cX4_setupCame 105 = .ok (.iload_n 2, 1) := by decide +kernel
theorem dX4_setupCame_106 : decode cX4_setupCame 106 = .ok (.aload_n 0, 1) := by decide +kernel
theorem dX4_setupCame_107 : decode cX4_setupCame 107 = .ok (.getfield 15, 3) := by decide +kernel
theorem dX4_setupCame_110 : decode cX4_setupCame 110 = .ok (.iadd, 1) := by decide +kernel
theorem dX4_setupCame_111 : decode cX4_setupCame 111 = .ok (.invokevirtual 85, 3) := by decide +kernel
theorem dX4_setupCame_114 : decode cX4_setupCame 114 = .ok (.aload_n 0, 1) := by decide +kernel
theorem dX4_setupCame_115 : decode cX4_setupCame 115 = .ok (.iconst 2, 1) := by decide +kernel
theorem dX4_setupCame_116 : decode cX4_setupCame 116 = .ok (.aload_n 3, 1) := by decide +kernel
theorem dX4_setupCame_117 : decode cX4_setupCame 117 = .ok (.invokevirtual 129, 3) := by decide +kernel
theorem dX4_setupCame_120 : decode cX4_setupCame 120 = .ok (.goto 9, 3) := by decide +kernel
theorem dX4_setupCame_123 : decode cX4_setupCame 123 = .ok (.aload_n 0, 1) := by decide +kernel
theorem dX4_setupCame_124 : decode cX4_setupCame 124 = .ok (.aload_n 3, 1) := by decide +kernel
theorem dX4_setupCame_125 : decode cX4_setupCame 125 = .ok (.iload_n 2, 1) := by decide +kernel
theorem dX4_setupCame_126 : decode cX4_setupCame 126 = .ok (.invokevirtual 133, 3) := by decide +kernel
theorem dX4_setupCame_129 : decode cX4_setupCame 129 = .ok (.return_, 1) := by decide +kernel
theorem dX4_answer_0 : decode cX4_answer 0 = .ok (.aload_n 1, 1) := by decide +kernel
theorem dX4_answer_1 : decode cX4_answer 1 = .ok (.bipush 8, 2) := by decide +kernel
theorem dX4_answer_3 : decode cX4_answer 3 = .ok (.iload_n 2, 1) := by decide +kernel
theorem dX4_answer_4 : decode cX4_answer 4 = .ok (.bipush 10, 2) := by decide +kernel
theorem dX4_answer_6 : decode cX4_answer 6 = .ok (.iadd, 1) := by decide +kernel
theorem dX4_answer_7 : decode cX4_answer 7 = .ok (.invokevirtual 85, 3) := by decide +kernel
theorem dX4_answer_10 : decode cX4_answer 10 = .ok (.aload_n 0, 1) := by decide +kernel
theorem dX4_answer_11 : decode cX4_answer 11 = .ok (.bipush 7, 2) := by decide +kernel
theorem dX4_answer_13 : decode cX4_answer 13 = .ok (.aload_n 1, 1) := by decide +kernel
theorem dX4_answer_14 : decode cX4_answer 14 = .ok (.invokevirtual 129, 3) := by decide +kernel
theorem dX4_answer_17 : decode cX4_answer 17 = .ok (.return_, 1) := by decide +kernel
theorem dX4_progress_0 : decode cX4_progress 0 = .ok (.aload_n 2, 1) := by decide +kernel
theorem dX4_progress_1 : decode cX4_progress 1 = .ok (.getfield 137, 3) := by decide +kernel
theorem dX4_progress_4 : decode cX4_progress 4 = .ok (.iconst 2, 1) := by decide +kernel
theorem dX4_progress_5 : decode cX4_progress 5 = .ok (.if_icmp .ne 31, 3) := by decide +kernel
theorem dX4_progress_8 : decode cX4_progress 8 = .ok (.aload_n 1, 1) := by decide +kernel
theorem dX4_progress_9 : decode cX4_progress 9 = .ok (.getfield 140, 3) := by decide +kernel
theorem dX4_progress_12 : decode cX4_progress 12 = .ok (.iconst 1, 1) := by decide +kernel
theorem dX4_progress_13 : decode cX4_progress 13 = .ok (.if_icmp .ne 23, 3) := by decide +kernel
theorem dX4_progress_16 : decode cX4_progress 16 = .ok (.aload_n 1, 1) := by decide +kernel
theorem dX4_progress_17 : decode cX4_progress 17 = .ok (.aload_n 2, 1) := by decide +kernel
theorem dX4_progress_18 : decode cX4_progress 18 = .ok (.getfield 121, 3) := by decide +kernel
theorem dX4_progress_21 : decode cX4_progress 21 = .ok (.putfield 124, 3) := by decide +kernel
theorem dX4_progress_24 : decode cX4_progress 24 = .ok (.aload_n 1, 1) := by decide +kernel
theorem dX4_progress_25 : decode cX4_progress 25 = .ok (.iconst 3, 1) := by decide +kernel
theorem dX4_progress_26 : decode cX4_progress 26 = .ok (.iload_n 3, 1) := by decide +kernel
theorem dX4_progress_27 : decode cX4_progress 27 = .ok (.bipush 40, 2) := by decide +kernel
theorem dX4_progress_29 : decode cX4_progress 29 = .ok (.iadd, 1) := by decide +kernel
theorem dX4_progress_30 : decode cX4_progress 30 = .ok (.invokevirtual 85, 3) := by decide +kernel
theorem dX4_progress_33 : decode cX4_progress 33 = .ok (.goto 89, 3) := by decide +kernel
theorem dX4_progress_36 : decode cX4_progress 36 = .ok (.aload_n 2, 1) := by decide +kernel
theorem dX4_progress_37 : decode cX4_progress 37 = .ok (.getfield 137, 3) := by decide +kernel
theorem dX4_progress_40 : decode cX4_progress 40 = .ok (.bipush 7, 2) := by decide +kernel
theorem dX4_progress_42 : decode cX4_progress 42 = .ok (.if_icmp .ne 21, 3) := by decide +kernel
theorem dX4_progress_45 : decode cX4_progress 45 = .ok (.aload_n 1, 1) := by decide +kernel
theorem dX4_progress_46 : decode cX4_progress 46 = .ok (.getfield 140, 3) := by decide +kernel
theorem dX4_progress_49 : decode cX4_progress 49 = .ok (.iconst 1, 1) := by decide +kernel
theorem dX4_progress_50 : decode cX4_progress 50 = .ok (.if_icmp .ne 13, 3) := by decide +kernel
theorem dX4_progress_53 : decode cX4_progress 53 = .ok (.aload_n 1, 1) := by decide +kernel
theorem dX4_progress_54 : decode cX4_progress 54 = .ok (.bipush 96, 2) := by decide +kernel
theorem dX4_progress_56 : decode cX4_progress 56 = .ok (.iload_n 3, 1) := by decide +kernel
theorem dX4_progress_57 : decode cX4_progress 57 = .ok (.invokevirtual 143, 3) := by decide +kernel
theorem dX4_progress_60 : decode cX4_progress 60 = .ok (.goto 62, 3) := by decide +kernel
theorem dX4_progress_63 : decode cX4_progress 63 = .ok (.aload_n 2, 1) := by decide +kernel
theorem dX4_progress_64 : decode cX4_progress 64 = .ok (.getfield 137, 3) := by decide +kernel
theorem dX4_progress_67 : decode cX4_progress 67 = .ok (.bipush 7, 2) := by decide +kernel
theorem dX4_progress_69 : decode cX4_progress 69 = .ok (.if_icmp .ne 28, 3) := by decide +kernel
theorem dX4_progress_72 : decode cX4_progress 72 = .ok (.aload_n 1, 1) := by decide +kernel
theorem dX4_progress_73 : decode cX4_progress 73 = .ok (.getfield 140, 3) := by decide +kernel
theorem dX4_progress_76 : decode cX4_progress 76 = .ok (.iconst 3, 1) := by decide +kernel
theorem dX4_progress_77 : decode cX4_progress 77 = .ok (.if_icmp .ne 20, 3) := by decide +kernel
theorem dX4_progress_80 : decode cX4_progress 80 = .ok (.aload_n 1, 1) := by decide +kernel
theorem dX4_progress_81 : decode cX4_progress 81 = .ok (.bipush 10, 2) := by decide +kernel
theorem dX4_progress_83 : decode cX4_progress 83 = .ok (.iconst 0, 1) := by decide +kernel
theorem dX4_progress_84 : decode cX4_progress 84 = .ok (.invokevirtual 85, 3) := by decide +kernel
theorem dX4_progress_87 : decode cX4_progress 87 = .ok (.aload_n 0, 1) := by decide +kernel
theorem dX4_progress_88 : decode cX4_progress 88 = .ok (.bipush 15, 2) := by decide +kernel
theorem dX4_progress_90 : decode cX4_progress 90 = .ok (.aload_n 1, 1) := by decide +kernel
theorem dX4_progress_91 : decode cX4_progress 91 = .ok (.invokevirtual 129, 3) := by decide +kernel
theorem dX4_progress_94 : decode cX4_progress 94 = .ok (.goto 28, 3) := by decide +kernel
theorem dX4_progress_97 : decode cX4_progress 97 = .ok (.aload_n 2, 1) := by decide +kernel
theorem dX4_progress_98 : decode cX4_progress 98 = .ok (.getfield 137, 3) := by decide +kernel
theorem dX4_progress_101 : decode cX4_progress 101 = .ok (.bipush 15, 2) := by decide +kernel
theorem dX4_progress_103 : decode cX4_progress 103 = .ok (.if_icmp .ne 19, 3) := by decide +kernel
theorem dX4_progress_106 : decode cX4_progress 106 = .ok (.aload_n 1, 1) := by decide +kernel
theorem dX4_progress_107 : decode cX4_progress 107 = .ok (.getfield 140, 3) := by decide +kernel
theorem dX4_progress_110 : decode cX4_progress 110 = .ok (.bipush 8, 2) := by decide +kernel
theorem dX4_progress_112 : decode cX4_progress 112 = .ok (.if_icmp .ne 10, 3) := by decide +kernel
theorem dX4_progress_115 : decode cX4_progress 115 = .ok (.aload_n 1, 1) := by decide +kernel
theorem dX4_progress_116 : decode cX4_progress 116 = .ok (.bipush 10, 2) := by decide +kernel
theorem dX4_progress_118 : decode cX4_progress 118 = .ok (.iconst 0, 1) := by decide +kernel
theorem dX4_progress_119 : decode cX4_progress 119 = .ok (.invokevirtual 85, 3) := by decide +kernel
theorem dX4_progress_122 : decode cX4_progress 122 = .ok (.return_, 1) := by decide +kernel
theorem dX4_timer_0 : decode cX4_timer 0 = .ok (.aload_n 1, 1) := by decide +kernel
theorem dX4_timer_1 : decode cX4_timer 1 = .ok (.getfield 140, 3) := by decide +kernel
theorem dX4_timer_4 : decode cX4_timer 4 = .ok (.bipush 6, 2) := by decide +kernel
theorem dX4_timer_6 : decode cX4_timer 6 = .ok (.if_icmp .ne 12, 3) := by decide +kernel
theorem dX4_timer_9 : decode cX4_timer 9 = .ok (.aload_n 0, 1) := by decide +kernel
theorem dX4_timer_10 : decode cX4_timer 10 = .ok (.aload_n 1, 1) := by decide +kernel
theorem dX4_timer_11 : decode cX4_timer 11 = .ok (.iload_n 2, 1) := by decide +kernel
theorem dX4_timer_12 : decode cX4_timer 12 = .ok (.invokevirtual 133, 3) := by decide +kernel
theorem dX4_timer_15 : decode cX4_timer 15 = .ok (.goto 50, 3) := by decide +kernel
theorem dX4_timer_18 : decode cX4_timer 18 = .ok (.aload_n 1, 1) := by decide +kernel
theorem dX4_timer_19 : decode cX4_timer 19 = .ok (.getfield 140, 3) := by decide +kernel
theorem dX4_timer_22 : decode cX4_timer 22 = .ok (.iconst 1, 1) := by decide +kernel
theorem dX4_timer_23 : decode cX4_timer 23 = .ok (.if_icmp .eq 13, 3) := by decide +kernel
theorem dX4_timer_26 : decode cX4_timer 26 = .ok (.aload_n 1, 1) := by decide +kernel
theorem dX4_timer_27 : decode cX4_timer 27 = .ok (.bipush 102, 2) := by decide +kernel
theorem dX4_timer_29 : decode cX4_timer 29 = .ok (.iload_n 2, 1) := by decide +kernel
theorem dX4_timer_30 : decode cX4_timer 30 = .ok (.invokevirtual 143, 3) := by decide +kernel
theorem dX4_timer_33 : decode cX4_timer 33 = .ok (.goto 32, 3) := by decide +kernel
theorem dX4_timer_36 : decode cX4_timer 36 = .ok (.aload_n 1, 1) := by decide +kernel
theorem dX4_timer_37 : decode cX4_timer 37 = .ok (.getfield 146, 3) := by decide +kernel
theorem dX4_timer_40 : decode cX4_timer 40 = .ok (.ifCond .eq 12, 3) := by decide +kernel
theorem dX4_timer_43 : decode cX4_timer 43 = .ok (.aload_n 1, 1) := by decide +kernel
theorem dX4_timer_44 : decode cX4_timer 44 = .ok (.bipush 102, 2) := by decide +kernel
theorem dX4_timer_46 : decode cX4_timer 46 = .ok (.invokevirtual 125, 3) := by decide +kernel
theorem dX4_timer_49 : decode cX4_timer 49 = .ok (.goto 16, 3) := by decide +kernel
theorem dX4_timer_52 : decode cX4_timer 52 = .ok (.aload_n 1, 1) := by decide +kernel
theorem dX4_timer_53 : decode cX4_timer 53 = .ok (.iload_n 2, 1) := by decide +kernel
theorem dX4_timer_54 : decode cX4_timer 54 = .ok (.bipush 8, 2) := by decide +kernel
theorem dX4_timer_56 : decode cX4_timer 56 = .ok (.iadd, 1) := by decide +kernel
theorem dX4_timer_57 : decode cX4_timer 57 = .ok (.invokevirtual 149, 3) := by decide +kernel
theorem dX4_timer_60 : decode cX4_timer 60 = .ok (.aload_n 0, 1) := by decide +kernel
theorem dX4_timer_61 : decode cX4_timer 61 = .ok (.aload_n 1, 1) := by decide +kernel
theorem dX4_timer_62 : decode cX4_timer 62 = .ok (.invokevirtual 92, 3) := by decide +kernel
theorem dX4_timer_65 : decode cX4_timer 65 = .ok (.return_, 1) := by decide +kernel
theorem dX4_sendCells_0 : decode cX4_sendCells 0 = .ok (.iconst 0, 1) := by decide +kernel
theorem dX4_sendCells_1 : decode cX4_sendCells 1 = .ok (.istore_n 2, 1) := by decide +kernel
theorem dX4_sendCells_2 : decode cX4_sendCells 2 = .ok (.iload_n 2, 1) := by decide +kernel
theorem dX4_sendCells_3 : decode cX4_sendCells 3 = .ok (.aload_n 0, 1) := by decide +kernel
theorem dX4_sendCells_4 : decode cX4_sendCells 4 = .ok (.getfield 37, 3) := by decide +kernel
theorem dX4_sendCells_7 : decode cX4_sendCells 7 = .ok (.if_icmp .ge 33, 3) := by decide +kernel
theorem dX4_sendCells_10 : decode cX4_sendCells 10 = .ok (.aload_n 0, 1) := by decide +kernel
theorem dX4_sendCells_11 : decode cX4_sendCells 11 = .ok (.getfield 20, 3) := by decide +kernel
theorem dX4_sendCells_14 : decode cX4_sendCells 14 = .ok (.iload_n 2, 1) := by decide +kernel
theorem dX4_sendCells_15 : decode cX4_sendCells 15 = .ok (.aaload, 1) := by decide +kernel
theorem dX4_sendCells_16 : decode cX4_sendCells 16 = .ok (.getfield 140, 3) := by decide +kernel
theorem dX4_sendCells_19 : decode cX4_sendCells 19 = .ok (.bipush 10, 2) := by decide +kernel
theorem dX4_sendCells_21 : decode cX4_sendCells 21 = .ok (.if_icmp .ne 13, 3) := by decide +kernel
theorem dX4_sendCells_24 : decode cX4_sendCells 24 = .ok (.aload_n 0, 1) := by decide +kernel
theorem dX4_sendCells_25 : decode cX4_sendCells 25 = .ok (.getfield 20, 3) := by decide +kernel
theorem dX4_sendCells_28 : decode cX4_sendCells 28 = .ok (.iload_n 2, 1) := by decide +kernel
theorem dX4_sendCells_29 : decode cX4_sendCells 29 = .ok (.aaload, 1) := by decide +kernel
theorem dX4_sendCells_30 : decode cX4_sendCells 30 = .ok (.aload_n 1, 1) := by decide +kernel
theorem dX4_sendCells_31 : decode cX4_sendCells 31 = .ok (.invokevirtual 152, 3) := by decide +kernel
theorem dX4_sendCells_34 : decode cX4_sendCells 34 = .ok (.iinc 2 1, 3) := by decide +kernel
theorem dX4_sendCells_37 : decode cX4_sendCells 37 = .ok (.goto (-35), 3) := by decide +kernel
theorem dX4_sendCells_40 : decode cX4_sendCells 40 = .ok (.return_, 1) := by decide +kernel
theorem dX4_active_0 : decode cX4_active 0 = .ok (.iconst 0, 1) := by decide +kernel
theorem dX4_active_1 : decode cX4_active 1 = .ok (.istore_n 2, 1) := by decide +kernel
theorem dX4_active_2 : decode cX4_active 2 = .ok (.iload_n 2, 1) := by decide +kernel
theorem dX4_active_3 : decode cX4_active 3 = .ok (.aload_n 0, 1) := by decide +kernel
theorem dX4_active_4 : decode cX4_active 4 = .ok (.getfield 37, 3) := by decide +kernel
theorem dX4_active_7 : decode cX4_active 7 = .ok (.if_icmp .ge 43, 3) := by decide +kernel
theorem dX4_active_10 : decode cX4_active 10 = .ok (.aload_n 0, 1) := by decide +kernel
theorem dX4_active_11 : decode cX4_active 11 = .ok (.getfield 20, 3) := by decide +kernel
theorem dX4_active_14 : decode cX4_active 14 = .ok (.iload_n 2, 1) := by decide +kernel
theorem dX4_active_15 : decode cX4_active 15 = .ok (.aaload, 1) := by decide +kernel
theorem dX4_active_16 : decode cX4_active 16 = .ok (.getfield 140, 3) := by decide +kernel
theorem dX4_active_19 : decode cX4_active 19 = .ok (.bipush 10, 2) := by decide +kernel
theorem dX4_active_21 : decode cX4_active 21 = .ok (.if_icmp .ne 23, 3) := by decide +kernel
theorem dX4_active_24 : decode cX4_active 24 = .ok (.aload_n 0, 1) := by decide +kernel
theorem dX4_active_25 : decode cX4_active 25 = .ok (.getfield 20, 3) := by decide +kernel
theorem dX4_active_28 : decode cX4_active 28 = .ok (.iload_n 2, 1) := by decide +kernel
theorem dX4_active_29 : decode cX4_active 29 = .ok (.aaload, 1) := by decide +kernel
theorem dX4_active_30 : decode cX4_active 30 = .ok (.getfield 124, 3) := by decide +kernel
theorem dX4_active_33 : decode cX4_active 33 = .ok (.iload_n 1, 1) := by decide +kernel
theorem dX4_active_34 : decode cX4_active 34 = .ok (.if_icmp .ne 10, 3) := by decide +kernel
theorem dX4_active_37 : decode cX4_active 37 = .ok (.aload_n 0, 1) := by decide +kernel
theorem dX4_active_38 : decode cX4_active 38 = .ok (.getfield 20, 3) := by decide +kernel
theorem dX4_active_41 : decode cX4_active 41 = .ok (.iload_n 2, 1) := by decide +kernel
theorem dX4_active_42 : decode cX4_active 42 = .ok (.aaload, 1) := by decide +kernel
theorem dX4_active_43 : decode cX4_active 43 = .ok (.areturn, 1) := by decide +kernel
theorem dX4_active_44 : decode cX4_active 44 = .ok (.iinc 2 1, 3) := by decide +kernel
theorem dX4_active_47 : decode cX4_active 47 = .ok (.goto (-45), 3) := by decide +kernel
theorem dX4_active_50 : decode cX4_active 50 = .ok (.aconst_null, 1) := by decide +kernel
theorem dX4_active_51 : decode cX4_active 51 = .ok (.areturn, 1) := by decide +kernel
theorem dX4_dataCame_0 : decode cX4_dataCame 0 = .ok (.aload_n 1, 1) := by decide +kernel
theorem dX4_dataCame_1 : decode cX4_dataCame 1 = .ok (.invokevirtual 156, 3) := by decide +kernel
theorem dX4_dataCame_4 : decode cX4_dataCame 4 = .ok (.astore 5, 2) := by decide +kernel
theorem dX4_dataCame_6 : decode cX4_dataCame 6 = .ok (.aload 5, 2) := by decide +kernel
theorem dX4_dataCame_8 : decode cX4_dataCame 8 = .ok (.aload_n 2, 1) := by decide +kernel
theorem dX4_dataCame_9 : decode cX4_dataCame 9 = .ok (.iload_n 3, 1) := by decide +kernel
theorem dX4_dataCame_10 : decode cX4_dataCame 10 = .ok (.invokevirtual 160, 3) := by decide +kernel
theorem dX4_dataCame_13 : decode cX4_dataCame 13 = .ok (.istore 6, 2) := by decide +kernel
theorem dX4_dataCame_15 : decode cX4_dataCame 15 = .ok (.iload 6, 2) := by decide +kernel
theorem dX4_dataCame_17 : decode cX4_dataCame 17 = .ok (.iconst 1, 1) := by decide +kernel
theorem dX4_dataCame_18 : decode cX4_dataCame 18 = .ok (.if_icmp .ne 78, 3) := by decide +kernel
theorem dX4_dataCame_21 : decode cX4_dataCame 21 = .ok (.aload_n 0, 1) := by decide +kernel
theorem dX4_dataCame_22 : decode cX4_dataCame 22 = .ok (.getfield 165, 3) := by decide +kernel
theorem dX4_dataCame_25 : decode cX4_dataCame 25 = .ok (.bipush 20, 2) := by decide +kernel
theorem dX4_dataCame_27 : decode cX4_dataCame 27 = .ok (.irem, 1) := by decide +kernel
theorem dX4_dataCame_28 : decode cX4_dataCame 28 = .ok (.istore 7, 2) := by decide +kernel
theorem dX4_dataCame_30 : decode cX4_dataCame 30 = .ok (.aload 5, 2) := by decide +kernel
theorem dX4_dataCame_32 : decode cX4_dataCame 32 = .ok (.getfield 168, 3) := by decide +kernel
