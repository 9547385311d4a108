theorem goodIn_r {big : List Cond} (ws : List Cond) (ps : List Nat) (hp : ws = ps.filterMap (fun i => big[i]?)) (h : ws.all goodWord = true) : GoodIn big ws := by
  intro w hw
  have h1 := List.all_eq_true.mp h w hw
  rw [hp] at hw
  obtain ⟨i, -, hi⟩ := List.mem_filterMap.mp hw
  have hm : w ∈ big := by first | exact List.mem_of_getElem? hi | exact List.getElem?_mem hi
  exact ⟨hm, good_of_word h1⟩
theorem goodIn_app {big a b : List Cond} (ha : GoodIn big a) (hb : GoodIn big b) : GoodIn big (a ++ b) := fun w h => (List.mem_append.mp h).elim (ha w) (hb w)
theorem goodIn_ca {big a b : List Cond} {c : Cond} (ha : GoodIn big (c :: a)) (hb : GoodIn big b) : GoodIn big (c :: (a ++ b)) := fun w h => (List.mem_cons.mp h).elim (fun e => ha w (List.mem_cons.mpr (Or.inl e))) (fun h => (List.mem_append.mp h).elim (fun h => ha w (List.mem_cons.mpr (Or.inr h))) (hb w))
theorem goodIn_sub {big ws : List Cond} (hm : ∀ w ∈ ws, w ∈ big) (h : ws.all goodWord = true) : GoodIn big ws := fun w hw => ⟨hm w hw, good_of_word (List.all_eq_true.mp h w hw)⟩
def RX11 : String := "CellSwitch"
abbrev cX11_header : ByteArray := prog_1_method_26_code
def yX11_header : MethodName := ⟨RX11, "header", "(III)I"⟩
abbrev cX11_hecOf : ByteArray := prog_1_method_30_code
def yX11_hecOf : MethodName := ⟨RX11, "hecOf", "(I)I"⟩
abbrev cX11_wrongBit : ByteArray := prog_1_method_31_code
def yX11_wrongBit : MethodName := ⟨RX11, "wrongBit", "(II)I"⟩
def RX12 : String := "CellSwitchModel"
def TX12 : u_T := fun k => match k with
  | 0 => ("CellSwitchModel", "n", "I", true)
  | 1 => ("CellSwitchModel", "time", "I", false)
  | 2 => ("CellSwitchModel", "tape", "[I", true)
  | 3 => ("CellSwitchModel", "taped", "I", false)
  | 4 => ("CellSwitchModel", "crc", "I", false)
  | 5 => ("CellSwitchModel", "queue", "[I", true)
  | 6 => ("CellSwitchModel", "queueFrom", "[I", true)
  | 7 => ("CellSwitchModel", "queueMany", "[I", true)
  | 8 => ("CellSwitchModel", "lost", "[I", true)
  | 9 => ("CellSwitchModel", "made", "[I", true)
  | 10 => ("CellSwitchModel", "frame", "[I", true)
  | 11 => ("CellSwitchModel", "frameSize", "I", false)
  | 12 => ("CellSwitchModel", "damageKind", "[I", true)
  | 13 => ("CellSwitchModel", "damageAt", "[I", true)
  | 14 => ("CellSwitchModel", "damageOctet", "[I", true)
  | 15 => ("CellSwitchModel", "damageMask", "[I", true)
  | 16 => ("CellSwitchModel", "damages", "[I", true)
  | 17 => ("CellSwitchModel", "onLink", "[I", true)
  | 18 => ("CellSwitchModel", "onLinkMany", "[I", true)
  | 19 => ("CellSwitchModel", "putCells", "I", false)
  | 20 => ("CellSwitchModel", "idleCells", "I", false)
  | 21 => ("CellSwitchModel", "rState", "[I", true)
  | 22 => ("CellSwitchModel", "rSeen", "[I", true)
  | 23 => ("CellSwitchModel", "rRow", "[I", true)
  | 24 => ("CellSwitchModel", "rMode", "[I", true)
  | 25 => ("CellSwitchModel", "rTake", "[I", true)
  | 26 => ("CellSwitchModel", "rCell", "[I", true)
  | 27 => ("CellSwitchModel", "taken", "[I", true)
  | 28 => ("CellSwitchModel", "thrown", "[I", true)
  | 29 => ("CellSwitchModel", "fixed", "[I", true)
  | 30 => ("CellSwitchModel", "spoilt", "[I", true)
  | 31 => ("CellSwitchModel", "part", "[I", true)
  | 32 => ("CellSwitchModel", "partCells", "[I", true)
  | 33 => ("CellSwitchModel", "whole", "[I", true)
  | 34 => ("CellSwitchModel", "wholeSize", "I", false)
  | 35 => ("CellSwitchModel", "recCall", "[I", true)
  | 36 => ("CellSwitchModel", "recSize", "[I", true)
  | 37 => ("CellSwitchModel", "recTime", "[I", true)
  | 38 => ("CellSwitchModel", "recByte", "[I", true)
  | 39 => ("CellSwitchModel", "received", "[I", true)
  | 40 => ("CellSwitchModel", "lState", "[I", true)
  | 41 => ("CellSwitchModel", "lS", "[I", true)
  | 42 => ("CellSwitchModel", "lA", "[I", true)
  | 43 => ("CellSwitchModel", "lMay", "[I", true)
  | 44 => ("CellSwitchModel", "lP", "[I", true)
  | 45 => ("CellSwitchModel", "lPa", "[I", true)
  | 46 => ("CellSwitchModel", "lR", "[I", true)
  | 47 => ("CellSwitchModel", "lH", "[I", true)
  | 48 => ("CellSwitchModel", "lCut", "[I", true)
  | 49 => ("CellSwitchModel", "ownN", "[I", true)
  | 50 => ("CellSwitchModel", "lastBegin", "[I", true)
  | 51 => ("CellSwitchModel", "lastReset", "[I", true)
  | 52 => ("CellSwitchModel", "sentAt", "[I", true)
  | 53 => ("CellSwitchModel", "sentTimes", "[I", true)
  | 54 => ("CellSwitchModel", "byRecover", "[Z", true)
  | 55 => ("CellSwitchModel", "statusAt", "[I", true)
  | 56 => ("CellSwitchModel", "pollAt", "[I", true)
  | 57 => ("CellSwitchModel", "since", "[I", true)
  | 58 => ("CellSwitchModel", "waitByte", "[I", true)
  | 59 => ("CellSwitchModel", "waitSize", "[I", true)
  | 60 => ("CellSwitchModel", "waiting", "[I", true)
  | 61 => ("CellSwitchModel", "sentByte", "[I", true)
  | 62 => ("CellSwitchModel", "sentSize", "[I", true)
  | 63 => ("CellSwitchModel", "sentP", "[I", true)
  | 64 => ("CellSwitchModel", "isAgain", "[Z", true)
  | 65 => ("CellSwitchModel", "aheadByte", "[I", true)
  | 66 => ("CellSwitchModel", "aheadSize", "[I", true)
  | 67 => ("CellSwitchModel", "isAhead", "[Z", true)
  | 68 => ("CellSwitchModel", "cState", "[I", true)
  | 69 => ("CellSwitchModel", "cRef", "[I", true)
  | 70 => ("CellSwitchModel", "cMine", "[Z", true)
  | 71 => ("CellSwitchModel", "cChannel", "[I", true)
  | 72 => ("CellSwitchModel", "cRate", "[I", true)
  | 73 => ("CellSwitchModel", "cOther", "[I", true)
  | 74 => ("CellSwitchModel", "cCause", "[I", true)
  | 75 => ("CellSwitchModel", "cAt", "[I", true)
  | 76 => ("CellSwitchModel", "cAgain", "[Z", true)
  | 77 => ("CellSwitchModel", "cPair", "[I", true)
  | 78 => ("CellSwitchModel", "cOrder", "[I", true)
  | 79 => ("CellSwitchModel", "orders", "I", false)
  | 80 => ("CellSwitchModel", "ofSide", "[I", true)
  | 81 => ("CellSwitchModel", "refs", "[I", true)
  | 82 => ("CellSwitchModel", "policies", "[I", true)
  | 83 => ("CellSwitchModel", "waitsFor", "[I", true)
  | 84 => ("CellSwitchModel", "outByte", "[I", true)
  | 85 => ("CellSwitchModel", "outSize", "[I", true)
  | 86 => ("CellSwitchModel", "outMany", "[I", true)
  | 87 => ("CellSwitchModel", "outCell", "[I", true)
  | 88 => ("CellSwitchModel", "got", "[I", true)
  | 89 => ("CellSwitchModel", "gotCells", "[I", true)
  | 90 => ("CellSwitchModel", "text", "[I", true)
  | _ => ("CellSwitchModel", "textSize", "I", false)
def tyX12 : Nat → FieldType := fun k => match k with
  | 0 => .int
  | 1 => .int
  | 2 => .array .int
  | 3 => .int
  | 4 => .int
  | 5 => .array .int
  | 6 => .array .int
  | 7 => .array .int
  | 8 => .array .int
  | 9 => .array .int
  | 10 => .array .int
  | 11 => .int
  | 12 => .array .int
  | 13 => .array .int
  | 14 => .array .int
  | 15 => .array .int
  | 16 => .array .int
  | 17 => .array .int
  | 18 => .array .int
  | 19 => .int
  | 20 => .int
  | 21 => .array .int
  | 22 => .array .int
  | 23 => .array .int
  | 24 => .array .int
  | 25 => .array .int
  | 26 => .array .int
  | 27 => .array .int
  | 28 => .array .int
  | 29 => .array .int
  | 30 => .array .int
  | 31 => .array .int
  | 32 => .array .int
  | 33 => .array .int
  | 34 => .int
  | 35 => .array .int
  | 36 => .array .int
  | 37 => .array .int
  | 38 => .array .int
  | 39 => .array .int
  | 40 => .array .int
  | 41 => .array .int
  | 42 => .array .int
  | 43 => .array .int
  | 44 => .array .int
  | 45 => .array .int
  | 46 => .array .int
  | 47 => .array .int
  | 48 => .array .int
  | 49 => .array .int
  | 50 => .array .int
  | 51 => .array .int
  | 52 => .array .int
  | 53 => .array .int
  | 54 => .array .boolean
  | 55 => .array .int
  | 56 => .array .int
  | 57 => .array .int
  | 58 => .array .int
  | 59 => .array .int
  | 60 => .array .int
  | 61 => .array .int
  | 62 => .array .int
  | 63 => .array .int
  | 64 => .array .boolean
  | 65 => .array .int
  | 66 => .array .int
  | 67 => .array .boolean
  | 68 => .array .int
  | 69 => .array .int
  | 70 => .array .boolean
  | 71 => .array .int
  | 72 => .array .int
  | 73 => .array .int
  | 74 => .array .int
  | 75 => .array .int
  | 76 => .array .boolean
  | 77 => .array .int
  | 78 => .array .int
  | 79 => .int
  | 80 => .array .int
  | 81 => .array .int
  | 82 => .array .int
  | 83 => .array .int
  | 84 => .array .int
  | 85 => .array .int
  | 86 => .array .int
  | 87 => .array .int
  | 88 => .array .int
  | 89 => .array .int
  | 90 => .array .int
  | _ => .int
abbrev wsX120 : List Cond := u_ws RX12 TX12 92
theorem nmX12 : ∀ a, a < 92 → ∀ b, b < 92 → a ≠ b → (TX12 a).2.1 ≠ (TX12 b).2.1 := by decide +kernel
theorem tyX12_ok : ∀ k, k < 92 → parseFieldDescriptor (TX12 k).2.2.1 = some (tyX12 k) := by decide +kernel
abbrev cX12_hecOf : ByteArray := prog_14_method_4_code
def yX12_hecOf : MethodName := ⟨RX12, "hecOf", "(I)I"⟩
abbrev cX12_rightness : ByteArray := prog_14_method_5_code
def yX12_rightness : MethodName := ⟨RX12, "rightness", "(II)I"⟩
abbrev cX12_header : ByteArray := prog_14_method_8_code
def yX12_header : MethodName := ⟨RX12, "header", "(III)I"⟩
def RJ6 : String := "java/lang/Integer"
abbrev cJ6_numberOfLeadingZeros_0f7a4 : ByteArray := prog_17_method_47_code
def yJ6_numberOfLeadingZeros_0f7a4 : MethodName := ⟨RJ6, "numberOfLeadingZeros", "(I)I"⟩
abbrev cJ6_bitCount_0f7a4 : ByteArray := prog_17_method_49_code
def yJ6_bitCount_0f7a4 : MethodName := ⟨RJ6, "bitCount", "(I)I"⟩
def wsX11_hecOf : List Cond := .code yX11_hecOf cX11_hecOf 4 (some .int) :: ([.fieldLink RX11 349 "CellSwitch" "HEC_STEPS" "[I"])
def wsJ6_bitCount_0f7a4 : List Cond := .code yJ6_bitCount_0f7a4 cJ6_bitCount_0f7a4 1 (some .int) :: ([.constant RJ6 265 (1431655765), .constant RJ6 266 (858993459), .constant RJ6 267 (252645135)])
def wsJ6_numberOfLeadingZeros_0f7a4 : List Cond := .code yJ6_numberOfLeadingZeros_0f7a4 cJ6_numberOfLeadingZeros_0f7a4 2 (some .int) :: ([.constant RJ6 264 (65536)])
def wsX11_wrongBit : List Cond := .code yX11_wrongBit cX11_wrongBit 3 (some .int) :: ([.methodLink RX11 330 yX11_hecOf, .static yX11_hecOf, .initialized RX11, .code yX11_hecOf cX11_hecOf 4 (some .int), .fieldLink RX11 349 "CellSwitch" "HEC_STEPS" "[I", .methodLink RX11 352 yJ6_bitCount_0f7a4, .static yJ6_bitCount_0f7a4, .initialized RJ6, .code yJ6_bitCount_0f7a4 cJ6_bitCount_0f7a4 1 (some .int), .constant RJ6 265 (1431655765), .constant RJ6 266 (858993459), .constant RJ6 267 (252645135), .methodLink RX11 357 yJ6_numberOfLeadingZeros_0f7a4, .static yJ6_numberOfLeadingZeros_0f7a4, .code yJ6_numberOfLeadingZeros_0f7a4 cJ6_numberOfLeadingZeros_0f7a4 2 (some .int), .constant RJ6 264 (65536)])
def wsX11_header : List Cond := .code yX11_header cX11_header 5 (some .int) :: ([.methodLink RX11 330 yX11_hecOf, .static yX11_hecOf, .initialized RX11, .code yX11_hecOf cX11_hecOf 4 (some .int), .fieldLink RX11 349 "CellSwitch" "HEC_STEPS" "[I", .methodLink RX11 333 yX11_wrongBit, .static yX11_wrongBit, .code yX11_wrongBit cX11_wrongBit 3 (some .int), .methodLink RX11 352 yJ6_bitCount_0f7a4, .static yJ6_bitCount_0f7a4, .initialized RJ6, .code yJ6_bitCount_0f7a4 cJ6_bitCount_0f7a4 1 (some .int), .constant RJ6 265 (1431655765), .constant RJ6 266 (858993459), .constant RJ6 267 (252645135), .methodLink RX11 357 yJ6_numberOfLeadingZeros_0f7a4, .static yJ6_numberOfLeadingZeros_0f7a4, .code yJ6_numberOfLeadingZeros_0f7a4 cJ6_numberOfLeadingZeros_0f7a4 2 (some .int), .constant RJ6 264 (65536)])
def wsX12_hecOf : List Cond := .code yX12_hecOf cX12_hecOf 4 (some .int) :: ([])
def wsX12_rightness : List Cond := .code yX12_rightness cX12_rightness 5 (some .int) :: ([.methodLink RX12 267 yX12_hecOf, .static yX12_hecOf, .initialized RX12, .code yX12_hecOf cX12_hecOf 4 (some .int)])
def wsX12_header : List Cond := .code yX12_header cX12_header 4 (some .int) :: ([.methodLink RX12 267 yX12_hecOf, .static yX12_hecOf, .initialized RX12, .code yX12_hecOf cX12_hecOf 4 (some .int), .methodLink RX12 275 yX12_rightness, .static yX12_rightness, .code yX12_rightness cX12_rightness 5 (some .int)])
set_option maxRecDepth 20000 in
theorem ggX11_header_X11_hecOf : GoodIn wsX11_header wsX11_hecOf := goodIn_r _ [4, 5] (by decide +kernel) (by decide +kernel)
set_option maxRecDepth 20000 in
theorem gX11_header_X11_hecOf : GoodIn wsX11_header (va_wsS RX11 330 yX11_hecOf wsX11_hecOf) := goodIn_app (goodIn_of _ (by decide +kernel)) ggX11_header_X11_hecOf
set_option maxRecDepth 20000 in
theorem ggX11_header_X11_wrongBit : GoodIn wsX11_header wsX11_wrongBit := goodIn_r _ [8, 1, 2, 3, 4, 5, 9, 10, 11, 12, 13, 14, 15, 16, 17, 18, 19] (by decide +kernel) (by decide +kernel)
set_option maxRecDepth 20000 in
theorem gX11_header_X11_wrongBit : GoodIn wsX11_header (va_wsS RX11 333 yX11_wrongBit wsX11_wrongBit) := goodIn_app (goodIn_of _ (by decide +kernel)) ggX11_header_X11_wrongBit
theorem dX11_header_0 : decode cX11_header 0 = .ok (.iload_n 3, 1) := by decide +kernel
theorem dX11_header_1 : decode cX11_header 1 = .ok (.ifCond .ne 8, 3) := by decide +kernel
theorem dX11_header_4 : decode cX11_header 4 = .ok (.iload_n 1, 1) := by decide +kernel
theorem dX11_header_5 : decode cX11_header 5 = .ok (.invokestatic 330, 3) := by decide +kernel
theorem dX11_header_8 : decode cX11_header 8 = .ok (.ireturn, 1) := by decide +kernel
theorem dX11_header_9 : decode cX11_header 9 = .ok (.iload_n 3, 1) := by decide +kernel
theorem dX11_header_10 : decode cX11_header 10 = .ok (.iconst 1, 1) := by decide +kernel
theorem dX11_header_11 : decode cX11_header 11 = .ok (.if_icmp .eq 5, 3) := by decide +kernel
theorem dX11_header_14 : decode cX11_header 14 = .ok (.iconst (-1), 1) := by decide +kernel
theorem dX11_header_15 : decode cX11_header 15 = .ok (.ireturn, 1) := by decide +kernel
theorem dX11_header_16 : decode cX11_header 16 = .ok (.iload_n 2, 1) := by decide +kernel
theorem dX11_header_17 : decode cX11_header 17 = .ok (.ifCond .lt 10, 3) := by decide +kernel
theorem dX11_header_20 : decode cX11_header 20 = .ok (.iload_n 2, 1) := by decide +kernel
theorem dX11_header_21 : decode cX11_header 21 = .ok (.sipush 255, 3) := by decide +kernel
theorem dX11_header_24 : decode cX11_header 24 = .ok (.if_icmp .le 5, 3) := by decide +kernel
theorem dX11_header_27 : decode cX11_header 27 = .ok (.iconst 0, 1) := by decide +kernel
theorem dX11_header_28 : decode cX11_header 28 = .ok (.ireturn, 1) := by decide +kernel
theorem dX11_header_29 : decode cX11_header 29 = .ok (.iload_n 1, 1) := by decide +kernel
theorem dX11_header_30 : decode cX11_header 30 = .ok (.invokestatic 330, 3) := by decide +kernel
theorem dX11_header_33 : decode cX11_header 33 = .ok (.iload_n 2, 1) := by decide +kernel
theorem dX11_header_34 : decode cX11_header 34 = .ok (.if_icmp .ne 5, 3) := by decide +kernel
theorem dX11_header_37 : decode cX11_header 37 = .ok (.iconst 1, 1) := by decide +kernel
theorem dX11_header_38 : decode cX11_header 38 = .ok (.ireturn, 1) := by decide +kernel
theorem dX11_header_39 : decode cX11_header 39 = .ok (.iload_n 1, 1) := by decide +kernel
theorem dX11_header_40 : decode cX11_header 40 = .ok (.iload_n 2, 1) := by decide +kernel
theorem dX11_header_41 : decode cX11_header 41 = .ok (.invokestatic 333, 3) := by decide +kernel
theorem dX11_header_44 : decode cX11_header 44 = .ok (.istore 4, 2) := by decide +kernel
theorem dX11_header_46 : decode cX11_header 46 = .ok (.iload 4, 2) := by decide +kernel
theorem dX11_header_48 : decode cX11_header 48 = .ok (.ifCond .ge 7, 3) := by decide +kernel
theorem dX11_header_51 : decode cX11_header 51 = .ok (.iconst 0, 1) := by decide +kernel
theorem dX11_header_52 : decode cX11_header 52 = .ok (.goto 7, 3) := by decide +kernel
theorem dX11_header_55 : decode cX11_header 55 = .ok (.iload 4, 2) := by decide +kernel
theorem dX11_header_57 : decode cX11_header 57 = .ok (.iconst 2, 1) := by decide +kernel
theorem dX11_header_58 : decode cX11_header 58 = .ok (.iadd, 1) := by decide +kernel
theorem dX11_header_59 : decode cX11_header 59 = .ok (.ireturn, 1) := by decide +kernel
theorem dX11_hecOf_0 : decode cX11_hecOf 0 = .ok (.iconst 0, 1) := by decide +kernel
theorem dX11_hecOf_1 : decode cX11_hecOf 1 = .ok (.istore_n 1, 1) := by decide +kernel
theorem dX11_hecOf_2 : decode cX11_hecOf 2 = .ok (.bipush 28, 2) := by decide +kernel
theorem dX11_hecOf_4 : decode cX11_hecOf 4 = .ok (.istore_n 2, 1) := by decide +kernel
theorem dX11_hecOf_5 : decode cX11_hecOf 5 = .ok (.iload_n 2, 1) := by decide +kernel
theorem dX11_hecOf_6 : decode cX11_hecOf 6 = .ok (.ifCond .lt 34, 3) := by decide +kernel
theorem dX11_hecOf_9 : decode cX11_hecOf 9 = .ok (.iload_n 1, 1) := by decide +kernel
theorem dX11_hecOf_10 : decode cX11_hecOf 10 = .ok (.iconst 4, 1) := by decide +kernel
theorem dX11_hecOf_11 : decode cX11_hecOf 11 = .ok (.iushr, 1) := by decide +kernel
theorem dX11_hecOf_12 : decode cX11_hecOf 12 = .ok (.iload_n 0, 1) := by decide +kernel
theorem dX11_hecOf_13 : decode cX11_hecOf 13 = .ok (.iload_n 2, 1) := by decide +kernel
theorem dX11_hecOf_14 : decode cX11_hecOf 14 = .ok (.iushr, 1) := by decide +kernel
theorem dX11_hecOf_15 : decode cX11_hecOf 15 = .ok (.ixor, 1) := by decide +kernel
theorem dX11_hecOf_16 : decode cX11_hecOf 16 = .ok (.bipush 15, 2) := by decide +kernel
theorem dX11_hecOf_18 : decode cX11_hecOf 18 = .ok (.iand, 1) := by decide +kernel
theorem dX11_hecOf_19 : decode cX11_hecOf 19 = .ok (.istore_n 3, 1) := by decide +kernel
theorem dX11_hecOf_20 : decode cX11_hecOf 20 = .ok (.iload_n 1, 1) := by decide +kernel
theorem dX11_hecOf_21 : decode cX11_hecOf 21 = .ok (.iconst 4, 1) := by decide +kernel
theorem dX11_hecOf_22 : decode cX11_hecOf 22 = .ok (.ishl, 1) := by decide +kernel
theorem dX11_hecOf_23 : decode cX11_hecOf 23 = .ok (.sipush 255, 3) := by decide +kernel
theorem dX11_hecOf_26 : decode cX11_hecOf 26 = .ok (.iand, 1) := by decide +kernel
theorem dX11_hecOf_27 : decode cX11_hecOf 27 = .ok (.getstatic 349, 3) := by decide +kernel
theorem dX11_hecOf_30 : decode cX11_hecOf 30 = .ok (.iload_n 3, 1) := by decide +kernel
theorem dX11_hecOf_31 : decode cX11_hecOf 31 = .ok (.iaload, 1) := by decide +kernel
theorem dX11_hecOf_32 : decode cX11_hecOf 32 = .ok (.ixor, 1) := by decide +kernel
theorem dX11_hecOf_33 : decode cX11_hecOf 33 = .ok (.istore_n 1, 1) := by decide +kernel
theorem dX11_hecOf_34 : decode cX11_hecOf 34 = .ok (.iinc 2 (-4), 3) := by decide +kernel
theorem dX11_hecOf_37 : decode cX11_hecOf 37 = .ok (.goto (-32), 3) := by decide +kernel
theorem dX11_hecOf_40 : decode cX11_hecOf 40 = .ok (.iload_n 1, 1) := by decide +kernel
theorem dX11_hecOf_41 : decode cX11_hecOf 41 = .ok (.bipush 85, 2) := by decide +kernel
theorem dX11_hecOf_43 : decode cX11_hecOf 43 = .ok (.ixor, 1) := by decide +kernel
theorem dX11_hecOf_44 : decode cX11_hecOf 44 = .ok (.ireturn, 1) := by decide +kernel
set_option maxRecDepth 20000 in
theorem ggX11_wrongBit_X11_hecOf : GoodIn wsX11_wrongBit wsX11_hecOf := goodIn_r _ [4, 5] (by decide +kernel) (by decide +kernel)
set_option maxRecDepth 20000 in
theorem gX11_wrongBit_X11_hecOf : GoodIn wsX11_wrongBit (va_wsS RX11 330 yX11_hecOf wsX11_hecOf) := goodIn_app (goodIn_of _ (by decide +kernel)) ggX11_wrongBit_X11_hecOf
set_option maxRecDepth 20000 in
theorem ggX11_wrongBit_J6_bitCount_0f7a4 : GoodIn wsX11_wrongBit wsJ6_bitCount_0f7a4 := goodIn_r _ [9, 10, 11, 12] (by decide +kernel) (by decide +kernel)
set_option maxRecDepth 20000 in
theorem gX11_wrongBit_J6_bitCount_0f7a4 : GoodIn wsX11_wrongBit (va_wsS RX11 352 yJ6_bitCount_0f7a4 wsJ6_bitCount_0f7a4) := goodIn_app (goodIn_of _ (by decide +kernel)) ggX11_wrongBit_J6_bitCount_0f7a4
set_option maxRecDepth 20000 in
theorem ggX11_wrongBit_J6_numberOfLeadingZeros_0f7a4 : GoodIn wsX11_wrongBit wsJ6_numberOfLeadingZeros_0f7a4 := goodIn_r _ [15, 16] (by decide +kernel) (by decide +kernel)
set_option maxRecDepth 20000 in
theorem gX11_wrongBit_J6_numberOfLeadingZeros_0f7a4 : GoodIn wsX11_wrongBit (va_wsS RX11 357 yJ6_numberOfLeadingZeros_0f7a4 wsJ6_numberOfLeadingZeros_0f7a4) := goodIn_app (goodIn_of _ (by decide +kernel)) ggX11_wrongBit_J6_numberOfLeadingZeros_0f7a4
theorem dX11_wrongBit_0 : decode cX11_wrongBit 0 = .ok (.iconst 0, 1) := by decide +kernel
theorem dX11_wrongBit_1 : decode cX11_wrongBit 1 = .ok (.istore_n 2, 1) := by decide +kernel
theorem dX11_wrongBit_2 : decode cX11_wrongBit 2 = .ok (.iload_n 2, 1) := by decide +kernel
theorem dX11_wrongBit_3 : decode cX11_wrongBit 3 = .ok (.bipush 32, 2) := by decide +kernel
theorem dX11_wrongBit_5 : decode cX11_wrongBit 5 = .ok (.if_icmp .ge 26, 3) := by decide +kernel
theorem dX11_wrongBit_8 : decode cX11_wrongBit 8 = .ok (.iload_n 0, 1) := by decide +kernel
theorem dX11_wrongBit_9 : decode cX11_wrongBit 9 = .ok (.iconst 1, 1) := by decide +kernel
theorem dX11_wrongBit_10 : decode cX11_wrongBit 10 = .ok (.bipush 31, 2) := by decide +kernel
theorem dX11_wrongBit_12 : decode cX11_wrongBit 12 = .ok (.iload_n 2, 1) := by decide +kernel
theorem dX11_wrongBit_13 : decode cX11_wrongBit 13 = .ok (.isub, 1) := by decide +kernel
theorem dX11_wrongBit_14 : decode cX11_wrongBit 14 = .ok (.ishl, 1) := by decide +kernel
theorem dX11_wrongBit_15 : decode cX11_wrongBit 15 = .ok (.ixor, 1) := by decide +kernel
theorem dX11_wrongBit_16 : decode cX11_wrongBit 16 = .ok (.invokestatic 330, 3) := by decide +kernel
theorem dX11_wrongBit_19 : decode cX11_wrongBit 19 = .ok (.iload_n 1, 1) := by decide +kernel
theorem dX11_wrongBit_20 : decode cX11_wrongBit 20 = .ok (.if_icmp .ne 5, 3) := by decide +kernel
theorem dX11_wrongBit_23 : decode cX11_wrongBit 23 = .ok (.iload_n 2, 1) := by decide +kernel
theorem dX11_wrongBit_24 : decode cX11_wrongBit 24 = .ok (.ireturn, 1) := by decide +kernel
theorem dX11_wrongBit_25 : decode cX11_wrongBit 25 = .ok (.iinc 2 1, 3) := by decide +kernel
theorem dX11_wrongBit_28 : decode cX11_wrongBit 28 = .ok (.goto (-26), 3) := by decide +kernel
theorem dX11_wrongBit_31 : decode cX11_wrongBit 31 = .ok (.iload_n 0, 1) := by decide +kernel
theorem dX11_wrongBit_32 : decode cX11_wrongBit 32 = .ok (.invokestatic 330, 3) := by decide +kernel
theorem dX11_wrongBit_35 : decode cX11_wrongBit 35 = .ok (.iload_n 1, 1) := by decide +kernel
theorem dX11_wrongBit_36 : decode cX11_wrongBit 36 = .ok (.ixor, 1) := by decide +kernel
theorem dX11_wrongBit_37 : decode cX11_wrongBit 37 = .ok (.istore_n 2, 1) := by decide +kernel
theorem dX11_wrongBit_38 : decode cX11_wrongBit 38 = .ok (.iload_n 2, 1) := by decide +kernel
theorem dX11_wrongBit_39 : decode cX11_wrongBit 39 = .ok (.invokestatic 352, 3) := by decide +kernel
theorem dX11_wrongBit_42 : decode cX11_wrongBit 42 = .ok (.iconst 1, 1) := by decide +kernel
theorem dX11_wrongBit_43 : decode cX11_wrongBit 43 = .ok (.if_icmp .ne 16, 3) := by decide +kernel
theorem dX11_wrongBit_46 : decode cX11_wrongBit 46 = .ok (.bipush 32, 2) := by decide +kernel
theorem dX11_wrongBit_48 : decode cX11_wrongBit 48 = .ok (.iload_n 2, 1) := by decide +kernel
theorem dX11_wrongBit_49 : decode cX11_wrongBit 49 = .ok (.invokestatic 357, 3) := by decide +kernel
theorem dX11_wrongBit_52 : decode cX11_wrongBit 52 = .ok (.iadd, 1) := by decide +kernel
theorem dX11_wrongBit_53 : decode cX11_wrongBit 53 = .ok (.bipush 24, 2) := by decide +kernel
theorem dX11_wrongBit_55 : decode cX11_wrongBit 55 = .ok (.isub, 1) := by decide +kernel
theorem dX11_wrongBit_56 : decode cX11_wrongBit 56 = .ok (.goto 4, 3) := by decide +kernel
theorem dX11_wrongBit_59 : decode cX11_wrongBit 59 = .ok (.iconst (-1), 1) := by decide +kernel
theorem dX11_wrongBit_60 : decode cX11_wrongBit 60 = .ok (.ireturn, 1) := by decide +kernel
theorem dX12_hecOf_0 : decode cX12_hecOf 0 = .ok (.iconst 0, 1) := by decide +kernel
theorem dX12_hecOf_1 : decode cX12_hecOf 1 = .ok (.istore_n 1, 1) := by decide +kernel
theorem dX12_hecOf_2 : decode cX12_hecOf 2 = .ok (.bipush 31, 2) := by decide +kernel
theorem dX12_hecOf_4 : decode cX12_hecOf 4 = .ok (.istore_n 2, 1) := by decide +kernel
theorem dX12_hecOf_5 : decode cX12_hecOf 5 = .ok (.iload_n 2, 1) := by decide +kernel
theorem dX12_hecOf_6 : decode cX12_hecOf 6 = .ok (.ifCond .lt 44, 3) := by decide +kernel
theorem dX12_hecOf_9 : decode cX12_hecOf 9 = .ok (.iload_n 0, 1) := by decide +kernel
theorem dX12_hecOf_10 : decode cX12_hecOf 10 = .ok (.iload_n 2, 1) := by decide +kernel
theorem dX12_hecOf_11 : decode cX12_hecOf 11 = .ok (.ishr, 1) := by decide +kernel
theorem dX12_hecOf_12 : decode cX12_hecOf 12 = .ok (.iconst 1, 1) := by decide +kernel
theorem dX12_hecOf_13 : decode cX12_hecOf 13 = .ok (.iand, 1) := by decide +kernel
theorem dX12_hecOf_14 : decode cX12_hecOf 14 = .ok (.iload_n 1, 1) := by decide +kernel
theorem dX12_hecOf_15 : decode cX12_hecOf 15 = .ok (.bipush 7, 2) := by decide +kernel
theorem dX12_hecOf_17 : decode cX12_hecOf 17 = .ok (.ishr, 1) := by decide +kernel
theorem dX12_hecOf_18 : decode cX12_hecOf 18 = .ok (.iconst 1, 1) := by decide +kernel
theorem dX12_hecOf_19 : decode cX12_hecOf 19 = .ok (.iand, 1) := by decide +kernel
theorem dX12_hecOf_20 : decode cX12_hecOf 20 = .ok (.ixor, 1) := by decide +kernel
theorem dX12_hecOf_21 : decode cX12_hecOf 21 = .ok (.istore_n 3, 1) := by decide +kernel
theorem dX12_hecOf_22 : decode cX12_hecOf 22 = .ok (.iload_n 1, 1) := by decide +kernel
theorem dX12_hecOf_23 : decode cX12_hecOf 23 = .ok (.iconst 1, 1) := by decide +kernel
theorem dX12_hecOf_24 : decode cX12_hecOf 24 = .ok (.ishl, 1) := by decide +kernel
theorem dX12_hecOf_25 : decode cX12_hecOf 25 = .ok (.sipush 255, 3) := by decide +kernel
theorem dX12_hecOf_28 : decode cX12_hecOf 28 = .ok (.iand, 1) := by decide +kernel
theorem dX12_hecOf_29 : decode cX12_hecOf 29 = .ok (.istore_n 1, 1) := by decide +kernel
theorem dX12_hecOf_30 : decode cX12_hecOf 30 = .ok (.iload_n 3, 1) := by decide +kernel
theorem dX12_hecOf_31 : decode cX12_hecOf 31 = .ok (.iconst 1, 1) := by decide +kernel
theorem dX12_hecOf_32 : decode cX12_hecOf 32 = .ok (.if_icmp .ne 10, 3) := by decide +kernel
theorem dX12_hecOf_35 : decode cX12_hecOf 35 = .ok (.iload_n 1, 1) := by decide +kernel
theorem dX12_hecOf_36 : decode cX12_hecOf 36 = .ok (.bipush 7, 2) := by decide +kernel
theorem dX12_hecOf_38 : decode cX12_hecOf 38 = .ok (.ixor, 1) := by decide +kernel
theorem dX12_hecOf_39 : decode cX12_hecOf 39 = .ok (.goto 4, 3) := by decide +kernel
theorem dX12_hecOf_42 : decode cX12_hecOf 42 = .ok (.iload_n 1, 1) := by decide +kernel
theorem dX12_hecOf_43 : decode cX12_hecOf 43 = .ok (.istore_n 1, 1) := by decide +kernel
theorem dX12_hecOf_44 : decode cX12_hecOf 44 = .ok (.iinc 2 (-1), 3) := by decide +kernel
theorem dX12_hecOf_47 : decode cX12_hecOf 47 = .ok (.goto (-42), 3) := by decide +kernel
theorem dX12_hecOf_50 : decode cX12_hecOf 50 = .ok (.iload_n 1, 1) := by decide +kernel
theorem dX12_hecOf_51 : decode cX12_hecOf 51 = .ok (.bipush 85, 2) := by decide +kernel
theorem dX12_hecOf_53 : decode cX12_hecOf 53 = .ok (.ixor, 1) := by decide +kernel
theorem dX12_hecOf_54 : decode cX12_hecOf 54 = .ok (.ireturn, 1) := by decide +kernel
set_option maxRecDepth 20000 in
theorem ggX12_rightness_X12_hecOf : GoodIn wsX12_rightness wsX12_hecOf := goodIn_r _ [4] (by decide +kernel) (by decide +kernel)
set_option maxRecDepth 20000 in
theorem gX12_rightness_X12_hecOf : GoodIn wsX12_rightness (va_wsS RX12 267 yX12_hecOf wsX12_hecOf) := goodIn_app (goodIn_of _ (by decide +kernel)) ggX12_rightness_X12_hecOf
theorem dX12_rightness_0 : decode cX12_rightness 0 = .ok (.iload_n 0, 1) := by decide +kernel
theorem dX12_rightness_1 : decode cX12_rightness 1 = .ok (.invokestatic 267, 3) := by decide +kernel
theorem dX12_rightness_4 : decode cX12_rightness 4 = .ok (.iload_n 1, 1) := by decide +kernel
theorem dX12_rightness_5 : decode cX12_rightness 5 = .ok (.if_icmp .ne 5, 3) := by decide +kernel
theorem dX12_rightness_8 : decode cX12_rightness 8 = .ok (.iconst 1, 1) := by decide +kernel
theorem dX12_rightness_9 : decode cX12_rightness 9 = .ok (.ireturn, 1) := by decide +kernel
theorem dX12_rightness_10 : decode cX12_rightness 10 = .ok (.iconst 0, 1) := by decide +kernel
theorem dX12_rightness_11 : decode cX12_rightness 11 = .ok (.istore_n 2, 1) := by decide +kernel
theorem dX12_rightness_12 : decode cX12_rightness 12 = .ok (.iload_n 2, 1) := by decide +kernel
theorem dX12_rightness_13 : decode cX12_rightness 13 = .ok (.bipush 40, 2) := by decide +kernel
theorem dX12_rightness_15 : decode cX12_rightness 15 = .ok (.if_icmp .ge 61, 3) := by decide +kernel
theorem dX12_rightness_18 : decode cX12_rightness 18 = .ok (.iload_n 2, 1) := by decide +kernel
theorem dX12_rightness_19 : decode cX12_rightness 19 = .ok (.bipush 32, 2) := by decide +kernel
theorem dX12_rightness_21 : decode cX12_rightness 21 = .ok (.if_icmp .ge 14, 3) := by decide +kernel
theorem dX12_rightness_24 : decode cX12_rightness 24 = .ok (.iload_n 0, 1) := by decide +kernel
theorem dX12_rightness_25 : decode cX12_rightness 25 = .ok (.iconst 1, 1) := by decide +kernel
theorem dX12_rightness_26 : decode cX12_rightness 26 = .ok (.bipush 31, 2) := by decide +kernel
theorem dX12_rightness_28 : decode cX12_rightness 28 = .ok (.iload_n 2, 1) := by decide +kernel
theorem dX12_rightness_29 : decode cX12_rightness 29 = .ok (.isub, 1) := by decide +kernel
theorem dX12_rightness_30 : decode cX12_rightness 30 = .ok (.ishl, 1) := by decide +kernel
theorem dX12_rightness_31 : decode cX12_rightness 31 = .ok (.ixor, 1) := by decide +kernel
theorem dX12_rightness_32 : decode cX12_rightness 32 = .ok (.goto 4, 3) := by decide +kernel
theorem dX12_rightness_35 : decode cX12_rightness 35 = .ok (.iload_n 0, 1) := by decide +kernel
theorem dX12_rightness_36 : decode cX12_rightness 36 = .ok (.istore_n 3, 1) := by decide +kernel
theorem dX12_rightness_37 : decode cX12_rightness 37 = .ok (.iload_n 2, 1) := by decide +kernel
theorem dX12_rightness_38 : decode cX12_rightness 38 = .ok (.bipush 32, 2) := by decide +kernel
theorem dX12_rightness_40 : decode cX12_rightness 40 = .ok (.if_icmp .ge 7, 3) := by decide +kernel
theorem dX12_rightness_43 : decode cX12_rightness 43 = .ok (.iload_n 1, 1) := by decide +kernel
theorem dX12_rightness_44 : decode cX12_rightness 44 = .ok (.goto 11, 3) := by decide +kernel
theorem dX12_rightness_47 : decode cX12_rightness 47 = .ok (.iload_n 1, 1) := by decide +kernel
theorem dX12_rightness_48 : decode cX12_rightness 48 = .ok (.iconst 1, 1) := by decide +kernel
theorem dX12_rightness_49 : decode cX12_rightness 49 = .ok (.bipush 39, 2) := by decide +kernel
theorem dX12_rightness_51 : decode cX12_rightness 51 = .ok (.iload_n 2, 1) := by decide +kernel
theorem dX12_rightness_52 : decode cX12_rightness 52 = .ok (.isub, 1) := by decide +kernel
theorem dX12_rightness_53 : decode cX12_rightness 53 = .ok (.ishl, 1) := by decide +kernel
theorem dX12_rightness_54 : decode cX12_rightness 54 = .ok (.ixor, 1) := by decide +kernel
theorem dX12_rightness_55 : decode cX12_rightness 55 = .ok (.istore 4, 2) := by decide +kernel
theorem dX12_rightness_57 : decode cX12_rightness 57 = .ok (.iload_n 3, 1) := by decide +kernel
theorem dX12_rightness_58 : decode cX12_rightness 58 = .ok (.invokestatic 267, 3) := by decide +kernel
theorem dX12_rightness_61 : decode cX12_rightness 61 = .ok (.iload 4, 2) := by decide +kernel
theorem dX12_rightness_63 : decode cX12_rightness 63 = .ok (.if_icmp .ne 7, 3) := by decide +kernel
theorem dX12_rightness_66 : decode cX12_rightness 66 = .ok (.iconst 2, 1) := by decide +kernel
theorem dX12_rightness_67 : decode cX12_rightness 67 = .ok (.iload_n 2, 1) := by decide +kernel
theorem dX12_rightness_68 : decode cX12_rightness 68 = .ok (.iadd, 1) := by decide +kernel
theorem dX12_rightness_69 : decode cX12_rightness 69 = .ok (.ireturn, 1) := by decide +kernel
theorem dX12_rightness_70 : decode cX12_rightness 70 = .ok (.iinc 2 1, 3) := by decide +kernel
theorem dX12_rightness_73 : decode cX12_rightness 73 = .ok (.goto (-61), 3) := by decide +kernel
theorem dX12_rightness_76 : decode cX12_rightness 76 = .ok (.iconst 0, 1) := by decide +kernel
theorem dX12_rightness_77 : decode cX12_rightness 77 = .ok (.ireturn, 1) := by decide +kernel
set_option maxRecDepth 20000 in
theorem ggX12_header_X12_hecOf : GoodIn wsX12_header wsX12_hecOf := goodIn_r _ [4] (by decide +kernel) (by decide +kernel)
set_option maxRecDepth 20000 in
theorem gX12_header_X12_hecOf : GoodIn wsX12_header (va_wsS RX12 267 yX12_hecOf wsX12_hecOf) := goodIn_app (goodIn_of _ (by decide +kernel)) ggX12_header_X12_hecOf
set_option maxRecDepth 20000 in
theorem ggX12_header_X12_rightness : GoodIn wsX12_header wsX12_rightness := goodIn_r _ [7, 1, 2, 3, 4] (by decide +kernel) (by decide +kernel)
set_option maxRecDepth 20000 in
theorem gX12_header_X12_rightness : GoodIn wsX12_header (va_wsS RX12 275 yX12_rightness wsX12_rightness) := goodIn_app (goodIn_of _ (by decide +kernel)) ggX12_header_X12_rightness
theorem dX12_header_0 : decode cX12_header 0 = .ok (.iload_n 3, 1) := by decide +kernel
theorem dX12_header_1 : decode cX12_header 1 = .ok (.ifCond .lt 8, 3) := by decide +kernel
theorem dX12_header_4 : decode cX12_header 4 = .ok (.iload_n 3, 1) := by decide +kernel
theorem dX12_header_5 : decode cX12_header 5 = .ok (.iconst 1, 1) := by decide +kernel
theorem dX12_header_6 : decode cX12_header 6 = .ok (.if_icmp .le 5, 3) := by decide +kernel
theorem dX12_header_9 : decode cX12_header 9 = .ok (.iconst (-1), 1) := by decide +kernel
theorem dX12_header_10 : decode cX12_header 10 = .ok (.ireturn, 1) := by decide +kernel
theorem dX12_header_11 : decode cX12_header 11 = .ok (.iload_n 3, 1) := by decide +kernel
theorem dX12_header_12 : decode cX12_header 12 = .ok (.ifCond .ne 10, 3) := by decide +kernel
theorem dX12_header_15 : decode cX12_header 15 = .ok (.iload_n 1, 1) := by decide +kernel
theorem dX12_header_16 : decode cX12_header 16 = .ok (.invokestatic 267, 3) := by decide +kernel
theorem dX12_header_19 : decode cX12_header 19 = .ok (.goto 8, 3) := by decide +kernel
theorem dX12_header_22 : decode cX12_header 22 = .ok (.iload_n 1, 1) := by decide +kernel
theorem dX12_header_23 : decode cX12_header 23 = .ok (.iload_n 2, 1) := by decide +kernel
theorem dX12_header_24 : decode cX12_header 24 = .ok (.invokestatic 275, 3) := by decide +kernel
theorem dX12_header_27 : decode cX12_header 27 = .ok (.ireturn, 1) := by decide +kernel
theorem dJ6_numberOfLeadingZeros_0f7a4_0 : decode cJ6_numberOfLeadingZeros_0f7a4 0 = .ok (.iload_n 0, 1) := by decide +kernel
theorem dJ6_numberOfLeadingZeros_0f7a4_1 : decode cJ6_numberOfLeadingZeros_0f7a4 1 = .ok (.ifCond .gt 14, 3) := by decide +kernel
theorem dJ6_numberOfLeadingZeros_0f7a4_4 : decode cJ6_numberOfLeadingZeros_0f7a4 4 = .ok (.iload_n 0, 1) := by decide +kernel
theorem dJ6_numberOfLeadingZeros_0f7a4_5 : decode cJ6_numberOfLeadingZeros_0f7a4 5 = .ok (.ifCond .ne 8, 3) := by decide +kernel
theorem dJ6_numberOfLeadingZeros_0f7a4_8 : decode cJ6_numberOfLeadingZeros_0f7a4 8 = .ok (.bipush 32, 2) := by decide +kernel
theorem dJ6_numberOfLeadingZeros_0f7a4_10 : decode cJ6_numberOfLeadingZeros_0f7a4 10 = .ok (.goto 4, 3) := by decide +kernel
theorem dJ6_numberOfLeadingZeros_0f7a4_13 : decode cJ6_numberOfLeadingZeros_0f7a4 13 = .ok (.iconst 0, 1) := by decide +kernel
theorem dJ6_numberOfLeadingZeros_0f7a4_14 : decode cJ6_numberOfLeadingZeros_0f7a4 14 = .ok (.ireturn, 1) := by decide +kernel
theorem dJ6_numberOfLeadingZeros_0f7a4_15 : decode cJ6_numberOfLeadingZeros_0f7a4 15 = .ok (.bipush 31, 2) := by decide +kernel
theorem dJ6_numberOfLeadingZeros_0f7a4_17 : decode cJ6_numberOfLeadingZeros_0f7a4 17 = .ok (.istore_n 1, 1) := by decide +kernel
theorem dJ6_numberOfLeadingZeros_0f7a4_18 : decode cJ6_numberOfLeadingZeros_0f7a4 18 = .ok (.iload_n 0, 1) := by decide +kernel
theorem dJ6_numberOfLeadingZeros_0f7a4_19 : decode cJ6_numberOfLeadingZeros_0f7a4 19 = .ok (.ldc_w 264, 3) := by decide +kernel
theorem dJ6_numberOfLeadingZeros_0f7a4_22 : decode cJ6_numberOfLeadingZeros_0f7a4 22 = .ok (.if_icmp .lt 11, 3) := by decide +kernel
theorem dJ6_numberOfLeadingZeros_0f7a4_25 : decode cJ6_numberOfLeadingZeros_0f7a4 25 = .ok (.iinc 1 (-16), 3) := by decide +kernel
theorem dJ6_numberOfLeadingZeros_0f7a4_28 : decode cJ6_numberOfLeadingZeros_0f7a4 28 = .ok (.iload_n 0, 1) := by decide +kernel
theorem dJ6_numberOfLeadingZeros_0f7a4_29 : decode cJ6_numberOfLeadingZeros_0f7a4 29 = .ok (.bipush 16, 2) := by decide +kernel
theorem dJ6_numberOfLeadingZeros_0f7a4_31 : decode cJ6_numberOfLeadingZeros_0f7a4 31 = .ok (.iushr, 1) := by decide +kernel
theorem dJ6_numberOfLeadingZeros_0f7a4_32 : decode cJ6_numberOfLeadingZeros_0f7a4 32 = .ok (.istore_n 0, 1) := by decide +kernel
theorem dJ6_numberOfLeadingZeros_0f7a4_33 : decode cJ6_numberOfLeadingZeros_0f7a4 33 = .ok (.iload_n 0, 1) := by decide +kernel
theorem dJ6_numberOfLeadingZeros_0f7a4_34 : decode cJ6_numberOfLeadingZeros_0f7a4 34 = .ok (.sipush 256, 3) := by decide +kernel
theorem dJ6_numberOfLeadingZeros_0f7a4_37 : decode cJ6_numberOfLeadingZeros_0f7a4 37 = .ok (.if_icmp .lt 11, 3) := by decide +kernel
theorem dJ6_numberOfLeadingZeros_0f7a4_40 : decode cJ6_numberOfLeadingZeros_0f7a4 40 = .ok (.iinc 1 (-8), 3) := by decide +kernel
theorem dJ6_numberOfLeadingZeros_0f7a4_43 : decode cJ6_numberOfLeadingZeros_0f7a4 43 = .ok (.iload_n 0, 1) := by decide +kernel
theorem dJ6_numberOfLeadingZeros_0f7a4_44 : decode cJ6_numberOfLeadingZeros_0f7a4 44 = .ok (.bipush 8, 2) := by decide +kernel
theorem dJ6_numberOfLeadingZeros_0f7a4_46 : decode cJ6_numberOfLeadingZeros_0f7a4 46 = .ok (.iushr, 1) := by decide +kernel
theorem dJ6_numberOfLeadingZeros_0f7a4_47 : decode cJ6_numberOfLeadingZeros_0f7a4 47 = .ok (.istore_n 0, 1) := by decide +kernel
theorem dJ6_numberOfLeadingZeros_0f7a4_48 : decode cJ6_numberOfLeadingZeros_0f7a4 48 = .ok (.iload_n 0, 1) := by decide +kernel
theorem dJ6_numberOfLeadingZeros_0f7a4_49 : decode cJ6_numberOfLeadingZeros_0f7a4 49 = .ok (.bipush 16, 2) := by decide +kernel
theorem dJ6_numberOfLeadingZeros_0f7a4_51 : decode cJ6_numberOfLeadingZeros_0f7a4 51 = .ok (.if_icmp .lt 10, 3) := by decide +kernel
theorem dJ6_numberOfLeadingZeros_0f7a4_54 : decode cJ6_numberOfLeadingZeros_0f7a4 54 = .ok (.iinc 1 (-4), 3) := by decide +kernel
theorem dJ6_numberOfLeadingZeros_0f7a4_57 : decode cJ6_numberOfLeadingZeros_0f7a4 57 = .ok (.iload_n 0, 1) := by decide +kernel
theorem dJ6_numberOfLeadingZeros_0f7a4_58 : decode cJ6_numberOfLeadingZeros_0f7a4 58 = .ok (.iconst 4, 1) := by decide +kernel
theorem dJ6_numberOfLeadingZeros_0f7a4_59 : decode cJ6_numberOfLeadingZeros_0f7a4 59 = .ok (.iushr, 1) := by decide +kernel
theorem dJ6_numberOfLeadingZeros_0f7a4_60 : decode cJ6_numberOfLeadingZeros_0f7a4 60 = .ok (.istore_n 0, 1) := by decide +kernel
theorem dJ6_numberOfLeadingZeros_0f7a4_61 : decode cJ6_numberOfLeadingZeros_0f7a4 61 = .ok (.iload_n 0, 1) := by decide +kernel
theorem dJ6_numberOfLeadingZeros_0f7a4_62 : decode cJ6_numberOfLeadingZeros_0f7a4 62 = .ok (.iconst 4, 1) := by decide +kernel
theorem dJ6_numberOfLeadingZeros_0f7a4_63 : decode cJ6_numberOfLeadingZeros_0f7a4 63 = .ok (.if_icmp .lt 10, 3) := by decide +kernel
theorem dJ6_numberOfLeadingZeros_0f7a4_66 : decode cJ6_numberOfLeadingZeros_0f7a4 66 = .ok (.iinc 1 (-2), 3) := by decide +kernel
theorem dJ6_numberOfLeadingZeros_0f7a4_69 : decode cJ6_numberOfLeadingZeros_0f7a4 69 = .ok (.iload_n 0, 1) := by decide +kernel
theorem dJ6_numberOfLeadingZeros_0f7a4_70 : decode cJ6_numberOfLeadingZeros_0f7a4 70 = .ok (.iconst 2, 1) := by decide +kernel
theorem dJ6_numberOfLeadingZeros_0f7a4_71 : decode cJ6_numberOfLeadingZeros_0f7a4 71 = .ok (.iushr, 1) := by decide +kernel
theorem dJ6_numberOfLeadingZeros_0f7a4_72 : decode cJ6_numberOfLeadingZeros_0f7a4 72 = .ok (.istore_n 0, 1) := by decide +kernel
theorem dJ6_numberOfLeadingZeros_0f7a4_73 : decode cJ6_numberOfLeadingZeros_0f7a4 73 = .ok (.iload_n 1, 1) := by decide +kernel
theorem dJ6_numberOfLeadingZeros_0f7a4_74 : decode cJ6_numberOfLeadingZeros_0f7a4 74 = .ok (.iload_n 0, 1) := by decide +kernel
theorem dJ6_numberOfLeadingZeros_0f7a4_75 : decode cJ6_numberOfLeadingZeros_0f7a4 75 = .ok (.iconst 1, 1) := by decide +kernel
theorem dJ6_numberOfLeadingZeros_0f7a4_76 : decode cJ6_numberOfLeadingZeros_0f7a4 76 = .ok (.iushr, 1) := by decide +kernel
theorem dJ6_numberOfLeadingZeros_0f7a4_77 : decode cJ6_numberOfLeadingZeros_0f7a4 77 = .ok (.isub, 1) := by decide +kernel
theorem dJ6_numberOfLeadingZeros_0f7a4_78 : decode cJ6_numberOfLeadingZeros_0f7a4 78 = .ok (.ireturn, 1) := by decide +kernel
theorem dJ6_bitCount_0f7a4_0 : decode cJ6_bitCount_0f7a4 0 = .ok (.iload_n 0, 1) := by decide +kernel
theorem dJ6_bitCount_0f7a4_1 : decode cJ6_bitCount_0f7a4 1 = .ok (.iload_n 0, 1) := by decide +kernel
theorem dJ6_bitCount_0f7a4_2 : decode cJ6_bitCount_0f7a4 2 = .ok (.iconst 1, 1) := by decide +kernel
theorem dJ6_bitCount_0f7a4_3 : decode cJ6_bitCount_0f7a4 3 = .ok (.iushr, 1) := by decide +kernel
theorem dJ6_bitCount_0f7a4_4 : decode cJ6_bitCount_0f7a4 4 = .ok (.ldc_w 265, 3) := by decide +kernel
theorem dJ6_bitCount_0f7a4_7 : decode cJ6_bitCount_0f7a4 7 = .ok (.iand, 1) := by decide +kernel
theorem dJ6_bitCount_0f7a4_8 : decode cJ6_bitCount_0f7a4 8 = .ok (.isub, 1) := by decide +kernel
theorem dJ6_bitCount_0f7a4_9 : decode cJ6_bitCount_0f7a4 9 = .ok (.istore_n 0, 1) := by decide +kernel
theorem dJ6_bitCount_0f7a4_10 : decode cJ6_bitCount_0f7a4 10 = .ok (.iload_n 0, 1) := by decide +kernel
theorem dJ6_bitCount_0f7a4_11 : decode cJ6_bitCount_0f7a4 11 = .ok (.ldc_w 266, 3) := by decide +kernel
theorem dJ6_bitCount_0f7a4_14 : decode cJ6_bitCount_0f7a4 14 = .ok (.iand, 1) := by decide +kernel
theorem dJ6_bitCount_0f7a4_15 : decode cJ6_bitCount_0f7a4 15 = .ok (.iload_n 0, 1) := by decide +kernel
theorem dJ6_bitCount_0f7a4_16 : decode cJ6_bitCount_0f7a4 16 = .ok (.iconst 2, 1) := by decide +kernel
theorem dJ6_bitCount_0f7a4_17 : decode cJ6_bitCount_0f7a4 17 = .ok (.iushr, 1) := by decide +kernel
theorem dJ6_bitCount_0f7a4_18 : decode cJ6_bitCount_0f7a4 18 = .ok (.ldc_w 266, 3) := by decide +kernel
theorem dJ6_bitCount_0f7a4_21 : decode cJ6_bitCount_0f7a4 21 = .ok (.iand, 1) := by decide +kernel
theorem dJ6_bitCount_0f7a4_22 : decode cJ6_bitCount_0f7a4 22 = .ok (.iadd, 1) := by decide +kernel
theorem dJ6_bitCount_0f7a4_23 : decode cJ6_bitCount_0f7a4 23 = .ok (.istore_n 0, 1) := by decide +kernel
theorem dJ6_bitCount_0f7a4_24 : decode cJ6_bitCount_0f7a4 24 = .ok (.iload_n 0, 1) := by decide +kernel
theorem dJ6_bitCount_0f7a4_25 : decode cJ6_bitCount_0f7a4 25 = .ok (.iload_n 0, 1) := by decide +kernel
theorem dJ6_bitCount_0f7a4_26 : decode cJ6_bitCount_0f7a4 26 = .ok (.iconst 4, 1) := by decide +kernel
theorem dJ6_bitCount_0f7a4_27 : decode cJ6_bitCount_0f7a4 27 = .ok (.iushr, 1) := by decide +kernel
theorem dJ6_bitCount_0f7a4_28 : decode cJ6_bitCount_0f7a4 28 = .ok (.iadd, 1) := by decide +kernel
theorem dJ6_bitCount_0f7a4_29 : decode cJ6_bitCount_0f7a4 29 = .ok (.ldc_w 267, 3) := by decide +kernel
theorem dJ6_bitCount_0f7a4_32 : decode cJ6_bitCount_0f7a4 32 = .ok (.iand, 1) := by decide +kernel
theorem dJ6_bitCount_0f7a4_33 : decode cJ6_bitCount_0f7a4 33 = .ok (.istore_n 0, 1) := by decide +kernel
theorem dJ6_bitCount_0f7a4_34 : decode cJ6_bitCount_0f7a4 34 = .ok (.iload_n 0, 1) := by decide +kernel
theorem dJ6_bitCount_0f7a4_35 : decode cJ6_bitCount_0f7a4 35 = .ok (.iload_n 0, 1) := by decide +kernel
theorem dJ6_bitCount_0f7a4_36 : decode cJ6_bitCount_0f7a4 36 = .ok (.bipush 8, 2) := by decide +kernel
theorem dJ6_bitCount_0f7a4_38 : decode cJ6_bitCount_0f7a4 38 = .ok (.iushr, 1) := by decide +kernel
theorem dJ6_bitCount_0f7a4_39 : decode cJ6_bitCount_0f7a4 39 = .ok (.iadd, 1) := by decide +kernel
theorem dJ6_bitCount_0f7a4_40 : decode cJ6_bitCount_0f7a4 40 = .ok (.istore_n 0, 1) := by decide +kernel
theorem dJ6_bitCount_0f7a4_41 : decode cJ6_bitCount_0f7a4 41 = .ok (.iload_n 0, 1) := by decide +kernel
theorem dJ6_bitCount_0f7a4_42 : decode cJ6_bitCount_0f7a4 42 = .ok (.iload_n 0, 1) := by decide +kernel
theorem dJ6_bitCount_0f7a4_43 : decode cJ6_bitCount_0f7a4 43 = .ok (.bipush 16, 2) := by decide +kernel
theorem dJ6_bitCount_0f7a4_45 : decode cJ6_bitCount_0f7a4 45 = .ok (.iushr, 1) := by decide +kernel
theorem dJ6_bitCount_0f7a4_46 : decode cJ6_bitCount_0f7a4 46 = .ok (.iadd, 1) := by decide +kernel
theorem dJ6_bitCount_0f7a4_47 : decode cJ6_bitCount_0f7a4 47 = .ok (.istore_n 0, 1) := by decide +kernel
theorem dJ6_bitCount_0f7a4_48 : decode cJ6_bitCount_0f7a4 48 = .ok (.iload_n 0, 1) := by decide +kernel
theorem dJ6_bitCount_0f7a4_49 : decode cJ6_bitCount_0f7a4 49 = .ok (.bipush 63, 2) := by decide +kernel
theorem dJ6_bitCount_0f7a4_51 : decode cJ6_bitCount_0f7a4 51 = .ok (.iand, 1) := by decide +kernel
theorem dJ6_bitCount_0f7a4_52 : decode cJ6_bitCount_0f7a4 52 = .ok (.ireturn, 1) := by decide +kernel
