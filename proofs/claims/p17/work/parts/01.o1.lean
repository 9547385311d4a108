abbrev cX12_init : ByteArray := prog_14_method_1_code
def yX12_init : MethodName := ⟨RX12, "<init>", "(I)V"⟩
abbrev cX12_feed : ByteArray := prog_14_method_2_code
def yX12_feed : MethodName := ⟨RX12, "feed", "(IIIII)I"⟩
abbrev cX12_end : ByteArray := prog_14_method_3_code
def yX12_end : MethodName := ⟨RX12, "end", "(I)I"⟩
abbrev cX12_crcBegin : ByteArray := prog_14_method_6_code
def yX12_crcBegin : MethodName := ⟨RX12, "crcBegin", "()V"⟩
abbrev cX12_crcByte : ByteArray := prog_14_method_7_code
def yX12_crcByte : MethodName := ⟨RX12, "crcByte", "(I)V"⟩
abbrev cX12_crc : ByteArray := prog_14_method_9_code
def yX12_crc : MethodName := ⟨RX12, "crc", "()I"⟩
abbrev cX12_layHeader : ByteArray := prog_14_method_10_code
def yX12_layHeader : MethodName := ⟨RX12, "layHeader", "(III)V"⟩
abbrev cX12_addCell : ByteArray := prog_14_method_11_code
def yX12_addCell : MethodName := ⟨RX12, "addCell", "(II)V"⟩
abbrev cX12_cellsOf : ByteArray := prog_14_method_12_code
def yX12_cellsOf : MethodName := ⟨RX12, "cellsOf", "(I)I"⟩
abbrev cX12_closeFrame : ByteArray := prog_14_method_13_code
def yX12_closeFrame : MethodName := ⟨RX12, "closeFrame", "()V"⟩
abbrev cX12_layCell : ByteArray := prog_14_method_14_code
def yX12_layCell : MethodName := ⟨RX12, "layCell", "(IIZ)V"⟩
abbrev cX12_unitBegin : ByteArray := prog_14_method_15_code
def yX12_unitBegin : MethodName := ⟨RX12, "unitBegin", "()V"⟩
abbrev cX12_word : ByteArray := prog_14_method_16_code
def yX12_word : MethodName := ⟨RX12, "word", "(I)V"⟩
abbrev cX12_unitGo : ByteArray := prog_14_method_17_code
def yX12_unitGo : MethodName := ⟨RX12, "unitGo", "(III)V"⟩
abbrev cX12_outOf : ByteArray := prog_14_method_18_code
def yX12_outOf : MethodName := ⟨RX12, "outOf", "(I)I"⟩
abbrev cX12_sideOf : ByteArray := prog_14_method_19_code
def yX12_sideOf : MethodName := ⟨RX12, "sideOf", "(I)I"⟩
abbrev cX12_small : ByteArray := prog_14_method_20_code
def yX12_small : MethodName := ⟨RX12, "small", "(III)V"⟩
abbrev cX12_withMay : ByteArray := prog_14_method_21_code
def yX12_withMay : MethodName := ⟨RX12, "withMay", "(IIII)V"⟩
abbrev cX12_isDirection : ByteArray := prog_14_method_22_code
def yX12_isDirection : MethodName := ⟨RX12, "isDirection", "(I)Z"⟩
abbrev cX12_damage : ByteArray := prog_14_method_23_code
def yX12_damage : MethodName := ⟨RX12, "damage", "(IIIII)I"⟩
abbrev cX12_putOne : ByteArray := prog_14_method_24_code
def yX12_putOne : MethodName := ⟨RX12, "putOne", "(II)V"⟩
abbrev cX12_harm : ByteArray := prog_14_method_25_code
def yX12_harm : MethodName := ⟨RX12, "harm", "(III)V"⟩
abbrev cX12_octetsOf : ByteArray := prog_14_method_26_code
def yX12_octetsOf : MethodName := ⟨RX12, "octetsOf", "(I)I"⟩
abbrev cX12_huntAnew : ByteArray := prog_14_method_27_code
def yX12_huntAnew : MethodName := ⟨RX12, "huntAnew", "(I)V"⟩
abbrev cX12_octet : ByteArray := prog_14_method_28_code
def yX12_octet : MethodName := ⟨RX12, "octet", "(II)V"⟩
abbrev cX12_judge : ByteArray := prog_14_method_29_code
def yX12_judge : MethodName := ⟨RX12, "judge", "(II)V"⟩
abbrev cX12_checkWhole : ByteArray := prog_14_method_30_code
def yX12_checkWhole : MethodName := ⟨RX12, "checkWhole", "(I)I"⟩
abbrev cX12_dealWith : ByteArray := prog_14_method_31_code
def yX12_dealWith : MethodName := ⟨RX12, "dealWith", "(II)V"⟩
abbrev cX12_messageCell : ByteArray := prog_14_method_32_code
def yX12_messageCell : MethodName := ⟨RX12, "messageCell", "(III)V"⟩
abbrev cX12_switchCell : ByteArray := prog_14_method_33_code
def yX12_switchCell : MethodName := ⟨RX12, "switchCell", "(IIII)V"⟩
abbrev cX12_endCell : ByteArray := prog_14_method_34_code
def yX12_endCell : MethodName := ⟨RX12, "endCell", "(IIII)V"⟩
abbrev cX12_receive : ByteArray := prog_14_method_35_code
def yX12_receive : MethodName := ⟨RX12, "receive", "(III)V"⟩
abbrev cX12_isReceived : ByteArray := prog_14_method_36_code
def yX12_isReceived : MethodName := ⟨RX12, "isReceived", "(II)Z"⟩
abbrev cX12_received : ByteArray := prog_14_method_37_code
def yX12_received : MethodName := ⟨RX12, "received", "(III)I"⟩
abbrev cX12_byteOf : ByteArray := prog_14_method_38_code
def yX12_byteOf : MethodName := ⟨RX12, "byteOf", "(III)I"⟩
abbrev cX12_anew : ByteArray := prog_14_method_39_code
def yX12_anew : MethodName := ⟨RX12, "anew", "(II)V"⟩
abbrev cX12_ready : ByteArray := prog_14_method_40_code
def yX12_ready : MethodName := ⟨RX12, "ready", "(II)V"⟩
abbrev cX12_cut : ByteArray := prog_14_method_41_code
def yX12_cut : MethodName := ⟨RX12, "cut", "(I)V"⟩
abbrev cX12_ask : ByteArray := prog_14_method_42_code
def yX12_ask : MethodName := ⟨RX12, "ask", "(II)V"⟩
abbrev cX12_askAgain : ByteArray := prog_14_method_43_code
def yX12_askAgain : MethodName := ⟨RX12, "askAgain", "(I)V"⟩
abbrev cX12_askReset : ByteArray := prog_14_method_44_code
def yX12_askReset : MethodName := ⟨RX12, "askReset", "(IZ)V"⟩
abbrev cX12_byteOfWord : ByteArray := prog_14_method_45_code
def yX12_byteOfWord : MethodName := ⟨RX12, "byteOfWord", "(I)I"⟩
abbrev cX12_unit : ByteArray := prog_14_method_46_code
def yX12_unit : MethodName := ⟨RX12, "unit", "(I)V"⟩
abbrev cX12_begin : ByteArray := prog_14_method_47_code
def yX12_begin : MethodName := ⟨RX12, "begin", "(III)V"⟩
abbrev cX12_resetCame : ByteArray := prog_14_method_48_code
def yX12_resetCame : MethodName := ⟨RX12, "resetCame", "(IIII)V"⟩
abbrev cX12_readyUnit : ByteArray := prog_14_method_49_code
def yX12_readyUnit : MethodName := ⟨RX12, "readyUnit", "(IIIII)V"⟩
abbrev cX12_data : ByteArray := prog_14_method_50_code
def yX12_data : MethodName := ⟨RX12, "data", "(II)V"⟩
abbrev cX12_takeAhead : ByteArray := prog_14_method_51_code
def yX12_takeAhead : MethodName := ⟨RX12, "takeAhead", "(I)V"⟩
abbrev cX12_poll : ByteArray := prog_14_method_52_code
def yX12_poll : MethodName := ⟨RX12, "poll", "(III)V"⟩
abbrev cX12_acknowledge : ByteArray := prog_14_method_53_code
def yX12_acknowledge : MethodName := ⟨RX12, "acknowledge", "(II)V"⟩
abbrev cX12_status : ByteArray := prog_14_method_54_code
def yX12_status : MethodName := ⟨RX12, "status", "(IIII)V"⟩
abbrev cX12_gap : ByteArray := prog_14_method_55_code
def yX12_gap : MethodName := ⟨RX12, "gap", "(III)V"⟩
abbrev cX12_sendPoll : ByteArray := prog_14_method_56_code
def yX12_sendPoll : MethodName := ⟨RX12, "sendPoll", "(I)V"⟩
abbrev cX12_sendData : ByteArray := prog_14_method_57_code
def yX12_sendData : MethodName := ⟨RX12, "sendData", "(II)V"⟩
abbrev cX12_lineTimers : ByteArray := prog_14_method_58_code
def yX12_lineTimers : MethodName := ⟨RX12, "lineTimers", "(I)V"⟩
abbrev cX12_lineTurn : ByteArray := prog_14_method_59_code
def yX12_lineTurn : MethodName := ⟨RX12, "lineTurn", "(I)V"⟩
abbrev cX12_dropWaiting : ByteArray := prog_14_method_60_code
def yX12_dropWaiting : MethodName := ⟨RX12, "dropWaiting", "(I)V"⟩
abbrev cX12_isSide : ByteArray := prog_14_method_61_code
def yX12_isSide : MethodName := ⟨RX12, "isSide", "(I)Z"⟩
abbrev cX12_line : ByteArray := prog_14_method_62_code
def yX12_line : MethodName := ⟨RX12, "line", "(II)I"⟩
abbrev cX12_aheadOf : ByteArray := prog_14_method_63_code
def yX12_aheadOf : MethodName := ⟨RX12, "aheadOf", "(I)I"⟩
abbrev cX12_reset : ByteArray := prog_14_method_64_code
def yX12_reset : MethodName := ⟨RX12, "reset", "(I)I"⟩
abbrev cX12_quit : ByteArray := prog_14_method_65_code
def yX12_quit : MethodName := ⟨RX12, "quit", "(I)I"⟩
abbrev cX12_isEnd : ByteArray := prog_14_method_66_code
def yX12_isEnd : MethodName := ⟨RX12, "isEnd", "(I)Z"⟩
abbrev cX12_openCalls : ByteArray := prog_14_method_67_code
def yX12_openCalls : MethodName := ⟨RX12, "openCalls", "(I)I"⟩
abbrev cX12_ratesOf : ByteArray := prog_14_method_68_code
def yX12_ratesOf : MethodName := ⟨RX12, "ratesOf", "(I)I"⟩
abbrev cX12_callAt : ByteArray := prog_14_method_69_code
def yX12_callAt : MethodName := ⟨RX12, "callAt", "(IZI)I"⟩
abbrev cX12_channelAt : ByteArray := prog_14_method_70_code
def yX12_channelAt : MethodName := ⟨RX12, "channelAt", "(II)I"⟩
abbrev cX12_activeAt : ByteArray := prog_14_method_71_code
def yX12_activeAt : MethodName := ⟨RX12, "activeAt", "(II)I"⟩
abbrev cX12_freeChannel : ByteArray := prog_14_method_72_code
def yX12_freeChannel : MethodName := ⟨RX12, "freeChannel", "(I)I"⟩
abbrev cX12_newCall : ByteArray := prog_14_method_73_code
def yX12_newCall : MethodName := ⟨RX12, "newCall", "(IIZI)I"⟩
abbrev cX12_joinedWith : ByteArray := prog_14_method_74_code
def yX12_joinedWith : MethodName := ⟨RX12, "joinedWith", "(I)I"⟩
abbrev cX12_textByte : ByteArray := prog_14_method_75_code
def yX12_textByte : MethodName := ⟨RX12, "textByte", "(I)V"⟩
abbrev cX12_beginText : ByteArray := prog_14_method_76_code
def yX12_beginText : MethodName := ⟨RX12, "beginText", "(ZIII)V"⟩
abbrev cX12_element : ByteArray := prog_14_method_77_code
def yX12_element : MethodName := ⟨RX12, "element", "(III)V"⟩
abbrev cX12_sendText : ByteArray := prog_14_method_78_code
def yX12_sendText : MethodName := ⟨RX12, "sendText", "(I)V"⟩
abbrev cX12_plain : ByteArray := prog_14_method_79_code
def yX12_plain : MethodName := ⟨RX12, "plain", "(II)V"⟩
abbrev cX12_withCause : ByteArray := prog_14_method_80_code
def yX12_withCause : MethodName := ⟨RX12, "withCause", "(IZIII)V"⟩
abbrev cX12_sendSetup : ByteArray := prog_14_method_81_code
def yX12_sendSetup : MethodName := ⟨RX12, "sendSetup", "(I)V"⟩
abbrev cX12_dropFrames : ByteArray := prog_14_method_82_code
def yX12_dropFrames : MethodName := ⟨RX12, "dropFrames", "(I)V"⟩
abbrev cX12_over : ByteArray := prog_14_method_83_code
def yX12_over : MethodName := ⟨RX12, "over", "(II)V"⟩
abbrev cX12_release : ByteArray := prog_14_method_84_code
def yX12_release : MethodName := ⟨RX12, "release", "(II)V"⟩
abbrev cX12_releaseOther : ByteArray := prog_14_method_85_code
def yX12_releaseOther : MethodName := ⟨RX12, "releaseOther", "(II)V"⟩
abbrev cX12_nextCall : ByteArray := prog_14_method_86_code
def yX12_nextCall : MethodName := ⟨RX12, "nextCall", "(II)I"⟩
abbrev cX12_cutCalls : ByteArray := prog_14_method_87_code
def yX12_cutCalls : MethodName := ⟨RX12, "cutCalls", "(I)V"⟩
abbrev cX12_callTimers : ByteArray := prog_14_method_88_code
def yX12_callTimers : MethodName := ⟨RX12, "callTimers", "(I)V"⟩
abbrev cX12_callTimer : ByteArray := prog_14_method_89_code
def yX12_callTimer : MethodName := ⟨RX12, "callTimer", "(II)V"⟩
abbrev cX12_repeatSetup : ByteArray := prog_14_method_90_code
def yX12_repeatSetup : MethodName := ⟨RX12, "repeatSetup", "(II)V"⟩
abbrev cX12_answer : ByteArray := prog_14_method_91_code
def yX12_answer : MethodName := ⟨RX12, "answer", "(I)V"⟩
abbrev cX12_found : ByteArray := prog_14_method_92_code
def yX12_found : MethodName := ⟨RX12, "found", "(II)I"⟩
abbrev cX12_elementAt : ByteArray := prog_14_method_93_code
def yX12_elementAt : MethodName := ⟨RX12, "elementAt", "(IIII)I"⟩
abbrev cX12_isFormed : ByteArray := prog_14_method_94_code
def yX12_isFormed : MethodName := ⟨RX12, "isFormed", "(IZ)Z"⟩
abbrev cX12_message : ByteArray := prog_14_method_95_code
def yX12_message : MethodName := ⟨RX12, "message", "(II)V"⟩
abbrev cX12_setupAtEnd : ByteArray := prog_14_method_96_code
def yX12_setupAtEnd : MethodName := ⟨RX12, "setupAtEnd", "(IIIII)V"⟩
abbrev cX12_endMessage : ByteArray := prog_14_method_97_code
def yX12_endMessage : MethodName := ⟨RX12, "endMessage", "(III)V"⟩
abbrev cX12_setupAtSwitch : ByteArray := prog_14_method_98_code
def yX12_setupAtSwitch : MethodName := ⟨RX12, "setupAtSwitch", "(IIII)V"⟩
abbrev cX12_switchMessage : ByteArray := prog_14_method_99_code
def yX12_switchMessage : MethodName := ⟨RX12, "switchMessage", "(II)V"⟩
abbrev cX12_call : ByteArray := prog_14_method_100_code
def yX12_call : MethodName := ⟨RX12, "call", "(III)I"⟩
abbrev cX12_isCall : ByteArray := prog_14_method_101_code
def yX12_isCall : MethodName := ⟨RX12, "isCall", "(II)Z"⟩
abbrev cX12_hang : ByteArray := prog_14_method_102_code
def yX12_hang : MethodName := ⟨RX12, "hang", "(II)I"⟩
abbrev cX12_policy : ByteArray := prog_14_method_103_code
def yX12_policy : MethodName := ⟨RX12, "policy", "(III)I"⟩
abbrev cX12_send : ByteArray := prog_14_method_104_code
def yX12_send : MethodName := ⟨RX12, "send", "(II)I"⟩
abbrev cX12_about : ByteArray := prog_14_method_105_code
def yX12_about : MethodName := ⟨RX12, "about", "(III)I"⟩
abbrev cX12_calls : ByteArray := prog_14_method_106_code
def yX12_calls : MethodName := ⟨RX12, "calls", "(I)I"⟩
abbrev cX12_link : ByteArray := prog_14_method_107_code
def yX12_link : MethodName := ⟨RX12, "link", "(III)I"⟩
abbrev cX12_direction : ByteArray := prog_14_method_108_code
def yX12_direction : MethodName := ⟨RX12, "direction", "(II)I"⟩
abbrev cX12_count : ByteArray := prog_14_method_109_code
def yX12_count : MethodName := ⟨RX12, "count", "(I)I"⟩
abbrev cX12_sendCells : ByteArray := prog_14_method_110_code
def yX12_sendCells : MethodName := ⟨RX12, "sendCells", "(II)V"⟩
abbrev cX12_dropFirst : ByteArray := prog_14_method_111_code
def yX12_dropFirst : MethodName := ⟨RX12, "dropFirst", "(I)V"⟩
abbrev cX12_oneTick : ByteArray := prog_14_method_112_code
def yX12_oneTick : MethodName := ⟨RX12, "oneTick", "()V"⟩
abbrev cX12_tick : ByteArray := prog_14_method_113_code
def yX12_tick : MethodName := ⟨RX12, "tick", "(I)I"⟩
theorem dX12_init_0 : decode cX12_init 0 = .ok (.aload_n 0, 1) := by decide +kernel
theorem dX12_init_1 : decode cX12_init 1 = .ok (.invokespecial 1, 3) := by decide +kernel
theorem dX12_init_4 : decode cX12_init 4 = .ok (.aload_n 0, 1) := by decide +kernel
theorem dX12_init_5 : decode cX12_init 5 = .ok (.sipush 220, 3) := by decide +kernel
theorem dX12_init_8 : decode cX12_init 8 = .ok (.newarray .int, 2) := by decide +kernel
theorem dX12_init_10 : decode cX12_init 10 = .ok (.putfield 7, 3) := by decide +kernel
theorem dX12_init_13 : decode cX12_init 13 = .ok (.aload_n 0, 1) := by decide +kernel
theorem dX12_init_14 : decode cX12_init 14 = .ok (.ldc 13, 2) := by decide +kernel
theorem dX12_init_16 : decode cX12_init 16 = .ok (.newarray .int, 2) := by decide +kernel
theorem dX12_init_18 : decode cX12_init 18 = .ok (.putfield 14, 3) := by decide +kernel
theorem dX12_init_21 : decode cX12_init 21 = .ok (.aload_n 0, 1) := by decide +kernel
theorem dX12_init_22 : decode cX12_init 22 = .ok (.bipush 16, 2) := by decide +kernel
theorem dX12_init_24 : decode cX12_init 24 = .ok (.newarray .int, 2) := by decide +kernel
theorem dX12_init_26 : decode cX12_init 26 = .ok (.putfield 17, 3) := by decide +kernel
theorem dX12_init_29 : decode cX12_init 29 = .ok (.aload_n 0, 1) := by decide +kernel
theorem dX12_init_30 : decode cX12_init 30 = .ok (.bipush 16, 2) := by decide +kernel
theorem dX12_init_32 : decode cX12_init 32 = .ok (.newarray .int, 2) := by decide +kernel
theorem dX12_init_34 : decode cX12_init 34 = .ok (.putfield 20, 3) := by decide +kernel
theorem dX12_init_37 : decode cX12_init 37 = .ok (.aload_n 0, 1) := by decide +kernel
theorem dX12_init_38 : decode cX12_init 38 = .ok (.bipush 8, 2) := by decide +kernel
theorem dX12_init_40 : decode cX12_init 40 = .ok (.newarray .int, 2) := by decide +kernel
theorem dX12_init_42 : decode cX12_init 42 = .ok (.putfield 23, 3) := by decide +kernel
theorem dX12_init_45 : decode cX12_init 45 = .ok (.aload_n 0, 1) := by decide +kernel
theorem dX12_init_46 : decode cX12_init 46 = .ok (.bipush 53, 2) := by decide +kernel
theorem dX12_init_48 : decode cX12_init 48 = .ok (.newarray .int, 2) := by decide +kernel
theorem dX12_init_50 : decode cX12_init 50 = .ok (.putfield 26, 3) := by decide +kernel
theorem dX12_init_53 : decode cX12_init 53 = .ok (.aload_n 0, 1) := by decide +kernel
theorem dX12_init_54 : decode cX12_init 54 = .ok (.sipush 260, 3) := by decide +kernel
theorem dX12_init_57 : decode cX12_init 57 = .ok (.newarray .int, 2) := by decide +kernel
theorem dX12_init_59 : decode cX12_init 59 = .ok (.putfield 29, 3) := by decide +kernel
theorem dX12_init_62 : decode cX12_init 62 = .ok (.aload_n 0, 1) := by decide +kernel
theorem dX12_init_63 : decode cX12_init 63 = .ok (.bipush 64, 2) := by decide +kernel
theorem dX12_init_65 : decode cX12_init 65 = .ok (.newarray .int, 2) := by decide +kernel
theorem dX12_init_67 : decode cX12_init 67 = .ok (.putfield 32, 3) := by decide +kernel
theorem dX12_init_70 : decode cX12_init 70 = .ok (.aload_n 0, 1) := by decide +kernel
theorem dX12_init_71 : decode cX12_init 71 = .ok (.bipush 64, 2) := by decide +kernel
theorem dX12_init_73 : decode cX12_init 73 = .ok (.newarray .int, 2) := by decide +kernel
theorem dX12_init_75 : decode cX12_init 75 = .ok (.putfield 35, 3) := by decide +kernel
theorem dX12_init_78 : decode cX12_init 78 = .ok (.aload_n 0, 1) := by decide +kernel
theorem dX12_init_79 : decode cX12_init 79 = .ok (.bipush 64, 2) := by decide +kernel
theorem dX12_init_81 : decode cX12_init 81 = .ok (.newarray .int, 2) := by decide +kernel
theorem dX12_init_83 : decode cX12_init 83 = .ok (.putfield 38, 3) := by decide +kernel
theorem dX12_init_86 : decode cX12_init 86 = .ok (.aload_n 0, 1) := by decide +kernel
theorem dX12_init_87 : decode cX12_init 87 = .ok (.bipush 64, 2) := by decide +kernel
theorem dX12_init_89 : decode cX12_init 89 = .ok (.newarray .int, 2) := by decide +kernel
theorem dX12_init_91 : decode cX12_init 91 = .ok (.putfield 41, 3) := by decide +kernel
theorem dX12_init_94 : decode cX12_init 94 = .ok (.aload_n 0, 1) := by decide +kernel
theorem dX12_init_95 : decode cX12_init 95 = .ok (.bipush 8, 2) := by decide +kernel
theorem dX12_init_97 : decode cX12_init 97 = .ok (.newarray .int, 2) := by decide +kernel
theorem dX12_init_99 : decode cX12_init 99 = .ok (.putfield 44, 3) := by decide +kernel
theorem dX12_init_102 : decode cX12_init 102 = .ok (.aload_n 0, 1) := by decide +kernel
theorem dX12_init_103 : decode cX12_init 103 = .ok (.sipush 1696, 3) := by decide +kernel
theorem dX12_init_106 : decode cX12_init 106 = .ok (.newarray .int, 2) := by decide +kernel
theorem dX12_init_108 : decode cX12_init 108 = .ok (.putfield 47, 3) := by decide +kernel
theorem dX12_init_111 : decode cX12_init 111 = .ok (.aload_n 0, 1) := by decide +kernel
theorem dX12_init_112 : decode cX12_init 112 = .ok (.bipush 32, 2) := by decide +kernel
theorem dX12_init_114 : decode cX12_init 114 = .ok (.newarray .int, 2) := by decide +kernel
theorem dX12_init_116 : decode cX12_init 116 = .ok (.putfield 50, 3) := by decide +kernel
theorem dX12_init_119 : decode cX12_init 119 = .ok (.aload_n 0, 1) := by decide +kernel
theorem dX12_init_120 : decode cX12_init 120 = .ok (.bipush 8, 2) := by decide +kernel
theorem dX12_init_122 : decode cX12_init 122 = .ok (.newarray .int, 2) := by decide +kernel
theorem dX12_init_124 : decode cX12_init 124 = .ok (.putfield 53, 3) := by decide +kernel
theorem dX12_init_127 : decode cX12_init 127 = .ok (.aload_n 0, 1) := by decide +kernel
theorem dX12_init_128 : decode cX12_init 128 = .ok (.bipush 8, 2) := by decide +kernel
theorem dX12_init_130 : decode cX12_init 130 = .ok (.newarray .int, 2) := by decide +kernel
theorem dX12_init_132 : decode cX12_init 132 = .ok (.putfield 56, 3) := by decide +kernel
theorem dX12_init_135 : decode cX12_init 135 = .ok (.aload_n 0, 1) := by decide +kernel
theorem dX12_init_136 : decode cX12_init 136 = .ok (.bipush 8, 2) := by decide +kernel
theorem dX12_init_138 : decode cX12_init 138 = .ok (.newarray .int, 2) := by decide +kernel
theorem dX12_init_140 : decode cX12_init 140 = .ok (.putfield 59, 3) := by decide +kernel
theorem dX12_init_143 : decode cX12_init 143 = .ok (.aload_n 0, 1) := by decide +kernel
theorem dX12_init_144 : decode cX12_init 144 = .ok (.bipush 8, 2) := by decide +kernel
theorem dX12_init_146 : decode cX12_init 146 = .ok (.newarray .int, 2) := by decide +kernel
theorem dX12_init_148 : decode cX12_init 148 = .ok (.putfield 62, 3) := by decide +kernel
theorem dX12_init_151 : decode cX12_init 151 = .ok (.aload_n 0, 1) := by decide +kernel
theorem dX12_init_152 : decode cX12_init 152 = .ok (.bipush 8, 2) := by decide +kernel
theorem dX12_init_154 : decode cX12_init 154 = .ok (.newarray .int, 2) := by decide +kernel
theorem dX12_init_156 : decode cX12_init 156 = .ok (.putfield 65, 3) := by decide +kernel
theorem dX12_init_159 : decode cX12_init 159 = .ok (.aload_n 0, 1) := by decide +kernel
theorem dX12_init_160 : decode cX12_init 160 = .ok (.sipush 424, 3) := by decide +kernel
theorem dX12_init_163 : decode cX12_init 163 = .ok (.newarray .int, 2) := by decide +kernel
theorem dX12_init_165 : decode cX12_init 165 = .ok (.putfield 68, 3) := by decide +kernel
theorem dX12_init_168 : decode cX12_init 168 = .ok (.aload_n 0, 1) := by decide +kernel
theorem dX12_init_169 : decode cX12_init 169 = .ok (.bipush 8, 2) := by decide +kernel
theorem dX12_init_171 : decode cX12_init 171 = .ok (.newarray .int, 2) := by decide +kernel
theorem dX12_init_173 : decode cX12_init 173 = .ok (.putfield 71, 3) := by decide +kernel
theorem dX12_init_176 : decode cX12_init 176 = .ok (.aload_n 0, 1) := by decide +kernel
theorem dX12_init_177 : decode cX12_init 177 = .ok (.bipush 8, 2) := by decide +kernel
theorem dX12_init_179 : decode cX12_init 179 = .ok (.newarray .int, 2) := by decide +kernel
theorem dX12_init_181 : decode cX12_init 181 = .ok (.putfield 74, 3) := by decide +kernel
theorem dX12_init_184 : decode cX12_init 184 = .ok (.aload_n 0, 1) := by decide +kernel
theorem dX12_init_185 : decode cX12_init 185 = .ok (.bipush 8, 2) := by decide +kernel
theorem dX12_init_187 : decode cX12_init 187 = .ok (.newarray .int, 2) := by decide +kernel
theorem dX12_init_189 : decode cX12_init 189 = .ok (.putfield 77, 3) := by decide +kernel
theorem dX12_init_192 : decode cX12_init 192 = .ok (.aload_n 0, 1) := by decide +kernel
theorem dX12_init_193 : decode cX12_init 193 = .ok (.bipush 8, 2) := by decide +kernel
theorem dX12_init_195 : decode cX12_init 195 = .ok (.newarray .int, 2) := by decide +kernel
theorem dX12_init_197 : decode cX12_init 197 = .ok (.putfield 80, 3) := by decide +kernel
theorem dX12_init_200 : decode cX12_init 200 = .ok (.aload_n 0, 1) := by decide +kernel
theorem dX12_init_201 : decode cX12_init 201 = .ok (.sipush 1920, 3) := by decide +kernel
theorem dX12_init_204 : decode cX12_init 204 = .ok (.newarray .int, 2) := by decide +kernel
theorem dX12_init_206 : decode cX12_init 206 = .ok (.putfield 83, 3) := by decide +kernel
theorem dX12_init_209 : decode cX12_init 209 = .ok (.aload_n 0, 1) := by decide +kernel
theorem dX12_init_210 : decode cX12_init 210 = .ok (.bipush 8, 2) := by decide +kernel
theorem dX12_init_212 : decode cX12_init 212 = .ok (.newarray .int, 2) := by decide +kernel
theorem dX12_init_214 : decode cX12_init 214 = .ok (.putfield 86, 3) := by decide +kernel
theorem dX12_init_217 : decode cX12_init 217 = .ok (.aload_n 0, 1) := by decide +kernel
theorem dX12_init_218 : decode cX12_init 218 = .ok (.sipush 240, 3) := by decide +kernel
theorem dX12_init_221 : decode cX12_init 221 = .ok (.newarray .int, 2) := by decide +kernel
theorem dX12_init_223 : decode cX12_init 223 = .ok (.putfield 89, 3) := by decide +kernel
theorem dX12_init_226 : decode cX12_init 226 = .ok (.aload_n 0, 1) := by decide +kernel
theorem dX12_init_227 : decode cX12_init 227 = .ok (.bipush 80, 2) := by decide +kernel
theorem dX12_init_229 : decode cX12_init 229 = .ok (.newarray .int, 2) := by decide +kernel
theorem dX12_init_231 : decode cX12_init 231 = .ok (.putfield 92, 3) := by decide +kernel
theorem dX12_init_234 : decode cX12_init 234 = .ok (.aload_n 0, 1) := by decide +kernel
theorem dX12_init_235 : decode cX12_init 235 = .ok (.bipush 80, 2) := by decide +kernel
theorem dX12_init_237 : decode cX12_init 237 = .ok (.newarray .int, 2) := by decide +kernel
theorem dX12_init_239 : decode cX12_init 239 = .ok (.putfield 95, 3) := by decide +kernel
theorem dX12_init_242 : decode cX12_init 242 = .ok (.aload_n 0, 1) := by decide +kernel
theorem dX12_init_243 : decode cX12_init 243 = .ok (.bipush 80, 2) := by decide +kernel
theorem dX12_init_245 : decode cX12_init 245 = .ok (.newarray .int, 2) := by decide +kernel
theorem dX12_init_247 : decode cX12_init 247 = .ok (.putfield 98, 3) := by decide +kernel
theorem dX12_init_250 : decode cX12_init 250 = .ok (.aload_n 0, 1) := by decide +kernel
theorem dX12_init_251 : decode cX12_init 251 = .ok (.sipush 16000, 3) := by decide +kernel
theorem dX12_init_254 : decode cX12_init 254 = .ok (.newarray .int, 2) := by decide +kernel
theorem dX12_init_256 : decode cX12_init 256 = .ok (.putfield 101, 3) := by decide +kernel
theorem dX12_init_259 : decode cX12_init 259 = .ok (.aload_n 0, 1) := by decide +kernel
theorem dX12_init_260 : decode cX12_init 260 = .ok (.iconst 4, 1) := by decide +kernel
theorem dX12_init_261 : decode cX12_init 261 = .ok (.newarray .int, 2) := by decide +kernel
theorem dX12_init_263 : decode cX12_init 263 = .ok (.putfield 104, 3) := by decide +kernel
theorem dX12_init_266 : decode cX12_init 266 = .ok (.aload_n 0, 1) := by decide +kernel
theorem dX12_init_267 : decode cX12_init 267 = .ok (.bipush 8, 2) := by decide +kernel
theorem dX12_init_269 : decode cX12_init 269 = .ok (.newarray .int, 2) := by decide +kernel
theorem dX12_init_271 : decode cX12_init 271 = .ok (.putfield 107, 3) := by decide +kernel
theorem dX12_init_274 : decode cX12_init 274 = .ok (.aload_n 0, 1) := by decide +kernel
theorem dX12_init_275 : decode cX12_init 275 = .ok (.bipush 8, 2) := by decide +kernel
theorem dX12_init_277 : decode cX12_init 277 = .ok (.newarray .int, 2) := by decide +kernel
theorem dX12_init_279 : decode cX12_init 279 = .ok (.putfield 110, 3) := by decide +kernel
theorem dX12_init_282 : decode cX12_init 282 = .ok (.aload_n 0, 1) := by decide +kernel
theorem dX12_init_283 : decode cX12_init 283 = .ok (.bipush 8, 2) := by decide +kernel
theorem dX12_init_285 : decode cX12_init 285 = .ok (.newarray .int, 2) := by decide +kernel
theorem dX12_init_287 : decode cX12_init 287 = .ok (.putfield 113, 3) := by decide +kernel
theorem dX12_init_290 : decode cX12_init 290 = .ok (.aload_n 0, 1) := by decide +kernel
theorem dX12_init_291 : decode cX12_init 291 = .ok (.bipush 8, 2) := by decide +kernel
theorem dX12_init_293 : decode cX12_init 293 = .ok (.newarray .int, 2) := by decide +kernel
theorem dX12_init_295 : decode cX12_init 295 = .ok (.putfield 116, 3) := by decide +kernel
theorem dX12_init_298 : decode cX12_init 298 = .ok (.aload_n 0, 1) := by decide +kernel
theorem dX12_init_299 : decode cX12_init 299 = .ok (.bipush 8, 2) := by decide +kernel
theorem dX12_init_301 : decode cX12_init 301 = .ok (.newarray .int, 2) := by decide +kernel
theorem dX12_init_303 : decode cX12_init 303 = .ok (.putfield 119, 3) := by decide +kernel
theorem dX12_init_306 : decode cX12_init 306 = .ok (.aload_n 0, 1) := by decide +kernel
theorem dX12_init_307 : decode cX12_init 307 = .ok (.bipush 8, 2) := by decide +kernel
theorem dX12_init_309 : decode cX12_init 309 = .ok (.newarray .int, 2) := by decide +kernel
theorem dX12_init_311 : decode cX12_init 311 = .ok (.putfield 122, 3) := by decide +kernel
theorem dX12_init_314 : decode cX12_init 314 = .ok (.aload_n 0, 1) := by decide +kernel
theorem dX12_init_315 : decode cX12_init 315 = .ok (.bipush 8, 2) := by decide +kernel
theorem dX12_init_317 : decode cX12_init 317 = .ok (.newarray .int, 2) := by decide +kernel
theorem dX12_init_319 : decode cX12_init 319 = .ok (.putfield 125, 3) := by decide +kernel
theorem dX12_init_322 : decode cX12_init 322 = .ok (.aload_n 0, 1) := by decide +kernel
theorem dX12_init_323 : decode cX12_init 323 = .ok (.bipush 8, 2) := by decide +kernel
theorem dX12_init_325 : decode cX12_init 325 = .ok (.newarray .int, 2) := by decide +kernel
theorem dX12_init_327 : decode cX12_init 327 = .ok (.putfield 128, 3) := by decide +kernel
theorem dX12_init_330 : decode cX12_init 330 = .ok (.aload_n 0, 1) := by decide +kernel
theorem dX12_init_331 : decode cX12_init 331 = .ok (.bipush 8, 2) := by decide +kernel
theorem dX12_init_333 : decode cX12_init 333 = .ok (.newarray .int, 2) := by decide +kernel
theorem dX12_init_335 : decode cX12_init 335 = .ok (.putfield 131, 3) := by decide +kernel
theorem dX12_init_338 : decode cX12_init 338 = .ok (.aload_n 0, 1) := by decide +kernel
theorem dX12_init_339 : decode cX12_init 339 = .ok (.bipush 8, 2) := by decide +kernel
theorem dX12_init_341 : decode cX12_init 341 = .ok (.newarray .int, 2) := by decide +kernel
theorem dX12_init_343 : decode cX12_init 343 = .ok (.putfield 134, 3) := by decide +kernel
theorem dX12_init_346 : decode cX12_init 346 = .ok (.aload_n 0, 1) := by decide +kernel
theorem dX12_init_347 : decode cX12_init 347 = .ok (.bipush 8, 2) := by decide +kernel
theorem dX12_init_349 : decode cX12_init 349 = .ok (.newarray .int, 2) := by decide +kernel
theorem dX12_init_351 : decode cX12_init 351 = .ok (.putfield 137, 3) := by decide +kernel
theorem dX12_init_354 : decode cX12_init 354 = .ok (.aload_n 0, 1) := by decide +kernel
theorem dX12_init_355 : decode cX12_init 355 = .ok (.bipush 8, 2) := by decide +kernel
theorem dX12_init_357 : decode cX12_init 357 = .ok (.newarray .int, 2) := by decide +kernel
theorem dX12_init_359 : decode cX12_init 359 = .ok (.putfield 140, 3) := by decide +kernel
theorem dX12_init_362 : decode cX12_init 362 = .ok (.aload_n 0, 1) := by decide +kernel
theorem dX12_init_363 : decode cX12_init 363 = .ok (.bipush 8, 2) := by decide +kernel
theorem dX12_init_365 : decode cX12_init 365 = .ok (.newarray .int, 2) := by decide +kernel
theorem dX12_init_367 : decode cX12_init 367 = .ok (.putfield 143, 3) := by decide +kernel
theorem dX12_init_370 : decode cX12_init 370 = .ok (.aload_n 0, 1) := by decide +kernel
theorem dX12_init_371 : decode cX12_init 371 = .ok (.bipush 8, 2) := by decide +kernel
theorem dX12_init_373 : decode cX12_init 373 = .ok (.newarray .int, 2) := by decide +kernel
theorem dX12_init_375 : decode cX12_init 375 = .ok (.putfield 146, 3) := by decide +kernel
theorem dX12_init_378 : decode cX12_init 378 = .ok (.aload_n 0, 1) := by decide +kernel
theorem dX12_init_379 : decode cX12_init 379 = .ok (.bipush 8, 2) := by decide +kernel
theorem dX12_init_381 : decode cX12_init 381 = .ok (.newarray .boolean, 2) := by decide +kernel
theorem dX12_init_383 : decode cX12_init 383 = .ok (.putfield 149, 3) := by decide +kernel
theorem dX12_init_386 : decode cX12_init 386 = .ok (.aload_n 0, 1) := by decide +kernel
theorem dX12_init_387 : decode cX12_init 387 = .ok (.bipush 8, 2) := by decide +kernel
theorem dX12_init_389 : decode cX12_init 389 = .ok (.newarray .int, 2) := by decide +kernel
theorem dX12_init_391 : decode cX12_init 391 = .ok (.putfield 153, 3) := by decide +kernel
theorem dX12_init_394 : decode cX12_init 394 = .ok (.aload_n 0, 1) := by decide +kernel
theorem dX12_init_395 : decode cX12_init 395 = .ok (.bipush 8, 2) := by decide +kernel
theorem dX12_init_397 : decode cX12_init 397 = .ok (.newarray .int, 2) := by decide +kernel
theorem dX12_init_399 : decode cX12_init 399 = .ok (.putfield 156, 3) := by decide +kernel
theorem dX12_init_402 : decode cX12_init 402 = .ok (.aload_n 0, 1) := by decide +kernel
theorem dX12_init_403 : decode cX12_init 403 = .ok (.bipush 8, 2) := by decide +kernel
theorem dX12_init_405 : decode cX12_init 405 = .ok (.newarray .int, 2) := by decide +kernel
theorem dX12_init_407 : decode cX12_init 407 = .ok (.putfield 159, 3) := by decide +kernel
theorem dX12_init_410 : decode cX12_init 410 = .ok (.aload_n 0, 1) := by decide +kernel
theorem dX12_init_411 : decode cX12_init 411 = .ok (.sipush 4800, 3) := by decide +kernel
theorem dX12_init_414 : decode cX12_init 414 = .ok (.newarray .int, 2) := by decide +kernel
theorem dX12_init_416 : decode cX12_init 416 = .ok (.putfield 162, 3) := by decide +kernel
theorem dX12_init_419 : decode cX12_init 419 = .ok (.aload_n 0, 1) := by decide +kernel
theorem dX12_init_420 : decode cX12_init 420 = .ok (.bipush 80, 2) := by decide +kernel
theorem dX12_init_422 : decode cX12_init 422 = .ok (.newarray .int, 2) := by decide +kernel
theorem dX12_init_424 : decode cX12_init 424 = .ok (.putfield 165, 3) := by decide +kernel
theorem dX12_init_427 : decode cX12_init 427 = .ok (.aload_n 0, 1) := by decide +kernel
theorem dX12_init_428 : decode cX12_init 428 = .ok (.bipush 8, 2) := by decide +kernel
theorem dX12_init_430 : decode cX12_init 430 = .ok (.newarray .int, 2) := by decide +kernel
theorem dX12_init_432 : decode cX12_init 432 = .ok (.putfield 168, 3) := by decide +kernel
theorem dX12_init_435 : decode cX12_init 435 = .ok (.aload_n 0, 1) := by decide +kernel
theorem dX12_init_436 : decode cX12_init 436 = .ok (.sipush 3840, 3) := by decide +kernel
theorem dX12_init_439 : decode cX12_init 439 = .ok (.newarray .int, 2) := by decide +kernel
theorem dX12_init_441 : decode cX12_init 441 = .ok (.putfield 171, 3) := by decide +kernel
theorem dX12_init_444 : decode cX12_init 444 = .ok (.aload_n 0, 1) := by decide +kernel
theorem dX12_init_445 : decode cX12_init 445 = .ok (.bipush 64, 2) := by decide +kernel
theorem dX12_init_447 : decode cX12_init 447 = .ok (.newarray .int, 2) := by decide +kernel
theorem dX12_init_449 : decode cX12_init 449 = .ok (.putfield 174, 3) := by decide +kernel
theorem dX12_init_452 : decode cX12_init 452 = .ok (.aload_n 0, 1) := by decide +kernel
theorem dX12_init_453 : decode cX12_init 453 = .ok (.bipush 64, 2) := by decide +kernel
theorem dX12_init_455 : decode cX12_init 455 = .ok (.newarray .int, 2) := by decide +kernel
theorem dX12_init_457 : decode cX12_init 457 = .ok (.putfield 177, 3) := by decide +kernel
theorem dX12_init_460 : decode cX12_init 460 = .ok (.aload_n 0, 1) := by decide +kernel
theorem dX12_init_461 : decode cX12_init 461 = .ok (.bipush 64, 2) := by decide +kernel
theorem dX12_init_463 : decode cX12_init 463 = .ok (.newarray .boolean, 2) := by decide +kernel
theorem dX12_init_465 : decode cX12_init 465 = .ok (.putfield 180, 3) := by decide +kernel
theorem dX12_init_468 : decode cX12_init 468 = .ok (.aload_n 0, 1) := by decide +kernel
theorem dX12_init_469 : decode cX12_init 469 = .ok (.sipush 3840, 3) := by decide +kernel
theorem dX12_init_472 : decode cX12_init 472 = .ok (.newarray .int, 2) := by decide +kernel
theorem dX12_init_474 : decode cX12_init 474 = .ok (.putfield 183, 3) := by decide +kernel
theorem dX12_init_477 : decode cX12_init 477 = .ok (.aload_n 0, 1) := by decide +kernel
theorem dX12_init_478 : decode cX12_init 478 = .ok (.bipush 64, 2) := by decide +kernel
theorem dX12_init_480 : decode cX12_init 480 = .ok (.newarray .int, 2) := by decide +kernel
theorem dX12_init_482 : decode cX12_init 482 = .ok (.putfield 186, 3) := by decide +kernel
theorem dX12_init_485 : decode cX12_init 485 = .ok (.aload_n 0, 1) := by decide +kernel
theorem dX12_init_486 : decode cX12_init 486 = .ok (.bipush 64, 2) := by decide +kernel
theorem dX12_init_488 : decode cX12_init 488 = .ok (.newarray .boolean, 2) := by decide +kernel
theorem dX12_init_490 : decode cX12_init 490 = .ok (.putfield 189, 3) := by decide +kernel
theorem dX12_init_493 : decode cX12_init 493 = .ok (.aload_n 0, 1) := by decide +kernel
theorem dX12_init_494 : decode cX12_init 494 = .ok (.sipush 320, 3) := by decide +kernel
theorem dX12_init_497 : decode cX12_init 497 = .ok (.newarray .int, 2) := by decide +kernel
theorem dX12_init_499 : decode cX12_init 499 = .ok (.putfield 192, 3) := by decide +kernel
theorem dX12_init_502 : decode cX12_init 502 = .ok (.aload_n 0, 1) := by decide +kernel
theorem dX12_init_503 : decode cX12_init 503 = .ok (.sipush 320, 3) := by decide +kernel
theorem dX12_init_506 : decode cX12_init 506 = .ok (.newarray .int, 2) := by decide +kernel
theorem dX12_init_508 : decode cX12_init 508 = .ok (.putfield 195, 3) := by decide +kernel
theorem dX12_init_511 : decode cX12_init 511 = .ok (.aload_n 0, 1) := by decide +kernel
theorem dX12_init_512 : decode cX12_init 512 = .ok (.sipush 320, 3) := by decide +kernel
theorem dX12_init_515 : decode cX12_init 515 = .ok (.newarray .boolean, 2) := by decide +kernel
theorem dX12_init_517 : decode cX12_init 517 = .ok (.putfield 198, 3) := by decide +kernel
theorem dX12_init_520 : decode cX12_init 520 = .ok (.aload_n 0, 1) := by decide +kernel
theorem dX12_init_521 : decode cX12_init 521 = .ok (.sipush 320, 3) := by decide +kernel
theorem dX12_init_524 : decode cX12_init 524 = .ok (.newarray .int, 2) := by decide +kernel
theorem dX12_init_526 : decode cX12_init 526 = .ok (.putfield 201, 3) := by decide +kernel
theorem dX12_init_529 : decode cX12_init 529 = .ok (.aload_n 0, 1) := by decide +kernel
theorem dX12_init_530 : decode cX12_init 530 = .ok (.sipush 320, 3) := by decide +kernel
theorem dX12_init_533 : decode cX12_init 533 = .ok (.newarray .int, 2) := by decide +kernel
theorem dX12_init_535 : decode cX12_init 535 = .ok (.putfield 204, 3) := by decide +kernel
theorem dX12_init_538 : decode cX12_init 538 = .ok (.aload_n 0, 1) := by decide +kernel
theorem dX12_init_539 : decode cX12_init 539 = .ok (.sipush 320, 3) := by decide +kernel
theorem dX12_init_542 : decode cX12_init 542 = .ok (.newarray .int, 2) := by decide +kernel
theorem dX12_init_544 : decode cX12_init 544 = .ok (.putfield 207, 3) := by decide +kernel
theorem dX12_init_547 : decode cX12_init 547 = .ok (.aload_n 0, 1) := by decide +kernel
theorem dX12_init_548 : decode cX12_init 548 = .ok (.sipush 320, 3) := by decide +kernel
theorem dX12_init_551 : decode cX12_init 551 = .ok (.newarray .int, 2) := by decide +kernel
theorem dX12_init_553 : decode cX12_init 553 = .ok (.putfield 210, 3) := by decide +kernel
theorem dX12_init_556 : decode cX12_init 556 = .ok (.aload_n 0, 1) := by decide +kernel
theorem dX12_init_557 : decode cX12_init 557 = .ok (.sipush 320, 3) := by decide +kernel
theorem dX12_init_560 : decode cX12_init 560 = .ok (.newarray .int, 2) := by decide +kernel
theorem dX12_init_562 : decode cX12_init 562 = .ok (.putfield 213, 3) := by decide +kernel
theorem dX12_init_565 : decode cX12_init 565 = .ok (.aload_n 0, 1) := by decide +kernel
theorem dX12_init_566 : decode cX12_init 566 = .ok (.sipush 320, 3) := by decide +kernel
theorem dX12_init_569 : decode cX12_init 569 = .ok (.newarray .boolean, 2) := by decide +kernel
theorem dX12_init_571 : decode cX12_init 571 = .ok (.putfield 216, 3) := by decide +kernel
theorem dX12_init_574 : decode cX12_init 574 = .ok (.aload_n 0, 1) := by decide +kernel
theorem dX12_init_575 : decode cX12_init 575 = .ok (.sipush 320, 3) := by decide +kernel
theorem dX12_init_578 : decode cX12_init 578 = .ok (.newarray .int, 2) := by decide +kernel
theorem dX12_init_580 : decode cX12_init 580 = .ok (.putfield 219, 3) := by decide +kernel
theorem dX12_init_583 : decode cX12_init 583 = .ok (.aload_n 0, 1) := by decide +kernel
theorem dX12_init_584 : decode cX12_init 584 = .ok (.sipush 320, 3) := by decide +kernel
theorem dX12_init_587 : decode cX12_init 587 = .ok (.newarray .int, 2) := by decide +kernel
theorem dX12_init_589 : decode cX12_init 589 = .ok (.putfield 222, 3) := by decide +kernel
theorem dX12_init_592 : decode cX12_init 592 = .ok (.aload_n 0, 1) := by decide +kernel
theorem dX12_init_593 : decode cX12_init 593 = .ok (.bipush 8, 2) := by decide +kernel
theorem dX12_init_595 : decode cX12_init 595 = .ok (.newarray .int, 2) := by decide +kernel
theorem dX12_init_597 : decode cX12_init 597 = .ok (.putfield 225, 3) := by decide +kernel
theorem dX12_init_600 : decode cX12_init 600 = .ok (.aload_n 0, 1) := by decide +kernel
theorem dX12_init_601 : decode cX12_init 601 = .ok (.bipush 8, 2) := by decide +kernel
theorem dX12_init_603 : decode cX12_init 603 = .ok (.newarray .int, 2) := by decide +kernel
theorem dX12_init_605 : decode cX12_init 605 = .ok (.putfield 228, 3) := by decide +kernel
theorem dX12_init_608 : decode cX12_init 608 = .ok (.aload_n 0, 1) := by decide +kernel
theorem dX12_init_609 : decode cX12_init 609 = .ok (.iconst 4, 1) := by decide +kernel
theorem dX12_init_610 : decode cX12_init 610 = .ok (.newarray .int, 2) := by decide +kernel
theorem dX12_init_612 : decode cX12_init 612 = .ok (.putfield 231, 3) := by decide +kernel
theorem dX12_init_615 : decode cX12_init 615 = .ok (.aload_n 0, 1) := by decide +kernel
theorem dX12_init_616 : decode cX12_init 616 = .ok (.iconst 4, 1) := by decide +kernel
theorem dX12_init_617 : decode cX12_init 617 = .ok (.newarray .int, 2) := by decide +kernel
theorem dX12_init_619 : decode cX12_init 619 = .ok (.putfield 234, 3) := by decide +kernel
theorem dX12_init_622 : decode cX12_init 622 = .ok (.aload_n 0, 1) := by decide +kernel
theorem dX12_init_623 : decode cX12_init 623 = .ok (.ldc 237, 2) := by decide +kernel
theorem dX12_init_625 : decode cX12_init 625 = .ok (.newarray .int, 2) := by decide +kernel
theorem dX12_init_627 : decode cX12_init 627 = .ok (.putfield 238, 3) := by decide +kernel
theorem dX12_init_630 : decode cX12_init 630 = .ok (.aload_n 0, 1) := by decide +kernel
theorem dX12_init_631 : decode cX12_init 631 = .ok (.sipush 640, 3) := by decide +kernel
theorem dX12_init_634 : decode cX12_init 634 = .ok (.newarray .int, 2) := by decide +kernel
theorem dX12_init_636 : decode cX12_init 636 = .ok (.putfield 241, 3) := by decide +kernel
theorem dX12_init_639 : decode cX12_init 639 = .ok (.aload_n 0, 1) := by decide +kernel
theorem dX12_init_640 : decode cX12_init 640 = .ok (.sipush 160, 3) := by decide +kernel
theorem dX12_init_643 : decode cX12_init 643 = .ok (.newarray .int, 2) := by decide +kernel
theorem dX12_init_645 : decode cX12_init 645 = .ok (.putfield 244, 3) := by decide +kernel
theorem dX12_init_648 : decode cX12_init 648 = .ok (.aload_n 0, 1) := by decide +kernel
theorem dX12_init_649 : decode cX12_init 649 = .ok (.sipush 160, 3) := by decide +kernel
theorem dX12_init_652 : decode cX12_init 652 = .ok (.newarray .int, 2) := by decide +kernel
theorem dX12_init_654 : decode cX12_init 654 = .ok (.putfield 247, 3) := by decide +kernel
theorem dX12_init_657 : decode cX12_init 657 = .ok (.aload_n 0, 1) := by decide +kernel
theorem dX12_init_658 : decode cX12_init 658 = .ok (.ldc 250, 2) := by decide +kernel
theorem dX12_init_660 : decode cX12_init 660 = .ok (.newarray .int, 2) := by decide +kernel
theorem dX12_init_662 : decode cX12_init 662 = .ok (.putfield 251, 3) := by decide +kernel
theorem dX12_init_665 : decode cX12_init 665 = .ok (.aload_n 0, 1) := by decide +kernel
theorem dX12_init_666 : decode cX12_init 666 = .ok (.sipush 160, 3) := by decide +kernel
theorem dX12_init_669 : decode cX12_init 669 = .ok (.newarray .int, 2) := by decide +kernel
theorem dX12_init_671 : decode cX12_init 671 = .ok (.putfield 254, 3) := by decide +kernel
theorem dX12_init_674 : decode cX12_init 674 = .ok (.aload_n 0, 1) := by decide +kernel
theorem dX12_init_675 : decode cX12_init 675 = .ok (.bipush 60, 2) := by decide +kernel
theorem dX12_init_677 : decode cX12_init 677 = .ok (.newarray .int, 2) := by decide +kernel
theorem dX12_init_679 : decode cX12_init 679 = .ok (.putfield 257, 3) := by decide +kernel
theorem dX12_init_682 : decode cX12_init 682 = .ok (.aload_n 0, 1) := by decide +kernel
theorem dX12_init_683 : decode cX12_init 683 = .ok (.iload_n 1, 1) := by decide +kernel
theorem dX12_init_684 : decode cX12_init 684 = .ok (.iconst 2, 1) := by decide +kernel
theorem dX12_init_685 : decode cX12_init 685 = .ok (.if_icmp .ge 7, 3) := by decide +kernel
theorem dX12_init_688 : decode cX12_init 688 = .ok (.iconst 2, 1) := by decide +kernel
theorem dX12_init_689 : decode cX12_init 689 = .ok (.goto 13, 3) := by decide +kernel
theorem dX12_init_692 : decode cX12_init 692 = .ok (.iload_n 1, 1) := by decide +kernel
theorem dX12_init_693 : decode cX12_init 693 = .ok (.iconst 4, 1) := by decide +kernel
theorem dX12_init_694 : decode cX12_init 694 = .ok (.if_icmp .le 7, 3) := by decide +kernel
theorem dX12_init_697 : decode cX12_init 697 = .ok (.iconst 4, 1) := by decide +kernel
theorem dX12_init_698 : decode cX12_init 698 = .ok (.goto 4, 3) := by decide +kernel
theorem dX12_init_701 : decode cX12_init 701 = .ok (.iload_n 1, 1) := by decide +kernel
theorem dX12_init_702 : decode cX12_init 702 = .ok (.putfield 260, 3) := by decide +kernel
theorem dX12_init_705 : decode cX12_init 705 = .ok (.iconst 0, 1) := by decide +kernel
theorem dX12_init_706 : decode cX12_init 706 = .ok (.istore_n 2, 1) := by decide +kernel
theorem dX12_init_707 : decode cX12_init 707 = .ok (.iload_n 2, 1) := by decide +kernel
theorem dX12_init_708 : decode cX12_init 708 = .ok (.iconst 4, 1) := by decide +kernel
theorem dX12_init_709 : decode cX12_init 709 = .ok (.if_icmp .ge 16, 3) := by decide +kernel
theorem dX12_init_712 : decode cX12_init 712 = .ok (.aload_n 0, 1) := by decide +kernel
theorem dX12_init_713 : decode cX12_init 713 = .ok (.getfield 234, 3) := by decide +kernel
theorem dX12_init_716 : decode cX12_init 716 = .ok (.iload_n 2, 1) := by decide +kernel
theorem dX12_init_717 : decode cX12_init 717 = .ok (.iconst 1, 1) := by decide +kernel
theorem dX12_init_718 : decode cX12_init 718 = .ok (.iastore, 1) := by decide +kernel
theorem dX12_init_719 : decode cX12_init 719 = .ok (.iinc 2 1, 3) := by decide +kernel
theorem dX12_init_722 : decode cX12_init 722 = .ok (.goto (-15), 3) := by decide +kernel
theorem dX12_init_725 : decode cX12_init 725 = .ok (.iconst 0, 1) := by decide +kernel
theorem dX12_init_726 : decode cX12_init 726 = .ok (.istore_n 2, 1) := by decide +kernel
theorem dX12_init_727 : decode cX12_init 727 = .ok (.iload_n 2, 1) := by decide +kernel
theorem dX12_init_728 : decode cX12_init 728 = .ok (.bipush 8, 2) := by decide +kernel
theorem dX12_init_730 : decode cX12_init 730 = .ok (.if_icmp .ge 25, 3) := by decide +kernel
theorem dX12_init_733 : decode cX12_init 733 = .ok (.aload_n 0, 1) := by decide +kernel
theorem dX12_init_734 : decode cX12_init 734 = .ok (.getfield 137, 3) := by decide +kernel
theorem dX12_init_737 : decode cX12_init 737 = .ok (.iload_n 2, 1) := by decide +kernel
theorem dX12_init_738 : decode cX12_init 738 = .ok (.bipush (-2), 2) := by decide +kernel
theorem dX12_init_740 : decode cX12_init 740 = .ok (.iastore, 1) := by decide +kernel
theorem dX12_init_741 : decode cX12_init 741 = .ok (.aload_n 0, 1) := by decide +kernel
theorem dX12_init_742 : decode cX12_init 742 = .ok (.getfield 140, 3) := by decide +kernel
theorem dX12_init_745 : decode cX12_init 745 = .ok (.iload_n 2, 1) := by decide +kernel
theorem dX12_init_746 : decode cX12_init 746 = .ok (.bipush (-2), 2) := by decide +kernel
theorem dX12_init_748 : decode cX12_init 748 = .ok (.iastore, 1) := by decide +kernel
theorem dX12_init_749 : decode cX12_init 749 = .ok (.iinc 2 1, 3) := by decide +kernel
theorem dX12_init_752 : decode cX12_init 752 = .ok (.goto (-25), 3) := by decide +kernel
theorem dX12_init_755 : decode cX12_init 755 = .ok (.return_, 1) := by decide +kernel
theorem dX12_feed_0 : decode cX12_feed 0 = .ok (.aload_n 0, 1) := by decide +kernel
theorem dX12_feed_1 : decode cX12_feed 1 = .ok (.getfield 264, 3) := by decide +kernel
theorem dX12_feed_4 : decode cX12_feed 4 = .ok (.bipush 20, 2) := by decide +kernel
theorem dX12_feed_6 : decode cX12_feed 6 = .ok (.iadd, 1) := by decide +kernel
theorem dX12_feed_7 : decode cX12_feed 7 = .ok (.sipush 200, 3) := by decide +kernel
theorem dX12_feed_10 : decode cX12_feed 10 = .ok (.if_icmp .le 6, 3) := by decide +kernel
theorem dX12_feed_13 : decode cX12_feed 13 = .ok (.bipush (-3), 2) := by decide +kernel
theorem dX12_feed_15 : decode cX12_feed 15 = .ok (.ireturn, 1) := by decide +kernel
theorem dX12_feed_16 : decode cX12_feed 16 = .ok (.iconst 0, 1) := by decide +kernel
theorem dX12_feed_17 : decode cX12_feed 17 = .ok (.istore 6, 2) := by decide +kernel
theorem dX12_feed_19 : decode cX12_feed 19 = .ok (.iload 6, 2) := by decide +kernel
theorem dX12_feed_21 : decode cX12_feed 21 = .ok (.bipush 20, 2) := by decide +kernel
theorem dX12_feed_23 : decode cX12_feed 23 = .ok (.if_icmp .ge 93, 3) := by decide +kernel
theorem dX12_feed_26 : decode cX12_feed 26 = .ok (.iload 6, 2) := by decide +kernel
theorem dX12_feed_28 : decode cX12_feed 28 = .ok (.iconst 4, 1) := by decide +kernel
theorem dX12_feed_29 : decode cX12_feed 29 = .ok (.if_icmp .ge 7, 3) := by decide +kernel
theorem dX12_feed_32 : decode cX12_feed 32 = .ok (.iload_n 1, 1) := by decide +kernel
theorem dX12_feed_33 : decode cX12_feed 33 = .ok (.goto 39, 3) := by decide +kernel
theorem dX12_feed_36 : decode cX12_feed 36 = .ok (.iload 6, 2) := by decide +kernel
theorem dX12_feed_38 : decode cX12_feed 38 = .ok (.bipush 8, 2) := by decide +kernel
theorem dX12_feed_40 : decode cX12_feed 40 = .ok (.if_icmp .ge 7, 3) := by decide +kernel
theorem dX12_feed_43 : decode cX12_feed 43 = .ok (.iload_n 2, 1) := by decide +kernel
theorem dX12_feed_44 : decode cX12_feed 44 = .ok (.goto 28, 3) := by decide +kernel
theorem dX12_feed_47 : decode cX12_feed 47 = .ok (.iload 6, 2) := by decide +kernel
theorem dX12_feed_49 : decode cX12_feed 49 = .ok (.bipush 12, 2) := by decide +kernel
theorem dX12_feed_51 : decode cX12_feed 51 = .ok (.if_icmp .ge 7, 3) := by decide +kernel
theorem dX12_feed_54 : decode cX12_feed 54 = .ok (.iload_n 3, 1) := by decide +kernel
theorem dX12_feed_55 : decode cX12_feed 55 = .ok (.goto 17, 3) := by decide +kernel
theorem dX12_feed_58 : decode cX12_feed 58 = .ok (.iload 6, 2) := by decide +kernel
theorem dX12_feed_60 : decode cX12_feed 60 = .ok (.bipush 16, 2) := by decide +kernel
theorem dX12_feed_62 : decode cX12_feed 62 = .ok (.if_icmp .ge 8, 3) := by decide +kernel
theorem dX12_feed_65 : decode cX12_feed 65 = .ok (.iload 4, 2) := by decide +kernel
theorem dX12_feed_67 : decode cX12_feed 67 = .ok (.goto 5, 3) := by decide +kernel
theorem dX12_feed_70 : decode cX12_feed 70 = .ok (.iload 5, 2) := by decide +kernel
theorem dX12_feed_72 : decode cX12_feed 72 = .ok (.istore 7, 2) := by decide +kernel
theorem dX12_feed_74 : decode cX12_feed 74 = .ok (.aload_n 0, 1) := by decide +kernel
theorem dX12_feed_75 : decode cX12_feed 75 = .ok (.getfield 7, 3) := by decide +kernel
theorem dX12_feed_78 : decode cX12_feed 78 = .ok (.aload_n 0, 1) := by decide +kernel
theorem dX12_feed_79 : decode cX12_feed 79 = .ok (.getfield 264, 3) := by decide +kernel
theorem dX12_feed_82 : decode cX12_feed 82 = .ok (.iload 7, 2) := by decide +kernel
theorem dX12_feed_84 : decode cX12_feed 84 = .ok (.bipush 24, 2) := by decide +kernel
theorem dX12_feed_86 : decode cX12_feed 86 = .ok (.bipush 8, 2) := by decide +kernel
theorem dX12_feed_88 : decode cX12_feed 88 = .ok (.iload 6, 2) := by decide +kernel
theorem dX12_feed_90 : decode cX12_feed 90 = .ok (.iconst 4, 1) := by decide +kernel
theorem dX12_feed_91 : decode cX12_feed 91 = .ok (.irem, 1) := by decide +kernel
theorem dX12_feed_92 : decode cX12_feed 92 = .ok (.imul, 1) := by decide +kernel
theorem dX12_feed_93 : decode cX12_feed 93 = .ok (.isub, 1) := by decide +kernel
theorem dX12_feed_94 : decode cX12_feed 94 = .ok (.ishr, 1) := by decide +kernel
theorem dX12_feed_95 : decode cX12_feed 95 = .ok (.sipush 255, 3) := by decide +kernel
theorem dX12_feed_98 : decode cX12_feed 98 = .ok (.iand, 1) := by decide +kernel
theorem dX12_feed_99 : decode cX12_feed 99 = .ok (.iastore, 1) := by decide +kernel
theorem dX12_feed_100 : decode cX12_feed 100 = .ok (.aload_n 0, 1) := by decide +kernel
theorem dX12_feed_101 : decode cX12_feed 101 = .ok (.dup, 1) := by decide +kernel
theorem dX12_feed_102 : decode cX12_feed 102 = .ok (.getfield 264, 3) := by decide +kernel
theorem dX12_feed_105 : decode cX12_feed 105 = .ok (.iconst 1, 1) := by decide +kernel
theorem dX12_feed_106 : decode cX12_feed 106 = .ok (.iadd, 1) := by decide +kernel
theorem dX12_feed_107 : decode cX12_feed 107 = .ok (.putfield 264, 3) := by decide +kernel
theorem dX12_feed_110 : decode cX12_feed 110 = .ok (.iinc 6 1, 3) := by decide +kernel
theorem dX12_feed_113 : decode cX12_feed 113 = .ok (.goto (-94), 3) := by decide +kernel
theorem dX12_feed_116 : decode cX12_feed 116 = .ok (.aload_n 0, 1) := by decide +kernel
theorem dX12_feed_117 : decode cX12_feed 117 = .ok (.getfield 264, 3) := by decide +kernel
theorem dX12_feed_120 : decode cX12_feed 120 = .ok (.ireturn, 1) := by decide +kernel
theorem dX12_end_0 : decode cX12_end 0 = .ok (.iload_n 1, 1) := by decide +kernel
theorem dX12_end_1 : decode cX12_end 1 = .ok (.ifCond .lt 18, 3) := by decide +kernel
theorem dX12_end_4 : decode cX12_end 4 = .ok (.iload_n 1, 1) := by decide +kernel
theorem dX12_end_5 : decode cX12_end 5 = .ok (.bipush 20, 2) := by decide +kernel
theorem dX12_end_7 : decode cX12_end 7 = .ok (.if_icmp .gt 12, 3) := by decide +kernel
theorem dX12_end_10 : decode cX12_end 10 = .ok (.aload_n 0, 1) := by decide +kernel
theorem dX12_end_11 : decode cX12_end 11 = .ok (.getfield 264, 3) := by decide +kernel
theorem dX12_end_14 : decode cX12_end 14 = .ok (.bipush 20, 2) := by decide +kernel
theorem dX12_end_16 : decode cX12_end 16 = .ok (.if_icmp .ge 5, 3) := by decide +kernel
theorem dX12_end_19 : decode cX12_end 19 = .ok (.iconst (-1), 1) := by decide +kernel
theorem dX12_end_20 : decode cX12_end 20 = .ok (.ireturn, 1) := by decide +kernel
theorem dX12_end_21 : decode cX12_end 21 = .ok (.aload_n 0, 1) := by decide +kernel
theorem dX12_end_22 : decode cX12_end 22 = .ok (.aload_n 0, 1) := by decide +kernel
theorem dX12_end_23 : decode cX12_end 23 = .ok (.getfield 264, 3) := by decide +kernel
theorem dX12_end_26 : decode cX12_end 26 = .ok (.bipush 20, 2) := by decide +kernel
theorem dX12_end_28 : decode cX12_end 28 = .ok (.isub, 1) := by decide +kernel
theorem dX12_end_29 : decode cX12_end 29 = .ok (.iload_n 1, 1) := by decide +kernel
theorem dX12_end_30 : decode cX12_end 30 = .ok (.iadd, 1) := by decide +kernel
theorem dX12_end_31 : decode cX12_end 31 = .ok (.putfield 264, 3) := by decide +kernel
theorem dX12_end_34 : decode cX12_end 34 = .ok (.aload_n 0, 1) := by decide +kernel
theorem dX12_end_35 : decode cX12_end 35 = .ok (.getfield 264, 3) := by decide +kernel
theorem dX12_end_38 : decode cX12_end 38 = .ok (.ireturn, 1) := by decide +kernel
theorem dX12_crcBegin_0 : decode cX12_crcBegin 0 = .ok (.aload_n 0, 1) := by decide +kernel
theorem dX12_crcBegin_1 : decode cX12_crcBegin 1 = .ok (.iconst (-1), 1) := by decide +kernel
theorem dX12_crcBegin_2 : decode cX12_crcBegin 2 = .ok (.putfield 271, 3) := by decide +kernel
theorem dX12_crcBegin_5 : decode cX12_crcBegin 5 = .ok (.return_, 1) := by decide +kernel
theorem dX12_crcByte_0 : decode cX12_crcByte 0 = .ok (.bipush 7, 2) := by decide +kernel
theorem dX12_crcByte_2 : decode cX12_crcByte 2 = .ok (.istore_n 2, 1) := by decide +kernel
theorem dX12_crcByte_3 : decode cX12_crcByte 3 = .ok (.iload_n 2, 1) := by decide +kernel
theorem dX12_crcByte_4 : decode cX12_crcByte 4 = .ok (.ifCond .lt 57, 3) := by decide +kernel
theorem dX12_crcByte_7 : decode cX12_crcByte 7 = .ok (.iload_n 1, 1) := by decide +kernel
theorem dX12_crcByte_8 : decode cX12_crcByte 8 = .ok (.iload_n 2, 1) := by decide +kernel
theorem dX12_crcByte_9 : decode cX12_crcByte 9 = .ok (.ishr, 1) := by decide +kernel
theorem dX12_crcByte_10 : decode cX12_crcByte 10 = .ok (.iconst 1, 1) := by decide +kernel
theorem dX12_crcByte_11 : decode cX12_crcByte 11 = .ok (.iand, 1) := by decide +kernel
theorem dX12_crcByte_12 : decode cX12_crcByte 12 = .ok (.aload_n 0, 1) := by decide +kernel
theorem dX12_crcByte_13 : decode cX12_crcByte 13 = .ok (.getfield 271, 3) := by decide +kernel
theorem dX12_crcByte_16 : decode cX12_crcByte 16 = .ok (.bipush 31, 2) := by decide +kernel
theorem dX12_crcByte_18 : decode cX12_crcByte 18 = .ok (.iushr, 1) := by decide +kernel
theorem dX12_crcByte_19 : decode cX12_crcByte 19 = .ok (.ixor, 1) := by decide +kernel
theorem dX12_crcByte_20 : decode cX12_crcByte 20 = .ok (.istore_n 3, 1) := by decide +kernel
theorem dX12_crcByte_21 : decode cX12_crcByte 21 = .ok (.aload_n 0, 1) := by decide +kernel
theorem dX12_crcByte_22 : decode cX12_crcByte 22 = .ok (.aload_n 0, 1) := by decide +kernel
theorem dX12_crcByte_23 : decode cX12_crcByte 23 = .ok (.getfield 271, 3) := by decide +kernel
theorem dX12_crcByte_26 : decode cX12_crcByte 26 = .ok (.iconst 1, 1) := by decide +kernel
theorem dX12_crcByte_27 : decode cX12_crcByte 27 = .ok (.ishl, 1) := by decide +kernel
theorem dX12_crcByte_28 : decode cX12_crcByte 28 = .ok (.putfield 271, 3) := by decide +kernel
theorem dX12_crcByte_31 : decode cX12_crcByte 31 = .ok (.aload_n 0, 1) := by decide +kernel
theorem dX12_crcByte_32 : decode cX12_crcByte 32 = .ok (.iload_n 3, 1) := by decide +kernel
theorem dX12_crcByte_33 : decode cX12_crcByte 33 = .ok (.iconst 1, 1) := by decide +kernel
theorem dX12_crcByte_34 : decode cX12_crcByte 34 = .ok (.if_icmp .ne 14, 3) := by decide +kernel
theorem dX12_crcByte_37 : decode cX12_crcByte 37 = .ok (.aload_n 0, 1) := by decide +kernel
theorem dX12_crcByte_38 : decode cX12_crcByte 38 = .ok (.getfield 271, 3) := by decide +kernel
theorem dX12_crcByte_41 : decode cX12_crcByte 41 = .ok (.ldc_w 274, 3) := by decide +kernel
theorem dX12_crcByte_44 : decode cX12_crcByte 44 = .ok (.ixor, 1) := by decide +kernel
theorem dX12_crcByte_45 : decode cX12_crcByte 45 = .ok (.goto 7, 3) := by decide +kernel
theorem dX12_crcByte_48 : decode cX12_crcByte 48 = .ok (.aload_n 0, 1) := by decide +kernel
theorem dX12_crcByte_49 : decode cX12_crcByte 49 = .ok (.getfield 271, 3) := by decide +kernel
theorem dX12_crcByte_52 : decode cX12_crcByte 52 = .ok (.putfield 271, 3) := by decide +kernel
theorem dX12_crcByte_55 : decode cX12_crcByte 55 = .ok (.iinc 2 (-1), 3) := by decide +kernel
theorem dX12_crcByte_58 : decode cX12_crcByte 58 = .ok (.goto (-55), 3) := by decide +kernel
theorem dX12_crcByte_61 : decode cX12_crcByte 61 = .ok (.return_, 1) := by decide +kernel
theorem dX12_crc_0 : decode cX12_crc 0 = .ok (.aload_n 0, 1) := by decide +kernel
theorem dX12_crc_1 : decode cX12_crc 1 = .ok (.getfield 264, 3) := by decide +kernel
theorem dX12_crc_4 : decode cX12_crc 4 = .ok (.ifCond .ne 5, 3) := by decide +kernel
theorem dX12_crc_7 : decode cX12_crc 7 = .ok (.iconst 0, 1) := by decide +kernel
theorem dX12_crc_8 : decode cX12_crc 8 = .ok (.ireturn, 1) := by decide +kernel
theorem dX12_crc_9 : decode cX12_crc 9 = .ok (.aload_n 0, 1) := by decide +kernel
theorem dX12_crc_10 : decode cX12_crc 10 = .ok (.aload_n 0, 1) := by decide +kernel
theorem dX12_crc_11 : decode cX12_crc 11 = .ok (.getfield 264, 3) := by decide +kernel
theorem dX12_crc_14 : decode cX12_crc 14 = .ok (.putfield 279, 3) := by decide +kernel
theorem dX12_crc_17 : decode cX12_crc 17 = .ok (.iconst 0, 1) := by decide +kernel
theorem dX12_crc_18 : decode cX12_crc 18 = .ok (.istore_n 1, 1) := by decide +kernel
theorem dX12_crc_19 : decode cX12_crc 19 = .ok (.iload_n 1, 1) := by decide +kernel
theorem dX12_crc_20 : decode cX12_crc 20 = .ok (.aload_n 0, 1) := by decide +kernel
theorem dX12_crc_21 : decode cX12_crc 21 = .ok (.getfield 264, 3) := by decide +kernel
theorem dX12_crc_24 : decode cX12_crc 24 = .ok (.if_icmp .ge 21, 3) := by decide +kernel
theorem dX12_crc_27 : decode cX12_crc 27 = .ok (.aload_n 0, 1) := by decide +kernel
theorem dX12_crc_28 : decode cX12_crc 28 = .ok (.getfield 29, 3) := by decide +kernel
theorem dX12_crc_31 : decode cX12_crc 31 = .ok (.iload_n 1, 1) := by decide +kernel
theorem dX12_crc_32 : decode cX12_crc 32 = .ok (.aload_n 0, 1) := by decide +kernel
theorem dX12_crc_33 : decode cX12_crc 33 = .ok (.getfield 7, 3) := by decide +kernel
theorem dX12_crc_36 : decode cX12_crc 36 = .ok (.iload_n 1, 1) := by decide +kernel
theorem dX12_crc_37 : decode cX12_crc 37 = .ok (.iaload, 1) := by decide +kernel
theorem dX12_crc_38 : decode cX12_crc 38 = .ok (.iastore, 1) := by decide +kernel
theorem dX12_crc_39 : decode cX12_crc 39 = .ok (.iinc 1 1, 3) := by decide +kernel
theorem dX12_crc_42 : decode cX12_crc 42 = .ok (.goto (-23), 3) := by decide +kernel
theorem dX12_crc_45 : decode cX12_crc 45 = .ok (.aload_n 0, 1) := by decide +kernel
theorem dX12_crc_46 : decode cX12_crc 46 = .ok (.invokevirtual 282, 3) := by decide +kernel
theorem dX12_crc_49 : decode cX12_crc 49 = .ok (.aload_n 0, 1) := by decide +kernel
theorem dX12_crc_50 : decode cX12_crc 50 = .ok (.getfield 271, 3) := by decide +kernel
theorem dX12_crc_53 : decode cX12_crc 53 = .ok (.iconst (-1), 1) := by decide +kernel
theorem dX12_crc_54 : decode cX12_crc 54 = .ok (.ixor, 1) := by decide +kernel
theorem dX12_crc_55 : decode cX12_crc 55 = .ok (.ireturn, 1) := by decide +kernel
theorem dX12_layHeader_0 : decode cX12_layHeader 0 = .ok (.aload_n 0, 1) := by decide +kernel
theorem dX12_layHeader_1 : decode cX12_layHeader 1 = .ok (.getfield 26, 3) := by decide +kernel
theorem dX12_layHeader_4 : decode cX12_layHeader 4 = .ok (.iconst 0, 1) := by decide +kernel
theorem dX12_layHeader_5 : decode cX12_layHeader 5 = .ok (.iconst 0, 1) := by decide +kernel
theorem dX12_layHeader_6 : decode cX12_layHeader 6 = .ok (.iastore, 1) := by decide +kernel
theorem dX12_layHeader_7 : decode cX12_layHeader 7 = .ok (.aload_n 0, 1) := by decide +kernel
theorem dX12_layHeader_8 : decode cX12_layHeader 8 = .ok (.getfield 26, 3) := by decide +kernel
theorem dX12_layHeader_11 : decode cX12_layHeader 11 = .ok (.iconst 1, 1) := by decide +kernel
theorem dX12_layHeader_12 : decode cX12_layHeader 12 = .ok (.iload_n 1, 1) := by decide +kernel
theorem dX12_layHeader_13 : decode cX12_layHeader 13 = .ok (.bipush 12, 2) := by decide +kernel
theorem dX12_layHeader_15 : decode cX12_layHeader 15 = .ok (.ishr, 1) := by decide +kernel
theorem dX12_layHeader_16 : decode cX12_layHeader 16 = .ok (.bipush 15, 2) := by decide +kernel
theorem dX12_layHeader_18 : decode cX12_layHeader 18 = .ok (.iand, 1) := by decide +kernel
theorem dX12_layHeader_19 : decode cX12_layHeader 19 = .ok (.iastore, 1) := by decide +kernel
theorem dX12_layHeader_20 : decode cX12_layHeader 20 = .ok (.aload_n 0, 1) := by decide +kernel
theorem dX12_layHeader_21 : decode cX12_layHeader 21 = .ok (.getfield 26, 3) := by decide +kernel
theorem dX12_layHeader_24 : decode cX12_layHeader 24 = .ok (.iconst 2, 1) := by decide +kernel
theorem dX12_layHeader_25 : decode cX12_layHeader 25 = .ok (.iload_n 1, 1) := by decide +kernel
theorem dX12_layHeader_26 : decode cX12_layHeader 26 = .ok (.iconst 4, 1) := by decide +kernel
theorem dX12_layHeader_27 : decode cX12_layHeader 27 = .ok (.ishr, 1) := by decide +kernel
theorem dX12_layHeader_28 : decode cX12_layHeader 28 = .ok (.sipush 255, 3) := by decide +kernel
theorem dX12_layHeader_31 : decode cX12_layHeader 31 = .ok (.iand, 1) := by decide +kernel
theorem dX12_layHeader_32 : decode cX12_layHeader 32 = .ok (.iastore, 1) := by decide +kernel
theorem dX12_layHeader_33 : decode cX12_layHeader 33 = .ok (.aload_n 0, 1) := by decide +kernel
theorem dX12_layHeader_34 : decode cX12_layHeader 34 = .ok (.getfield 26, 3) := by decide +kernel
theorem dX12_layHeader_37 : decode cX12_layHeader 37 = .ok (.iconst 3, 1) := by decide +kernel
theorem dX12_layHeader_38 : decode cX12_layHeader 38 = .ok (.iload_n 1, 1) := by decide +kernel
theorem dX12_layHeader_39 : decode cX12_layHeader 39 = .ok (.bipush 15, 2) := by decide +kernel
theorem dX12_layHeader_41 : decode cX12_layHeader 41 = .ok (.iand, 1) := by decide +kernel
theorem dX12_layHeader_42 : decode cX12_layHeader 42 = .ok (.iconst 4, 1) := by decide +kernel
theorem dX12_layHeader_43 : decode cX12_layHeader 43 = .ok (.ishl, 1) := by decide +kernel
theorem dX12_layHeader_44 : decode cX12_layHeader 44 = .ok (.iload_n 2, 1) := by decide +kernel
theorem dX12_layHeader_45 : decode cX12_layHeader 45 = .ok (.iconst 1, 1) := by decide +kernel
theorem dX12_layHeader_46 : decode cX12_layHeader 46 = .ok (.ishl, 1) := by decide +kernel
theorem dX12_layHeader_47 : decode cX12_layHeader 47 = .ok (.ior, 1) := by decide +kernel
theorem dX12_layHeader_48 : decode cX12_layHeader 48 = .ok (.iload_n 3, 1) := by decide +kernel
theorem dX12_layHeader_49 : decode cX12_layHeader 49 = .ok (.ior, 1) := by decide +kernel
theorem dX12_layHeader_50 : decode cX12_layHeader 50 = .ok (.iastore, 1) := by decide +kernel
theorem dX12_layHeader_51 : decode cX12_layHeader 51 = .ok (.aload_n 0, 1) := by decide +kernel
theorem dX12_layHeader_52 : decode cX12_layHeader 52 = .ok (.getfield 26, 3) := by decide +kernel
theorem dX12_layHeader_55 : decode cX12_layHeader 55 = .ok (.iconst 4, 1) := by decide +kernel
theorem dX12_layHeader_56 : decode cX12_layHeader 56 = .ok (.aload_n 0, 1) := by decide +kernel
theorem dX12_layHeader_57 : decode cX12_layHeader 57 = .ok (.getfield 26, 3) := by decide +kernel
theorem dX12_layHeader_60 : decode cX12_layHeader 60 = .ok (.iconst 1, 1) := by decide +kernel
theorem dX12_layHeader_61 : decode cX12_layHeader 61 = .ok (.iaload, 1) := by decide +kernel
theorem dX12_layHeader_62 : decode cX12_layHeader 62 = .ok (.bipush 16, 2) := by decide +kernel
theorem dX12_layHeader_64 : decode cX12_layHeader 64 = .ok (.ishl, 1) := by decide +kernel
theorem dX12_layHeader_65 : decode cX12_layHeader 65 = .ok (.aload_n 0, 1) := by decide +kernel
theorem dX12_layHeader_66 : decode cX12_layHeader 66 = .ok (.getfield 26, 3) := by decide +kernel
theorem dX12_layHeader_69 : decode cX12_layHeader 69 = .ok (.iconst 2, 1) := by decide +kernel
theorem dX12_layHeader_70 : decode cX12_layHeader 70 = .ok (.iaload, 1) := by decide +kernel
theorem dX12_layHeader_71 : decode cX12_layHeader 71 = .ok (.bipush 8, 2) := by decide +kernel
theorem dX12_layHeader_73 : decode cX12_layHeader 73 = .ok (.ishl, 1) := by decide +kernel
theorem dX12_layHeader_74 : decode cX12_layHeader 74 = .ok (.ior, 1) := by decide +kernel
theorem dX12_layHeader_75 : decode cX12_layHeader 75 = .ok (.aload_n 0, 1) := by decide +kernel
theorem dX12_layHeader_76 : decode cX12_layHeader 76 = .ok (.getfield 26, 3) := by decide +kernel
theorem dX12_layHeader_79 : decode cX12_layHeader 79 = .ok (.iconst 3, 1) := by decide +kernel
theorem dX12_layHeader_80 : decode cX12_layHeader 80 = .ok (.iaload, 1) := by decide +kernel
theorem dX12_layHeader_81 : decode cX12_layHeader 81 = .ok (.ior, 1) := by decide +kernel
theorem dX12_layHeader_82 : decode cX12_layHeader 82 = .ok (.invokestatic 267, 3) := by decide +kernel
theorem dX12_layHeader_85 : decode cX12_layHeader 85 = .ok (.iastore, 1) := by decide +kernel
theorem dX12_layHeader_86 : decode cX12_layHeader 86 = .ok (.return_, 1) := by decide +kernel
theorem dX12_addCell_0 : decode cX12_addCell 0 = .ok (.iconst 2, 1) := by decide +kernel
theorem dX12_addCell_1 : decode cX12_addCell 1 = .ok (.iload_n 1, 1) := by decide +kernel
theorem dX12_addCell_2 : decode cX12_addCell 2 = .ok (.imul, 1) := by decide +kernel
theorem dX12_addCell_3 : decode cX12_addCell 3 = .ok (.iload_n 2, 1) := by decide +kernel
theorem dX12_addCell_4 : decode cX12_addCell 4 = .ok (.iadd, 1) := by decide +kernel
theorem dX12_addCell_5 : decode cX12_addCell 5 = .ok (.istore_n 3, 1) := by decide +kernel
theorem dX12_addCell_6 : decode cX12_addCell 6 = .ok (.aload_n 0, 1) := by decide +kernel
theorem dX12_addCell_7 : decode cX12_addCell 7 = .ok (.getfield 20, 3) := by decide +kernel
theorem dX12_addCell_10 : decode cX12_addCell 10 = .ok (.iload_n 3, 1) := by decide +kernel
theorem dX12_addCell_11 : decode cX12_addCell 11 = .ok (.iaload, 1) := by decide +kernel
theorem dX12_addCell_12 : decode cX12_addCell 12 = .ok (.bipush 40, 2) := by decide +kernel
theorem dX12_addCell_14 : decode cX12_addCell 14 = .ok (.if_icmp .ne 14, 3) := by decide +kernel
theorem dX12_addCell_17 : decode cX12_addCell 17 = .ok (.aload_n 0, 1) := by decide +kernel
theorem dX12_addCell_18 : decode cX12_addCell 18 = .ok (.getfield 23, 3) := by decide +kernel
theorem dX12_addCell_21 : decode cX12_addCell 21 = .ok (.iload_n 1, 1) := by decide +kernel
theorem dX12_addCell_22 : decode cX12_addCell 22 = .ok (.dup2, 1) := by decide +kernel
theorem dX12_addCell_23 : decode cX12_addCell 23 = .ok (.iaload, 1) := by decide +kernel
theorem dX12_addCell_24 : decode cX12_addCell 24 = .ok (.iconst 1, 1) := by decide +kernel
theorem dX12_addCell_25 : decode cX12_addCell 25 = .ok (.iadd, 1) := by decide +kernel
theorem dX12_addCell_26 : decode cX12_addCell 26 = .ok (.iastore, 1) := by decide +kernel
theorem dX12_addCell_27 : decode cX12_addCell 27 = .ok (.return_, 1) := by decide +kernel
theorem dX12_addCell_28 : decode cX12_addCell 28 = .ok (.bipush 53, 2) := by decide +kernel
theorem dX12_addCell_30 : decode cX12_addCell 30 = .ok (.bipush 40, 2) := by decide +kernel
theorem dX12_addCell_32 : decode cX12_addCell 32 = .ok (.iload_n 3, 1) := by decide +kernel
theorem dX12_addCell_33 : decode cX12_addCell 33 = .ok (.imul, 1) := by decide +kernel
theorem dX12_addCell_34 : decode cX12_addCell 34 = .ok (.aload_n 0, 1) := by decide +kernel
theorem dX12_addCell_35 : decode cX12_addCell 35 = .ok (.getfield 17, 3) := by decide +kernel
theorem dX12_addCell_38 : decode cX12_addCell 38 = .ok (.iload_n 3, 1) := by decide +kernel
theorem dX12_addCell_39 : decode cX12_addCell 39 = .ok (.iaload, 1) := by decide +kernel
theorem dX12_addCell_40 : decode cX12_addCell 40 = .ok (.aload_n 0, 1) := by decide +kernel
theorem dX12_addCell_41 : decode cX12_addCell 41 = .ok (.getfield 20, 3) := by decide +kernel
theorem dX12_addCell_44 : decode cX12_addCell 44 = .ok (.iload_n 3, 1) := by decide +kernel
theorem dX12_addCell_45 : decode cX12_addCell 45 = .ok (.iaload, 1) := by decide +kernel
theorem dX12_addCell_46 : decode cX12_addCell 46 = .ok (.iadd, 1) := by decide +kernel
theorem dX12_addCell_47 : decode cX12_addCell 47 = .ok (.bipush 40, 2) := by decide +kernel
theorem dX12_addCell_49 : decode cX12_addCell 49 = .ok (.irem, 1) := by decide +kernel
theorem dX12_addCell_50 : decode cX12_addCell 50 = .ok (.iadd, 1) := by decide +kernel
theorem dX12_addCell_51 : decode cX12_addCell 51 = .ok (.imul, 1) := by decide +kernel
theorem dX12_addCell_52 : decode cX12_addCell 52 = .ok (.istore 4, 2) := by decide +kernel
theorem dX12_addCell_54 : decode cX12_addCell 54 = .ok (.iconst 0, 1) := by decide +kernel
theorem dX12_addCell_55 : decode cX12_addCell 55 = .ok (.istore 5, 2) := by decide +kernel
theorem dX12_addCell_57 : decode cX12_addCell 57 = .ok (.iload 5, 2) := by decide +kernel
theorem dX12_addCell_59 : decode cX12_addCell 59 = .ok (.bipush 53, 2) := by decide +kernel
theorem dX12_addCell_61 : decode cX12_addCell 61 = .ok (.if_icmp .ge 26, 3) := by decide +kernel
theorem dX12_addCell_64 : decode cX12_addCell 64 = .ok (.aload_n 0, 1) := by decide +kernel
theorem dX12_addCell_65 : decode cX12_addCell 65 = .ok (.getfield 14, 3) := by decide +kernel
theorem dX12_addCell_68 : decode cX12_addCell 68 = .ok (.iload 4, 2) := by decide +kernel
theorem dX12_addCell_70 : decode cX12_addCell 70 = .ok (.iload 5, 2) := by decide +kernel
theorem dX12_addCell_72 : decode cX12_addCell 72 = .ok (.iadd, 1) := by decide +kernel
theorem dX12_addCell_73 : decode cX12_addCell 73 = .ok (.aload_n 0, 1) := by decide +kernel
theorem dX12_addCell_74 : decode cX12_addCell 74 = .ok (.getfield 26, 3) := by decide +kernel
theorem dX12_addCell_77 : decode cX12_addCell 77 = .ok (.iload 5, 2) := by decide +kernel
theorem dX12_addCell_79 : decode cX12_addCell 79 = .ok (.iaload, 1) := by decide +kernel
theorem dX12_addCell_80 : decode cX12_addCell 80 = .ok (.iastore, 1) := by decide +kernel
theorem dX12_addCell_81 : decode cX12_addCell 81 = .ok (.iinc 5 1, 3) := by decide +kernel
theorem dX12_addCell_84 : decode cX12_addCell 84 = .ok (.goto (-27), 3) := by decide +kernel
theorem dX12_addCell_87 : decode cX12_addCell 87 = .ok (.aload_n 0, 1) := by decide +kernel
theorem dX12_addCell_88 : decode cX12_addCell 88 = .ok (.getfield 20, 3) := by decide +kernel
theorem dX12_addCell_91 : decode cX12_addCell 91 = .ok (.iload_n 3, 1) := by decide +kernel
theorem dX12_addCell_92 : decode cX12_addCell 92 = .ok (.dup2, 1) := by decide +kernel
theorem dX12_addCell_93 : decode cX12_addCell 93 = .ok (.iaload, 1) := by decide +kernel
theorem dX12_addCell_94 : decode cX12_addCell 94 = .ok (.iconst 1, 1) := by decide +kernel
theorem dX12_addCell_95 : decode cX12_addCell 95 = .ok (.iadd, 1) := by decide +kernel
theorem dX12_addCell_96 : decode cX12_addCell 96 = .ok (.iastore, 1) := by decide +kernel
theorem dX12_addCell_97 : decode cX12_addCell 97 = .ok (.return_, 1) := by decide +kernel
theorem dX12_cellsOf_0 : decode cX12_cellsOf 0 = .ok (.iload_n 0, 1) := by decide +kernel
theorem dX12_cellsOf_1 : decode cX12_cellsOf 1 = .ok (.bipush 8, 2) := by decide +kernel
theorem dX12_cellsOf_3 : decode cX12_cellsOf 3 = .ok (.iadd, 1) := by decide +kernel
theorem dX12_cellsOf_4 : decode cX12_cellsOf 4 = .ok (.bipush 47, 2) := by decide +kernel
theorem dX12_cellsOf_6 : decode cX12_cellsOf 6 = .ok (.iadd, 1) := by decide +kernel
theorem dX12_cellsOf_7 : decode cX12_cellsOf 7 = .ok (.bipush 48, 2) := by decide +kernel
theorem dX12_cellsOf_9 : decode cX12_cellsOf 9 = .ok (.idiv, 1) := by decide +kernel
theorem dX12_cellsOf_10 : decode cX12_cellsOf 10 = .ok (.ireturn, 1) := by decide +kernel
theorem dX12_closeFrame_0 : decode cX12_closeFrame 0 = .ok (.bipush 48, 2) := by decide +kernel
theorem dX12_closeFrame_2 : decode cX12_closeFrame 2 = .ok (.aload_n 0, 1) := by decide +kernel
theorem dX12_closeFrame_3 : decode cX12_closeFrame 3 = .ok (.getfield 279, 3) := by decide +kernel
theorem dX12_closeFrame_6 : decode cX12_closeFrame 6 = .ok (.invokestatic 285, 3) := by decide +kernel
theorem dX12_closeFrame_9 : decode cX12_closeFrame 9 = .ok (.imul, 1) := by decide +kernel
theorem dX12_closeFrame_10 : decode cX12_closeFrame 10 = .ok (.istore_n 1, 1) := by decide +kernel
theorem dX12_closeFrame_11 : decode cX12_closeFrame 11 = .ok (.aload_n 0, 1) := by decide +kernel
theorem dX12_closeFrame_12 : decode cX12_closeFrame 12 = .ok (.getfield 279, 3) := by decide +kernel
theorem dX12_closeFrame_15 : decode cX12_closeFrame 15 = .ok (.istore_n 2, 1) := by decide +kernel
theorem dX12_closeFrame_16 : decode cX12_closeFrame 16 = .ok (.iload_n 2, 1) := by decide +kernel
theorem dX12_closeFrame_17 : decode cX12_closeFrame 17 = .ok (.iload_n 1, 1) := by decide +kernel
theorem dX12_closeFrame_18 : decode cX12_closeFrame 18 = .ok (.iconst 4, 1) := by decide +kernel
theorem dX12_closeFrame_19 : decode cX12_closeFrame 19 = .ok (.isub, 1) := by decide +kernel
theorem dX12_closeFrame_20 : decode cX12_closeFrame 20 = .ok (.if_icmp .ge 16, 3) := by decide +kernel
theorem dX12_closeFrame_23 : decode cX12_closeFrame 23 = .ok (.aload_n 0, 1) := by decide +kernel
theorem dX12_closeFrame_24 : decode cX12_closeFrame 24 = .ok (.getfield 29, 3) := by decide +kernel
theorem dX12_closeFrame_27 : decode cX12_closeFrame 27 = .ok (.iload_n 2, 1) := by decide +kernel
theorem dX12_closeFrame_28 : decode cX12_closeFrame 28 = .ok (.iconst 0, 1) := by decide +kernel
theorem dX12_closeFrame_29 : decode cX12_closeFrame 29 = .ok (.iastore, 1) := by decide +kernel
theorem dX12_closeFrame_30 : decode cX12_closeFrame 30 = .ok (.iinc 2 1, 3) := by decide +kernel
theorem dX12_closeFrame_33 : decode cX12_closeFrame 33 = .ok (.goto (-17), 3) := by decide +kernel
theorem dX12_closeFrame_36 : decode cX12_closeFrame 36 = .ok (.aload_n 0, 1) := by decide +kernel
theorem dX12_closeFrame_37 : decode cX12_closeFrame 37 = .ok (.getfield 29, 3) := by decide +kernel
theorem dX12_closeFrame_40 : decode cX12_closeFrame 40 = .ok (.iload_n 1, 1) := by decide +kernel
theorem dX12_closeFrame_41 : decode cX12_closeFrame 41 = .ok (.bipush 6, 2) := by decide +kernel
theorem dX12_closeFrame_43 : decode cX12_closeFrame 43 = .ok (.isub, 1) := by decide +kernel
theorem dX12_closeFrame_44 : decode cX12_closeFrame 44 = .ok (.aload_n 0, 1) := by decide +kernel
theorem dX12_closeFrame_45 : decode cX12_closeFrame 45 = .ok (.getfield 279, 3) := by decide +kernel
theorem dX12_closeFrame_48 : decode cX12_closeFrame 48 = .ok (.bipush 8, 2) := by decide +kernel
theorem dX12_closeFrame_50 : decode cX12_closeFrame 50 = .ok (.ishr, 1) := by decide +kernel
theorem dX12_closeFrame_51 : decode cX12_closeFrame 51 = .ok (.iastore, 1) := by decide +kernel
theorem dX12_closeFrame_52 : decode cX12_closeFrame 52 = .ok (.aload_n 0, 1) := by decide +kernel
theorem dX12_closeFrame_53 : decode cX12_closeFrame 53 = .ok (.getfield 29, 3) := by decide +kernel
theorem dX12_closeFrame_56 : decode cX12_closeFrame 56 = .ok (.iload_n 1, 1) := by decide +kernel
theorem dX12_closeFrame_57 : decode cX12_closeFrame 57 = .ok (.iconst 5, 1) := by decide +kernel
theorem dX12_closeFrame_58 : decode cX12_closeFrame 58 = .ok (.isub, 1) := by decide +kernel
theorem dX12_closeFrame_59 : decode cX12_closeFrame 59 = .ok (.aload_n 0, 1) := by decide +kernel
theorem dX12_closeFrame_60 : decode cX12_closeFrame 60 = .ok (.getfield 279, 3) := by decide +kernel
theorem dX12_closeFrame_63 : decode cX12_closeFrame 63 = .ok (.sipush 255, 3) := by decide +kernel
theorem dX12_closeFrame_66 : decode cX12_closeFrame 66 = .ok (.iand, 1) := by decide +kernel
theorem dX12_closeFrame_67 : decode cX12_closeFrame 67 = .ok (.iastore, 1) := by decide +kernel
theorem dX12_closeFrame_68 : decode cX12_closeFrame 68 = .ok (.aload_n 0, 1) := by decide +kernel
theorem dX12_closeFrame_69 : decode cX12_closeFrame 69 = .ok (.invokevirtual 288, 3) := by decide +kernel
theorem dX12_closeFrame_72 : decode cX12_closeFrame 72 = .ok (.iconst 0, 1) := by decide +kernel
theorem dX12_closeFrame_73 : decode cX12_closeFrame 73 = .ok (.istore_n 2, 1) := by decide +kernel
theorem dX12_closeFrame_74 : decode cX12_closeFrame 74 = .ok (.iload_n 2, 1) := by decide +kernel
theorem dX12_closeFrame_75 : decode cX12_closeFrame 75 = .ok (.iload_n 1, 1) := by decide +kernel
theorem dX12_closeFrame_76 : decode cX12_closeFrame 76 = .ok (.iconst 4, 1) := by decide +kernel
theorem dX12_closeFrame_77 : decode cX12_closeFrame 77 = .ok (.isub, 1) := by decide +kernel
theorem dX12_closeFrame_78 : decode cX12_closeFrame 78 = .ok (.if_icmp .ge 19, 3) := by decide +kernel
theorem dX12_closeFrame_81 : decode cX12_closeFrame 81 = .ok (.aload_n 0, 1) := by decide +kernel
theorem dX12_closeFrame_82 : decode cX12_closeFrame 82 = .ok (.aload_n 0, 1) := by decide +kernel
theorem dX12_closeFrame_83 : decode cX12_closeFrame 83 = .ok (.getfield 29, 3) := by decide +kernel
theorem dX12_closeFrame_86 : decode cX12_closeFrame 86 = .ok (.iload_n 2, 1) := by decide +kernel
theorem dX12_closeFrame_87 : decode cX12_closeFrame 87 = .ok (.iaload, 1) := by decide +kernel
theorem dX12_closeFrame_88 : decode cX12_closeFrame 88 = .ok (.invokevirtual 291, 3) := by decide +kernel
theorem dX12_closeFrame_91 : decode cX12_closeFrame 91 = .ok (.iinc 2 1, 3) := by decide +kernel
theorem dX12_closeFrame_94 : decode cX12_closeFrame 94 = .ok (.goto (-20), 3) := by decide +kernel
theorem dX12_closeFrame_97 : decode cX12_closeFrame 97 = .ok (.iconst 0, 1) := by decide +kernel
theorem dX12_closeFrame_98 : decode cX12_closeFrame 98 = .ok (.istore_n 2, 1) := by decide +kernel
theorem dX12_closeFrame_99 : decode cX12_closeFrame 99 = .ok (.iload_n 2, 1) := by decide +kernel
theorem dX12_closeFrame_100 : decode cX12_closeFrame 100 = .ok (.iconst 4, 1) := by decide +kernel
theorem dX12_closeFrame_101 : decode cX12_closeFrame 101 = .ok (.if_icmp .ge 37, 3) := by decide +kernel
theorem dX12_closeFrame_104 : decode cX12_closeFrame 104 = .ok (.aload_n 0, 1) := by decide +kernel
theorem dX12_closeFrame_105 : decode cX12_closeFrame 105 = .ok (.getfield 29, 3) := by decide +kernel
theorem dX12_closeFrame_108 : decode cX12_closeFrame 108 = .ok (.iload_n 1, 1) := by decide +kernel
theorem dX12_closeFrame_109 : decode cX12_closeFrame 109 = .ok (.iconst 4, 1) := by decide +kernel
theorem dX12_closeFrame_110 : decode cX12_closeFrame 110 = .ok (.isub, 1) := by decide +kernel
theorem dX12_closeFrame_111 : decode cX12_closeFrame 111 = .ok (.iload_n 2, 1) := by decide +kernel
theorem dX12_closeFrame_112 : decode cX12_closeFrame 112 = .ok (.iadd, 1) := by decide +kernel
theorem dX12_closeFrame_113 : decode cX12_closeFrame 113 = .ok (.aload_n 0, 1) := by decide +kernel
theorem dX12_closeFrame_114 : decode cX12_closeFrame 114 = .ok (.getfield 271, 3) := by decide +kernel
theorem dX12_closeFrame_117 : decode cX12_closeFrame 117 = .ok (.iconst (-1), 1) := by decide +kernel
theorem dX12_closeFrame_118 : decode cX12_closeFrame 118 = .ok (.ixor, 1) := by decide +kernel
theorem dX12_closeFrame_119 : decode cX12_closeFrame 119 = .ok (.bipush 24, 2) := by decide +kernel
theorem dX12_closeFrame_121 : decode cX12_closeFrame 121 = .ok (.bipush 8, 2) := by decide +kernel
theorem dX12_closeFrame_123 : decode cX12_closeFrame 123 = .ok (.iload_n 2, 1) := by decide +kernel
theorem dX12_closeFrame_124 : decode cX12_closeFrame 124 = .ok (.imul, 1) := by decide +kernel
theorem dX12_closeFrame_125 : decode cX12_closeFrame 125 = .ok (.isub, 1) := by decide +kernel
theorem dX12_closeFrame_126 : decode cX12_closeFrame 126 = .ok (.ishr, 1) := by decide +kernel
theorem dX12_closeFrame_127 : decode cX12_closeFrame 127 = .ok (.sipush 255, 3) := by decide +kernel
theorem dX12_closeFrame_130 : decode cX12_closeFrame 130 = .ok (.iand, 1) := by decide +kernel
theorem dX12_closeFrame_131 : decode cX12_closeFrame 131 = .ok (.iastore, 1) := by decide +kernel
theorem dX12_closeFrame_132 : decode cX12_closeFrame 132 = .ok (.iinc 2 1, 3) := by decide +kernel
theorem dX12_closeFrame_135 : decode cX12_closeFrame 135 = .ok (.goto (-36), 3) := by decide +kernel
theorem dX12_closeFrame_138 : decode cX12_closeFrame 138 = .ok (.return_, 1) := by decide +kernel
theorem dX12_layCell_0 : decode cX12_layCell 0 = .ok (.aload_n 0, 1) := by decide +kernel
theorem dX12_layCell_1 : decode cX12_layCell 1 = .ok (.iload_n 2, 1) := by decide +kernel
theorem dX12_layCell_2 : decode cX12_layCell 2 = .ok (.iload_n 3, 1) := by decide +kernel
theorem dX12_layCell_3 : decode cX12_layCell 3 = .ok (.ifCond .eq 7, 3) := by decide +kernel
theorem dX12_layCell_6 : decode cX12_layCell 6 = .ok (.iconst 1, 1) := by decide +kernel
theorem dX12_layCell_7 : decode cX12_layCell 7 = .ok (.goto 4, 3) := by decide +kernel
theorem dX12_layCell_10 : decode cX12_layCell 10 = .ok (.iconst 0, 1) := by decide +kernel
theorem dX12_layCell_11 : decode cX12_layCell 11 = .ok (.iconst 0, 1) := by decide +kernel
theorem dX12_layCell_12 : decode cX12_layCell 12 = .ok (.invokevirtual 295, 3) := by decide +kernel
theorem dX12_layCell_15 : decode cX12_layCell 15 = .ok (.iconst 0, 1) := by decide +kernel
theorem dX12_layCell_16 : decode cX12_layCell 16 = .ok (.istore 4, 2) := by decide +kernel
theorem dX12_layCell_18 : decode cX12_layCell 18 = .ok (.iload 4, 2) := by decide +kernel
theorem dX12_layCell_20 : decode cX12_layCell 20 = .ok (.bipush 48, 2) := by decide +kernel
theorem dX12_layCell_22 : decode cX12_layCell 22 = .ok (.if_icmp .ge 30, 3) := by decide +kernel
theorem dX12_layCell_25 : decode cX12_layCell 25 = .ok (.aload_n 0, 1) := by decide +kernel
theorem dX12_layCell_26 : decode cX12_layCell 26 = .ok (.getfield 26, 3) := by decide +kernel
theorem dX12_layCell_29 : decode cX12_layCell 29 = .ok (.iconst 5, 1) := by decide +kernel
theorem dX12_layCell_30 : decode cX12_layCell 30 = .ok (.iload 4, 2) := by decide +kernel
theorem dX12_layCell_32 : decode cX12_layCell 32 = .ok (.iadd, 1) := by decide +kernel
theorem dX12_layCell_33 : decode cX12_layCell 33 = .ok (.aload_n 0, 1) := by decide +kernel
theorem dX12_layCell_34 : decode cX12_layCell 34 = .ok (.getfield 29, 3) := by decide +kernel
theorem dX12_layCell_37 : decode cX12_layCell 37 = .ok (.bipush 48, 2) := by decide +kernel
theorem dX12_layCell_39 : decode cX12_layCell 39 = .ok (.iload_n 1, 1) := by decide +kernel
theorem dX12_layCell_40 : decode cX12_layCell 40 = .ok (.imul, 1) := by decide +kernel
theorem dX12_layCell_41 : decode cX12_layCell 41 = .ok (.iload 4, 2) := by decide +kernel
theorem dX12_layCell_43 : decode cX12_layCell 43 = .ok (.iadd, 1) := by decide +kernel
theorem dX12_layCell_44 : decode cX12_layCell 44 = .ok (.iaload, 1) := by decide +kernel
theorem dX12_layCell_45 : decode cX12_layCell 45 = .ok (.iastore, 1) := by decide +kernel
theorem dX12_layCell_46 : decode cX12_layCell 46 = .ok (.iinc 4 1, 3) := by decide +kernel
theorem dX12_layCell_49 : decode cX12_layCell 49 = .ok (.goto (-31), 3) := by decide +kernel
theorem dX12_layCell_52 : decode cX12_layCell 52 = .ok (.return_, 1) := by decide +kernel
theorem dX12_unitBegin_0 : decode cX12_unitBegin 0 = .ok (.aload_n 0, 1) := by decide +kernel
theorem dX12_unitBegin_1 : decode cX12_unitBegin 1 = .ok (.iconst 0, 1) := by decide +kernel
theorem dX12_unitBegin_2 : decode cX12_unitBegin 2 = .ok (.putfield 279, 3) := by decide +kernel
theorem dX12_unitBegin_5 : decode cX12_unitBegin 5 = .ok (.return_, 1) := by decide +kernel
theorem dX12_word_0 : decode cX12_word 0 = .ok (.bipush 24, 2) := by decide +kernel
theorem dX12_word_2 : decode cX12_word 2 = .ok (.istore_n 2, 1) := by decide +kernel
theorem dX12_word_3 : decode cX12_word 3 = .ok (.iload_n 2, 1) := by decide +kernel
theorem dX12_word_4 : decode cX12_word 4 = .ok (.ifCond .lt 35, 3) := by decide +kernel
theorem dX12_word_7 : decode cX12_word 7 = .ok (.aload_n 0, 1) := by decide +kernel
theorem dX12_word_8 : decode cX12_word 8 = .ok (.getfield 29, 3) := by decide +kernel
theorem dX12_word_11 : decode cX12_word 11 = .ok (.aload_n 0, 1) := by decide +kernel
theorem dX12_word_12 : decode cX12_word 12 = .ok (.getfield 279, 3) := by decide +kernel
theorem dX12_word_15 : decode cX12_word 15 = .ok (.iload_n 1, 1) := by decide +kernel
theorem dX12_word_16 : decode cX12_word 16 = .ok (.iload_n 2, 1) := by decide +kernel
theorem dX12_word_17 : decode cX12_word 17 = .ok (.ishr, 1) := by decide +kernel
theorem dX12_word_18 : decode cX12_word 18 = .ok (.sipush 255, 3) := by decide +kernel
theorem dX12_word_21 : decode cX12_word 21 = .ok (.iand, 1) := by decide +kernel
theorem dX12_word_22 : decode cX12_word 22 = .ok (.iastore, 1) := by decide +kernel
theorem dX12_word_23 : decode cX12_word 23 = .ok (.aload_n 0, 1) := by decide +kernel
theorem dX12_word_24 : decode cX12_word 24 = .ok (.dup, 1) := by decide +kernel
theorem dX12_word_25 : decode cX12_word 25 = .ok (.getfield 279, 3) := by decide +kernel
theorem dX12_word_28 : decode cX12_word 28 = .ok (.iconst 1, 1) := by decide +kernel
theorem dX12_word_29 : decode cX12_word 29 = .ok (.iadd, 1) := by decide +kernel
theorem dX12_word_30 : decode cX12_word 30 = .ok (.putfield 279, 3) := by decide +kernel
theorem dX12_word_33 : decode cX12_word 33 = .ok (.iinc 2 (-8), 3) := by decide +kernel
theorem dX12_word_36 : decode cX12_word 36 = .ok (.goto (-33), 3) := by decide +kernel
theorem dX12_word_39 : decode cX12_word 39 = .ok (.return_, 1) := by decide +kernel
theorem dX12_unitGo_0 : decode cX12_unitGo 0 = .ok (.aload_n 0, 1) := by decide +kernel
theorem dX12_unitGo_1 : decode cX12_unitGo 1 = .ok (.iload_n 2, 1) := by decide +kernel
theorem dX12_unitGo_2 : decode cX12_unitGo 2 = .ok (.bipush 24, 2) := by decide +kernel
theorem dX12_unitGo_4 : decode cX12_unitGo 4 = .ok (.ishl, 1) := by decide +kernel
theorem dX12_unitGo_5 : decode cX12_unitGo 5 = .ok (.iload_n 3, 1) := by decide +kernel
theorem dX12_unitGo_6 : decode cX12_unitGo 6 = .ok (.ior, 1) := by decide +kernel
theorem dX12_unitGo_7 : decode cX12_unitGo 7 = .ok (.invokevirtual 299, 3) := by decide +kernel
theorem dX12_unitGo_10 : decode cX12_unitGo 10 = .ok (.aload_n 0, 1) := by decide +kernel
theorem dX12_unitGo_11 : decode cX12_unitGo 11 = .ok (.iload_n 1, 1) := by decide +kernel
theorem dX12_unitGo_12 : decode cX12_unitGo 12 = .ok (.invokevirtual 302, 3) := by decide +kernel
theorem dX12_unitGo_15 : decode cX12_unitGo 15 = .ok (.istore 4, 2) := by decide +kernel
theorem dX12_unitGo_17 : decode cX12_unitGo 17 = .ok (.aload_n 0, 1) := by decide +kernel
theorem dX12_unitGo_18 : decode cX12_unitGo 18 = .ok (.getfield 279, 3) := by decide +kernel
theorem dX12_unitGo_21 : decode cX12_unitGo 21 = .ok (.invokestatic 285, 3) := by decide +kernel
theorem dX12_unitGo_24 : decode cX12_unitGo 24 = .ok (.istore 5, 2) := by decide +kernel
theorem dX12_unitGo_26 : decode cX12_unitGo 26 = .ok (.aload_n 0, 1) := by decide +kernel
theorem dX12_unitGo_27 : decode cX12_unitGo 27 = .ok (.getfield 20, 3) := by decide +kernel
theorem dX12_unitGo_30 : decode cX12_unitGo 30 = .ok (.iconst 2, 1) := by decide +kernel
theorem dX12_unitGo_31 : decode cX12_unitGo 31 = .ok (.iload 4, 2) := by decide +kernel
theorem dX12_unitGo_33 : decode cX12_unitGo 33 = .ok (.imul, 1) := by decide +kernel
theorem dX12_unitGo_34 : decode cX12_unitGo 34 = .ok (.iaload, 1) := by decide +kernel
theorem dX12_unitGo_35 : decode cX12_unitGo 35 = .ok (.iload 5, 2) := by decide +kernel
theorem dX12_unitGo_37 : decode cX12_unitGo 37 = .ok (.iadd, 1) := by decide +kernel
theorem dX12_unitGo_38 : decode cX12_unitGo 38 = .ok (.bipush 40, 2) := by decide +kernel
theorem dX12_unitGo_40 : decode cX12_unitGo 40 = .ok (.if_icmp .le 16, 3) := by decide +kernel
theorem dX12_unitGo_43 : decode cX12_unitGo 43 = .ok (.aload_n 0, 1) := by decide +kernel
theorem dX12_unitGo_44 : decode cX12_unitGo 44 = .ok (.getfield 23, 3) := by decide +kernel
theorem dX12_unitGo_47 : decode cX12_unitGo 47 = .ok (.iload 4, 2) := by decide +kernel
theorem dX12_unitGo_49 : decode cX12_unitGo 49 = .ok (.dup2, 1) := by decide +kernel
theorem dX12_unitGo_50 : decode cX12_unitGo 50 = .ok (.iaload, 1) := by decide +kernel
theorem dX12_unitGo_51 : decode cX12_unitGo 51 = .ok (.iload 5, 2) := by decide +kernel
theorem dX12_unitGo_53 : decode cX12_unitGo 53 = .ok (.iadd, 1) := by decide +kernel
theorem dX12_unitGo_54 : decode cX12_unitGo 54 = .ok (.iastore, 1) := by decide +kernel
theorem dX12_unitGo_55 : decode cX12_unitGo 55 = .ok (.return_, 1) := by decide +kernel
theorem dX12_unitGo_56 : decode cX12_unitGo 56 = .ok (.aload_n 0, 1) := by decide +kernel
theorem dX12_unitGo_57 : decode cX12_unitGo 57 = .ok (.invokevirtual 282, 3) := by decide +kernel
theorem dX12_unitGo_60 : decode cX12_unitGo 60 = .ok (.iconst 0, 1) := by decide +kernel
theorem dX12_unitGo_61 : decode cX12_unitGo 61 = .ok (.istore 6, 2) := by decide +kernel
theorem dX12_unitGo_63 : decode cX12_unitGo 63 = .ok (.iload 6, 2) := by decide +kernel
theorem dX12_unitGo_65 : decode cX12_unitGo 65 = .ok (.iload 5, 2) := by decide +kernel
theorem dX12_unitGo_67 : decode cX12_unitGo 67 = .ok (.if_icmp .ge 37, 3) := by decide +kernel
theorem dX12_unitGo_70 : decode cX12_unitGo 70 = .ok (.aload_n 0, 1) := by decide +kernel
theorem dX12_unitGo_71 : decode cX12_unitGo 71 = .ok (.iload 6, 2) := by decide +kernel
theorem dX12_unitGo_73 : decode cX12_unitGo 73 = .ok (.iconst 5, 1) := by decide +kernel
theorem dX12_unitGo_74 : decode cX12_unitGo 74 = .ok (.iload 6, 2) := by decide +kernel
theorem dX12_unitGo_76 : decode cX12_unitGo 76 = .ok (.iload 5, 2) := by decide +kernel
theorem dX12_unitGo_78 : decode cX12_unitGo 78 = .ok (.iconst 1, 1) := by decide +kernel
theorem dX12_unitGo_79 : decode cX12_unitGo 79 = .ok (.isub, 1) := by decide +kernel
theorem dX12_unitGo_80 : decode cX12_unitGo 80 = .ok (.if_icmp .ne 7, 3) := by decide +kernel
theorem dX12_unitGo_83 : decode cX12_unitGo 83 = .ok (.iconst 1, 1) := by decide +kernel
theorem dX12_unitGo_84 : decode cX12_unitGo 84 = .ok (.goto 4, 3) := by decide +kernel
theorem dX12_unitGo_87 : decode cX12_unitGo 87 = .ok (.iconst 0, 1) := by decide +kernel
theorem dX12_unitGo_88 : decode cX12_unitGo 88 = .ok (.invokevirtual 305, 3) := by decide +kernel
theorem dX12_unitGo_91 : decode cX12_unitGo 91 = .ok (.aload_n 0, 1) := by decide +kernel
theorem dX12_unitGo_92 : decode cX12_unitGo 92 = .ok (.iload 4, 2) := by decide +kernel
theorem dX12_unitGo_94 : decode cX12_unitGo 94 = .ok (.iconst 0, 1) := by decide +kernel
theorem dX12_unitGo_95 : decode cX12_unitGo 95 = .ok (.invokevirtual 309, 3) := by decide +kernel
theorem dX12_unitGo_98 : decode cX12_unitGo 98 = .ok (.iinc 6 1, 3) := by decide +kernel
theorem dX12_unitGo_101 : decode cX12_unitGo 101 = .ok (.goto (-38), 3) := by decide +kernel
theorem dX12_unitGo_104 : decode cX12_unitGo 104 = .ok (.return_, 1) := by decide +kernel
theorem dX12_outOf_0 : decode cX12_outOf 0 = .ok (.iload_n 1, 1) := by decide +kernel
theorem dX12_outOf_1 : decode cX12_outOf 1 = .ok (.aload_n 0, 1) := by decide +kernel
theorem dX12_outOf_2 : decode cX12_outOf 2 = .ok (.getfield 260, 3) := by decide +kernel
theorem dX12_outOf_5 : decode cX12_outOf 5 = .ok (.if_icmp .ge 9, 3) := by decide +kernel
theorem dX12_outOf_8 : decode cX12_outOf 8 = .ok (.iconst 2, 1) := by decide +kernel
theorem dX12_outOf_9 : decode cX12_outOf 9 = .ok (.iload_n 1, 1) := by decide +kernel
theorem dX12_outOf_10 : decode cX12_outOf 10 = .ok (.imul, 1) := by decide +kernel
theorem dX12_outOf_11 : decode cX12_outOf 11 = .ok (.goto 13, 3) := by decide +kernel
theorem dX12_outOf_14 : decode cX12_outOf 14 = .ok (.iconst 2, 1) := by decide +kernel
theorem dX12_outOf_15 : decode cX12_outOf 15 = .ok (.iload_n 1, 1) := by decide +kernel
theorem dX12_outOf_16 : decode cX12_outOf 16 = .ok (.aload_n 0, 1) := by decide +kernel
theorem dX12_outOf_17 : decode cX12_outOf 17 = .ok (.getfield 260, 3) := by decide +kernel
theorem dX12_outOf_20 : decode cX12_outOf 20 = .ok (.isub, 1) := by decide +kernel
theorem dX12_outOf_21 : decode cX12_outOf 21 = .ok (.imul, 1) := by decide +kernel
theorem dX12_outOf_22 : decode cX12_outOf 22 = .ok (.iconst 1, 1) := by decide +kernel
theorem dX12_outOf_23 : decode cX12_outOf 23 = .ok (.iadd, 1) := by decide +kernel
theorem dX12_outOf_24 : decode cX12_outOf 24 = .ok (.ireturn, 1) := by decide +kernel
theorem dX12_sideOf_0 : decode cX12_sideOf 0 = .ok (.iload_n 1, 1) := by decide +kernel
theorem dX12_sideOf_1 : decode cX12_sideOf 1 = .ok (.iconst 2, 1) := by decide +kernel
theorem dX12_sideOf_2 : decode cX12_sideOf 2 = .ok (.irem, 1) := by decide +kernel
theorem dX12_sideOf_3 : decode cX12_sideOf 3 = .ok (.ifCond .ne 14, 3) := by decide +kernel
theorem dX12_sideOf_6 : decode cX12_sideOf 6 = .ok (.aload_n 0, 1) := by decide +kernel
theorem dX12_sideOf_7 : decode cX12_sideOf 7 = .ok (.getfield 260, 3) := by decide +kernel
theorem dX12_sideOf_10 : decode cX12_sideOf 10 = .ok (.iload_n 1, 1) := by decide +kernel
theorem dX12_sideOf_11 : decode cX12_sideOf 11 = .ok (.iconst 2, 1) := by decide +kernel
theorem dX12_sideOf_12 : decode cX12_sideOf 12 = .ok (.idiv, 1) := by decide +kernel
theorem dX12_sideOf_13 : decode cX12_sideOf 13 = .ok (.iadd, 1) := by decide +kernel
theorem dX12_sideOf_14 : decode cX12_sideOf 14 = .ok (.goto 6, 3) := by decide +kernel
theorem dX12_sideOf_17 : decode cX12_sideOf 17 = .ok (.iload_n 1, 1) := by decide +kernel
theorem dX12_sideOf_18 : decode cX12_sideOf 18 = .ok (.iconst 2, 1) := by decide +kernel
theorem dX12_sideOf_19 : decode cX12_sideOf 19 = .ok (.idiv, 1) := by decide +kernel
theorem dX12_sideOf_20 : decode cX12_sideOf 20 = .ok (.ireturn, 1) := by decide +kernel
theorem dX12_small_0 : decode cX12_small 0 = .ok (.aload_n 0, 1) := by decide +kernel
theorem dX12_small_1 : decode cX12_small 1 = .ok (.invokevirtual 313, 3) := by decide +kernel
theorem dX12_small_4 : decode cX12_small 4 = .ok (.aload_n 0, 1) := by decide +kernel
theorem dX12_small_5 : decode cX12_small 5 = .ok (.iload_n 1, 1) := by decide +kernel
theorem dX12_small_6 : decode cX12_small 6 = .ok (.iload_n 2, 1) := by decide +kernel
theorem dX12_small_7 : decode cX12_small 7 = .ok (.iload_n 3, 1) := by decide +kernel
theorem dX12_small_8 : decode cX12_small 8 = .ok (.invokevirtual 316, 3) := by decide +kernel
theorem dX12_small_11 : decode cX12_small 11 = .ok (.return_, 1) := by decide +kernel
theorem dX12_withMay_0 : decode cX12_withMay 0 = .ok (.aload_n 0, 1) := by decide +kernel
theorem dX12_withMay_1 : decode cX12_withMay 1 = .ok (.invokevirtual 313, 3) := by decide +kernel
theorem dX12_withMay_4 : decode cX12_withMay 4 = .ok (.aload_n 0, 1) := by decide +kernel
theorem dX12_withMay_5 : decode cX12_withMay 5 = .ok (.iload_n 3, 1) := by decide +kernel
theorem dX12_withMay_6 : decode cX12_withMay 6 = .ok (.invokevirtual 299, 3) := by decide +kernel
theorem dX12_withMay_9 : decode cX12_withMay 9 = .ok (.aload_n 0, 1) := by decide +kernel
theorem dX12_withMay_10 : decode cX12_withMay 10 = .ok (.iload_n 1, 1) := by decide +kernel
theorem dX12_withMay_11 : decode cX12_withMay 11 = .ok (.iload_n 2, 1) := by decide +kernel
theorem dX12_withMay_12 : decode cX12_withMay 12 = .ok (.iload 4, 2) := by decide +kernel
theorem dX12_withMay_14 : decode cX12_withMay 14 = .ok (.invokevirtual 316, 3) := by decide +kernel
theorem dX12_withMay_17 : decode cX12_withMay 17 = .ok (.return_, 1) := by decide +kernel
theorem dX12_isDirection_0 : decode cX12_isDirection 0 = .ok (.iload_n 1, 1) := by decide +kernel
theorem dX12_isDirection_1 : decode cX12_isDirection 1 = .ok (.ifCond .lt 17, 3) := by decide +kernel
theorem dX12_isDirection_4 : decode cX12_isDirection 4 = .ok (.iload_n 1, 1) := by decide +kernel
theorem dX12_isDirection_5 : decode cX12_isDirection 5 = .ok (.iconst 2, 1) := by decide +kernel
theorem dX12_isDirection_6 : decode cX12_isDirection 6 = .ok (.aload_n 0, 1) := by decide +kernel
theorem dX12_isDirection_7 : decode cX12_isDirection 7 = .ok (.getfield 260, 3) := by decide +kernel
theorem dX12_isDirection_10 : decode cX12_isDirection 10 = .ok (.imul, 1) := by decide +kernel
theorem dX12_isDirection_11 : decode cX12_isDirection 11 = .ok (.if_icmp .ge 7, 3) := by decide +kernel
theorem dX12_isDirection_14 : decode cX12_isDirection 14 = .ok (.iconst 1, 1) := by decide +kernel
theorem dX12_isDirection_15 : decode cX12_isDirection 15 = .ok (.goto 4, 3) := by decide +kernel
theorem dX12_isDirection_18 : decode cX12_isDirection 18 = .ok (.iconst 0, 1) := by decide +kernel
theorem dX12_isDirection_19 : decode cX12_isDirection 19 = .ok (.ireturn, 1) := by decide +kernel
theorem dX12_damage_0 : decode cX12_damage 0 = .ok (.aload_n 0, 1) := by decide +kernel
theorem dX12_damage_1 : decode cX12_damage 1 = .ok (.iload_n 1, 1) := by decide +kernel
theorem dX12_damage_2 : decode cX12_damage 2 = .ok (.invokevirtual 319, 3) := by decide +kernel
theorem dX12_damage_5 : decode cX12_damage 5 = .ok (.ifCond .eq 27, 3) := by decide +kernel
theorem dX12_damage_8 : decode cX12_damage 8 = .ok (.iload_n 2, 1) := by decide +kernel
theorem dX12_damage_9 : decode cX12_damage 9 = .ok (.ifCond .lt 23, 3) := by decide +kernel
theorem dX12_damage_12 : decode cX12_damage 12 = .ok (.iload_n 2, 1) := by decide +kernel
theorem dX12_damage_13 : decode cX12_damage 13 = .ok (.iconst 2, 1) := by decide +kernel
theorem dX12_damage_14 : decode cX12_damage 14 = .ok (.if_icmp .gt 18, 3) := by decide +kernel
theorem dX12_damage_17 : decode cX12_damage 17 = .ok (.iload_n 3, 1) := by decide +kernel
theorem dX12_damage_18 : decode cX12_damage 18 = .ok (.ifCond .lt 14, 3) := by decide +kernel
theorem dX12_damage_21 : decode cX12_damage 21 = .ok (.iload_n 3, 1) := by decide +kernel
theorem dX12_damage_22 : decode cX12_damage 22 = .ok (.sipush 999, 3) := by decide +kernel
theorem dX12_damage_25 : decode cX12_damage 25 = .ok (.if_icmp .gt 7, 3) := by decide +kernel
theorem dX12_damage_28 : decode cX12_damage 28 = .ok (.iconst 1, 1) := by decide +kernel
theorem dX12_damage_29 : decode cX12_damage 29 = .ok (.goto 4, 3) := by decide +kernel
theorem dX12_damage_32 : decode cX12_damage 32 = .ok (.iconst 0, 1) := by decide +kernel
theorem dX12_damage_33 : decode cX12_damage 33 = .ok (.istore 6, 2) := by decide +kernel
theorem dX12_damage_35 : decode cX12_damage 35 = .ok (.iload 6, 2) := by decide +kernel
theorem dX12_damage_37 : decode cX12_damage 37 = .ok (.ifCond .eq 38, 3) := by decide +kernel
theorem dX12_damage_40 : decode cX12_damage 40 = .ok (.iload_n 2, 1) := by decide +kernel
theorem dX12_damage_41 : decode cX12_damage 41 = .ok (.iconst 1, 1) := by decide +kernel
theorem dX12_damage_42 : decode cX12_damage 42 = .ok (.if_icmp .ne 29, 3) := by decide +kernel
theorem dX12_damage_45 : decode cX12_damage 45 = .ok (.iload 4, 2) := by decide +kernel
theorem dX12_damage_47 : decode cX12_damage 47 = .ok (.ifCond .lt 28, 3) := by decide +kernel
theorem dX12_damage_50 : decode cX12_damage 50 = .ok (.iload 4, 2) := by decide +kernel
theorem dX12_damage_52 : decode cX12_damage 52 = .ok (.bipush 52, 2) := by decide +kernel
theorem dX12_damage_54 : decode cX12_damage 54 = .ok (.if_icmp .gt 21, 3) := by decide +kernel
theorem dX12_damage_57 : decode cX12_damage 57 = .ok (.iload 5, 2) := by decide +kernel
theorem dX12_damage_59 : decode cX12_damage 59 = .ok (.iconst 1, 1) := by decide +kernel
theorem dX12_damage_60 : decode cX12_damage 60 = .ok (.if_icmp .lt 15, 3) := by decide +kernel
theorem dX12_damage_63 : decode cX12_damage 63 = .ok (.iload 5, 2) := by decide +kernel
theorem dX12_damage_65 : decode cX12_damage 65 = .ok (.sipush 255, 3) := by decide +kernel
theorem dX12_damage_68 : decode cX12_damage 68 = .ok (.if_icmp .gt 7, 3) := by decide +kernel
theorem dX12_damage_71 : decode cX12_damage 71 = .ok (.iconst 1, 1) := by decide +kernel
theorem dX12_damage_72 : decode cX12_damage 72 = .ok (.goto 4, 3) := by decide +kernel
theorem dX12_damage_75 : decode cX12_damage 75 = .ok (.iconst 0, 1) := by decide +kernel
theorem dX12_damage_76 : decode cX12_damage 76 = .ok (.istore 6, 2) := by decide +kernel
theorem dX12_damage_78 : decode cX12_damage 78 = .ok (.iload 6, 2) := by decide +kernel
theorem dX12_damage_80 : decode cX12_damage 80 = .ok (.ifCond .ne 5, 3) := by decide +kernel
theorem dX12_damage_83 : decode cX12_damage 83 = .ok (.iconst (-1), 1) := by decide +kernel
theorem dX12_damage_84 : decode cX12_damage 84 = .ok (.ireturn, 1) := by decide +kernel
theorem dX12_damage_85 : decode cX12_damage 85 = .ok (.aload_n 0, 1) := by decide +kernel
theorem dX12_damage_86 : decode cX12_damage 86 = .ok (.getfield 44, 3) := by decide +kernel
theorem dX12_damage_89 : decode cX12_damage 89 = .ok (.iload_n 1, 1) := by decide +kernel
theorem dX12_damage_90 : decode cX12_damage 90 = .ok (.iaload, 1) := by decide +kernel
theorem dX12_damage_91 : decode cX12_damage 91 = .ok (.bipush 8, 2) := by decide +kernel
theorem dX12_damage_93 : decode cX12_damage 93 = .ok (.if_icmp .ne 6, 3) := by decide +kernel
theorem dX12_damage_96 : decode cX12_damage 96 = .ok (.bipush (-3), 2) := by decide +kernel
theorem dX12_damage_98 : decode cX12_damage 98 = .ok (.ireturn, 1) := by decide +kernel
theorem dX12_damage_99 : decode cX12_damage 99 = .ok (.bipush 8, 2) := by decide +kernel
theorem dX12_damage_101 : decode cX12_damage 101 = .ok (.iload_n 1, 1) := by decide +kernel
theorem dX12_damage_102 : decode cX12_damage 102 = .ok (.imul, 1) := by decide +kernel
theorem dX12_damage_103 : decode cX12_damage 103 = .ok (.aload_n 0, 1) := by decide +kernel
theorem dX12_damage_104 : decode cX12_damage 104 = .ok (.getfield 44, 3) := by decide +kernel
theorem dX12_damage_107 : decode cX12_damage 107 = .ok (.iload_n 1, 1) := by decide +kernel
theorem dX12_damage_108 : decode cX12_damage 108 = .ok (.iaload, 1) := by decide +kernel
theorem dX12_damage_109 : decode cX12_damage 109 = .ok (.iadd, 1) := by decide +kernel
theorem dX12_damage_110 : decode cX12_damage 110 = .ok (.istore 7, 2) := by decide +kernel
theorem dX12_damage_112 : decode cX12_damage 112 = .ok (.aload_n 0, 1) := by decide +kernel
theorem dX12_damage_113 : decode cX12_damage 113 = .ok (.getfield 32, 3) := by decide +kernel
theorem dX12_damage_116 : decode cX12_damage 116 = .ok (.iload 7, 2) := by decide +kernel
theorem dX12_damage_118 : decode cX12_damage 118 = .ok (.iload_n 2, 1) := by decide +kernel
theorem dX12_damage_119 : decode cX12_damage 119 = .ok (.iastore, 1) := by decide +kernel
theorem dX12_damage_120 : decode cX12_damage 120 = .ok (.aload_n 0, 1) := by decide +kernel
theorem dX12_damage_121 : decode cX12_damage 121 = .ok (.getfield 35, 3) := by decide +kernel
theorem dX12_damage_124 : decode cX12_damage 124 = .ok (.iload 7, 2) := by decide +kernel
theorem dX12_damage_126 : decode cX12_damage 126 = .ok (.iload_n 3, 1) := by decide +kernel
theorem dX12_damage_127 : decode cX12_damage 127 = .ok (.iastore, 1) := by decide +kernel
theorem dX12_damage_128 : decode cX12_damage 128 = .ok (.aload_n 0, 1) := by decide +kernel
theorem dX12_damage_129 : decode cX12_damage 129 = .ok (.getfield 38, 3) := by decide +kernel
theorem dX12_damage_132 : decode cX12_damage 132 = .ok (.iload 7, 2) := by decide +kernel
theorem dX12_damage_134 : decode cX12_damage 134 = .ok (.iload 4, 2) := by decide +kernel
theorem dX12_damage_136 : decode cX12_damage 136 = .ok (.iastore, 1) := by decide +kernel
theorem dX12_damage_137 : decode cX12_damage 137 = .ok (.aload_n 0, 1) := by decide +kernel
theorem dX12_damage_138 : decode cX12_damage 138 = .ok (.getfield 41, 3) := by decide +kernel
theorem dX12_damage_141 : decode cX12_damage 141 = .ok (.iload 7, 2) := by decide +kernel
theorem dX12_damage_143 : decode cX12_damage 143 = .ok (.iload 5, 2) := by decide +kernel
theorem dX12_damage_145 : decode cX12_damage 145 = .ok (.iastore, 1) := by decide +kernel
theorem dX12_damage_146 : decode cX12_damage 146 = .ok (.aload_n 0, 1) := by decide +kernel
theorem dX12_damage_147 : decode cX12_damage 147 = .ok (.getfield 44, 3) := by decide +kernel
theorem dX12_damage_150 : decode cX12_damage 150 = .ok (.iload_n 1, 1) := by decide +kernel
theorem dX12_damage_151 : decode cX12_damage 151 = .ok (.dup2, 1) := by decide +kernel
theorem dX12_damage_152 : decode cX12_damage 152 = .ok (.iaload, 1) := by decide +kernel
theorem dX12_damage_153 : decode cX12_damage 153 = .ok (.iconst 1, 1) := by decide +kernel
theorem dX12_damage_154 : decode cX12_damage 154 = .ok (.iadd, 1) := by decide +kernel
theorem dX12_damage_155 : decode cX12_damage 155 = .ok (.iastore, 1) := by decide +kernel
theorem dX12_damage_156 : decode cX12_damage 156 = .ok (.aload_n 0, 1) := by decide +kernel
theorem dX12_damage_157 : decode cX12_damage 157 = .ok (.getfield 44, 3) := by decide +kernel
theorem dX12_damage_160 : decode cX12_damage 160 = .ok (.iload_n 1, 1) := by decide +kernel
theorem dX12_damage_161 : decode cX12_damage 161 = .ok (.iaload, 1) := by decide +kernel
theorem dX12_damage_162 : decode cX12_damage 162 = .ok (.ireturn, 1) := by decide +kernel
theorem dX12_putOne_0 : decode cX12_putOne 0 = .ok (.aload_n 0, 1) := by decide +kernel
theorem dX12_putOne_1 : decode cX12_putOne 1 = .ok (.getfield 20, 3) := by decide +kernel
theorem dX12_putOne_4 : decode cX12_putOne 4 = .ok (.iconst 2, 1) := by decide +kernel
theorem dX12_putOne_5 : decode cX12_putOne 5 = .ok (.iload_n 1, 1) := by decide +kernel
theorem dX12_putOne_6 : decode cX12_putOne 6 = .ok (.imul, 1) := by decide +kernel
theorem dX12_putOne_7 : decode cX12_putOne 7 = .ok (.iaload, 1) := by decide +kernel
theorem dX12_putOne_8 : decode cX12_putOne 8 = .ok (.ifCond .le 7, 3) := by decide +kernel
theorem dX12_putOne_11 : decode cX12_putOne 11 = .ok (.iconst 0, 1) := by decide +kernel
theorem dX12_putOne_12 : decode cX12_putOne 12 = .ok (.goto 21, 3) := by decide +kernel
theorem dX12_putOne_15 : decode cX12_putOne 15 = .ok (.aload_n 0, 1) := by decide +kernel
theorem dX12_putOne_16 : decode cX12_putOne 16 = .ok (.getfield 20, 3) := by decide +kernel
theorem dX12_putOne_19 : decode cX12_putOne 19 = .ok (.iconst 2, 1) := by decide +kernel
theorem dX12_putOne_20 : decode cX12_putOne 20 = .ok (.iload_n 1, 1) := by decide +kernel
theorem dX12_putOne_21 : decode cX12_putOne 21 = .ok (.imul, 1) := by decide +kernel
theorem dX12_putOne_22 : decode cX12_putOne 22 = .ok (.iconst 1, 1) := by decide +kernel
theorem dX12_putOne_23 : decode cX12_putOne 23 = .ok (.iadd, 1) := by decide +kernel
theorem dX12_putOne_24 : decode cX12_putOne 24 = .ok (.iaload, 1) := by decide +kernel
theorem dX12_putOne_25 : decode cX12_putOne 25 = .ok (.ifCond .le 7, 3) := by decide +kernel
theorem dX12_putOne_28 : decode cX12_putOne 28 = .ok (.iconst 1, 1) := by decide +kernel
theorem dX12_putOne_29 : decode cX12_putOne 29 = .ok (.goto 4, 3) := by decide +kernel
theorem dX12_putOne_32 : decode cX12_putOne 32 = .ok (.iconst 2, 1) := by decide +kernel
theorem dX12_putOne_33 : decode cX12_putOne 33 = .ok (.istore_n 3, 1) := by decide +kernel
theorem dX12_putOne_34 : decode cX12_putOne 34 = .ok (.bipush 53, 2) := by decide +kernel
theorem dX12_putOne_36 : decode cX12_putOne 36 = .ok (.iconst 4, 1) := by decide +kernel
theorem dX12_putOne_37 : decode cX12_putOne 37 = .ok (.iload_n 1, 1) := by decide +kernel
theorem dX12_putOne_38 : decode cX12_putOne 38 = .ok (.imul, 1) := by decide +kernel
theorem dX12_putOne_39 : decode cX12_putOne 39 = .ok (.iload_n 2, 1) := by decide +kernel
theorem dX12_putOne_40 : decode cX12_putOne 40 = .ok (.iadd, 1) := by decide +kernel
theorem dX12_putOne_41 : decode cX12_putOne 41 = .ok (.imul, 1) := by decide +kernel
theorem dX12_putOne_42 : decode cX12_putOne 42 = .ok (.istore 4, 2) := by decide +kernel
theorem dX12_putOne_44 : decode cX12_putOne 44 = .ok (.aload_n 0, 1) := by decide +kernel
theorem dX12_putOne_45 : decode cX12_putOne 45 = .ok (.dup, 1) := by decide +kernel
theorem dX12_putOne_46 : decode cX12_putOne 46 = .ok (.getfield 323, 3) := by decide +kernel
theorem dX12_putOne_49 : decode cX12_putOne 49 = .ok (.iconst 1, 1) := by decide +kernel
theorem dX12_putOne_50 : decode cX12_putOne 50 = .ok (.iadd, 1) := by decide +kernel
theorem dX12_putOne_51 : decode cX12_putOne 51 = .ok (.putfield 323, 3) := by decide +kernel
theorem dX12_putOne_54 : decode cX12_putOne 54 = .ok (.iload_n 3, 1) := by decide +kernel
theorem dX12_putOne_55 : decode cX12_putOne 55 = .ok (.iconst 2, 1) := by decide +kernel
theorem dX12_putOne_56 : decode cX12_putOne 56 = .ok (.if_icmp .ne 77, 3) := by decide +kernel
theorem dX12_putOne_59 : decode cX12_putOne 59 = .ok (.aload_n 0, 1) := by decide +kernel
theorem dX12_putOne_60 : decode cX12_putOne 60 = .ok (.dup, 1) := by decide +kernel
theorem dX12_putOne_61 : decode cX12_putOne 61 = .ok (.getfield 326, 3) := by decide +kernel
theorem dX12_putOne_64 : decode cX12_putOne 64 = .ok (.iconst 1, 1) := by decide +kernel
theorem dX12_putOne_65 : decode cX12_putOne 65 = .ok (.iadd, 1) := by decide +kernel
theorem dX12_putOne_66 : decode cX12_putOne 66 = .ok (.putfield 326, 3) := by decide +kernel
theorem dX12_putOne_69 : decode cX12_putOne 69 = .ok (.iconst 0, 1) := by decide +kernel
theorem dX12_putOne_70 : decode cX12_putOne 70 = .ok (.istore 5, 2) := by decide +kernel
theorem dX12_putOne_72 : decode cX12_putOne 72 = .ok (.iload 5, 2) := by decide +kernel
theorem dX12_putOne_74 : decode cX12_putOne 74 = .ok (.bipush 53, 2) := by decide +kernel
theorem dX12_putOne_76 : decode cX12_putOne 76 = .ok (.if_icmp .ge 54, 3) := by decide +kernel
theorem dX12_putOne_79 : decode cX12_putOne 79 = .ok (.aload_n 0, 1) := by decide +kernel
theorem dX12_putOne_80 : decode cX12_putOne 80 = .ok (.getfield 47, 3) := by decide +kernel
theorem dX12_putOne_83 : decode cX12_putOne 83 = .ok (.iload 4, 2) := by decide +kernel
theorem dX12_putOne_85 : decode cX12_putOne 85 = .ok (.iload 5, 2) := by decide +kernel
theorem dX12_putOne_87 : decode cX12_putOne 87 = .ok (.iadd, 1) := by decide +kernel
theorem dX12_putOne_88 : decode cX12_putOne 88 = .ok (.iload 5, 2) := by decide +kernel
theorem dX12_putOne_90 : decode cX12_putOne 90 = .ok (.iconst 3, 1) := by decide +kernel
theorem dX12_putOne_91 : decode cX12_putOne 91 = .ok (.if_icmp .ge 7, 3) := by decide +kernel
theorem dX12_putOne_94 : decode cX12_putOne 94 = .ok (.iconst 0, 1) := by decide +kernel
theorem dX12_putOne_95 : decode cX12_putOne 95 = .ok (.goto 28, 3) := by decide +kernel
theorem dX12_putOne_98 : decode cX12_putOne 98 = .ok (.iload 5, 2) := by decide +kernel
theorem dX12_putOne_100 : decode cX12_putOne 100 = .ok (.iconst 3, 1) := by decide +kernel
theorem dX12_putOne_101 : decode cX12_putOne 101 = .ok (.if_icmp .ne 7, 3) := by decide +kernel
theorem dX12_putOne_104 : decode cX12_putOne 104 = .ok (.iconst 1, 1) := by decide +kernel
theorem dX12_putOne_105 : decode cX12_putOne 105 = .ok (.goto 18, 3) := by decide +kernel
theorem dX12_putOne_108 : decode cX12_putOne 108 = .ok (.iload 5, 2) := by decide +kernel
theorem dX12_putOne_110 : decode cX12_putOne 110 = .ok (.iconst 4, 1) := by decide +kernel
theorem dX12_putOne_111 : decode cX12_putOne 111 = .ok (.if_icmp .ne 10, 3) := by decide +kernel
theorem dX12_putOne_114 : decode cX12_putOne 114 = .ok (.iconst 1, 1) := by decide +kernel
theorem dX12_putOne_115 : decode cX12_putOne 115 = .ok (.invokestatic 267, 3) := by decide +kernel
theorem dX12_putOne_118 : decode cX12_putOne 118 = .ok (.goto 5, 3) := by decide +kernel
theorem dX12_putOne_121 : decode cX12_putOne 121 = .ok (.bipush 106, 2) := by decide +kernel
theorem dX12_putOne_123 : decode cX12_putOne 123 = .ok (.iastore, 1) := by decide +kernel
theorem dX12_putOne_124 : decode cX12_putOne 124 = .ok (.iinc 5 1, 3) := by decide +kernel
theorem dX12_putOne_127 : decode cX12_putOne 127 = .ok (.goto (-55), 3) := by decide +kernel
theorem dX12_putOne_130 : decode cX12_putOne 130 = .ok (.goto 94, 3) := by decide +kernel
theorem dX12_putOne_133 : decode cX12_putOne 133 = .ok (.iconst 2, 1) := by decide +kernel
theorem dX12_putOne_134 : decode cX12_putOne 134 = .ok (.iload_n 1, 1) := by decide +kernel
theorem dX12_putOne_135 : decode cX12_putOne 135 = .ok (.imul, 1) := by decide +kernel
theorem dX12_putOne_136 : decode cX12_putOne 136 = .ok (.iload_n 3, 1) := by decide +kernel
theorem dX12_putOne_137 : decode cX12_putOne 137 = .ok (.iadd, 1) := by decide +kernel
theorem dX12_putOne_138 : decode cX12_putOne 138 = .ok (.istore 5, 2) := by decide +kernel
theorem dX12_putOne_140 : decode cX12_putOne 140 = .ok (.bipush 53, 2) := by decide +kernel
theorem dX12_putOne_142 : decode cX12_putOne 142 = .ok (.bipush 40, 2) := by decide +kernel
theorem dX12_putOne_144 : decode cX12_putOne 144 = .ok (.iload 5, 2) := by decide +kernel
theorem dX12_putOne_146 : decode cX12_putOne 146 = .ok (.imul, 1) := by decide +kernel
theorem dX12_putOne_147 : decode cX12_putOne 147 = .ok (.aload_n 0, 1) := by decide +kernel
theorem dX12_putOne_148 : decode cX12_putOne 148 = .ok (.getfield 17, 3) := by decide +kernel
theorem dX12_putOne_151 : decode cX12_putOne 151 = .ok (.iload 5, 2) := by decide +kernel
theorem dX12_putOne_153 : decode cX12_putOne 153 = .ok (.iaload, 1) := by decide +kernel
theorem dX12_putOne_154 : decode cX12_putOne 154 = .ok (.iadd, 1) := by decide +kernel
theorem dX12_putOne_155 : decode cX12_putOne 155 = .ok (.imul, 1) := by decide +kernel
theorem dX12_putOne_156 : decode cX12_putOne 156 = .ok (.istore 6, 2) := by decide +kernel
theorem dX12_putOne_158 : decode cX12_putOne 158 = .ok (.iconst 0, 1) := by decide +kernel
theorem dX12_putOne_159 : decode cX12_putOne 159 = .ok (.istore 7, 2) := by decide +kernel
theorem dX12_putOne_161 : decode cX12_putOne 161 = .ok (.iload 7, 2) := by decide +kernel
theorem dX12_putOne_163 : decode cX12_putOne 163 = .ok (.bipush 53, 2) := by decide +kernel
theorem dX12_putOne_165 : decode cX12_putOne 165 = .ok (.if_icmp .ge 29, 3) := by decide +kernel
theorem dX12_putOne_168 : decode cX12_putOne 168 = .ok (.aload_n 0, 1) := by decide +kernel
theorem dX12_putOne_169 : decode cX12_putOne 169 = .ok (.getfield 47, 3) := by decide +kernel
theorem dX12_putOne_172 : decode cX12_putOne 172 = .ok (.iload 4, 2) := by decide +kernel
theorem dX12_putOne_174 : decode cX12_putOne 174 = .ok (.iload 7, 2) := by decide +kernel
theorem dX12_putOne_176 : decode cX12_putOne 176 = .ok (.iadd, 1) := by decide +kernel
theorem dX12_putOne_177 : decode cX12_putOne 177 = .ok (.aload_n 0, 1) := by decide +kernel
theorem dX12_putOne_178 : decode cX12_putOne 178 = .ok (.getfield 14, 3) := by decide +kernel
theorem dX12_putOne_181 : decode cX12_putOne 181 = .ok (.iload 6, 2) := by decide +kernel
theorem dX12_putOne_183 : decode cX12_putOne 183 = .ok (.iload 7, 2) := by decide +kernel
theorem dX12_putOne_185 : decode cX12_putOne 185 = .ok (.iadd, 1) := by decide +kernel
theorem dX12_putOne_186 : decode cX12_putOne 186 = .ok (.iaload, 1) := by decide +kernel
theorem dX12_putOne_187 : decode cX12_putOne 187 = .ok (.iastore, 1) := by decide +kernel
theorem dX12_putOne_188 : decode cX12_putOne 188 = .ok (.iinc 7 1, 3) := by decide +kernel
theorem dX12_putOne_191 : decode cX12_putOne 191 = .ok (.goto (-30), 3) := by decide +kernel
theorem dX12_putOne_194 : decode cX12_putOne 194 = .ok (.aload_n 0, 1) := by decide +kernel
theorem dX12_putOne_195 : decode cX12_putOne 195 = .ok (.getfield 17, 3) := by decide +kernel
theorem dX12_putOne_198 : decode cX12_putOne 198 = .ok (.iload 5, 2) := by decide +kernel
theorem dX12_putOne_200 : decode cX12_putOne 200 = .ok (.aload_n 0, 1) := by decide +kernel
theorem dX12_putOne_201 : decode cX12_putOne 201 = .ok (.getfield 17, 3) := by decide +kernel
theorem dX12_putOne_204 : decode cX12_putOne 204 = .ok (.iload 5, 2) := by decide +kernel
theorem dX12_putOne_206 : decode cX12_putOne 206 = .ok (.iaload, 1) := by decide +kernel
theorem dX12_putOne_207 : decode cX12_putOne 207 = .ok (.iconst 1, 1) := by decide +kernel
theorem dX12_putOne_208 : decode cX12_putOne 208 = .ok (.iadd, 1) := by decide +kernel
theorem dX12_putOne_209 : decode cX12_putOne 209 = .ok (.bipush 40, 2) := by decide +kernel
theorem dX12_putOne_211 : decode cX12_putOne 211 = .ok (.irem, 1) := by decide +kernel
theorem dX12_putOne_212 : decode cX12_putOne 212 = .ok (.iastore, 1) := by decide +kernel
theorem dX12_putOne_213 : decode cX12_putOne 213 = .ok (.aload_n 0, 1) := by decide +kernel
theorem dX12_putOne_214 : decode cX12_putOne 214 = .ok (.getfield 20, 3) := by decide +kernel
theorem dX12_putOne_217 : decode cX12_putOne 217 = .ok (.iload 5, 2) := by decide +kernel
theorem dX12_putOne_219 : decode cX12_putOne 219 = .ok (.dup2, 1) := by decide +kernel
theorem dX12_putOne_220 : decode cX12_putOne 220 = .ok (.iaload, 1) := by decide +kernel
theorem dX12_putOne_221 : decode cX12_putOne 221 = .ok (.iconst 1, 1) := by decide +kernel
theorem dX12_putOne_222 : decode cX12_putOne 222 = .ok (.isub, 1) := by decide +kernel
theorem dX12_putOne_223 : decode cX12_putOne 223 = .ok (.iastore, 1) := by decide +kernel
theorem dX12_putOne_224 : decode cX12_putOne 224 = .ok (.aload_n 0, 1) := by decide +kernel
theorem dX12_putOne_225 : decode cX12_putOne 225 = .ok (.getfield 50, 3) := by decide +kernel
theorem dX12_putOne_228 : decode cX12_putOne 228 = .ok (.iconst 4, 1) := by decide +kernel
theorem dX12_putOne_229 : decode cX12_putOne 229 = .ok (.iload_n 1, 1) := by decide +kernel
theorem dX12_putOne_230 : decode cX12_putOne 230 = .ok (.imul, 1) := by decide +kernel
theorem dX12_putOne_231 : decode cX12_putOne 231 = .ok (.iload_n 2, 1) := by decide +kernel
theorem dX12_putOne_232 : decode cX12_putOne 232 = .ok (.iadd, 1) := by decide +kernel
theorem dX12_putOne_233 : decode cX12_putOne 233 = .ok (.bipush 53, 2) := by decide +kernel
theorem dX12_putOne_235 : decode cX12_putOne 235 = .ok (.iastore, 1) := by decide +kernel
theorem dX12_putOne_236 : decode cX12_putOne 236 = .ok (.aload_n 0, 1) := by decide +kernel
theorem dX12_putOne_237 : decode cX12_putOne 237 = .ok (.iload_n 1, 1) := by decide +kernel
theorem dX12_putOne_238 : decode cX12_putOne 238 = .ok (.iload_n 2, 1) := by decide +kernel
theorem dX12_putOne_239 : decode cX12_putOne 239 = .ok (.iload 4, 2) := by decide +kernel
theorem dX12_putOne_241 : decode cX12_putOne 241 = .ok (.invokevirtual 329, 3) := by decide +kernel
theorem dX12_putOne_244 : decode cX12_putOne 244 = .ok (.return_, 1) := by decide +kernel
theorem dX12_harm_0 : decode cX12_harm 0 = .ok (.iconst 0, 1) := by decide +kernel
theorem dX12_harm_1 : decode cX12_harm 1 = .ok (.istore 4, 2) := by decide +kernel
theorem dX12_harm_3 : decode cX12_harm 3 = .ok (.bipush 53, 2) := by decide +kernel
theorem dX12_harm_5 : decode cX12_harm 5 = .ok (.istore 5, 2) := by decide +kernel
theorem dX12_harm_7 : decode cX12_harm 7 = .ok (.bipush 8, 2) := by decide +kernel
theorem dX12_harm_9 : decode cX12_harm 9 = .ok (.iload_n 1, 1) := by decide +kernel
theorem dX12_harm_10 : decode cX12_harm 10 = .ok (.imul, 1) := by decide +kernel
theorem dX12_harm_11 : decode cX12_harm 11 = .ok (.istore 6, 2) := by decide +kernel
theorem dX12_harm_13 : decode cX12_harm 13 = .ok (.iload 6, 2) := by decide +kernel
theorem dX12_harm_15 : decode cX12_harm 15 = .ok (.bipush 8, 2) := by decide +kernel
theorem dX12_harm_17 : decode cX12_harm 17 = .ok (.iload_n 1, 1) := by decide +kernel
theorem dX12_harm_18 : decode cX12_harm 18 = .ok (.imul, 1) := by decide +kernel
theorem dX12_harm_19 : decode cX12_harm 19 = .ok (.aload_n 0, 1) := by decide +kernel
theorem dX12_harm_20 : decode cX12_harm 20 = .ok (.getfield 44, 3) := by decide +kernel
theorem dX12_harm_23 : decode cX12_harm 23 = .ok (.iload_n 1, 1) := by decide +kernel
theorem dX12_harm_24 : decode cX12_harm 24 = .ok (.iaload, 1) := by decide +kernel
theorem dX12_harm_25 : decode cX12_harm 25 = .ok (.iadd, 1) := by decide +kernel
theorem dX12_harm_26 : decode cX12_harm 26 = .ok (.if_icmp .ge 157, 3) := by decide +kernel
theorem dX12_harm_29 : decode cX12_harm 29 = .ok (.aload_n 0, 1) := by decide +kernel
theorem dX12_harm_30 : decode cX12_harm 30 = .ok (.getfield 35, 3) := by decide +kernel
theorem dX12_harm_33 : decode cX12_harm 33 = .ok (.iload 6, 2) := by decide +kernel
theorem dX12_harm_35 : decode cX12_harm 35 = .ok (.iaload, 1) := by decide +kernel
theorem dX12_harm_36 : decode cX12_harm 36 = .ok (.ifCond .ne 71, 3) := by decide +kernel
theorem dX12_harm_39 : decode cX12_harm 39 = .ok (.aload_n 0, 1) := by decide +kernel
theorem dX12_harm_40 : decode cX12_harm 40 = .ok (.getfield 32, 3) := by decide +kernel
theorem dX12_harm_43 : decode cX12_harm 43 = .ok (.iload 6, 2) := by decide +kernel
theorem dX12_harm_45 : decode cX12_harm 45 = .ok (.iaload, 1) := by decide +kernel
theorem dX12_harm_46 : decode cX12_harm 46 = .ok (.iconst 1, 1) := by decide +kernel
theorem dX12_harm_47 : decode cX12_harm 47 = .ok (.if_icmp .ne 30, 3) := by decide +kernel
theorem dX12_harm_50 : decode cX12_harm 50 = .ok (.aload_n 0, 1) := by decide +kernel
theorem dX12_harm_51 : decode cX12_harm 51 = .ok (.getfield 47, 3) := by decide +kernel
theorem dX12_harm_54 : decode cX12_harm 54 = .ok (.iload_n 3, 1) := by decide +kernel
theorem dX12_harm_55 : decode cX12_harm 55 = .ok (.aload_n 0, 1) := by decide +kernel
theorem dX12_harm_56 : decode cX12_harm 56 = .ok (.getfield 38, 3) := by decide +kernel
theorem dX12_harm_59 : decode cX12_harm 59 = .ok (.iload 6, 2) := by decide +kernel
theorem dX12_harm_61 : decode cX12_harm 61 = .ok (.iaload, 1) := by decide +kernel
theorem dX12_harm_62 : decode cX12_harm 62 = .ok (.iadd, 1) := by decide +kernel
theorem dX12_harm_63 : decode cX12_harm 63 = .ok (.dup2, 1) := by decide +kernel
theorem dX12_harm_64 : decode cX12_harm 64 = .ok (.iaload, 1) := by decide +kernel
theorem dX12_harm_65 : decode cX12_harm 65 = .ok (.aload_n 0, 1) := by decide +kernel
theorem dX12_harm_66 : decode cX12_harm 66 = .ok (.getfield 41, 3) := by decide +kernel
theorem dX12_harm_69 : decode cX12_harm 69 = .ok (.iload 6, 2) := by decide +kernel
theorem dX12_harm_71 : decode cX12_harm 71 = .ok (.iaload, 1) := by decide +kernel
theorem dX12_harm_72 : decode cX12_harm 72 = .ok (.ixor, 1) := by decide +kernel
theorem dX12_harm_73 : decode cX12_harm 73 = .ok (.iastore, 1) := by decide +kernel
theorem dX12_harm_74 : decode cX12_harm 74 = .ok (.goto 103, 3) := by decide +kernel
theorem dX12_harm_77 : decode cX12_harm 77 = .ok (.aload_n 0, 1) := by decide +kernel
theorem dX12_harm_78 : decode cX12_harm 78 = .ok (.getfield 32, 3) := by decide +kernel
theorem dX12_harm_81 : decode cX12_harm 81 = .ok (.iload 6, 2) := by decide +kernel
theorem dX12_harm_83 : decode cX12_harm 83 = .ok (.iaload, 1) := by decide +kernel
theorem dX12_harm_84 : decode cX12_harm 84 = .ok (.ifCond .ne 7, 3) := by decide +kernel
theorem dX12_harm_87 : decode cX12_harm 87 = .ok (.iconst 0, 1) := by decide +kernel
theorem dX12_harm_88 : decode cX12_harm 88 = .ok (.goto 14, 3) := by decide +kernel
theorem dX12_harm_91 : decode cX12_harm 91 = .ok (.iload 5, 2) := by decide +kernel
theorem dX12_harm_93 : decode cX12_harm 93 = .ok (.ifCond .ne 7, 3) := by decide +kernel
theorem dX12_harm_96 : decode cX12_harm 96 = .ok (.iconst 0, 1) := by decide +kernel
theorem dX12_harm_97 : decode cX12_harm 97 = .ok (.goto 5, 3) := by decide +kernel
theorem dX12_harm_100 : decode cX12_harm 100 = .ok (.bipush 52, 2) := by decide +kernel
theorem dX12_harm_102 : decode cX12_harm 102 = .ok (.istore 5, 2) := by decide +kernel
theorem dX12_harm_104 : decode cX12_harm 104 = .ok (.goto 73, 3) := by decide +kernel
theorem dX12_harm_107 : decode cX12_harm 107 = .ok (.bipush 8, 2) := by decide +kernel
theorem dX12_harm_109 : decode cX12_harm 109 = .ok (.iload_n 1, 1) := by decide +kernel
theorem dX12_harm_110 : decode cX12_harm 110 = .ok (.imul, 1) := by decide +kernel
theorem dX12_harm_111 : decode cX12_harm 111 = .ok (.iload 4, 2) := by decide +kernel
theorem dX12_harm_113 : decode cX12_harm 113 = .ok (.iadd, 1) := by decide +kernel
theorem dX12_harm_114 : decode cX12_harm 114 = .ok (.istore 7, 2) := by decide +kernel
theorem dX12_harm_116 : decode cX12_harm 116 = .ok (.aload_n 0, 1) := by decide +kernel
theorem dX12_harm_117 : decode cX12_harm 117 = .ok (.getfield 32, 3) := by decide +kernel
theorem dX12_harm_120 : decode cX12_harm 120 = .ok (.iload 7, 2) := by decide +kernel
theorem dX12_harm_122 : decode cX12_harm 122 = .ok (.aload_n 0, 1) := by decide +kernel
theorem dX12_harm_123 : decode cX12_harm 123 = .ok (.getfield 32, 3) := by decide +kernel
theorem dX12_harm_126 : decode cX12_harm 126 = .ok (.iload 6, 2) := by decide +kernel
theorem dX12_harm_128 : decode cX12_harm 128 = .ok (.iaload, 1) := by decide +kernel
theorem dX12_harm_129 : decode cX12_harm 129 = .ok (.iastore, 1) := by decide +kernel
theorem dX12_harm_130 : decode cX12_harm 130 = .ok (.aload_n 0, 1) := by decide +kernel
theorem dX12_harm_131 : decode cX12_harm 131 = .ok (.getfield 35, 3) := by decide +kernel
theorem dX12_harm_134 : decode cX12_harm 134 = .ok (.iload 7, 2) := by decide +kernel
theorem dX12_harm_136 : decode cX12_harm 136 = .ok (.aload_n 0, 1) := by decide +kernel
theorem dX12_harm_137 : decode cX12_harm 137 = .ok (.getfield 35, 3) := by decide +kernel
theorem dX12_harm_140 : decode cX12_harm 140 = .ok (.iload 6, 2) := by decide +kernel
theorem dX12_harm_142 : decode cX12_harm 142 = .ok (.iaload, 1) := by decide +kernel
theorem dX12_harm_143 : decode cX12_harm 143 = .ok (.iconst 1, 1) := by decide +kernel
theorem dX12_harm_144 : decode cX12_harm 144 = .ok (.isub, 1) := by decide +kernel
theorem dX12_harm_145 : decode cX12_harm 145 = .ok (.iastore, 1) := by decide +kernel
theorem dX12_harm_146 : decode cX12_harm 146 = .ok (.aload_n 0, 1) := by decide +kernel
theorem dX12_harm_147 : decode cX12_harm 147 = .ok (.getfield 38, 3) := by decide +kernel
theorem dX12_harm_150 : decode cX12_harm 150 = .ok (.iload 7, 2) := by decide +kernel
theorem dX12_harm_152 : decode cX12_harm 152 = .ok (.aload_n 0, 1) := by decide +kernel
theorem dX12_harm_153 : decode cX12_harm 153 = .ok (.getfield 38, 3) := by decide +kernel
theorem dX12_harm_156 : decode cX12_harm 156 = .ok (.iload 6, 2) := by decide +kernel
theorem dX12_harm_158 : decode cX12_harm 158 = .ok (.iaload, 1) := by decide +kernel
theorem dX12_harm_159 : decode cX12_harm 159 = .ok (.iastore, 1) := by decide +kernel
theorem dX12_harm_160 : decode cX12_harm 160 = .ok (.aload_n 0, 1) := by decide +kernel
theorem dX12_harm_161 : decode cX12_harm 161 = .ok (.getfield 41, 3) := by decide +kernel
theorem dX12_harm_164 : decode cX12_harm 164 = .ok (.iload 7, 2) := by decide +kernel
theorem dX12_harm_166 : decode cX12_harm 166 = .ok (.aload_n 0, 1) := by decide +kernel
theorem dX12_harm_167 : decode cX12_harm 167 = .ok (.getfield 41, 3) := by decide +kernel
theorem dX12_harm_170 : decode cX12_harm 170 = .ok (.iload 6, 2) := by decide +kernel
theorem dX12_harm_172 : decode cX12_harm 172 = .ok (.iaload, 1) := by decide +kernel
theorem dX12_harm_173 : decode cX12_harm 173 = .ok (.iastore, 1) := by decide +kernel
theorem dX12_harm_174 : decode cX12_harm 174 = .ok (.iinc 4 1, 3) := by decide +kernel
theorem dX12_harm_177 : decode cX12_harm 177 = .ok (.iinc 6 1, 3) := by decide +kernel
theorem dX12_harm_180 : decode cX12_harm 180 = .ok (.goto (-167), 3) := by decide +kernel
theorem dX12_harm_183 : decode cX12_harm 183 = .ok (.aload_n 0, 1) := by decide +kernel
theorem dX12_harm_184 : decode cX12_harm 184 = .ok (.getfield 44, 3) := by decide +kernel
theorem dX12_harm_187 : decode cX12_harm 187 = .ok (.iload_n 1, 1) := by decide +kernel
theorem dX12_harm_188 : decode cX12_harm 188 = .ok (.iload 4, 2) := by decide +kernel
theorem dX12_harm_190 : decode cX12_harm 190 = .ok (.iastore, 1) := by decide +kernel
theorem dX12_harm_191 : decode cX12_harm 191 = .ok (.aload_n 0, 1) := by decide +kernel
theorem dX12_harm_192 : decode cX12_harm 192 = .ok (.getfield 50, 3) := by decide +kernel
theorem dX12_harm_195 : decode cX12_harm 195 = .ok (.iconst 4, 1) := by decide +kernel
theorem dX12_harm_196 : decode cX12_harm 196 = .ok (.iload_n 1, 1) := by decide +kernel
theorem dX12_harm_197 : decode cX12_harm 197 = .ok (.imul, 1) := by decide +kernel
theorem dX12_harm_198 : decode cX12_harm 198 = .ok (.iload_n 2, 1) := by decide +kernel
theorem dX12_harm_199 : decode cX12_harm 199 = .ok (.iadd, 1) := by decide +kernel
theorem dX12_harm_200 : decode cX12_harm 200 = .ok (.iload 5, 2) := by decide +kernel
theorem dX12_harm_202 : decode cX12_harm 202 = .ok (.iastore, 1) := by decide +kernel
theorem dX12_harm_203 : decode cX12_harm 203 = .ok (.return_, 1) := by decide +kernel
theorem dX12_octetsOf_0 : decode cX12_octetsOf 0 = .ok (.aload_n 0, 1) := by decide +kernel
theorem dX12_octetsOf_1 : decode cX12_octetsOf 1 = .ok (.getfield 68, 3) := by decide +kernel
theorem dX12_octetsOf_4 : decode cX12_octetsOf 4 = .ok (.iload_n 1, 1) := by decide +kernel
theorem dX12_octetsOf_5 : decode cX12_octetsOf 5 = .ok (.iaload, 1) := by decide +kernel
theorem dX12_octetsOf_6 : decode cX12_octetsOf 6 = .ok (.bipush 24, 2) := by decide +kernel
theorem dX12_octetsOf_8 : decode cX12_octetsOf 8 = .ok (.ishl, 1) := by decide +kernel
theorem dX12_octetsOf_9 : decode cX12_octetsOf 9 = .ok (.aload_n 0, 1) := by decide +kernel
theorem dX12_octetsOf_10 : decode cX12_octetsOf 10 = .ok (.getfield 68, 3) := by decide +kernel
theorem dX12_octetsOf_13 : decode cX12_octetsOf 13 = .ok (.iload_n 1, 1) := by decide +kernel
theorem dX12_octetsOf_14 : decode cX12_octetsOf 14 = .ok (.iconst 1, 1) := by decide +kernel
theorem dX12_octetsOf_15 : decode cX12_octetsOf 15 = .ok (.iadd, 1) := by decide +kernel
theorem dX12_octetsOf_16 : decode cX12_octetsOf 16 = .ok (.iaload, 1) := by decide +kernel
theorem dX12_octetsOf_17 : decode cX12_octetsOf 17 = .ok (.bipush 16, 2) := by decide +kernel
theorem dX12_octetsOf_19 : decode cX12_octetsOf 19 = .ok (.ishl, 1) := by decide +kernel
theorem dX12_octetsOf_20 : decode cX12_octetsOf 20 = .ok (.ior, 1) := by decide +kernel
theorem dX12_octetsOf_21 : decode cX12_octetsOf 21 = .ok (.aload_n 0, 1) := by decide +kernel
theorem dX12_octetsOf_22 : decode cX12_octetsOf 22 = .ok (.getfield 68, 3) := by decide +kernel
theorem dX12_octetsOf_25 : decode cX12_octetsOf 25 = .ok (.iload_n 1, 1) := by decide +kernel
theorem dX12_octetsOf_26 : decode cX12_octetsOf 26 = .ok (.iconst 2, 1) := by decide +kernel
theorem dX12_octetsOf_27 : decode cX12_octetsOf 27 = .ok (.iadd, 1) := by decide +kernel
theorem dX12_octetsOf_28 : decode cX12_octetsOf 28 = .ok (.iaload, 1) := by decide +kernel
theorem dX12_octetsOf_29 : decode cX12_octetsOf 29 = .ok (.bipush 8, 2) := by decide +kernel
theorem dX12_octetsOf_31 : decode cX12_octetsOf 31 = .ok (.ishl, 1) := by decide +kernel
theorem dX12_octetsOf_32 : decode cX12_octetsOf 32 = .ok (.ior, 1) := by decide +kernel
theorem dX12_octetsOf_33 : decode cX12_octetsOf 33 = .ok (.aload_n 0, 1) := by decide +kernel
theorem dX12_octetsOf_34 : decode cX12_octetsOf 34 = .ok (.getfield 68, 3) := by decide +kernel
theorem dX12_octetsOf_37 : decode cX12_octetsOf 37 = .ok (.iload_n 1, 1) := by decide +kernel
theorem dX12_octetsOf_38 : decode cX12_octetsOf 38 = .ok (.iconst 3, 1) := by decide +kernel
theorem dX12_octetsOf_39 : decode cX12_octetsOf 39 = .ok (.iadd, 1) := by decide +kernel
theorem dX12_octetsOf_40 : decode cX12_octetsOf 40 = .ok (.iaload, 1) := by decide +kernel
theorem dX12_octetsOf_41 : decode cX12_octetsOf 41 = .ok (.ior, 1) := by decide +kernel
theorem dX12_octetsOf_42 : decode cX12_octetsOf 42 = .ok (.ireturn, 1) := by decide +kernel
theorem dX12_huntAnew_0 : decode cX12_huntAnew 0 = .ok (.aload_n 0, 1) := by decide +kernel
theorem dX12_huntAnew_1 : decode cX12_huntAnew 1 = .ok (.getfield 53, 3) := by decide +kernel
theorem dX12_huntAnew_4 : decode cX12_huntAnew 4 = .ok (.iload_n 1, 1) := by decide +kernel
theorem dX12_huntAnew_5 : decode cX12_huntAnew 5 = .ok (.iconst 0, 1) := by decide +kernel
theorem dX12_huntAnew_6 : decode cX12_huntAnew 6 = .ok (.iastore, 1) := by decide +kernel
theorem dX12_huntAnew_7 : decode cX12_huntAnew 7 = .ok (.aload_n 0, 1) := by decide +kernel
theorem dX12_huntAnew_8 : decode cX12_huntAnew 8 = .ok (.getfield 56, 3) := by decide +kernel
theorem dX12_huntAnew_11 : decode cX12_huntAnew 11 = .ok (.iload_n 1, 1) := by decide +kernel
theorem dX12_huntAnew_12 : decode cX12_huntAnew 12 = .ok (.iconst 0, 1) := by decide +kernel
theorem dX12_huntAnew_13 : decode cX12_huntAnew 13 = .ok (.iastore, 1) := by decide +kernel
theorem dX12_huntAnew_14 : decode cX12_huntAnew 14 = .ok (.aload_n 0, 1) := by decide +kernel
theorem dX12_huntAnew_15 : decode cX12_huntAnew 15 = .ok (.getfield 59, 3) := by decide +kernel
theorem dX12_huntAnew_18 : decode cX12_huntAnew 18 = .ok (.iload_n 1, 1) := by decide +kernel
theorem dX12_huntAnew_19 : decode cX12_huntAnew 19 = .ok (.iconst 0, 1) := by decide +kernel
theorem dX12_huntAnew_20 : decode cX12_huntAnew 20 = .ok (.iastore, 1) := by decide +kernel
theorem dX12_huntAnew_21 : decode cX12_huntAnew 21 = .ok (.aload_n 0, 1) := by decide +kernel
theorem dX12_huntAnew_22 : decode cX12_huntAnew 22 = .ok (.getfield 62, 3) := by decide +kernel
theorem dX12_huntAnew_25 : decode cX12_huntAnew 25 = .ok (.iload_n 1, 1) := by decide +kernel
theorem dX12_huntAnew_26 : decode cX12_huntAnew 26 = .ok (.iconst 0, 1) := by decide +kernel
theorem dX12_huntAnew_27 : decode cX12_huntAnew 27 = .ok (.iastore, 1) := by decide +kernel
theorem dX12_huntAnew_28 : decode cX12_huntAnew 28 = .ok (.return_, 1) := by decide +kernel
theorem dX12_octet_0 : decode cX12_octet 0 = .ok (.bipush 53, 2) := by decide +kernel
theorem dX12_octet_2 : decode cX12_octet 2 = .ok (.iload_n 1, 1) := by decide +kernel
theorem dX12_octet_3 : decode cX12_octet 3 = .ok (.imul, 1) := by decide +kernel
theorem dX12_octet_4 : decode cX12_octet 4 = .ok (.istore_n 3, 1) := by decide +kernel
theorem dX12_octet_5 : decode cX12_octet 5 = .ok (.aload_n 0, 1) := by decide +kernel
theorem dX12_octet_6 : decode cX12_octet 6 = .ok (.getfield 53, 3) := by decide +kernel
theorem dX12_octet_9 : decode cX12_octet 9 = .ok (.iload_n 1, 1) := by decide +kernel
theorem dX12_octet_10 : decode cX12_octet 10 = .ok (.iaload, 1) := by decide +kernel
theorem dX12_octet_11 : decode cX12_octet 11 = .ok (.ifCond .ne 130, 3) := by decide +kernel
theorem dX12_octet_14 : decode cX12_octet 14 = .ok (.aload_n 0, 1) := by decide +kernel
theorem dX12_octet_15 : decode cX12_octet 15 = .ok (.getfield 56, 3) := by decide +kernel
theorem dX12_octet_18 : decode cX12_octet 18 = .ok (.iload_n 1, 1) := by decide +kernel
theorem dX12_octet_19 : decode cX12_octet 19 = .ok (.iaload, 1) := by decide +kernel
theorem dX12_octet_20 : decode cX12_octet 20 = .ok (.iconst 5, 1) := by decide +kernel
theorem dX12_octet_21 : decode cX12_octet 21 = .ok (.if_icmp .ne 45, 3) := by decide +kernel
theorem dX12_octet_24 : decode cX12_octet 24 = .ok (.iconst 0, 1) := by decide +kernel
theorem dX12_octet_25 : decode cX12_octet 25 = .ok (.istore 4, 2) := by decide +kernel
theorem dX12_octet_27 : decode cX12_octet 27 = .ok (.iload 4, 2) := by decide +kernel
theorem dX12_octet_29 : decode cX12_octet 29 = .ok (.iconst 4, 1) := by decide +kernel
theorem dX12_octet_30 : decode cX12_octet 30 = .ok (.if_icmp .ge 29, 3) := by decide +kernel
theorem dX12_octet_33 : decode cX12_octet 33 = .ok (.aload_n 0, 1) := by decide +kernel
theorem dX12_octet_34 : decode cX12_octet 34 = .ok (.getfield 68, 3) := by decide +kernel
theorem dX12_octet_37 : decode cX12_octet 37 = .ok (.iload_n 3, 1) := by decide +kernel
theorem dX12_octet_38 : decode cX12_octet 38 = .ok (.iload 4, 2) := by decide +kernel
theorem dX12_octet_40 : decode cX12_octet 40 = .ok (.iadd, 1) := by decide +kernel
theorem dX12_octet_41 : decode cX12_octet 41 = .ok (.aload_n 0, 1) := by decide +kernel
theorem dX12_octet_42 : decode cX12_octet 42 = .ok (.getfield 68, 3) := by decide +kernel
theorem dX12_octet_45 : decode cX12_octet 45 = .ok (.iload_n 3, 1) := by decide +kernel
theorem dX12_octet_46 : decode cX12_octet 46 = .ok (.iload 4, 2) := by decide +kernel
theorem dX12_octet_48 : decode cX12_octet 48 = .ok (.iadd, 1) := by decide +kernel
theorem dX12_octet_49 : decode cX12_octet 49 = .ok (.iconst 1, 1) := by decide +kernel
theorem dX12_octet_50 : decode cX12_octet 50 = .ok (.iadd, 1) := by decide +kernel
theorem dX12_octet_51 : decode cX12_octet 51 = .ok (.iaload, 1) := by decide +kernel
theorem dX12_octet_52 : decode cX12_octet 52 = .ok (.iastore, 1) := by decide +kernel
theorem dX12_octet_53 : decode cX12_octet 53 = .ok (.iinc 4 1, 3) := by decide +kernel
theorem dX12_octet_56 : decode cX12_octet 56 = .ok (.goto (-29), 3) := by decide +kernel
theorem dX12_octet_59 : decode cX12_octet 59 = .ok (.aload_n 0, 1) := by decide +kernel
theorem dX12_octet_60 : decode cX12_octet 60 = .ok (.getfield 56, 3) := by decide +kernel
theorem dX12_octet_63 : decode cX12_octet 63 = .ok (.iload_n 1, 1) := by decide +kernel
theorem dX12_octet_64 : decode cX12_octet 64 = .ok (.iconst 4, 1) := by decide +kernel
theorem dX12_octet_65 : decode cX12_octet 65 = .ok (.iastore, 1) := by decide +kernel
theorem dX12_octet_66 : decode cX12_octet 66 = .ok (.aload_n 0, 1) := by decide +kernel
theorem dX12_octet_67 : decode cX12_octet 67 = .ok (.getfield 68, 3) := by decide +kernel
theorem dX12_octet_70 : decode cX12_octet 70 = .ok (.iload_n 3, 1) := by decide +kernel
theorem dX12_octet_71 : decode cX12_octet 71 = .ok (.aload_n 0, 1) := by decide +kernel
theorem dX12_octet_72 : decode cX12_octet 72 = .ok (.getfield 56, 3) := by decide +kernel
theorem dX12_octet_75 : decode cX12_octet 75 = .ok (.iload_n 1, 1) := by decide +kernel
theorem dX12_octet_76 : decode cX12_octet 76 = .ok (.iaload, 1) := by decide +kernel
theorem dX12_octet_77 : decode cX12_octet 77 = .ok (.iadd, 1) := by decide +kernel
theorem dX12_octet_78 : decode cX12_octet 78 = .ok (.iload_n 2, 1) := by decide +kernel
theorem dX12_octet_79 : decode cX12_octet 79 = .ok (.iastore, 1) := by decide +kernel
theorem dX12_octet_80 : decode cX12_octet 80 = .ok (.aload_n 0, 1) := by decide +kernel
theorem dX12_octet_81 : decode cX12_octet 81 = .ok (.getfield 56, 3) := by decide +kernel
theorem dX12_octet_84 : decode cX12_octet 84 = .ok (.iload_n 1, 1) := by decide +kernel
theorem dX12_octet_85 : decode cX12_octet 85 = .ok (.dup2, 1) := by decide +kernel
theorem dX12_octet_86 : decode cX12_octet 86 = .ok (.iaload, 1) := by decide +kernel
theorem dX12_octet_87 : decode cX12_octet 87 = .ok (.iconst 1, 1) := by decide +kernel
theorem dX12_octet_88 : decode cX12_octet 88 = .ok (.iadd, 1) := by decide +kernel
theorem dX12_octet_89 : decode cX12_octet 89 = .ok (.iastore, 1) := by decide +kernel
theorem dX12_octet_90 : decode cX12_octet 90 = .ok (.aload_n 0, 1) := by decide +kernel
theorem dX12_octet_91 : decode cX12_octet 91 = .ok (.getfield 56, 3) := by decide +kernel
theorem dX12_octet_94 : decode cX12_octet 94 = .ok (.iload_n 1, 1) := by decide +kernel
theorem dX12_octet_95 : decode cX12_octet 95 = .ok (.iaload, 1) := by decide +kernel
theorem dX12_octet_96 : decode cX12_octet 96 = .ok (.iconst 5, 1) := by decide +kernel
theorem dX12_octet_97 : decode cX12_octet 97 = .ok (.if_icmp .ne 43, 3) := by decide +kernel
theorem dX12_octet_100 : decode cX12_octet 100 = .ok (.aload_n 0, 1) := by decide +kernel
theorem dX12_octet_101 : decode cX12_octet 101 = .ok (.iload_n 3, 1) := by decide +kernel
theorem dX12_octet_102 : decode cX12_octet 102 = .ok (.invokevirtual 332, 3) := by decide +kernel
theorem dX12_octet_105 : decode cX12_octet 105 = .ok (.invokestatic 267, 3) := by decide +kernel
theorem dX12_octet_108 : decode cX12_octet 108 = .ok (.aload_n 0, 1) := by decide +kernel
theorem dX12_octet_109 : decode cX12_octet 109 = .ok (.getfield 68, 3) := by decide +kernel
theorem dX12_octet_112 : decode cX12_octet 112 = .ok (.iload_n 3, 1) := by decide +kernel
theorem dX12_octet_113 : decode cX12_octet 113 = .ok (.iconst 4, 1) := by decide +kernel
theorem dX12_octet_114 : decode cX12_octet 114 = .ok (.iadd, 1) := by decide +kernel
theorem dX12_octet_115 : decode cX12_octet 115 = .ok (.iaload, 1) := by decide +kernel
theorem dX12_octet_116 : decode cX12_octet 116 = .ok (.if_icmp .ne 24, 3) := by decide +kernel
theorem dX12_octet_119 : decode cX12_octet 119 = .ok (.aload_n 0, 1) := by decide +kernel
theorem dX12_octet_120 : decode cX12_octet 120 = .ok (.getfield 53, 3) := by decide +kernel
theorem dX12_octet_123 : decode cX12_octet 123 = .ok (.iload_n 1, 1) := by decide +kernel
theorem dX12_octet_124 : decode cX12_octet 124 = .ok (.iconst 1, 1) := by decide +kernel
theorem dX12_octet_125 : decode cX12_octet 125 = .ok (.iastore, 1) := by decide +kernel
theorem dX12_octet_126 : decode cX12_octet 126 = .ok (.aload_n 0, 1) := by decide +kernel
theorem dX12_octet_127 : decode cX12_octet 127 = .ok (.getfield 59, 3) := by decide +kernel
theorem dX12_octet_130 : decode cX12_octet 130 = .ok (.iload_n 1, 1) := by decide +kernel
theorem dX12_octet_131 : decode cX12_octet 131 = .ok (.iconst 1, 1) := by decide +kernel
theorem dX12_octet_132 : decode cX12_octet 132 = .ok (.iastore, 1) := by decide +kernel
theorem dX12_octet_133 : decode cX12_octet 133 = .ok (.aload_n 0, 1) := by decide +kernel
theorem dX12_octet_134 : decode cX12_octet 134 = .ok (.getfield 65, 3) := by decide +kernel
theorem dX12_octet_137 : decode cX12_octet 137 = .ok (.iload_n 1, 1) := by decide +kernel
theorem dX12_octet_138 : decode cX12_octet 138 = .ok (.iconst 0, 1) := by decide +kernel
theorem dX12_octet_139 : decode cX12_octet 139 = .ok (.iastore, 1) := by decide +kernel
theorem dX12_octet_140 : decode cX12_octet 140 = .ok (.return_, 1) := by decide +kernel
theorem dX12_octet_141 : decode cX12_octet 141 = .ok (.aload_n 0, 1) := by decide +kernel
theorem dX12_octet_142 : decode cX12_octet 142 = .ok (.getfield 68, 3) := by decide +kernel
theorem dX12_octet_145 : decode cX12_octet 145 = .ok (.iload_n 3, 1) := by decide +kernel
theorem dX12_octet_146 : decode cX12_octet 146 = .ok (.aload_n 0, 1) := by decide +kernel
theorem dX12_octet_147 : decode cX12_octet 147 = .ok (.getfield 56, 3) := by decide +kernel
theorem dX12_octet_150 : decode cX12_octet 150 = .ok (.iload_n 1, 1) := by decide +kernel
theorem dX12_octet_151 : decode cX12_octet 151 = .ok (.iaload, 1) := by decide +kernel
theorem dX12_octet_152 : decode cX12_octet 152 = .ok (.iadd, 1) := by decide +kernel
theorem dX12_octet_153 : decode cX12_octet 153 = .ok (.iload_n 2, 1) := by decide +kernel
theorem dX12_octet_154 : decode cX12_octet 154 = .ok (.iastore, 1) := by decide +kernel
theorem dX12_octet_155 : decode cX12_octet 155 = .ok (.aload_n 0, 1) := by decide +kernel
theorem dX12_octet_156 : decode cX12_octet 156 = .ok (.getfield 56, 3) := by decide +kernel
theorem dX12_octet_159 : decode cX12_octet 159 = .ok (.iload_n 1, 1) := by decide +kernel
theorem dX12_octet_160 : decode cX12_octet 160 = .ok (.dup2, 1) := by decide +kernel
theorem dX12_octet_161 : decode cX12_octet 161 = .ok (.iaload, 1) := by decide +kernel
theorem dX12_octet_162 : decode cX12_octet 162 = .ok (.iconst 1, 1) := by decide +kernel
theorem dX12_octet_163 : decode cX12_octet 163 = .ok (.iadd, 1) := by decide +kernel
theorem dX12_octet_164 : decode cX12_octet 164 = .ok (.iastore, 1) := by decide +kernel
theorem dX12_octet_165 : decode cX12_octet 165 = .ok (.aload_n 0, 1) := by decide +kernel
theorem dX12_octet_166 : decode cX12_octet 166 = .ok (.getfield 56, 3) := by decide +kernel
theorem dX12_octet_169 : decode cX12_octet 169 = .ok (.iload_n 1, 1) := by decide +kernel
theorem dX12_octet_170 : decode cX12_octet 170 = .ok (.iaload, 1) := by decide +kernel
theorem dX12_octet_171 : decode cX12_octet 171 = .ok (.iconst 5, 1) := by decide +kernel
theorem dX12_octet_172 : decode cX12_octet 172 = .ok (.if_icmp .ne 12, 3) := by decide +kernel
theorem dX12_octet_175 : decode cX12_octet 175 = .ok (.aload_n 0, 1) := by decide +kernel
theorem dX12_octet_176 : decode cX12_octet 176 = .ok (.iload_n 1, 1) := by decide +kernel
theorem dX12_octet_177 : decode cX12_octet 177 = .ok (.iload_n 3, 1) := by decide +kernel
theorem dX12_octet_178 : decode cX12_octet 178 = .ok (.invokevirtual 335, 3) := by decide +kernel
theorem dX12_octet_181 : decode cX12_octet 181 = .ok (.goto 47, 3) := by decide +kernel
theorem dX12_octet_184 : decode cX12_octet 184 = .ok (.aload_n 0, 1) := by decide +kernel
theorem dX12_octet_185 : decode cX12_octet 185 = .ok (.getfield 56, 3) := by decide +kernel
theorem dX12_octet_188 : decode cX12_octet 188 = .ok (.iload_n 1, 1) := by decide +kernel
theorem dX12_octet_189 : decode cX12_octet 189 = .ok (.iaload, 1) := by decide +kernel
theorem dX12_octet_190 : decode cX12_octet 190 = .ok (.bipush 53, 2) := by decide +kernel
theorem dX12_octet_192 : decode cX12_octet 192 = .ok (.if_icmp .ne 36, 3) := by decide +kernel
theorem dX12_octet_195 : decode cX12_octet 195 = .ok (.aload_n 0, 1) := by decide +kernel
theorem dX12_octet_196 : decode cX12_octet 196 = .ok (.getfield 56, 3) := by decide +kernel
theorem dX12_octet_199 : decode cX12_octet 199 = .ok (.iload_n 1, 1) := by decide +kernel
theorem dX12_octet_200 : decode cX12_octet 200 = .ok (.iconst 0, 1) := by decide +kernel
theorem dX12_octet_201 : decode cX12_octet 201 = .ok (.iastore, 1) := by decide +kernel
theorem dX12_octet_202 : decode cX12_octet 202 = .ok (.aload_n 0, 1) := by decide +kernel
theorem dX12_octet_203 : decode cX12_octet 203 = .ok (.getfield 65, 3) := by decide +kernel
theorem dX12_octet_206 : decode cX12_octet 206 = .ok (.iload_n 1, 1) := by decide +kernel
theorem dX12_octet_207 : decode cX12_octet 207 = .ok (.iaload, 1) := by decide +kernel
theorem dX12_octet_208 : decode cX12_octet 208 = .ok (.iconst 1, 1) := by decide +kernel
theorem dX12_octet_209 : decode cX12_octet 209 = .ok (.if_icmp .ne 19, 3) := by decide +kernel
theorem dX12_octet_212 : decode cX12_octet 212 = .ok (.aload_n 0, 1) := by decide +kernel
theorem dX12_octet_213 : decode cX12_octet 213 = .ok (.getfield 71, 3) := by decide +kernel
theorem dX12_octet_216 : decode cX12_octet 216 = .ok (.iload_n 1, 1) := by decide +kernel
theorem dX12_octet_217 : decode cX12_octet 217 = .ok (.dup2, 1) := by decide +kernel
theorem dX12_octet_218 : decode cX12_octet 218 = .ok (.iaload, 1) := by decide +kernel
theorem dX12_octet_219 : decode cX12_octet 219 = .ok (.iconst 1, 1) := by decide +kernel
theorem dX12_octet_220 : decode cX12_octet 220 = .ok (.iadd, 1) := by decide +kernel
theorem dX12_octet_221 : decode cX12_octet 221 = .ok (.iastore, 1) := by decide +kernel
theorem dX12_octet_222 : decode cX12_octet 222 = .ok (.aload_n 0, 1) := by decide +kernel
theorem dX12_octet_223 : decode cX12_octet 223 = .ok (.iload_n 1, 1) := by decide +kernel
theorem dX12_octet_224 : decode cX12_octet 224 = .ok (.iload_n 3, 1) := by decide +kernel
theorem dX12_octet_225 : decode cX12_octet 225 = .ok (.invokevirtual 338, 3) := by decide +kernel
theorem dX12_octet_228 : decode cX12_octet 228 = .ok (.return_, 1) := by decide +kernel
theorem dX12_judge_0 : decode cX12_judge 0 = .ok (.aload_n 0, 1) := by decide +kernel
theorem dX12_judge_1 : decode cX12_judge 1 = .ok (.iload_n 2, 1) := by decide +kernel
theorem dX12_judge_2 : decode cX12_judge 2 = .ok (.invokevirtual 332, 3) := by decide +kernel
theorem dX12_judge_5 : decode cX12_judge 5 = .ok (.aload_n 0, 1) := by decide +kernel
theorem dX12_judge_6 : decode cX12_judge 6 = .ok (.getfield 68, 3) := by decide +kernel
theorem dX12_judge_9 : decode cX12_judge 9 = .ok (.iload_n 2, 1) := by decide +kernel
theorem dX12_judge_10 : decode cX12_judge 10 = .ok (.iconst 4, 1) := by decide +kernel
theorem dX12_judge_11 : decode cX12_judge 11 = .ok (.iadd, 1) := by decide +kernel
theorem dX12_judge_12 : decode cX12_judge 12 = .ok (.iaload, 1) := by decide +kernel
theorem dX12_judge_13 : decode cX12_judge 13 = .ok (.invokestatic 275, 3) := by decide +kernel
theorem dX12_judge_16 : decode cX12_judge 16 = .ok (.istore_n 3, 1) := by decide +kernel
theorem dX12_judge_17 : decode cX12_judge 17 = .ok (.aload_n 0, 1) := by decide +kernel
theorem dX12_judge_18 : decode cX12_judge 18 = .ok (.getfield 53, 3) := by decide +kernel
theorem dX12_judge_21 : decode cX12_judge 21 = .ok (.iload_n 1, 1) := by decide +kernel
theorem dX12_judge_22 : decode cX12_judge 22 = .ok (.iaload, 1) := by decide +kernel
theorem dX12_judge_23 : decode cX12_judge 23 = .ok (.iconst 1, 1) := by decide +kernel
theorem dX12_judge_24 : decode cX12_judge 24 = .ok (.if_icmp .ne 71, 3) := by decide +kernel
theorem dX12_judge_27 : decode cX12_judge 27 = .ok (.iload_n 3, 1) := by decide +kernel
theorem dX12_judge_28 : decode cX12_judge 28 = .ok (.iconst 1, 1) := by decide +kernel
theorem dX12_judge_29 : decode cX12_judge 29 = .ok (.if_icmp .eq 9, 3) := by decide +kernel
theorem dX12_judge_32 : decode cX12_judge 32 = .ok (.aload_n 0, 1) := by decide +kernel
theorem dX12_judge_33 : decode cX12_judge 33 = .ok (.iload_n 1, 1) := by decide +kernel
theorem dX12_judge_34 : decode cX12_judge 34 = .ok (.invokevirtual 341, 3) := by decide +kernel
theorem dX12_judge_37 : decode cX12_judge 37 = .ok (.return_, 1) := by decide +kernel
theorem dX12_judge_38 : decode cX12_judge 38 = .ok (.aload_n 0, 1) := by decide +kernel
theorem dX12_judge_39 : decode cX12_judge 39 = .ok (.getfield 59, 3) := by decide +kernel
theorem dX12_judge_42 : decode cX12_judge 42 = .ok (.iload_n 1, 1) := by decide +kernel
theorem dX12_judge_43 : decode cX12_judge 43 = .ok (.dup2, 1) := by decide +kernel
theorem dX12_judge_44 : decode cX12_judge 44 = .ok (.iaload, 1) := by decide +kernel
theorem dX12_judge_45 : decode cX12_judge 45 = .ok (.iconst 1, 1) := by decide +kernel
theorem dX12_judge_46 : decode cX12_judge 46 = .ok (.iadd, 1) := by decide +kernel
theorem dX12_judge_47 : decode cX12_judge 47 = .ok (.iastore, 1) := by decide +kernel
theorem dX12_judge_48 : decode cX12_judge 48 = .ok (.aload_n 0, 1) := by decide +kernel
theorem dX12_judge_49 : decode cX12_judge 49 = .ok (.getfield 65, 3) := by decide +kernel
theorem dX12_judge_52 : decode cX12_judge 52 = .ok (.iload_n 1, 1) := by decide +kernel
theorem dX12_judge_53 : decode cX12_judge 53 = .ok (.iconst 0, 1) := by decide +kernel
theorem dX12_judge_54 : decode cX12_judge 54 = .ok (.iastore, 1) := by decide +kernel
theorem dX12_judge_55 : decode cX12_judge 55 = .ok (.aload_n 0, 1) := by decide +kernel
theorem dX12_judge_56 : decode cX12_judge 56 = .ok (.getfield 59, 3) := by decide +kernel
theorem dX12_judge_59 : decode cX12_judge 59 = .ok (.iload_n 1, 1) := by decide +kernel
theorem dX12_judge_60 : decode cX12_judge 60 = .ok (.iaload, 1) := by decide +kernel
theorem dX12_judge_61 : decode cX12_judge 61 = .ok (.bipush 6, 2) := by decide +kernel
theorem dX12_judge_63 : decode cX12_judge 63 = .ok (.if_icmp .ne 31, 3) := by decide +kernel
theorem dX12_judge_66 : decode cX12_judge 66 = .ok (.aload_n 0, 1) := by decide +kernel
theorem dX12_judge_67 : decode cX12_judge 67 = .ok (.getfield 53, 3) := by decide +kernel
theorem dX12_judge_70 : decode cX12_judge 70 = .ok (.iload_n 1, 1) := by decide +kernel
theorem dX12_judge_71 : decode cX12_judge 71 = .ok (.iconst 2, 1) := by decide +kernel
theorem dX12_judge_72 : decode cX12_judge 72 = .ok (.iastore, 1) := by decide +kernel
theorem dX12_judge_73 : decode cX12_judge 73 = .ok (.aload_n 0, 1) := by decide +kernel
theorem dX12_judge_74 : decode cX12_judge 74 = .ok (.getfield 59, 3) := by decide +kernel
theorem dX12_judge_77 : decode cX12_judge 77 = .ok (.iload_n 1, 1) := by decide +kernel
theorem dX12_judge_78 : decode cX12_judge 78 = .ok (.iconst 0, 1) := by decide +kernel
theorem dX12_judge_79 : decode cX12_judge 79 = .ok (.iastore, 1) := by decide +kernel
theorem dX12_judge_80 : decode cX12_judge 80 = .ok (.aload_n 0, 1) := by decide +kernel
theorem dX12_judge_81 : decode cX12_judge 81 = .ok (.getfield 62, 3) := by decide +kernel
theorem dX12_judge_84 : decode cX12_judge 84 = .ok (.iload_n 1, 1) := by decide +kernel
theorem dX12_judge_85 : decode cX12_judge 85 = .ok (.iconst 0, 1) := by decide +kernel
theorem dX12_judge_86 : decode cX12_judge 86 = .ok (.iastore, 1) := by decide +kernel
theorem dX12_judge_87 : decode cX12_judge 87 = .ok (.aload_n 0, 1) := by decide +kernel
theorem dX12_judge_88 : decode cX12_judge 88 = .ok (.getfield 65, 3) := by decide +kernel
theorem dX12_judge_91 : decode cX12_judge 91 = .ok (.iload_n 1, 1) := by decide +kernel
theorem dX12_judge_92 : decode cX12_judge 92 = .ok (.iconst 1, 1) := by decide +kernel
theorem dX12_judge_93 : decode cX12_judge 93 = .ok (.iastore, 1) := by decide +kernel
theorem dX12_judge_94 : decode cX12_judge 94 = .ok (.return_, 1) := by decide +kernel
theorem dX12_judge_95 : decode cX12_judge 95 = .ok (.iload_n 3, 1) := by decide +kernel
theorem dX12_judge_96 : decode cX12_judge 96 = .ok (.iconst 1, 1) := by decide +kernel
theorem dX12_judge_97 : decode cX12_judge 97 = .ok (.if_icmp .ne 25, 3) := by decide +kernel
theorem dX12_judge_100 : decode cX12_judge 100 = .ok (.aload_n 0, 1) := by decide +kernel
theorem dX12_judge_101 : decode cX12_judge 101 = .ok (.getfield 59, 3) := by decide +kernel
theorem dX12_judge_104 : decode cX12_judge 104 = .ok (.iload_n 1, 1) := by decide +kernel
theorem dX12_judge_105 : decode cX12_judge 105 = .ok (.iconst 0, 1) := by decide +kernel
theorem dX12_judge_106 : decode cX12_judge 106 = .ok (.iastore, 1) := by decide +kernel
theorem dX12_judge_107 : decode cX12_judge 107 = .ok (.aload_n 0, 1) := by decide +kernel
theorem dX12_judge_108 : decode cX12_judge 108 = .ok (.getfield 62, 3) := by decide +kernel
theorem dX12_judge_111 : decode cX12_judge 111 = .ok (.iload_n 1, 1) := by decide +kernel
theorem dX12_judge_112 : decode cX12_judge 112 = .ok (.iconst 0, 1) := by decide +kernel
theorem dX12_judge_113 : decode cX12_judge 113 = .ok (.iastore, 1) := by decide +kernel
theorem dX12_judge_114 : decode cX12_judge 114 = .ok (.aload_n 0, 1) := by decide +kernel
theorem dX12_judge_115 : decode cX12_judge 115 = .ok (.getfield 65, 3) := by decide +kernel
theorem dX12_judge_118 : decode cX12_judge 118 = .ok (.iload_n 1, 1) := by decide +kernel
theorem dX12_judge_119 : decode cX12_judge 119 = .ok (.iconst 1, 1) := by decide +kernel
theorem dX12_judge_120 : decode cX12_judge 120 = .ok (.iastore, 1) := by decide +kernel
theorem dX12_judge_121 : decode cX12_judge 121 = .ok (.return_, 1) := by decide +kernel
theorem dX12_judge_122 : decode cX12_judge 122 = .ok (.aload_n 0, 1) := by decide +kernel
theorem dX12_judge_123 : decode cX12_judge 123 = .ok (.getfield 59, 3) := by decide +kernel
theorem dX12_judge_126 : decode cX12_judge 126 = .ok (.iload_n 1, 1) := by decide +kernel
theorem dX12_judge_127 : decode cX12_judge 127 = .ok (.dup2, 1) := by decide +kernel
theorem dX12_judge_128 : decode cX12_judge 128 = .ok (.iaload, 1) := by decide +kernel
theorem dX12_judge_129 : decode cX12_judge 129 = .ok (.iconst 1, 1) := by decide +kernel
theorem dX12_judge_130 : decode cX12_judge 130 = .ok (.iadd, 1) := by decide +kernel
theorem dX12_judge_131 : decode cX12_judge 131 = .ok (.iastore, 1) := by decide +kernel
theorem dX12_judge_132 : decode cX12_judge 132 = .ok (.aload_n 0, 1) := by decide +kernel
theorem dX12_judge_133 : decode cX12_judge 133 = .ok (.getfield 59, 3) := by decide +kernel
theorem dX12_judge_136 : decode cX12_judge 136 = .ok (.iload_n 1, 1) := by decide +kernel
theorem dX12_judge_137 : decode cX12_judge 137 = .ok (.iaload, 1) := by decide +kernel
theorem dX12_judge_138 : decode cX12_judge 138 = .ok (.bipush 7, 2) := by decide +kernel
theorem dX12_judge_140 : decode cX12_judge 140 = .ok (.if_icmp .ne 9, 3) := by decide +kernel
theorem dX12_judge_143 : decode cX12_judge 143 = .ok (.aload_n 0, 1) := by decide +kernel
theorem dX12_judge_144 : decode cX12_judge 144 = .ok (.iload_n 1, 1) := by decide +kernel
theorem dX12_judge_145 : decode cX12_judge 145 = .ok (.invokevirtual 341, 3) := by decide +kernel
theorem dX12_judge_148 : decode cX12_judge 148 = .ok (.return_, 1) := by decide +kernel
theorem dX12_judge_149 : decode cX12_judge 149 = .ok (.aload_n 0, 1) := by decide +kernel
theorem dX12_judge_150 : decode cX12_judge 150 = .ok (.getfield 65, 3) := by decide +kernel
theorem dX12_judge_153 : decode cX12_judge 153 = .ok (.iload_n 1, 1) := by decide +kernel
theorem dX12_judge_154 : decode cX12_judge 154 = .ok (.iconst 2, 1) := by decide +kernel
theorem dX12_judge_155 : decode cX12_judge 155 = .ok (.iastore, 1) := by decide +kernel
theorem dX12_judge_156 : decode cX12_judge 156 = .ok (.aload_n 0, 1) := by decide +kernel
theorem dX12_judge_157 : decode cX12_judge 157 = .ok (.getfield 62, 3) := by decide +kernel
theorem dX12_judge_160 : decode cX12_judge 160 = .ok (.iload_n 1, 1) := by decide +kernel
theorem dX12_judge_161 : decode cX12_judge 161 = .ok (.iaload, 1) := by decide +kernel
theorem dX12_judge_162 : decode cX12_judge 162 = .ok (.ifCond .ne 54, 3) := by decide +kernel
theorem dX12_judge_165 : decode cX12_judge 165 = .ok (.iload_n 3, 1) := by decide +kernel
theorem dX12_judge_166 : decode cX12_judge 166 = .ok (.iconst 1, 1) := by decide +kernel
theorem dX12_judge_167 : decode cX12_judge 167 = .ok (.if_icmp .le 49, 3) := by decide +kernel
theorem dX12_judge_170 : decode cX12_judge 170 = .ok (.iload_n 3, 1) := by decide +kernel
theorem dX12_judge_171 : decode cX12_judge 171 = .ok (.iconst 2, 1) := by decide +kernel
theorem dX12_judge_172 : decode cX12_judge 172 = .ok (.isub, 1) := by decide +kernel
theorem dX12_judge_173 : decode cX12_judge 173 = .ok (.istore 4, 2) := by decide +kernel
theorem dX12_judge_175 : decode cX12_judge 175 = .ok (.aload_n 0, 1) := by decide +kernel
theorem dX12_judge_176 : decode cX12_judge 176 = .ok (.getfield 68, 3) := by decide +kernel
theorem dX12_judge_179 : decode cX12_judge 179 = .ok (.iload_n 2, 1) := by decide +kernel
theorem dX12_judge_180 : decode cX12_judge 180 = .ok (.iload 4, 2) := by decide +kernel
theorem dX12_judge_182 : decode cX12_judge 182 = .ok (.bipush 8, 2) := by decide +kernel
theorem dX12_judge_184 : decode cX12_judge 184 = .ok (.idiv, 1) := by decide +kernel
theorem dX12_judge_185 : decode cX12_judge 185 = .ok (.iadd, 1) := by decide +kernel
theorem dX12_judge_186 : decode cX12_judge 186 = .ok (.dup2, 1) := by decide +kernel
theorem dX12_judge_187 : decode cX12_judge 187 = .ok (.iaload, 1) := by decide +kernel
theorem dX12_judge_188 : decode cX12_judge 188 = .ok (.sipush 128, 3) := by decide +kernel
theorem dX12_judge_191 : decode cX12_judge 191 = .ok (.iload 4, 2) := by decide +kernel
theorem dX12_judge_193 : decode cX12_judge 193 = .ok (.bipush 8, 2) := by decide +kernel
theorem dX12_judge_195 : decode cX12_judge 195 = .ok (.irem, 1) := by decide +kernel
theorem dX12_judge_196 : decode cX12_judge 196 = .ok (.ishr, 1) := by decide +kernel
theorem dX12_judge_197 : decode cX12_judge 197 = .ok (.ixor, 1) := by decide +kernel
theorem dX12_judge_198 : decode cX12_judge 198 = .ok (.iastore, 1) := by decide +kernel
theorem dX12_judge_199 : decode cX12_judge 199 = .ok (.aload_n 0, 1) := by decide +kernel
theorem dX12_judge_200 : decode cX12_judge 200 = .ok (.getfield 65, 3) := by decide +kernel
theorem dX12_judge_203 : decode cX12_judge 203 = .ok (.iload_n 1, 1) := by decide +kernel
theorem dX12_judge_204 : decode cX12_judge 204 = .ok (.iconst 1, 1) := by decide +kernel
theorem dX12_judge_205 : decode cX12_judge 205 = .ok (.iastore, 1) := by decide +kernel
theorem dX12_judge_206 : decode cX12_judge 206 = .ok (.aload_n 0, 1) := by decide +kernel
theorem dX12_judge_207 : decode cX12_judge 207 = .ok (.getfield 77, 3) := by decide +kernel
theorem dX12_judge_210 : decode cX12_judge 210 = .ok (.iload_n 1, 1) := by decide +kernel
theorem dX12_judge_211 : decode cX12_judge 211 = .ok (.dup2, 1) := by decide +kernel
theorem dX12_judge_212 : decode cX12_judge 212 = .ok (.iaload, 1) := by decide +kernel
theorem dX12_judge_213 : decode cX12_judge 213 = .ok (.iconst 1, 1) := by decide +kernel
theorem dX12_judge_214 : decode cX12_judge 214 = .ok (.iadd, 1) := by decide +kernel
theorem dX12_judge_215 : decode cX12_judge 215 = .ok (.iastore, 1) := by decide +kernel
theorem dX12_judge_216 : decode cX12_judge 216 = .ok (.aload_n 0, 1) := by decide +kernel
theorem dX12_judge_217 : decode cX12_judge 217 = .ok (.getfield 74, 3) := by decide +kernel
theorem dX12_judge_220 : decode cX12_judge 220 = .ok (.iload_n 1, 1) := by decide +kernel
theorem dX12_judge_221 : decode cX12_judge 221 = .ok (.dup2, 1) := by decide +kernel
theorem dX12_judge_222 : decode cX12_judge 222 = .ok (.iaload, 1) := by decide +kernel
theorem dX12_judge_223 : decode cX12_judge 223 = .ok (.aload_n 0, 1) := by decide +kernel
theorem dX12_judge_224 : decode cX12_judge 224 = .ok (.getfield 65, 3) := by decide +kernel
theorem dX12_judge_227 : decode cX12_judge 227 = .ok (.iload_n 1, 1) := by decide +kernel
theorem dX12_judge_228 : decode cX12_judge 228 = .ok (.iaload, 1) := by decide +kernel
theorem dX12_judge_229 : decode cX12_judge 229 = .ok (.iconst 2, 1) := by decide +kernel
theorem dX12_judge_230 : decode cX12_judge 230 = .ok (.if_icmp .ne 7, 3) := by decide +kernel
theorem dX12_judge_233 : decode cX12_judge 233 = .ok (.iconst 1, 1) := by decide +kernel
theorem dX12_judge_234 : decode cX12_judge 234 = .ok (.goto 4, 3) := by decide +kernel
theorem dX12_judge_237 : decode cX12_judge 237 = .ok (.iconst 0, 1) := by decide +kernel
theorem dX12_judge_238 : decode cX12_judge 238 = .ok (.iadd, 1) := by decide +kernel
theorem dX12_judge_239 : decode cX12_judge 239 = .ok (.iastore, 1) := by decide +kernel
theorem dX12_judge_240 : decode cX12_judge 240 = .ok (.aload_n 0, 1) := by decide +kernel
theorem dX12_judge_241 : decode cX12_judge 241 = .ok (.getfield 62, 3) := by decide +kernel
theorem dX12_judge_244 : decode cX12_judge 244 = .ok (.iload_n 1, 1) := by decide +kernel
theorem dX12_judge_245 : decode cX12_judge 245 = .ok (.iconst 1, 1) := by decide +kernel
theorem dX12_judge_246 : decode cX12_judge 246 = .ok (.iastore, 1) := by decide +kernel
