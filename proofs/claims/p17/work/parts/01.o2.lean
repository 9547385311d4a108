theorem dX12_judge_247 : decode cX12_judge 247 = .ok (.return_, 1) := by decide +kernel
theorem dX12_checkWhole_0 : decode cX12_checkWhole 0 = .ok (.aload_n 0, 1) := by decide +kernel
theorem dX12_checkWhole_1 : decode cX12_checkWhole 1 = .ok (.getfield 89, 3) := by decide +kernel
theorem dX12_checkWhole_4 : decode cX12_checkWhole 4 = .ok (.iload_n 1, 1) := by decide +kernel
theorem dX12_checkWhole_5 : decode cX12_checkWhole 5 = .ok (.bipush 6, 2) := by decide +kernel
theorem dX12_checkWhole_7 : decode cX12_checkWhole 7 = .ok (.isub, 1) := by decide +kernel
theorem dX12_checkWhole_8 : decode cX12_checkWhole 8 = .ok (.iaload, 1) := by decide +kernel
theorem dX12_checkWhole_9 : decode cX12_checkWhole 9 = .ok (.bipush 8, 2) := by decide +kernel
theorem dX12_checkWhole_11 : decode cX12_checkWhole 11 = .ok (.ishl, 1) := by decide +kernel
theorem dX12_checkWhole_12 : decode cX12_checkWhole 12 = .ok (.aload_n 0, 1) := by decide +kernel
theorem dX12_checkWhole_13 : decode cX12_checkWhole 13 = .ok (.getfield 89, 3) := by decide +kernel
theorem dX12_checkWhole_16 : decode cX12_checkWhole 16 = .ok (.iload_n 1, 1) := by decide +kernel
theorem dX12_checkWhole_17 : decode cX12_checkWhole 17 = .ok (.iconst 5, 1) := by decide +kernel
theorem dX12_checkWhole_18 : decode cX12_checkWhole 18 = .ok (.isub, 1) := by decide +kernel
theorem dX12_checkWhole_19 : decode cX12_checkWhole 19 = .ok (.iaload, 1) := by decide +kernel
theorem dX12_checkWhole_20 : decode cX12_checkWhole 20 = .ok (.ior, 1) := by decide +kernel
theorem dX12_checkWhole_21 : decode cX12_checkWhole 21 = .ok (.istore_n 2, 1) := by decide +kernel
theorem dX12_checkWhole_22 : decode cX12_checkWhole 22 = .ok (.iload_n 2, 1) := by decide +kernel
theorem dX12_checkWhole_23 : decode cX12_checkWhole 23 = .ok (.iconst 1, 1) := by decide +kernel
theorem dX12_checkWhole_24 : decode cX12_checkWhole 24 = .ok (.if_icmp .lt 21, 3) := by decide +kernel
theorem dX12_checkWhole_27 : decode cX12_checkWhole 27 = .ok (.iload_n 2, 1) := by decide +kernel
theorem dX12_checkWhole_28 : decode cX12_checkWhole 28 = .ok (.sipush 200, 3) := by decide +kernel
theorem dX12_checkWhole_31 : decode cX12_checkWhole 31 = .ok (.if_icmp .gt 14, 3) := by decide +kernel
theorem dX12_checkWhole_34 : decode cX12_checkWhole 34 = .ok (.bipush 48, 2) := by decide +kernel
theorem dX12_checkWhole_36 : decode cX12_checkWhole 36 = .ok (.iload_n 2, 1) := by decide +kernel
theorem dX12_checkWhole_37 : decode cX12_checkWhole 37 = .ok (.invokestatic 285, 3) := by decide +kernel
theorem dX12_checkWhole_40 : decode cX12_checkWhole 40 = .ok (.imul, 1) := by decide +kernel
theorem dX12_checkWhole_41 : decode cX12_checkWhole 41 = .ok (.iload_n 1, 1) := by decide +kernel
theorem dX12_checkWhole_42 : decode cX12_checkWhole 42 = .ok (.if_icmp .eq 5, 3) := by decide +kernel
theorem dX12_checkWhole_45 : decode cX12_checkWhole 45 = .ok (.iconst 0, 1) := by decide +kernel
theorem dX12_checkWhole_46 : decode cX12_checkWhole 46 = .ok (.ireturn, 1) := by decide +kernel
theorem dX12_checkWhole_47 : decode cX12_checkWhole 47 = .ok (.aload_n 0, 1) := by decide +kernel
theorem dX12_checkWhole_48 : decode cX12_checkWhole 48 = .ok (.invokevirtual 288, 3) := by decide +kernel
theorem dX12_checkWhole_51 : decode cX12_checkWhole 51 = .ok (.iconst 0, 1) := by decide +kernel
theorem dX12_checkWhole_52 : decode cX12_checkWhole 52 = .ok (.istore_n 3, 1) := by decide +kernel
theorem dX12_checkWhole_53 : decode cX12_checkWhole 53 = .ok (.iload_n 3, 1) := by decide +kernel
theorem dX12_checkWhole_54 : decode cX12_checkWhole 54 = .ok (.iload_n 1, 1) := by decide +kernel
theorem dX12_checkWhole_55 : decode cX12_checkWhole 55 = .ok (.iconst 4, 1) := by decide +kernel
theorem dX12_checkWhole_56 : decode cX12_checkWhole 56 = .ok (.isub, 1) := by decide +kernel
theorem dX12_checkWhole_57 : decode cX12_checkWhole 57 = .ok (.if_icmp .ge 19, 3) := by decide +kernel
theorem dX12_checkWhole_60 : decode cX12_checkWhole 60 = .ok (.aload_n 0, 1) := by decide +kernel
theorem dX12_checkWhole_61 : decode cX12_checkWhole 61 = .ok (.aload_n 0, 1) := by decide +kernel
theorem dX12_checkWhole_62 : decode cX12_checkWhole 62 = .ok (.getfield 89, 3) := by decide +kernel
theorem dX12_checkWhole_65 : decode cX12_checkWhole 65 = .ok (.iload_n 3, 1) := by decide +kernel
theorem dX12_checkWhole_66 : decode cX12_checkWhole 66 = .ok (.iaload, 1) := by decide +kernel
theorem dX12_checkWhole_67 : decode cX12_checkWhole 67 = .ok (.invokevirtual 291, 3) := by decide +kernel
theorem dX12_checkWhole_70 : decode cX12_checkWhole 70 = .ok (.iinc 3 1, 3) := by decide +kernel
theorem dX12_checkWhole_73 : decode cX12_checkWhole 73 = .ok (.goto (-20), 3) := by decide +kernel
theorem dX12_checkWhole_76 : decode cX12_checkWhole 76 = .ok (.aload_n 0, 1) := by decide +kernel
theorem dX12_checkWhole_77 : decode cX12_checkWhole 77 = .ok (.getfield 271, 3) := by decide +kernel
theorem dX12_checkWhole_80 : decode cX12_checkWhole 80 = .ok (.iconst (-1), 1) := by decide +kernel
theorem dX12_checkWhole_81 : decode cX12_checkWhole 81 = .ok (.ixor, 1) := by decide +kernel
theorem dX12_checkWhole_82 : decode cX12_checkWhole 82 = .ok (.istore_n 3, 1) := by decide +kernel
theorem dX12_checkWhole_83 : decode cX12_checkWhole 83 = .ok (.iconst 1, 1) := by decide +kernel
theorem dX12_checkWhole_84 : decode cX12_checkWhole 84 = .ok (.istore 4, 2) := by decide +kernel
theorem dX12_checkWhole_86 : decode cX12_checkWhole 86 = .ok (.iconst 0, 1) := by decide +kernel
theorem dX12_checkWhole_87 : decode cX12_checkWhole 87 = .ok (.istore 5, 2) := by decide +kernel
theorem dX12_checkWhole_89 : decode cX12_checkWhole 89 = .ok (.iload 5, 2) := by decide +kernel
theorem dX12_checkWhole_91 : decode cX12_checkWhole 91 = .ok (.iconst 4, 1) := by decide +kernel
theorem dX12_checkWhole_92 : decode cX12_checkWhole 92 = .ok (.if_icmp .ge 49, 3) := by decide +kernel
theorem dX12_checkWhole_95 : decode cX12_checkWhole 95 = .ok (.iload 4, 2) := by decide +kernel
theorem dX12_checkWhole_97 : decode cX12_checkWhole 97 = .ok (.ifCond .eq 35, 3) := by decide +kernel
theorem dX12_checkWhole_100 : decode cX12_checkWhole 100 = .ok (.aload_n 0, 1) := by decide +kernel
theorem dX12_checkWhole_101 : decode cX12_checkWhole 101 = .ok (.getfield 89, 3) := by decide +kernel
theorem dX12_checkWhole_104 : decode cX12_checkWhole 104 = .ok (.iload_n 1, 1) := by decide +kernel
theorem dX12_checkWhole_105 : decode cX12_checkWhole 105 = .ok (.iconst 4, 1) := by decide +kernel
theorem dX12_checkWhole_106 : decode cX12_checkWhole 106 = .ok (.isub, 1) := by decide +kernel
theorem dX12_checkWhole_107 : decode cX12_checkWhole 107 = .ok (.iload 5, 2) := by decide +kernel
theorem dX12_checkWhole_109 : decode cX12_checkWhole 109 = .ok (.iadd, 1) := by decide +kernel
theorem dX12_checkWhole_110 : decode cX12_checkWhole 110 = .ok (.iaload, 1) := by decide +kernel
theorem dX12_checkWhole_111 : decode cX12_checkWhole 111 = .ok (.iload_n 3, 1) := by decide +kernel
theorem dX12_checkWhole_112 : decode cX12_checkWhole 112 = .ok (.bipush 24, 2) := by decide +kernel
theorem dX12_checkWhole_114 : decode cX12_checkWhole 114 = .ok (.bipush 8, 2) := by decide +kernel
theorem dX12_checkWhole_116 : decode cX12_checkWhole 116 = .ok (.iload 5, 2) := by decide +kernel
theorem dX12_checkWhole_118 : decode cX12_checkWhole 118 = .ok (.imul, 1) := by decide +kernel
theorem dX12_checkWhole_119 : decode cX12_checkWhole 119 = .ok (.isub, 1) := by decide +kernel
theorem dX12_checkWhole_120 : decode cX12_checkWhole 120 = .ok (.ishr, 1) := by decide +kernel
theorem dX12_checkWhole_121 : decode cX12_checkWhole 121 = .ok (.sipush 255, 3) := by decide +kernel
theorem dX12_checkWhole_124 : decode cX12_checkWhole 124 = .ok (.iand, 1) := by decide +kernel
theorem dX12_checkWhole_125 : decode cX12_checkWhole 125 = .ok (.if_icmp .ne 7, 3) := by decide +kernel
theorem dX12_checkWhole_128 : decode cX12_checkWhole 128 = .ok (.iconst 1, 1) := by decide +kernel
theorem dX12_checkWhole_129 : decode cX12_checkWhole 129 = .ok (.goto 4, 3) := by decide +kernel
theorem dX12_checkWhole_132 : decode cX12_checkWhole 132 = .ok (.iconst 0, 1) := by decide +kernel
theorem dX12_checkWhole_133 : decode cX12_checkWhole 133 = .ok (.istore 4, 2) := by decide +kernel
theorem dX12_checkWhole_135 : decode cX12_checkWhole 135 = .ok (.iinc 5 1, 3) := by decide +kernel
theorem dX12_checkWhole_138 : decode cX12_checkWhole 138 = .ok (.goto (-49), 3) := by decide +kernel
theorem dX12_checkWhole_141 : decode cX12_checkWhole 141 = .ok (.iload 4, 2) := by decide +kernel
theorem dX12_checkWhole_143 : decode cX12_checkWhole 143 = .ok (.ifCond .eq 7, 3) := by decide +kernel
theorem dX12_checkWhole_146 : decode cX12_checkWhole 146 = .ok (.iload_n 2, 1) := by decide +kernel
theorem dX12_checkWhole_147 : decode cX12_checkWhole 147 = .ok (.goto 4, 3) := by decide +kernel
theorem dX12_checkWhole_150 : decode cX12_checkWhole 150 = .ok (.iconst 0, 1) := by decide +kernel
theorem dX12_checkWhole_151 : decode cX12_checkWhole 151 = .ok (.ireturn, 1) := by decide +kernel
theorem dX12_dealWith_0 : decode cX12_dealWith 0 = .ok (.aload_n 0, 1) := by decide +kernel
theorem dX12_dealWith_1 : decode cX12_dealWith 1 = .ok (.getfield 68, 3) := by decide +kernel
theorem dX12_dealWith_4 : decode cX12_dealWith 4 = .ok (.iload_n 2, 1) := by decide +kernel
theorem dX12_dealWith_5 : decode cX12_dealWith 5 = .ok (.iaload, 1) := by decide +kernel
theorem dX12_dealWith_6 : decode cX12_dealWith 6 = .ok (.bipush 15, 2) := by decide +kernel
theorem dX12_dealWith_8 : decode cX12_dealWith 8 = .ok (.iand, 1) := by decide +kernel
theorem dX12_dealWith_9 : decode cX12_dealWith 9 = .ok (.iconst 4, 1) := by decide +kernel
theorem dX12_dealWith_10 : decode cX12_dealWith 10 = .ok (.ishl, 1) := by decide +kernel
theorem dX12_dealWith_11 : decode cX12_dealWith 11 = .ok (.aload_n 0, 1) := by decide +kernel
theorem dX12_dealWith_12 : decode cX12_dealWith 12 = .ok (.getfield 68, 3) := by decide +kernel
theorem dX12_dealWith_15 : decode cX12_dealWith 15 = .ok (.iload_n 2, 1) := by decide +kernel
theorem dX12_dealWith_16 : decode cX12_dealWith 16 = .ok (.iconst 1, 1) := by decide +kernel
theorem dX12_dealWith_17 : decode cX12_dealWith 17 = .ok (.iadd, 1) := by decide +kernel
theorem dX12_dealWith_18 : decode cX12_dealWith 18 = .ok (.iaload, 1) := by decide +kernel
theorem dX12_dealWith_19 : decode cX12_dealWith 19 = .ok (.iconst 4, 1) := by decide +kernel
theorem dX12_dealWith_20 : decode cX12_dealWith 20 = .ok (.ishr, 1) := by decide +kernel
theorem dX12_dealWith_21 : decode cX12_dealWith 21 = .ok (.ior, 1) := by decide +kernel
theorem dX12_dealWith_22 : decode cX12_dealWith 22 = .ok (.istore_n 3, 1) := by decide +kernel
theorem dX12_dealWith_23 : decode cX12_dealWith 23 = .ok (.aload_n 0, 1) := by decide +kernel
theorem dX12_dealWith_24 : decode cX12_dealWith 24 = .ok (.getfield 68, 3) := by decide +kernel
theorem dX12_dealWith_27 : decode cX12_dealWith 27 = .ok (.iload_n 2, 1) := by decide +kernel
theorem dX12_dealWith_28 : decode cX12_dealWith 28 = .ok (.iconst 1, 1) := by decide +kernel
theorem dX12_dealWith_29 : decode cX12_dealWith 29 = .ok (.iadd, 1) := by decide +kernel
theorem dX12_dealWith_30 : decode cX12_dealWith 30 = .ok (.iaload, 1) := by decide +kernel
theorem dX12_dealWith_31 : decode cX12_dealWith 31 = .ok (.bipush 15, 2) := by decide +kernel
theorem dX12_dealWith_33 : decode cX12_dealWith 33 = .ok (.iand, 1) := by decide +kernel
theorem dX12_dealWith_34 : decode cX12_dealWith 34 = .ok (.bipush 12, 2) := by decide +kernel
theorem dX12_dealWith_36 : decode cX12_dealWith 36 = .ok (.ishl, 1) := by decide +kernel
theorem dX12_dealWith_37 : decode cX12_dealWith 37 = .ok (.aload_n 0, 1) := by decide +kernel
theorem dX12_dealWith_38 : decode cX12_dealWith 38 = .ok (.getfield 68, 3) := by decide +kernel
theorem dX12_dealWith_41 : decode cX12_dealWith 41 = .ok (.iload_n 2, 1) := by decide +kernel
theorem dX12_dealWith_42 : decode cX12_dealWith 42 = .ok (.iconst 2, 1) := by decide +kernel
theorem dX12_dealWith_43 : decode cX12_dealWith 43 = .ok (.iadd, 1) := by decide +kernel
theorem dX12_dealWith_44 : decode cX12_dealWith 44 = .ok (.iaload, 1) := by decide +kernel
theorem dX12_dealWith_45 : decode cX12_dealWith 45 = .ok (.iconst 4, 1) := by decide +kernel
theorem dX12_dealWith_46 : decode cX12_dealWith 46 = .ok (.ishl, 1) := by decide +kernel
theorem dX12_dealWith_47 : decode cX12_dealWith 47 = .ok (.ior, 1) := by decide +kernel
theorem dX12_dealWith_48 : decode cX12_dealWith 48 = .ok (.aload_n 0, 1) := by decide +kernel
theorem dX12_dealWith_49 : decode cX12_dealWith 49 = .ok (.getfield 68, 3) := by decide +kernel
theorem dX12_dealWith_52 : decode cX12_dealWith 52 = .ok (.iload_n 2, 1) := by decide +kernel
theorem dX12_dealWith_53 : decode cX12_dealWith 53 = .ok (.iconst 3, 1) := by decide +kernel
theorem dX12_dealWith_54 : decode cX12_dealWith 54 = .ok (.iadd, 1) := by decide +kernel
theorem dX12_dealWith_55 : decode cX12_dealWith 55 = .ok (.iaload, 1) := by decide +kernel
theorem dX12_dealWith_56 : decode cX12_dealWith 56 = .ok (.iconst 4, 1) := by decide +kernel
theorem dX12_dealWith_57 : decode cX12_dealWith 57 = .ok (.ishr, 1) := by decide +kernel
theorem dX12_dealWith_58 : decode cX12_dealWith 58 = .ok (.ior, 1) := by decide +kernel
theorem dX12_dealWith_59 : decode cX12_dealWith 59 = .ok (.istore 4, 2) := by decide +kernel
theorem dX12_dealWith_61 : decode cX12_dealWith 61 = .ok (.aload_n 0, 1) := by decide +kernel
theorem dX12_dealWith_62 : decode cX12_dealWith 62 = .ok (.getfield 68, 3) := by decide +kernel
theorem dX12_dealWith_65 : decode cX12_dealWith 65 = .ok (.iload_n 2, 1) := by decide +kernel
theorem dX12_dealWith_66 : decode cX12_dealWith 66 = .ok (.iconst 3, 1) := by decide +kernel
theorem dX12_dealWith_67 : decode cX12_dealWith 67 = .ok (.iadd, 1) := by decide +kernel
theorem dX12_dealWith_68 : decode cX12_dealWith 68 = .ok (.iaload, 1) := by decide +kernel
theorem dX12_dealWith_69 : decode cX12_dealWith 69 = .ok (.iconst 1, 1) := by decide +kernel
theorem dX12_dealWith_70 : decode cX12_dealWith 70 = .ok (.ishr, 1) := by decide +kernel
theorem dX12_dealWith_71 : decode cX12_dealWith 71 = .ok (.bipush 7, 2) := by decide +kernel
theorem dX12_dealWith_73 : decode cX12_dealWith 73 = .ok (.iand, 1) := by decide +kernel
theorem dX12_dealWith_74 : decode cX12_dealWith 74 = .ok (.istore 5, 2) := by decide +kernel
theorem dX12_dealWith_76 : decode cX12_dealWith 76 = .ok (.iload_n 3, 1) := by decide +kernel
theorem dX12_dealWith_77 : decode cX12_dealWith 77 = .ok (.ifCond .ne 9, 3) := by decide +kernel
theorem dX12_dealWith_80 : decode cX12_dealWith 80 = .ok (.iload 4, 2) := by decide +kernel
theorem dX12_dealWith_82 : decode cX12_dealWith 82 = .ok (.ifCond .ne 4, 3) := by decide +kernel
theorem dX12_dealWith_85 : decode cX12_dealWith 85 = .ok (.return_, 1) := by decide +kernel
theorem dX12_dealWith_86 : decode cX12_dealWith 86 = .ok (.iload_n 3, 1) := by decide +kernel
theorem dX12_dealWith_87 : decode cX12_dealWith 87 = .ok (.ifCond .ne 20, 3) := by decide +kernel
theorem dX12_dealWith_90 : decode cX12_dealWith 90 = .ok (.iload 4, 2) := by decide +kernel
theorem dX12_dealWith_92 : decode cX12_dealWith 92 = .ok (.iconst 5, 1) := by decide +kernel
theorem dX12_dealWith_93 : decode cX12_dealWith 93 = .ok (.if_icmp .ne 14, 3) := by decide +kernel
theorem dX12_dealWith_96 : decode cX12_dealWith 96 = .ok (.aload_n 0, 1) := by decide +kernel
theorem dX12_dealWith_97 : decode cX12_dealWith 97 = .ok (.iload_n 1, 1) := by decide +kernel
theorem dX12_dealWith_98 : decode cX12_dealWith 98 = .ok (.iload_n 2, 1) := by decide +kernel
theorem dX12_dealWith_99 : decode cX12_dealWith 99 = .ok (.iload 5, 2) := by decide +kernel
theorem dX12_dealWith_101 : decode cX12_dealWith 101 = .ok (.invokevirtual 344, 3) := by decide +kernel
theorem dX12_dealWith_104 : decode cX12_dealWith 104 = .ok (.goto 49, 3) := by decide +kernel
theorem dX12_dealWith_107 : decode cX12_dealWith 107 = .ok (.iload_n 3, 1) := by decide +kernel
theorem dX12_dealWith_108 : decode cX12_dealWith 108 = .ok (.ifCond .eq 16, 3) := by decide +kernel
theorem dX12_dealWith_111 : decode cX12_dealWith 111 = .ok (.aload_n 0, 1) := by decide +kernel
theorem dX12_dealWith_112 : decode cX12_dealWith 112 = .ok (.getfield 23, 3) := by decide +kernel
theorem dX12_dealWith_115 : decode cX12_dealWith 115 = .ok (.iload_n 1, 1) := by decide +kernel
theorem dX12_dealWith_116 : decode cX12_dealWith 116 = .ok (.dup2, 1) := by decide +kernel
theorem dX12_dealWith_117 : decode cX12_dealWith 117 = .ok (.iaload, 1) := by decide +kernel
theorem dX12_dealWith_118 : decode cX12_dealWith 118 = .ok (.iconst 1, 1) := by decide +kernel
theorem dX12_dealWith_119 : decode cX12_dealWith 119 = .ok (.iadd, 1) := by decide +kernel
theorem dX12_dealWith_120 : decode cX12_dealWith 120 = .ok (.iastore, 1) := by decide +kernel
theorem dX12_dealWith_121 : decode cX12_dealWith 121 = .ok (.goto 32, 3) := by decide +kernel
theorem dX12_dealWith_124 : decode cX12_dealWith 124 = .ok (.iload_n 1, 1) := by decide +kernel
theorem dX12_dealWith_125 : decode cX12_dealWith 125 = .ok (.iconst 2, 1) := by decide +kernel
theorem dX12_dealWith_126 : decode cX12_dealWith 126 = .ok (.irem, 1) := by decide +kernel
theorem dX12_dealWith_127 : decode cX12_dealWith 127 = .ok (.ifCond .ne 16, 3) := by decide +kernel
theorem dX12_dealWith_130 : decode cX12_dealWith 130 = .ok (.aload_n 0, 1) := by decide +kernel
theorem dX12_dealWith_131 : decode cX12_dealWith 131 = .ok (.iload_n 1, 1) := by decide +kernel
theorem dX12_dealWith_132 : decode cX12_dealWith 132 = .ok (.iload_n 2, 1) := by decide +kernel
theorem dX12_dealWith_133 : decode cX12_dealWith 133 = .ok (.iload 4, 2) := by decide +kernel
theorem dX12_dealWith_135 : decode cX12_dealWith 135 = .ok (.iload 5, 2) := by decide +kernel
theorem dX12_dealWith_137 : decode cX12_dealWith 137 = .ok (.invokevirtual 347, 3) := by decide +kernel
theorem dX12_dealWith_140 : decode cX12_dealWith 140 = .ok (.goto 13, 3) := by decide +kernel
theorem dX12_dealWith_143 : decode cX12_dealWith 143 = .ok (.aload_n 0, 1) := by decide +kernel
theorem dX12_dealWith_144 : decode cX12_dealWith 144 = .ok (.iload_n 1, 1) := by decide +kernel
theorem dX12_dealWith_145 : decode cX12_dealWith 145 = .ok (.iload_n 2, 1) := by decide +kernel
theorem dX12_dealWith_146 : decode cX12_dealWith 146 = .ok (.iload 4, 2) := by decide +kernel
theorem dX12_dealWith_148 : decode cX12_dealWith 148 = .ok (.iload 5, 2) := by decide +kernel
theorem dX12_dealWith_150 : decode cX12_dealWith 150 = .ok (.invokevirtual 351, 3) := by decide +kernel
theorem dX12_dealWith_153 : decode cX12_dealWith 153 = .ok (.return_, 1) := by decide +kernel
theorem dX12_messageCell_0 : decode cX12_messageCell 0 = .ok (.sipush 240, 3) := by decide +kernel
theorem dX12_messageCell_3 : decode cX12_messageCell 3 = .ok (.iload_n 1, 1) := by decide +kernel
theorem dX12_messageCell_4 : decode cX12_messageCell 4 = .ok (.imul, 1) := by decide +kernel
theorem dX12_messageCell_5 : decode cX12_messageCell 5 = .ok (.bipush 48, 2) := by decide +kernel
theorem dX12_messageCell_7 : decode cX12_messageCell 7 = .ok (.aload_n 0, 1) := by decide +kernel
theorem dX12_messageCell_8 : decode cX12_messageCell 8 = .ok (.getfield 86, 3) := by decide +kernel
theorem dX12_messageCell_11 : decode cX12_messageCell 11 = .ok (.iload_n 1, 1) := by decide +kernel
theorem dX12_messageCell_12 : decode cX12_messageCell 12 = .ok (.iaload, 1) := by decide +kernel
theorem dX12_messageCell_13 : decode cX12_messageCell 13 = .ok (.imul, 1) := by decide +kernel
theorem dX12_messageCell_14 : decode cX12_messageCell 14 = .ok (.iadd, 1) := by decide +kernel
theorem dX12_messageCell_15 : decode cX12_messageCell 15 = .ok (.istore 4, 2) := by decide +kernel
theorem dX12_messageCell_17 : decode cX12_messageCell 17 = .ok (.iconst 0, 1) := by decide +kernel
theorem dX12_messageCell_18 : decode cX12_messageCell 18 = .ok (.istore 5, 2) := by decide +kernel
theorem dX12_messageCell_20 : decode cX12_messageCell 20 = .ok (.iload 5, 2) := by decide +kernel
theorem dX12_messageCell_22 : decode cX12_messageCell 22 = .ok (.bipush 48, 2) := by decide +kernel
theorem dX12_messageCell_24 : decode cX12_messageCell 24 = .ok (.if_icmp .ge 30, 3) := by decide +kernel
theorem dX12_messageCell_27 : decode cX12_messageCell 27 = .ok (.aload_n 0, 1) := by decide +kernel
theorem dX12_messageCell_28 : decode cX12_messageCell 28 = .ok (.getfield 83, 3) := by decide +kernel
theorem dX12_messageCell_31 : decode cX12_messageCell 31 = .ok (.iload 4, 2) := by decide +kernel
theorem dX12_messageCell_33 : decode cX12_messageCell 33 = .ok (.iload 5, 2) := by decide +kernel
theorem dX12_messageCell_35 : decode cX12_messageCell 35 = .ok (.iadd, 1) := by decide +kernel
theorem dX12_messageCell_36 : decode cX12_messageCell 36 = .ok (.aload_n 0, 1) := by decide +kernel
theorem dX12_messageCell_37 : decode cX12_messageCell 37 = .ok (.getfield 68, 3) := by decide +kernel
theorem dX12_messageCell_40 : decode cX12_messageCell 40 = .ok (.iload_n 2, 1) := by decide +kernel
theorem dX12_messageCell_41 : decode cX12_messageCell 41 = .ok (.iconst 5, 1) := by decide +kernel
theorem dX12_messageCell_42 : decode cX12_messageCell 42 = .ok (.iadd, 1) := by decide +kernel
theorem dX12_messageCell_43 : decode cX12_messageCell 43 = .ok (.iload 5, 2) := by decide +kernel
theorem dX12_messageCell_45 : decode cX12_messageCell 45 = .ok (.iadd, 1) := by decide +kernel
theorem dX12_messageCell_46 : decode cX12_messageCell 46 = .ok (.iaload, 1) := by decide +kernel
theorem dX12_messageCell_47 : decode cX12_messageCell 47 = .ok (.iastore, 1) := by decide +kernel
theorem dX12_messageCell_48 : decode cX12_messageCell 48 = .ok (.iinc 5 1, 3) := by decide +kernel
theorem dX12_messageCell_51 : decode cX12_messageCell 51 = .ok (.goto (-31), 3) := by decide +kernel
theorem dX12_messageCell_54 : decode cX12_messageCell 54 = .ok (.aload_n 0, 1) := by decide +kernel
theorem dX12_messageCell_55 : decode cX12_messageCell 55 = .ok (.getfield 86, 3) := by decide +kernel
theorem dX12_messageCell_58 : decode cX12_messageCell 58 = .ok (.iload_n 1, 1) := by decide +kernel
theorem dX12_messageCell_59 : decode cX12_messageCell 59 = .ok (.dup2, 1) := by decide +kernel
theorem dX12_messageCell_60 : decode cX12_messageCell 60 = .ok (.iaload, 1) := by decide +kernel
theorem dX12_messageCell_61 : decode cX12_messageCell 61 = .ok (.iconst 1, 1) := by decide +kernel
theorem dX12_messageCell_62 : decode cX12_messageCell 62 = .ok (.iadd, 1) := by decide +kernel
theorem dX12_messageCell_63 : decode cX12_messageCell 63 = .ok (.iastore, 1) := by decide +kernel
theorem dX12_messageCell_64 : decode cX12_messageCell 64 = .ok (.iload_n 3, 1) := by decide +kernel
theorem dX12_messageCell_65 : decode cX12_messageCell 65 = .ok (.iconst 2, 1) := by decide +kernel
theorem dX12_messageCell_66 : decode cX12_messageCell 66 = .ok (.irem, 1) := by decide +kernel
theorem dX12_messageCell_67 : decode cX12_messageCell 67 = .ok (.iconst 1, 1) := by decide +kernel
theorem dX12_messageCell_68 : decode cX12_messageCell 68 = .ok (.if_icmp .ne 99, 3) := by decide +kernel
theorem dX12_messageCell_71 : decode cX12_messageCell 71 = .ok (.bipush 48, 2) := by decide +kernel
theorem dX12_messageCell_73 : decode cX12_messageCell 73 = .ok (.aload_n 0, 1) := by decide +kernel
theorem dX12_messageCell_74 : decode cX12_messageCell 74 = .ok (.getfield 86, 3) := by decide +kernel
theorem dX12_messageCell_77 : decode cX12_messageCell 77 = .ok (.iload_n 1, 1) := by decide +kernel
theorem dX12_messageCell_78 : decode cX12_messageCell 78 = .ok (.iaload, 1) := by decide +kernel
theorem dX12_messageCell_79 : decode cX12_messageCell 79 = .ok (.imul, 1) := by decide +kernel
theorem dX12_messageCell_80 : decode cX12_messageCell 80 = .ok (.istore 5, 2) := by decide +kernel
theorem dX12_messageCell_82 : decode cX12_messageCell 82 = .ok (.aload_n 0, 1) := by decide +kernel
theorem dX12_messageCell_83 : decode cX12_messageCell 83 = .ok (.getfield 86, 3) := by decide +kernel
theorem dX12_messageCell_86 : decode cX12_messageCell 86 = .ok (.iload_n 1, 1) := by decide +kernel
theorem dX12_messageCell_87 : decode cX12_messageCell 87 = .ok (.iconst 0, 1) := by decide +kernel
theorem dX12_messageCell_88 : decode cX12_messageCell 88 = .ok (.iastore, 1) := by decide +kernel
theorem dX12_messageCell_89 : decode cX12_messageCell 89 = .ok (.iconst 0, 1) := by decide +kernel
theorem dX12_messageCell_90 : decode cX12_messageCell 90 = .ok (.istore 6, 2) := by decide +kernel
theorem dX12_messageCell_92 : decode cX12_messageCell 92 = .ok (.iload 6, 2) := by decide +kernel
theorem dX12_messageCell_94 : decode cX12_messageCell 94 = .ok (.iload 5, 2) := by decide +kernel
theorem dX12_messageCell_96 : decode cX12_messageCell 96 = .ok (.if_icmp .ge 29, 3) := by decide +kernel
theorem dX12_messageCell_99 : decode cX12_messageCell 99 = .ok (.aload_n 0, 1) := by decide +kernel
theorem dX12_messageCell_100 : decode cX12_messageCell 100 = .ok (.getfield 89, 3) := by decide +kernel
theorem dX12_messageCell_103 : decode cX12_messageCell 103 = .ok (.iload 6, 2) := by decide +kernel
theorem dX12_messageCell_105 : decode cX12_messageCell 105 = .ok (.aload_n 0, 1) := by decide +kernel
theorem dX12_messageCell_106 : decode cX12_messageCell 106 = .ok (.getfield 83, 3) := by decide +kernel
theorem dX12_messageCell_109 : decode cX12_messageCell 109 = .ok (.sipush 240, 3) := by decide +kernel
theorem dX12_messageCell_112 : decode cX12_messageCell 112 = .ok (.iload_n 1, 1) := by decide +kernel
theorem dX12_messageCell_113 : decode cX12_messageCell 113 = .ok (.imul, 1) := by decide +kernel
theorem dX12_messageCell_114 : decode cX12_messageCell 114 = .ok (.iload 6, 2) := by decide +kernel
theorem dX12_messageCell_116 : decode cX12_messageCell 116 = .ok (.iadd, 1) := by decide +kernel
theorem dX12_messageCell_117 : decode cX12_messageCell 117 = .ok (.iaload, 1) := by decide +kernel
theorem dX12_messageCell_118 : decode cX12_messageCell 118 = .ok (.iastore, 1) := by decide +kernel
theorem dX12_messageCell_119 : decode cX12_messageCell 119 = .ok (.iinc 6 1, 3) := by decide +kernel
theorem dX12_messageCell_122 : decode cX12_messageCell 122 = .ok (.goto (-30), 3) := by decide +kernel
theorem dX12_messageCell_125 : decode cX12_messageCell 125 = .ok (.aload_n 0, 1) := by decide +kernel
theorem dX12_messageCell_126 : decode cX12_messageCell 126 = .ok (.aload_n 0, 1) := by decide +kernel
theorem dX12_messageCell_127 : decode cX12_messageCell 127 = .ok (.iload 5, 2) := by decide +kernel
theorem dX12_messageCell_129 : decode cX12_messageCell 129 = .ok (.invokevirtual 354, 3) := by decide +kernel
theorem dX12_messageCell_132 : decode cX12_messageCell 132 = .ok (.putfield 357, 3) := by decide +kernel
theorem dX12_messageCell_135 : decode cX12_messageCell 135 = .ok (.aload_n 0, 1) := by decide +kernel
theorem dX12_messageCell_136 : decode cX12_messageCell 136 = .ok (.getfield 357, 3) := by decide +kernel
theorem dX12_messageCell_139 : decode cX12_messageCell 139 = .ok (.ifCond .ne 16, 3) := by decide +kernel
theorem dX12_messageCell_142 : decode cX12_messageCell 142 = .ok (.aload_n 0, 1) := by decide +kernel
theorem dX12_messageCell_143 : decode cX12_messageCell 143 = .ok (.getfield 80, 3) := by decide +kernel
theorem dX12_messageCell_146 : decode cX12_messageCell 146 = .ok (.iload_n 1, 1) := by decide +kernel
theorem dX12_messageCell_147 : decode cX12_messageCell 147 = .ok (.dup2, 1) := by decide +kernel
theorem dX12_messageCell_148 : decode cX12_messageCell 148 = .ok (.iaload, 1) := by decide +kernel
theorem dX12_messageCell_149 : decode cX12_messageCell 149 = .ok (.iconst 1, 1) := by decide +kernel
theorem dX12_messageCell_150 : decode cX12_messageCell 150 = .ok (.iadd, 1) := by decide +kernel
theorem dX12_messageCell_151 : decode cX12_messageCell 151 = .ok (.iastore, 1) := by decide +kernel
theorem dX12_messageCell_152 : decode cX12_messageCell 152 = .ok (.goto 12, 3) := by decide +kernel
theorem dX12_messageCell_155 : decode cX12_messageCell 155 = .ok (.aload_n 0, 1) := by decide +kernel
theorem dX12_messageCell_156 : decode cX12_messageCell 156 = .ok (.aload_n 0, 1) := by decide +kernel
theorem dX12_messageCell_157 : decode cX12_messageCell 157 = .ok (.iload_n 1, 1) := by decide +kernel
theorem dX12_messageCell_158 : decode cX12_messageCell 158 = .ok (.invokevirtual 360, 3) := by decide +kernel
theorem dX12_messageCell_161 : decode cX12_messageCell 161 = .ok (.invokevirtual 363, 3) := by decide +kernel
theorem dX12_messageCell_164 : decode cX12_messageCell 164 = .ok (.goto 30, 3) := by decide +kernel
theorem dX12_messageCell_167 : decode cX12_messageCell 167 = .ok (.aload_n 0, 1) := by decide +kernel
theorem dX12_messageCell_168 : decode cX12_messageCell 168 = .ok (.getfield 86, 3) := by decide +kernel
theorem dX12_messageCell_171 : decode cX12_messageCell 171 = .ok (.iload_n 1, 1) := by decide +kernel
theorem dX12_messageCell_172 : decode cX12_messageCell 172 = .ok (.iaload, 1) := by decide +kernel
theorem dX12_messageCell_173 : decode cX12_messageCell 173 = .ok (.iconst 5, 1) := by decide +kernel
theorem dX12_messageCell_174 : decode cX12_messageCell 174 = .ok (.if_icmp .ne 20, 3) := by decide +kernel
theorem dX12_messageCell_177 : decode cX12_messageCell 177 = .ok (.aload_n 0, 1) := by decide +kernel
theorem dX12_messageCell_178 : decode cX12_messageCell 178 = .ok (.getfield 86, 3) := by decide +kernel
theorem dX12_messageCell_181 : decode cX12_messageCell 181 = .ok (.iload_n 1, 1) := by decide +kernel
theorem dX12_messageCell_182 : decode cX12_messageCell 182 = .ok (.iconst 0, 1) := by decide +kernel
theorem dX12_messageCell_183 : decode cX12_messageCell 183 = .ok (.iastore, 1) := by decide +kernel
theorem dX12_messageCell_184 : decode cX12_messageCell 184 = .ok (.aload_n 0, 1) := by decide +kernel
theorem dX12_messageCell_185 : decode cX12_messageCell 185 = .ok (.getfield 80, 3) := by decide +kernel
theorem dX12_messageCell_188 : decode cX12_messageCell 188 = .ok (.iload_n 1, 1) := by decide +kernel
theorem dX12_messageCell_189 : decode cX12_messageCell 189 = .ok (.dup2, 1) := by decide +kernel
theorem dX12_messageCell_190 : decode cX12_messageCell 190 = .ok (.iaload, 1) := by decide +kernel
theorem dX12_messageCell_191 : decode cX12_messageCell 191 = .ok (.iconst 1, 1) := by decide +kernel
theorem dX12_messageCell_192 : decode cX12_messageCell 192 = .ok (.iadd, 1) := by decide +kernel
theorem dX12_messageCell_193 : decode cX12_messageCell 193 = .ok (.iastore, 1) := by decide +kernel
theorem dX12_messageCell_194 : decode cX12_messageCell 194 = .ok (.return_, 1) := by decide +kernel
theorem dX12_switchCell_0 : decode cX12_switchCell 0 = .ok (.aload_n 0, 1) := by decide +kernel
theorem dX12_switchCell_1 : decode cX12_switchCell 1 = .ok (.aload_n 0, 1) := by decide +kernel
theorem dX12_switchCell_2 : decode cX12_switchCell 2 = .ok (.getfield 260, 3) := by decide +kernel
theorem dX12_switchCell_5 : decode cX12_switchCell 5 = .ok (.iload_n 1, 1) := by decide +kernel
theorem dX12_switchCell_6 : decode cX12_switchCell 6 = .ok (.iconst 2, 1) := by decide +kernel
theorem dX12_switchCell_7 : decode cX12_switchCell 7 = .ok (.idiv, 1) := by decide +kernel
theorem dX12_switchCell_8 : decode cX12_switchCell 8 = .ok (.iadd, 1) := by decide +kernel
theorem dX12_switchCell_9 : decode cX12_switchCell 9 = .ok (.iload_n 3, 1) := by decide +kernel
theorem dX12_switchCell_10 : decode cX12_switchCell 10 = .ok (.invokevirtual 366, 3) := by decide +kernel
theorem dX12_switchCell_13 : decode cX12_switchCell 13 = .ok (.istore 5, 2) := by decide +kernel
theorem dX12_switchCell_15 : decode cX12_switchCell 15 = .ok (.iload 5, 2) := by decide +kernel
theorem dX12_switchCell_17 : decode cX12_switchCell 17 = .ok (.ifCond .ge 8, 3) := by decide +kernel
theorem dX12_switchCell_20 : decode cX12_switchCell 20 = .ok (.bipush (-2), 2) := by decide +kernel
theorem dX12_switchCell_22 : decode cX12_switchCell 22 = .ok (.goto 9, 3) := by decide +kernel
theorem dX12_switchCell_25 : decode cX12_switchCell 25 = .ok (.aload_n 0, 1) := by decide +kernel
theorem dX12_switchCell_26 : decode cX12_switchCell 26 = .ok (.iload 5, 2) := by decide +kernel
theorem dX12_switchCell_28 : decode cX12_switchCell 28 = .ok (.invokevirtual 369, 3) := by decide +kernel
theorem dX12_switchCell_31 : decode cX12_switchCell 31 = .ok (.istore 6, 2) := by decide +kernel
theorem dX12_switchCell_33 : decode cX12_switchCell 33 = .ok (.iload 6, 2) := by decide +kernel
theorem dX12_switchCell_35 : decode cX12_switchCell 35 = .ok (.ifCond .ge 14, 3) := by decide +kernel
theorem dX12_switchCell_38 : decode cX12_switchCell 38 = .ok (.aload_n 0, 1) := by decide +kernel
theorem dX12_switchCell_39 : decode cX12_switchCell 39 = .ok (.getfield 23, 3) := by decide +kernel
theorem dX12_switchCell_42 : decode cX12_switchCell 42 = .ok (.iload_n 1, 1) := by decide +kernel
theorem dX12_switchCell_43 : decode cX12_switchCell 43 = .ok (.dup2, 1) := by decide +kernel
theorem dX12_switchCell_44 : decode cX12_switchCell 44 = .ok (.iaload, 1) := by decide +kernel
theorem dX12_switchCell_45 : decode cX12_switchCell 45 = .ok (.iconst 1, 1) := by decide +kernel
theorem dX12_switchCell_46 : decode cX12_switchCell 46 = .ok (.iadd, 1) := by decide +kernel
theorem dX12_switchCell_47 : decode cX12_switchCell 47 = .ok (.iastore, 1) := by decide +kernel
theorem dX12_switchCell_48 : decode cX12_switchCell 48 = .ok (.return_, 1) := by decide +kernel
theorem dX12_switchCell_49 : decode cX12_switchCell 49 = .ok (.aload_n 0, 1) := by decide +kernel
theorem dX12_switchCell_50 : decode cX12_switchCell 50 = .ok (.aload_n 0, 1) := by decide +kernel
theorem dX12_switchCell_51 : decode cX12_switchCell 51 = .ok (.getfield 201, 3) := by decide +kernel
theorem dX12_switchCell_54 : decode cX12_switchCell 54 = .ok (.iload 6, 2) := by decide +kernel
theorem dX12_switchCell_56 : decode cX12_switchCell 56 = .ok (.iaload, 1) := by decide +kernel
theorem dX12_switchCell_57 : decode cX12_switchCell 57 = .ok (.iload 4, 2) := by decide +kernel
theorem dX12_switchCell_59 : decode cX12_switchCell 59 = .ok (.iconst 0, 1) := by decide +kernel
theorem dX12_switchCell_60 : decode cX12_switchCell 60 = .ok (.invokevirtual 295, 3) := by decide +kernel
theorem dX12_switchCell_63 : decode cX12_switchCell 63 = .ok (.iconst 5, 1) := by decide +kernel
theorem dX12_switchCell_64 : decode cX12_switchCell 64 = .ok (.istore 7, 2) := by decide +kernel
theorem dX12_switchCell_66 : decode cX12_switchCell 66 = .ok (.iload 7, 2) := by decide +kernel
theorem dX12_switchCell_68 : decode cX12_switchCell 68 = .ok (.bipush 53, 2) := by decide +kernel
theorem dX12_switchCell_70 : decode cX12_switchCell 70 = .ok (.if_icmp .ge 25, 3) := by decide +kernel
theorem dX12_switchCell_73 : decode cX12_switchCell 73 = .ok (.aload_n 0, 1) := by decide +kernel
theorem dX12_switchCell_74 : decode cX12_switchCell 74 = .ok (.getfield 26, 3) := by decide +kernel
theorem dX12_switchCell_77 : decode cX12_switchCell 77 = .ok (.iload 7, 2) := by decide +kernel
theorem dX12_switchCell_79 : decode cX12_switchCell 79 = .ok (.aload_n 0, 1) := by decide +kernel
theorem dX12_switchCell_80 : decode cX12_switchCell 80 = .ok (.getfield 68, 3) := by decide +kernel
theorem dX12_switchCell_83 : decode cX12_switchCell 83 = .ok (.iload_n 2, 1) := by decide +kernel
theorem dX12_switchCell_84 : decode cX12_switchCell 84 = .ok (.iload 7, 2) := by decide +kernel
theorem dX12_switchCell_86 : decode cX12_switchCell 86 = .ok (.iadd, 1) := by decide +kernel
theorem dX12_switchCell_87 : decode cX12_switchCell 87 = .ok (.iaload, 1) := by decide +kernel
theorem dX12_switchCell_88 : decode cX12_switchCell 88 = .ok (.iastore, 1) := by decide +kernel
theorem dX12_switchCell_89 : decode cX12_switchCell 89 = .ok (.iinc 7 1, 3) := by decide +kernel
theorem dX12_switchCell_92 : decode cX12_switchCell 92 = .ok (.goto (-26), 3) := by decide +kernel
theorem dX12_switchCell_95 : decode cX12_switchCell 95 = .ok (.aload_n 0, 1) := by decide +kernel
theorem dX12_switchCell_96 : decode cX12_switchCell 96 = .ok (.aload_n 0, 1) := by decide +kernel
theorem dX12_switchCell_97 : decode cX12_switchCell 97 = .ok (.iload 6, 2) := by decide +kernel
theorem dX12_switchCell_99 : decode cX12_switchCell 99 = .ok (.bipush 40, 2) := by decide +kernel
theorem dX12_switchCell_101 : decode cX12_switchCell 101 = .ok (.idiv, 1) := by decide +kernel
theorem dX12_switchCell_102 : decode cX12_switchCell 102 = .ok (.invokevirtual 302, 3) := by decide +kernel
theorem dX12_switchCell_105 : decode cX12_switchCell 105 = .ok (.iconst 1, 1) := by decide +kernel
theorem dX12_switchCell_106 : decode cX12_switchCell 106 = .ok (.invokevirtual 309, 3) := by decide +kernel
theorem dX12_switchCell_109 : decode cX12_switchCell 109 = .ok (.return_, 1) := by decide +kernel
theorem dX12_endCell_0 : decode cX12_endCell 0 = .ok (.aload_n 0, 1) := by decide +kernel
theorem dX12_endCell_1 : decode cX12_endCell 1 = .ok (.iload_n 1, 1) := by decide +kernel
theorem dX12_endCell_2 : decode cX12_endCell 2 = .ok (.iconst 2, 1) := by decide +kernel
theorem dX12_endCell_3 : decode cX12_endCell 3 = .ok (.idiv, 1) := by decide +kernel
theorem dX12_endCell_4 : decode cX12_endCell 4 = .ok (.iload_n 3, 1) := by decide +kernel
theorem dX12_endCell_5 : decode cX12_endCell 5 = .ok (.invokevirtual 372, 3) := by decide +kernel
theorem dX12_endCell_8 : decode cX12_endCell 8 = .ok (.istore 5, 2) := by decide +kernel
theorem dX12_endCell_10 : decode cX12_endCell 10 = .ok (.iload 5, 2) := by decide +kernel
theorem dX12_endCell_12 : decode cX12_endCell 12 = .ok (.ifCond .ge 14, 3) := by decide +kernel
theorem dX12_endCell_15 : decode cX12_endCell 15 = .ok (.aload_n 0, 1) := by decide +kernel
theorem dX12_endCell_16 : decode cX12_endCell 16 = .ok (.getfield 23, 3) := by decide +kernel
theorem dX12_endCell_19 : decode cX12_endCell 19 = .ok (.iload_n 1, 1) := by decide +kernel
theorem dX12_endCell_20 : decode cX12_endCell 20 = .ok (.dup2, 1) := by decide +kernel
theorem dX12_endCell_21 : decode cX12_endCell 21 = .ok (.iaload, 1) := by decide +kernel
theorem dX12_endCell_22 : decode cX12_endCell 22 = .ok (.iconst 1, 1) := by decide +kernel
theorem dX12_endCell_23 : decode cX12_endCell 23 = .ok (.iadd, 1) := by decide +kernel
theorem dX12_endCell_24 : decode cX12_endCell 24 = .ok (.iastore, 1) := by decide +kernel
theorem dX12_endCell_25 : decode cX12_endCell 25 = .ok (.return_, 1) := by decide +kernel
theorem dX12_endCell_26 : decode cX12_endCell 26 = .ok (.sipush 240, 3) := by decide +kernel
theorem dX12_endCell_29 : decode cX12_endCell 29 = .ok (.iload 5, 2) := by decide +kernel
theorem dX12_endCell_31 : decode cX12_endCell 31 = .ok (.imul, 1) := by decide +kernel
theorem dX12_endCell_32 : decode cX12_endCell 32 = .ok (.bipush 48, 2) := by decide +kernel
theorem dX12_endCell_34 : decode cX12_endCell 34 = .ok (.aload_n 0, 1) := by decide +kernel
theorem dX12_endCell_35 : decode cX12_endCell 35 = .ok (.getfield 254, 3) := by decide +kernel
theorem dX12_endCell_38 : decode cX12_endCell 38 = .ok (.iload 5, 2) := by decide +kernel
theorem dX12_endCell_40 : decode cX12_endCell 40 = .ok (.iaload, 1) := by decide +kernel
theorem dX12_endCell_41 : decode cX12_endCell 41 = .ok (.imul, 1) := by decide +kernel
theorem dX12_endCell_42 : decode cX12_endCell 42 = .ok (.iadd, 1) := by decide +kernel
theorem dX12_endCell_43 : decode cX12_endCell 43 = .ok (.istore 6, 2) := by decide +kernel
theorem dX12_endCell_45 : decode cX12_endCell 45 = .ok (.iconst 0, 1) := by decide +kernel
theorem dX12_endCell_46 : decode cX12_endCell 46 = .ok (.istore 7, 2) := by decide +kernel
theorem dX12_endCell_48 : decode cX12_endCell 48 = .ok (.iload 7, 2) := by decide +kernel
theorem dX12_endCell_50 : decode cX12_endCell 50 = .ok (.bipush 48, 2) := by decide +kernel
theorem dX12_endCell_52 : decode cX12_endCell 52 = .ok (.if_icmp .ge 30, 3) := by decide +kernel
theorem dX12_endCell_55 : decode cX12_endCell 55 = .ok (.aload_n 0, 1) := by decide +kernel
theorem dX12_endCell_56 : decode cX12_endCell 56 = .ok (.getfield 251, 3) := by decide +kernel
theorem dX12_endCell_59 : decode cX12_endCell 59 = .ok (.iload 6, 2) := by decide +kernel
theorem dX12_endCell_61 : decode cX12_endCell 61 = .ok (.iload 7, 2) := by decide +kernel
theorem dX12_endCell_63 : decode cX12_endCell 63 = .ok (.iadd, 1) := by decide +kernel
theorem dX12_endCell_64 : decode cX12_endCell 64 = .ok (.aload_n 0, 1) := by decide +kernel
theorem dX12_endCell_65 : decode cX12_endCell 65 = .ok (.getfield 68, 3) := by decide +kernel
theorem dX12_endCell_68 : decode cX12_endCell 68 = .ok (.iload_n 2, 1) := by decide +kernel
theorem dX12_endCell_69 : decode cX12_endCell 69 = .ok (.iconst 5, 1) := by decide +kernel
theorem dX12_endCell_70 : decode cX12_endCell 70 = .ok (.iadd, 1) := by decide +kernel
theorem dX12_endCell_71 : decode cX12_endCell 71 = .ok (.iload 7, 2) := by decide +kernel
theorem dX12_endCell_73 : decode cX12_endCell 73 = .ok (.iadd, 1) := by decide +kernel
theorem dX12_endCell_74 : decode cX12_endCell 74 = .ok (.iaload, 1) := by decide +kernel
theorem dX12_endCell_75 : decode cX12_endCell 75 = .ok (.iastore, 1) := by decide +kernel
theorem dX12_endCell_76 : decode cX12_endCell 76 = .ok (.iinc 7 1, 3) := by decide +kernel
theorem dX12_endCell_79 : decode cX12_endCell 79 = .ok (.goto (-31), 3) := by decide +kernel
theorem dX12_endCell_82 : decode cX12_endCell 82 = .ok (.aload_n 0, 1) := by decide +kernel
theorem dX12_endCell_83 : decode cX12_endCell 83 = .ok (.getfield 254, 3) := by decide +kernel
theorem dX12_endCell_86 : decode cX12_endCell 86 = .ok (.iload 5, 2) := by decide +kernel
theorem dX12_endCell_88 : decode cX12_endCell 88 = .ok (.dup2, 1) := by decide +kernel
theorem dX12_endCell_89 : decode cX12_endCell 89 = .ok (.iaload, 1) := by decide +kernel
theorem dX12_endCell_90 : decode cX12_endCell 90 = .ok (.iconst 1, 1) := by decide +kernel
theorem dX12_endCell_91 : decode cX12_endCell 91 = .ok (.iadd, 1) := by decide +kernel
theorem dX12_endCell_92 : decode cX12_endCell 92 = .ok (.iastore, 1) := by decide +kernel
theorem dX12_endCell_93 : decode cX12_endCell 93 = .ok (.iload 4, 2) := by decide +kernel
theorem dX12_endCell_95 : decode cX12_endCell 95 = .ok (.iconst 2, 1) := by decide +kernel
theorem dX12_endCell_96 : decode cX12_endCell 96 = .ok (.irem, 1) := by decide +kernel
theorem dX12_endCell_97 : decode cX12_endCell 97 = .ok (.iconst 1, 1) := by decide +kernel
theorem dX12_endCell_98 : decode cX12_endCell 98 = .ok (.if_icmp .ne 103, 3) := by decide +kernel
theorem dX12_endCell_101 : decode cX12_endCell 101 = .ok (.bipush 48, 2) := by decide +kernel
theorem dX12_endCell_103 : decode cX12_endCell 103 = .ok (.aload_n 0, 1) := by decide +kernel
theorem dX12_endCell_104 : decode cX12_endCell 104 = .ok (.getfield 254, 3) := by decide +kernel
theorem dX12_endCell_107 : decode cX12_endCell 107 = .ok (.iload 5, 2) := by decide +kernel
theorem dX12_endCell_109 : decode cX12_endCell 109 = .ok (.iaload, 1) := by decide +kernel
theorem dX12_endCell_110 : decode cX12_endCell 110 = .ok (.imul, 1) := by decide +kernel
theorem dX12_endCell_111 : decode cX12_endCell 111 = .ok (.istore 7, 2) := by decide +kernel
theorem dX12_endCell_113 : decode cX12_endCell 113 = .ok (.aload_n 0, 1) := by decide +kernel
theorem dX12_endCell_114 : decode cX12_endCell 114 = .ok (.getfield 254, 3) := by decide +kernel
theorem dX12_endCell_117 : decode cX12_endCell 117 = .ok (.iload 5, 2) := by decide +kernel
theorem dX12_endCell_119 : decode cX12_endCell 119 = .ok (.iconst 0, 1) := by decide +kernel
theorem dX12_endCell_120 : decode cX12_endCell 120 = .ok (.iastore, 1) := by decide +kernel
theorem dX12_endCell_121 : decode cX12_endCell 121 = .ok (.iconst 0, 1) := by decide +kernel
theorem dX12_endCell_122 : decode cX12_endCell 122 = .ok (.istore 8, 2) := by decide +kernel
theorem dX12_endCell_124 : decode cX12_endCell 124 = .ok (.iload 8, 2) := by decide +kernel
theorem dX12_endCell_126 : decode cX12_endCell 126 = .ok (.iload 7, 2) := by decide +kernel
theorem dX12_endCell_128 : decode cX12_endCell 128 = .ok (.if_icmp .ge 30, 3) := by decide +kernel
theorem dX12_endCell_131 : decode cX12_endCell 131 = .ok (.aload_n 0, 1) := by decide +kernel
theorem dX12_endCell_132 : decode cX12_endCell 132 = .ok (.getfield 89, 3) := by decide +kernel
theorem dX12_endCell_135 : decode cX12_endCell 135 = .ok (.iload 8, 2) := by decide +kernel
theorem dX12_endCell_137 : decode cX12_endCell 137 = .ok (.aload_n 0, 1) := by decide +kernel
theorem dX12_endCell_138 : decode cX12_endCell 138 = .ok (.getfield 251, 3) := by decide +kernel
theorem dX12_endCell_141 : decode cX12_endCell 141 = .ok (.sipush 240, 3) := by decide +kernel
theorem dX12_endCell_144 : decode cX12_endCell 144 = .ok (.iload 5, 2) := by decide +kernel
theorem dX12_endCell_146 : decode cX12_endCell 146 = .ok (.imul, 1) := by decide +kernel
theorem dX12_endCell_147 : decode cX12_endCell 147 = .ok (.iload 8, 2) := by decide +kernel
theorem dX12_endCell_149 : decode cX12_endCell 149 = .ok (.iadd, 1) := by decide +kernel
theorem dX12_endCell_150 : decode cX12_endCell 150 = .ok (.iaload, 1) := by decide +kernel
theorem dX12_endCell_151 : decode cX12_endCell 151 = .ok (.iastore, 1) := by decide +kernel
theorem dX12_endCell_152 : decode cX12_endCell 152 = .ok (.iinc 8 1, 3) := by decide +kernel
theorem dX12_endCell_155 : decode cX12_endCell 155 = .ok (.goto (-31), 3) := by decide +kernel
theorem dX12_endCell_158 : decode cX12_endCell 158 = .ok (.aload_n 0, 1) := by decide +kernel
theorem dX12_endCell_159 : decode cX12_endCell 159 = .ok (.iload 7, 2) := by decide +kernel
theorem dX12_endCell_161 : decode cX12_endCell 161 = .ok (.invokevirtual 354, 3) := by decide +kernel
theorem dX12_endCell_164 : decode cX12_endCell 164 = .ok (.istore 8, 2) := by decide +kernel
theorem dX12_endCell_166 : decode cX12_endCell 166 = .ok (.iload 8, 2) := by decide +kernel
theorem dX12_endCell_168 : decode cX12_endCell 168 = .ok (.ifCond .ne 16, 3) := by decide +kernel
theorem dX12_endCell_171 : decode cX12_endCell 171 = .ok (.aload_n 0, 1) := by decide +kernel
theorem dX12_endCell_172 : decode cX12_endCell 172 = .ok (.getfield 80, 3) := by decide +kernel
theorem dX12_endCell_175 : decode cX12_endCell 175 = .ok (.iload_n 1, 1) := by decide +kernel
theorem dX12_endCell_176 : decode cX12_endCell 176 = .ok (.dup2, 1) := by decide +kernel
theorem dX12_endCell_177 : decode cX12_endCell 177 = .ok (.iaload, 1) := by decide +kernel
theorem dX12_endCell_178 : decode cX12_endCell 178 = .ok (.iconst 1, 1) := by decide +kernel
theorem dX12_endCell_179 : decode cX12_endCell 179 = .ok (.iadd, 1) := by decide +kernel
theorem dX12_endCell_180 : decode cX12_endCell 180 = .ok (.iastore, 1) := by decide +kernel
theorem dX12_endCell_181 : decode cX12_endCell 181 = .ok (.goto 17, 3) := by decide +kernel
theorem dX12_endCell_184 : decode cX12_endCell 184 = .ok (.aload_n 0, 1) := by decide +kernel
theorem dX12_endCell_185 : decode cX12_endCell 185 = .ok (.iload_n 1, 1) := by decide +kernel
theorem dX12_endCell_186 : decode cX12_endCell 186 = .ok (.iconst 2, 1) := by decide +kernel
theorem dX12_endCell_187 : decode cX12_endCell 187 = .ok (.idiv, 1) := by decide +kernel
theorem dX12_endCell_188 : decode cX12_endCell 188 = .ok (.iload 5, 2) := by decide +kernel
theorem dX12_endCell_190 : decode cX12_endCell 190 = .ok (.bipush 40, 2) := by decide +kernel
theorem dX12_endCell_192 : decode cX12_endCell 192 = .ok (.irem, 1) := by decide +kernel
theorem dX12_endCell_193 : decode cX12_endCell 193 = .ok (.iload 8, 2) := by decide +kernel
theorem dX12_endCell_195 : decode cX12_endCell 195 = .ok (.invokevirtual 375, 3) := by decide +kernel
theorem dX12_endCell_198 : decode cX12_endCell 198 = .ok (.goto 32, 3) := by decide +kernel
theorem dX12_endCell_201 : decode cX12_endCell 201 = .ok (.aload_n 0, 1) := by decide +kernel
theorem dX12_endCell_202 : decode cX12_endCell 202 = .ok (.getfield 254, 3) := by decide +kernel
theorem dX12_endCell_205 : decode cX12_endCell 205 = .ok (.iload 5, 2) := by decide +kernel
theorem dX12_endCell_207 : decode cX12_endCell 207 = .ok (.iaload, 1) := by decide +kernel
theorem dX12_endCell_208 : decode cX12_endCell 208 = .ok (.iconst 5, 1) := by decide +kernel
theorem dX12_endCell_209 : decode cX12_endCell 209 = .ok (.if_icmp .ne 21, 3) := by decide +kernel
theorem dX12_endCell_212 : decode cX12_endCell 212 = .ok (.aload_n 0, 1) := by decide +kernel
theorem dX12_endCell_213 : decode cX12_endCell 213 = .ok (.getfield 254, 3) := by decide +kernel
theorem dX12_endCell_216 : decode cX12_endCell 216 = .ok (.iload 5, 2) := by decide +kernel
theorem dX12_endCell_218 : decode cX12_endCell 218 = .ok (.iconst 0, 1) := by decide +kernel
theorem dX12_endCell_219 : decode cX12_endCell 219 = .ok (.iastore, 1) := by decide +kernel
theorem dX12_endCell_220 : decode cX12_endCell 220 = .ok (.aload_n 0, 1) := by decide +kernel
theorem dX12_endCell_221 : decode cX12_endCell 221 = .ok (.getfield 80, 3) := by decide +kernel
theorem dX12_endCell_224 : decode cX12_endCell 224 = .ok (.iload_n 1, 1) := by decide +kernel
theorem dX12_endCell_225 : decode cX12_endCell 225 = .ok (.dup2, 1) := by decide +kernel
theorem dX12_endCell_226 : decode cX12_endCell 226 = .ok (.iaload, 1) := by decide +kernel
theorem dX12_endCell_227 : decode cX12_endCell 227 = .ok (.iconst 1, 1) := by decide +kernel
theorem dX12_endCell_228 : decode cX12_endCell 228 = .ok (.iadd, 1) := by decide +kernel
theorem dX12_endCell_229 : decode cX12_endCell 229 = .ok (.iastore, 1) := by decide +kernel
theorem dX12_endCell_230 : decode cX12_endCell 230 = .ok (.return_, 1) := by decide +kernel
theorem dX12_receive_0 : decode cX12_receive 0 = .ok (.bipush 20, 2) := by decide +kernel
theorem dX12_receive_2 : decode cX12_receive 2 = .ok (.iload_n 1, 1) := by decide +kernel
theorem dX12_receive_3 : decode cX12_receive 3 = .ok (.imul, 1) := by decide +kernel
theorem dX12_receive_4 : decode cX12_receive 4 = .ok (.aload_n 0, 1) := by decide +kernel
theorem dX12_receive_5 : decode cX12_receive 5 = .ok (.getfield 104, 3) := by decide +kernel
theorem dX12_receive_8 : decode cX12_receive 8 = .ok (.iload_n 1, 1) := by decide +kernel
theorem dX12_receive_9 : decode cX12_receive 9 = .ok (.iaload, 1) := by decide +kernel
theorem dX12_receive_10 : decode cX12_receive 10 = .ok (.bipush 20, 2) := by decide +kernel
theorem dX12_receive_12 : decode cX12_receive 12 = .ok (.irem, 1) := by decide +kernel
theorem dX12_receive_13 : decode cX12_receive 13 = .ok (.iadd, 1) := by decide +kernel
theorem dX12_receive_14 : decode cX12_receive 14 = .ok (.istore 4, 2) := by decide +kernel
theorem dX12_receive_16 : decode cX12_receive 16 = .ok (.aload_n 0, 1) := by decide +kernel
theorem dX12_receive_17 : decode cX12_receive 17 = .ok (.getfield 92, 3) := by decide +kernel
theorem dX12_receive_20 : decode cX12_receive 20 = .ok (.iload 4, 2) := by decide +kernel
theorem dX12_receive_22 : decode cX12_receive 22 = .ok (.iload_n 2, 1) := by decide +kernel
theorem dX12_receive_23 : decode cX12_receive 23 = .ok (.iastore, 1) := by decide +kernel
theorem dX12_receive_24 : decode cX12_receive 24 = .ok (.aload_n 0, 1) := by decide +kernel
theorem dX12_receive_25 : decode cX12_receive 25 = .ok (.getfield 95, 3) := by decide +kernel
theorem dX12_receive_28 : decode cX12_receive 28 = .ok (.iload 4, 2) := by decide +kernel
theorem dX12_receive_30 : decode cX12_receive 30 = .ok (.iload_n 3, 1) := by decide +kernel
theorem dX12_receive_31 : decode cX12_receive 31 = .ok (.iastore, 1) := by decide +kernel
theorem dX12_receive_32 : decode cX12_receive 32 = .ok (.aload_n 0, 1) := by decide +kernel
theorem dX12_receive_33 : decode cX12_receive 33 = .ok (.getfield 98, 3) := by decide +kernel
theorem dX12_receive_36 : decode cX12_receive 36 = .ok (.iload 4, 2) := by decide +kernel
theorem dX12_receive_38 : decode cX12_receive 38 = .ok (.aload_n 0, 1) := by decide +kernel
theorem dX12_receive_39 : decode cX12_receive 39 = .ok (.getfield 378, 3) := by decide +kernel
theorem dX12_receive_42 : decode cX12_receive 42 = .ok (.iastore, 1) := by decide +kernel
theorem dX12_receive_43 : decode cX12_receive 43 = .ok (.iconst 0, 1) := by decide +kernel
theorem dX12_receive_44 : decode cX12_receive 44 = .ok (.istore 5, 2) := by decide +kernel
theorem dX12_receive_46 : decode cX12_receive 46 = .ok (.iload 5, 2) := by decide +kernel
theorem dX12_receive_48 : decode cX12_receive 48 = .ok (.iload_n 3, 1) := by decide +kernel
theorem dX12_receive_49 : decode cX12_receive 49 = .ok (.if_icmp .ge 30, 3) := by decide +kernel
theorem dX12_receive_52 : decode cX12_receive 52 = .ok (.aload_n 0, 1) := by decide +kernel
theorem dX12_receive_53 : decode cX12_receive 53 = .ok (.getfield 101, 3) := by decide +kernel
theorem dX12_receive_56 : decode cX12_receive 56 = .ok (.sipush 200, 3) := by decide +kernel
theorem dX12_receive_59 : decode cX12_receive 59 = .ok (.iload 4, 2) := by decide +kernel
theorem dX12_receive_61 : decode cX12_receive 61 = .ok (.imul, 1) := by decide +kernel
theorem dX12_receive_62 : decode cX12_receive 62 = .ok (.iload 5, 2) := by decide +kernel
theorem dX12_receive_64 : decode cX12_receive 64 = .ok (.iadd, 1) := by decide +kernel
theorem dX12_receive_65 : decode cX12_receive 65 = .ok (.aload_n 0, 1) := by decide +kernel
theorem dX12_receive_66 : decode cX12_receive 66 = .ok (.getfield 89, 3) := by decide +kernel
theorem dX12_receive_69 : decode cX12_receive 69 = .ok (.iload 5, 2) := by decide +kernel
theorem dX12_receive_71 : decode cX12_receive 71 = .ok (.iaload, 1) := by decide +kernel
theorem dX12_receive_72 : decode cX12_receive 72 = .ok (.iastore, 1) := by decide +kernel
theorem dX12_receive_73 : decode cX12_receive 73 = .ok (.iinc 5 1, 3) := by decide +kernel
theorem dX12_receive_76 : decode cX12_receive 76 = .ok (.goto (-30), 3) := by decide +kernel
theorem dX12_receive_79 : decode cX12_receive 79 = .ok (.aload_n 0, 1) := by decide +kernel
theorem dX12_receive_80 : decode cX12_receive 80 = .ok (.getfield 104, 3) := by decide +kernel
theorem dX12_receive_83 : decode cX12_receive 83 = .ok (.iload_n 1, 1) := by decide +kernel
theorem dX12_receive_84 : decode cX12_receive 84 = .ok (.dup2, 1) := by decide +kernel
theorem dX12_receive_85 : decode cX12_receive 85 = .ok (.iaload, 1) := by decide +kernel
theorem dX12_receive_86 : decode cX12_receive 86 = .ok (.iconst 1, 1) := by decide +kernel
theorem dX12_receive_87 : decode cX12_receive 87 = .ok (.iadd, 1) := by decide +kernel
theorem dX12_receive_88 : decode cX12_receive 88 = .ok (.iastore, 1) := by decide +kernel
theorem dX12_receive_89 : decode cX12_receive 89 = .ok (.return_, 1) := by decide +kernel
theorem dX12_isReceived_0 : decode cX12_isReceived 0 = .ok (.aload_n 0, 1) := by decide +kernel
theorem dX12_isReceived_1 : decode cX12_isReceived 1 = .ok (.iload_n 1, 1) := by decide +kernel
theorem dX12_isReceived_2 : decode cX12_isReceived 2 = .ok (.invokevirtual 381, 3) := by decide +kernel
theorem dX12_isReceived_5 : decode cX12_isReceived 5 = .ok (.ifCond .eq 39, 3) := by decide +kernel
theorem dX12_isReceived_8 : decode cX12_isReceived 8 = .ok (.iload_n 2, 1) := by decide +kernel
theorem dX12_isReceived_9 : decode cX12_isReceived 9 = .ok (.ifCond .lt 35, 3) := by decide +kernel
theorem dX12_isReceived_12 : decode cX12_isReceived 12 = .ok (.iload_n 2, 1) := by decide +kernel
theorem dX12_isReceived_13 : decode cX12_isReceived 13 = .ok (.bipush 20, 2) := by decide +kernel
theorem dX12_isReceived_15 : decode cX12_isReceived 15 = .ok (.if_icmp .ge 29, 3) := by decide +kernel
theorem dX12_isReceived_18 : decode cX12_isReceived 18 = .ok (.iload_n 2, 1) := by decide +kernel
theorem dX12_isReceived_19 : decode cX12_isReceived 19 = .ok (.aload_n 0, 1) := by decide +kernel
theorem dX12_isReceived_20 : decode cX12_isReceived 20 = .ok (.getfield 104, 3) := by decide +kernel
theorem dX12_isReceived_23 : decode cX12_isReceived 23 = .ok (.aload_n 0, 1) := by decide +kernel
theorem dX12_isReceived_24 : decode cX12_isReceived 24 = .ok (.iload_n 1, 1) := by decide +kernel
theorem dX12_isReceived_25 : decode cX12_isReceived 25 = .ok (.invokevirtual 381, 3) := by decide +kernel
theorem dX12_isReceived_28 : decode cX12_isReceived 28 = .ok (.ifCond .eq 7, 3) := by decide +kernel
theorem dX12_isReceived_31 : decode cX12_isReceived 31 = .ok (.iload_n 1, 1) := by decide +kernel
theorem dX12_isReceived_32 : decode cX12_isReceived 32 = .ok (.goto 4, 3) := by decide +kernel
theorem dX12_isReceived_35 : decode cX12_isReceived 35 = .ok (.iconst 0, 1) := by decide +kernel
theorem dX12_isReceived_36 : decode cX12_isReceived 36 = .ok (.iaload, 1) := by decide +kernel
theorem dX12_isReceived_37 : decode cX12_isReceived 37 = .ok (.if_icmp .ge 7, 3) := by decide +kernel
theorem dX12_isReceived_40 : decode cX12_isReceived 40 = .ok (.iconst 1, 1) := by decide +kernel
theorem dX12_isReceived_41 : decode cX12_isReceived 41 = .ok (.goto 4, 3) := by decide +kernel
theorem dX12_isReceived_44 : decode cX12_isReceived 44 = .ok (.iconst 0, 1) := by decide +kernel
theorem dX12_isReceived_45 : decode cX12_isReceived 45 = .ok (.ireturn, 1) := by decide +kernel
theorem dX12_received_0 : decode cX12_received 0 = .ok (.aload_n 0, 1) := by decide +kernel
theorem dX12_received_1 : decode cX12_received 1 = .ok (.iload_n 1, 1) := by decide +kernel
theorem dX12_received_2 : decode cX12_received 2 = .ok (.invokevirtual 381, 3) := by decide +kernel
theorem dX12_received_5 : decode cX12_received 5 = .ok (.ifCond .eq 19, 3) := by decide +kernel
theorem dX12_received_8 : decode cX12_received 8 = .ok (.iload_n 2, 1) := by decide +kernel
theorem dX12_received_9 : decode cX12_received 9 = .ok (.iconst (-1), 1) := by decide +kernel
theorem dX12_received_10 : decode cX12_received 10 = .ok (.if_icmp .ne 14, 3) := by decide +kernel
theorem dX12_received_13 : decode cX12_received 13 = .ok (.iload_n 3, 1) := by decide +kernel
theorem dX12_received_14 : decode cX12_received 14 = .ok (.ifCond .ne 10, 3) := by decide +kernel
theorem dX12_received_17 : decode cX12_received 17 = .ok (.aload_n 0, 1) := by decide +kernel
theorem dX12_received_18 : decode cX12_received 18 = .ok (.getfield 104, 3) := by decide +kernel
theorem dX12_received_21 : decode cX12_received 21 = .ok (.iload_n 1, 1) := by decide +kernel
theorem dX12_received_22 : decode cX12_received 22 = .ok (.iaload, 1) := by decide +kernel
theorem dX12_received_23 : decode cX12_received 23 = .ok (.ireturn, 1) := by decide +kernel
theorem dX12_received_24 : decode cX12_received 24 = .ok (.aload_n 0, 1) := by decide +kernel
theorem dX12_received_25 : decode cX12_received 25 = .ok (.iload_n 1, 1) := by decide +kernel
theorem dX12_received_26 : decode cX12_received 26 = .ok (.iload_n 2, 1) := by decide +kernel
theorem dX12_received_27 : decode cX12_received 27 = .ok (.invokevirtual 384, 3) := by decide +kernel
theorem dX12_received_30 : decode cX12_received 30 = .ok (.ifCond .eq 12, 3) := by decide +kernel
theorem dX12_received_33 : decode cX12_received 33 = .ok (.iload_n 3, 1) := by decide +kernel
theorem dX12_received_34 : decode cX12_received 34 = .ok (.ifCond .lt 8, 3) := by decide +kernel
theorem dX12_received_37 : decode cX12_received 37 = .ok (.iload_n 3, 1) := by decide +kernel
theorem dX12_received_38 : decode cX12_received 38 = .ok (.iconst 2, 1) := by decide +kernel
theorem dX12_received_39 : decode cX12_received 39 = .ok (.if_icmp .le 5, 3) := by decide +kernel
theorem dX12_received_42 : decode cX12_received 42 = .ok (.iconst (-1), 1) := by decide +kernel
theorem dX12_received_43 : decode cX12_received 43 = .ok (.ireturn, 1) := by decide +kernel
theorem dX12_received_44 : decode cX12_received 44 = .ok (.bipush 20, 2) := by decide +kernel
theorem dX12_received_46 : decode cX12_received 46 = .ok (.iload_n 1, 1) := by decide +kernel
theorem dX12_received_47 : decode cX12_received 47 = .ok (.imul, 1) := by decide +kernel
theorem dX12_received_48 : decode cX12_received 48 = .ok (.aload_n 0, 1) := by decide +kernel
theorem dX12_received_49 : decode cX12_received 49 = .ok (.getfield 104, 3) := by decide +kernel
theorem dX12_received_52 : decode cX12_received 52 = .ok (.iload_n 1, 1) := by decide +kernel
theorem dX12_received_53 : decode cX12_received 53 = .ok (.iaload, 1) := by decide +kernel
theorem dX12_received_54 : decode cX12_received 54 = .ok (.iconst 1, 1) := by decide +kernel
theorem dX12_received_55 : decode cX12_received 55 = .ok (.isub, 1) := by decide +kernel
theorem dX12_received_56 : decode cX12_received 56 = .ok (.iload_n 2, 1) := by decide +kernel
theorem dX12_received_57 : decode cX12_received 57 = .ok (.isub, 1) := by decide +kernel
theorem dX12_received_58 : decode cX12_received 58 = .ok (.bipush 20, 2) := by decide +kernel
theorem dX12_received_60 : decode cX12_received 60 = .ok (.irem, 1) := by decide +kernel
theorem dX12_received_61 : decode cX12_received 61 = .ok (.iadd, 1) := by decide +kernel
theorem dX12_received_62 : decode cX12_received 62 = .ok (.istore 4, 2) := by decide +kernel
theorem dX12_received_64 : decode cX12_received 64 = .ok (.iload_n 3, 1) := by decide +kernel
theorem dX12_received_65 : decode cX12_received 65 = .ok (.ifCond .ne 13, 3) := by decide +kernel
theorem dX12_received_68 : decode cX12_received 68 = .ok (.aload_n 0, 1) := by decide +kernel
theorem dX12_received_69 : decode cX12_received 69 = .ok (.getfield 92, 3) := by decide +kernel
theorem dX12_received_72 : decode cX12_received 72 = .ok (.iload 4, 2) := by decide +kernel
theorem dX12_received_74 : decode cX12_received 74 = .ok (.iaload, 1) := by decide +kernel
theorem dX12_received_75 : decode cX12_received 75 = .ok (.goto 25, 3) := by decide +kernel
theorem dX12_received_78 : decode cX12_received 78 = .ok (.iload_n 3, 1) := by decide +kernel
theorem dX12_received_79 : decode cX12_received 79 = .ok (.iconst 1, 1) := by decide +kernel
theorem dX12_received_80 : decode cX12_received 80 = .ok (.if_icmp .ne 13, 3) := by decide +kernel
theorem dX12_received_83 : decode cX12_received 83 = .ok (.aload_n 0, 1) := by decide +kernel
theorem dX12_received_84 : decode cX12_received 84 = .ok (.getfield 95, 3) := by decide +kernel
theorem dX12_received_87 : decode cX12_received 87 = .ok (.iload 4, 2) := by decide +kernel
theorem dX12_received_89 : decode cX12_received 89 = .ok (.iaload, 1) := by decide +kernel
theorem dX12_received_90 : decode cX12_received 90 = .ok (.goto 10, 3) := by decide +kernel
theorem dX12_received_93 : decode cX12_received 93 = .ok (.aload_n 0, 1) := by decide +kernel
theorem dX12_received_94 : decode cX12_received 94 = .ok (.getfield 98, 3) := by decide +kernel
theorem dX12_received_97 : decode cX12_received 97 = .ok (.iload 4, 2) := by decide +kernel
theorem dX12_received_99 : decode cX12_received 99 = .ok (.iaload, 1) := by decide +kernel
theorem dX12_received_100 : decode cX12_received 100 = .ok (.ireturn, 1) := by decide +kernel
theorem dX12_byteOf_0 : decode cX12_byteOf 0 = .ok (.aload_n 0, 1) := by decide +kernel
theorem dX12_byteOf_1 : decode cX12_byteOf 1 = .ok (.iload_n 1, 1) := by decide +kernel
theorem dX12_byteOf_2 : decode cX12_byteOf 2 = .ok (.iload_n 2, 1) := by decide +kernel
theorem dX12_byteOf_3 : decode cX12_byteOf 3 = .ok (.invokevirtual 384, 3) := by decide +kernel
theorem dX12_byteOf_6 : decode cX12_byteOf 6 = .ok (.ifCond .ne 5, 3) := by decide +kernel
theorem dX12_byteOf_9 : decode cX12_byteOf 9 = .ok (.iconst (-1), 1) := by decide +kernel
theorem dX12_byteOf_10 : decode cX12_byteOf 10 = .ok (.ireturn, 1) := by decide +kernel
theorem dX12_byteOf_11 : decode cX12_byteOf 11 = .ok (.bipush 20, 2) := by decide +kernel
theorem dX12_byteOf_13 : decode cX12_byteOf 13 = .ok (.iload_n 1, 1) := by decide +kernel
theorem dX12_byteOf_14 : decode cX12_byteOf 14 = .ok (.imul, 1) := by decide +kernel
theorem dX12_byteOf_15 : decode cX12_byteOf 15 = .ok (.aload_n 0, 1) := by decide +kernel
theorem dX12_byteOf_16 : decode cX12_byteOf 16 = .ok (.getfield 104, 3) := by decide +kernel
theorem dX12_byteOf_19 : decode cX12_byteOf 19 = .ok (.iload_n 1, 1) := by decide +kernel
theorem dX12_byteOf_20 : decode cX12_byteOf 20 = .ok (.iaload, 1) := by decide +kernel
theorem dX12_byteOf_21 : decode cX12_byteOf 21 = .ok (.iconst 1, 1) := by decide +kernel
theorem dX12_byteOf_22 : decode cX12_byteOf 22 = .ok (.isub, 1) := by decide +kernel
theorem dX12_byteOf_23 : decode cX12_byteOf 23 = .ok (.iload_n 2, 1) := by decide +kernel
theorem dX12_byteOf_24 : decode cX12_byteOf 24 = .ok (.isub, 1) := by decide +kernel
theorem dX12_byteOf_25 : decode cX12_byteOf 25 = .ok (.bipush 20, 2) := by decide +kernel
theorem dX12_byteOf_27 : decode cX12_byteOf 27 = .ok (.irem, 1) := by decide +kernel
theorem dX12_byteOf_28 : decode cX12_byteOf 28 = .ok (.iadd, 1) := by decide +kernel
theorem dX12_byteOf_29 : decode cX12_byteOf 29 = .ok (.istore 4, 2) := by decide +kernel
theorem dX12_byteOf_31 : decode cX12_byteOf 31 = .ok (.iload_n 3, 1) := by decide +kernel
theorem dX12_byteOf_32 : decode cX12_byteOf 32 = .ok (.ifCond .lt 14, 3) := by decide +kernel
theorem dX12_byteOf_35 : decode cX12_byteOf 35 = .ok (.iload_n 3, 1) := by decide +kernel
theorem dX12_byteOf_36 : decode cX12_byteOf 36 = .ok (.aload_n 0, 1) := by decide +kernel
theorem dX12_byteOf_37 : decode cX12_byteOf 37 = .ok (.getfield 95, 3) := by decide +kernel
theorem dX12_byteOf_40 : decode cX12_byteOf 40 = .ok (.iload 4, 2) := by decide +kernel
theorem dX12_byteOf_42 : decode cX12_byteOf 42 = .ok (.iaload, 1) := by decide +kernel
theorem dX12_byteOf_43 : decode cX12_byteOf 43 = .ok (.if_icmp .lt 7, 3) := by decide +kernel
theorem dX12_byteOf_46 : decode cX12_byteOf 46 = .ok (.iconst (-1), 1) := by decide +kernel
theorem dX12_byteOf_47 : decode cX12_byteOf 47 = .ok (.goto 16, 3) := by decide +kernel
theorem dX12_byteOf_50 : decode cX12_byteOf 50 = .ok (.aload_n 0, 1) := by decide +kernel
theorem dX12_byteOf_51 : decode cX12_byteOf 51 = .ok (.getfield 101, 3) := by decide +kernel
theorem dX12_byteOf_54 : decode cX12_byteOf 54 = .ok (.sipush 200, 3) := by decide +kernel
theorem dX12_byteOf_57 : decode cX12_byteOf 57 = .ok (.iload 4, 2) := by decide +kernel
theorem dX12_byteOf_59 : decode cX12_byteOf 59 = .ok (.imul, 1) := by decide +kernel
theorem dX12_byteOf_60 : decode cX12_byteOf 60 = .ok (.iload_n 3, 1) := by decide +kernel
theorem dX12_byteOf_61 : decode cX12_byteOf 61 = .ok (.iadd, 1) := by decide +kernel
theorem dX12_byteOf_62 : decode cX12_byteOf 62 = .ok (.iaload, 1) := by decide +kernel
theorem dX12_byteOf_63 : decode cX12_byteOf 63 = .ok (.ireturn, 1) := by decide +kernel
theorem dX12_anew_0 : decode cX12_anew 0 = .ok (.aload_n 0, 1) := by decide +kernel
theorem dX12_anew_1 : decode cX12_anew 1 = .ok (.getfield 110, 3) := by decide +kernel
theorem dX12_anew_4 : decode cX12_anew 4 = .ok (.iload_n 1, 1) := by decide +kernel
theorem dX12_anew_5 : decode cX12_anew 5 = .ok (.iconst 0, 1) := by decide +kernel
theorem dX12_anew_6 : decode cX12_anew 6 = .ok (.iastore, 1) := by decide +kernel
theorem dX12_anew_7 : decode cX12_anew 7 = .ok (.aload_n 0, 1) := by decide +kernel
theorem dX12_anew_8 : decode cX12_anew 8 = .ok (.getfield 113, 3) := by decide +kernel
theorem dX12_anew_11 : decode cX12_anew 11 = .ok (.iload_n 1, 1) := by decide +kernel
theorem dX12_anew_12 : decode cX12_anew 12 = .ok (.iconst 0, 1) := by decide +kernel
theorem dX12_anew_13 : decode cX12_anew 13 = .ok (.iastore, 1) := by decide +kernel
theorem dX12_anew_14 : decode cX12_anew 14 = .ok (.aload_n 0, 1) := by decide +kernel
theorem dX12_anew_15 : decode cX12_anew 15 = .ok (.getfield 119, 3) := by decide +kernel
theorem dX12_anew_18 : decode cX12_anew 18 = .ok (.iload_n 1, 1) := by decide +kernel
theorem dX12_anew_19 : decode cX12_anew 19 = .ok (.iconst 0, 1) := by decide +kernel
theorem dX12_anew_20 : decode cX12_anew 20 = .ok (.iastore, 1) := by decide +kernel
theorem dX12_anew_21 : decode cX12_anew 21 = .ok (.aload_n 0, 1) := by decide +kernel
theorem dX12_anew_22 : decode cX12_anew 22 = .ok (.getfield 122, 3) := by decide +kernel
theorem dX12_anew_25 : decode cX12_anew 25 = .ok (.iload_n 1, 1) := by decide +kernel
theorem dX12_anew_26 : decode cX12_anew 26 = .ok (.iconst 0, 1) := by decide +kernel
theorem dX12_anew_27 : decode cX12_anew 27 = .ok (.iastore, 1) := by decide +kernel
theorem dX12_anew_28 : decode cX12_anew 28 = .ok (.aload_n 0, 1) := by decide +kernel
theorem dX12_anew_29 : decode cX12_anew 29 = .ok (.getfield 125, 3) := by decide +kernel
theorem dX12_anew_32 : decode cX12_anew 32 = .ok (.iload_n 1, 1) := by decide +kernel
theorem dX12_anew_33 : decode cX12_anew 33 = .ok (.iconst 0, 1) := by decide +kernel
theorem dX12_anew_34 : decode cX12_anew 34 = .ok (.iastore, 1) := by decide +kernel
theorem dX12_anew_35 : decode cX12_anew 35 = .ok (.aload_n 0, 1) := by decide +kernel
theorem dX12_anew_36 : decode cX12_anew 36 = .ok (.getfield 128, 3) := by decide +kernel
theorem dX12_anew_39 : decode cX12_anew 39 = .ok (.iload_n 1, 1) := by decide +kernel
theorem dX12_anew_40 : decode cX12_anew 40 = .ok (.iconst 0, 1) := by decide +kernel
theorem dX12_anew_41 : decode cX12_anew 41 = .ok (.iastore, 1) := by decide +kernel
theorem dX12_anew_42 : decode cX12_anew 42 = .ok (.aload_n 0, 1) := by decide +kernel
theorem dX12_anew_43 : decode cX12_anew 43 = .ok (.getfield 116, 3) := by decide +kernel
theorem dX12_anew_46 : decode cX12_anew 46 = .ok (.iload_n 1, 1) := by decide +kernel
theorem dX12_anew_47 : decode cX12_anew 47 = .ok (.iload_n 2, 1) := by decide +kernel
theorem dX12_anew_48 : decode cX12_anew 48 = .ok (.iastore, 1) := by decide +kernel
theorem dX12_anew_49 : decode cX12_anew 49 = .ok (.aload_n 0, 1) := by decide +kernel
theorem dX12_anew_50 : decode cX12_anew 50 = .ok (.getfield 159, 3) := by decide +kernel
theorem dX12_anew_53 : decode cX12_anew 53 = .ok (.iload_n 1, 1) := by decide +kernel
theorem dX12_anew_54 : decode cX12_anew 54 = .ok (.iconst 0, 1) := by decide +kernel
theorem dX12_anew_55 : decode cX12_anew 55 = .ok (.iastore, 1) := by decide +kernel
theorem dX12_anew_56 : decode cX12_anew 56 = .ok (.iconst 0, 1) := by decide +kernel
theorem dX12_anew_57 : decode cX12_anew 57 = .ok (.istore_n 3, 1) := by decide +kernel
theorem dX12_anew_58 : decode cX12_anew 58 = .ok (.iload_n 3, 1) := by decide +kernel
theorem dX12_anew_59 : decode cX12_anew 59 = .ok (.bipush 8, 2) := by decide +kernel
theorem dX12_anew_61 : decode cX12_anew 61 = .ok (.if_icmp .ge 33, 3) := by decide +kernel
theorem dX12_anew_64 : decode cX12_anew 64 = .ok (.aload_n 0, 1) := by decide +kernel
theorem dX12_anew_65 : decode cX12_anew 65 = .ok (.getfield 189, 3) := by decide +kernel
theorem dX12_anew_68 : decode cX12_anew 68 = .ok (.bipush 8, 2) := by decide +kernel
theorem dX12_anew_70 : decode cX12_anew 70 = .ok (.iload_n 1, 1) := by decide +kernel
theorem dX12_anew_71 : decode cX12_anew 71 = .ok (.imul, 1) := by decide +kernel
theorem dX12_anew_72 : decode cX12_anew 72 = .ok (.iload_n 3, 1) := by decide +kernel
theorem dX12_anew_73 : decode cX12_anew 73 = .ok (.iadd, 1) := by decide +kernel
theorem dX12_anew_74 : decode cX12_anew 74 = .ok (.iconst 0, 1) := by decide +kernel
theorem dX12_anew_75 : decode cX12_anew 75 = .ok (.bastore, 1) := by decide +kernel
theorem dX12_anew_76 : decode cX12_anew 76 = .ok (.aload_n 0, 1) := by decide +kernel
theorem dX12_anew_77 : decode cX12_anew 77 = .ok (.getfield 180, 3) := by decide +kernel
theorem dX12_anew_80 : decode cX12_anew 80 = .ok (.bipush 8, 2) := by decide +kernel
theorem dX12_anew_82 : decode cX12_anew 82 = .ok (.iload_n 1, 1) := by decide +kernel
theorem dX12_anew_83 : decode cX12_anew 83 = .ok (.imul, 1) := by decide +kernel
theorem dX12_anew_84 : decode cX12_anew 84 = .ok (.iload_n 3, 1) := by decide +kernel
theorem dX12_anew_85 : decode cX12_anew 85 = .ok (.iadd, 1) := by decide +kernel
theorem dX12_anew_86 : decode cX12_anew 86 = .ok (.iconst 0, 1) := by decide +kernel
theorem dX12_anew_87 : decode cX12_anew 87 = .ok (.bastore, 1) := by decide +kernel
theorem dX12_anew_88 : decode cX12_anew 88 = .ok (.iinc 3 1, 3) := by decide +kernel
theorem dX12_anew_91 : decode cX12_anew 91 = .ok (.goto (-33), 3) := by decide +kernel
theorem dX12_anew_94 : decode cX12_anew 94 = .ok (.return_, 1) := by decide +kernel
theorem dX12_ready_0 : decode cX12_ready 0 = .ok (.aload_n 0, 1) := by decide +kernel
theorem dX12_ready_1 : decode cX12_ready 1 = .ok (.iload_n 1, 1) := by decide +kernel
theorem dX12_ready_2 : decode cX12_ready 2 = .ok (.iload_n 2, 1) := by decide +kernel
theorem dX12_ready_3 : decode cX12_ready 3 = .ok (.invokevirtual 388, 3) := by decide +kernel
theorem dX12_ready_6 : decode cX12_ready 6 = .ok (.aload_n 0, 1) := by decide +kernel
theorem dX12_ready_7 : decode cX12_ready 7 = .ok (.getfield 107, 3) := by decide +kernel
theorem dX12_ready_10 : decode cX12_ready 10 = .ok (.iload_n 1, 1) := by decide +kernel
theorem dX12_ready_11 : decode cX12_ready 11 = .ok (.iconst 2, 1) := by decide +kernel
theorem dX12_ready_12 : decode cX12_ready 12 = .ok (.iastore, 1) := by decide +kernel
theorem dX12_ready_13 : decode cX12_ready 13 = .ok (.aload_n 0, 1) := by decide +kernel
theorem dX12_ready_14 : decode cX12_ready 14 = .ok (.getfield 153, 3) := by decide +kernel
theorem dX12_ready_17 : decode cX12_ready 17 = .ok (.iload_n 1, 1) := by decide +kernel
theorem dX12_ready_18 : decode cX12_ready 18 = .ok (.aload_n 0, 1) := by decide +kernel
theorem dX12_ready_19 : decode cX12_ready 19 = .ok (.getfield 378, 3) := by decide +kernel
theorem dX12_ready_22 : decode cX12_ready 22 = .ok (.iastore, 1) := by decide +kernel
theorem dX12_ready_23 : decode cX12_ready 23 = .ok (.aload_n 0, 1) := by decide +kernel
theorem dX12_ready_24 : decode cX12_ready 24 = .ok (.getfield 156, 3) := by decide +kernel
theorem dX12_ready_27 : decode cX12_ready 27 = .ok (.iload_n 1, 1) := by decide +kernel
theorem dX12_ready_28 : decode cX12_ready 28 = .ok (.aload_n 0, 1) := by decide +kernel
theorem dX12_ready_29 : decode cX12_ready 29 = .ok (.getfield 378, 3) := by decide +kernel
theorem dX12_ready_32 : decode cX12_ready 32 = .ok (.iastore, 1) := by decide +kernel
theorem dX12_ready_33 : decode cX12_ready 33 = .ok (.return_, 1) := by decide +kernel
theorem dX12_cut_0 : decode cX12_cut 0 = .ok (.aload_n 0, 1) := by decide +kernel
theorem dX12_cut_1 : decode cX12_cut 1 = .ok (.getfield 107, 3) := by decide +kernel
theorem dX12_cut_4 : decode cX12_cut 4 = .ok (.iload_n 1, 1) := by decide +kernel
theorem dX12_cut_5 : decode cX12_cut 5 = .ok (.iconst 0, 1) := by decide +kernel
theorem dX12_cut_6 : decode cX12_cut 6 = .ok (.iastore, 1) := by decide +kernel
theorem dX12_cut_7 : decode cX12_cut 7 = .ok (.aload_n 0, 1) := by decide +kernel
theorem dX12_cut_8 : decode cX12_cut 8 = .ok (.getfield 168, 3) := by decide +kernel
theorem dX12_cut_11 : decode cX12_cut 11 = .ok (.iload_n 1, 1) := by decide +kernel
theorem dX12_cut_12 : decode cX12_cut 12 = .ok (.iconst 0, 1) := by decide +kernel
theorem dX12_cut_13 : decode cX12_cut 13 = .ok (.iastore, 1) := by decide +kernel
theorem dX12_cut_14 : decode cX12_cut 14 = .ok (.aload_n 0, 1) := by decide +kernel
theorem dX12_cut_15 : decode cX12_cut 15 = .ok (.iload_n 1, 1) := by decide +kernel
theorem dX12_cut_16 : decode cX12_cut 16 = .ok (.iconst 0, 1) := by decide +kernel
theorem dX12_cut_17 : decode cX12_cut 17 = .ok (.invokevirtual 388, 3) := by decide +kernel
theorem dX12_cut_20 : decode cX12_cut 20 = .ok (.aload_n 0, 1) := by decide +kernel
theorem dX12_cut_21 : decode cX12_cut 21 = .ok (.getfield 131, 3) := by decide +kernel
theorem dX12_cut_24 : decode cX12_cut 24 = .ok (.iload_n 1, 1) := by decide +kernel
theorem dX12_cut_25 : decode cX12_cut 25 = .ok (.dup2, 1) := by decide +kernel
theorem dX12_cut_26 : decode cX12_cut 26 = .ok (.iaload, 1) := by decide +kernel
theorem dX12_cut_27 : decode cX12_cut 27 = .ok (.iconst 1, 1) := by decide +kernel
theorem dX12_cut_28 : decode cX12_cut 28 = .ok (.iadd, 1) := by decide +kernel
theorem dX12_cut_29 : decode cX12_cut 29 = .ok (.iastore, 1) := by decide +kernel
theorem dX12_cut_30 : decode cX12_cut 30 = .ok (.aload_n 0, 1) := by decide +kernel
theorem dX12_cut_31 : decode cX12_cut 31 = .ok (.iload_n 1, 1) := by decide +kernel
theorem dX12_cut_32 : decode cX12_cut 32 = .ok (.invokevirtual 391, 3) := by decide +kernel
theorem dX12_cut_35 : decode cX12_cut 35 = .ok (.return_, 1) := by decide +kernel
theorem dX12_ask_0 : decode cX12_ask 0 = .ok (.aload_n 0, 1) := by decide +kernel
theorem dX12_ask_1 : decode cX12_ask 1 = .ok (.getfield 107, 3) := by decide +kernel
theorem dX12_ask_4 : decode cX12_ask 4 = .ok (.iload_n 1, 1) := by decide +kernel
theorem dX12_ask_5 : decode cX12_ask 5 = .ok (.iload_n 2, 1) := by decide +kernel
theorem dX12_ask_6 : decode cX12_ask 6 = .ok (.iastore, 1) := by decide +kernel
theorem dX12_ask_7 : decode cX12_ask 7 = .ok (.aload_n 0, 1) := by decide +kernel
theorem dX12_ask_8 : decode cX12_ask 8 = .ok (.getfield 143, 3) := by decide +kernel
theorem dX12_ask_11 : decode cX12_ask 11 = .ok (.iload_n 1, 1) := by decide +kernel
theorem dX12_ask_12 : decode cX12_ask 12 = .ok (.aload_n 0, 1) := by decide +kernel
theorem dX12_ask_13 : decode cX12_ask 13 = .ok (.getfield 378, 3) := by decide +kernel
theorem dX12_ask_16 : decode cX12_ask 16 = .ok (.iastore, 1) := by decide +kernel
theorem dX12_ask_17 : decode cX12_ask 17 = .ok (.aload_n 0, 1) := by decide +kernel
theorem dX12_ask_18 : decode cX12_ask 18 = .ok (.getfield 146, 3) := by decide +kernel
theorem dX12_ask_21 : decode cX12_ask 21 = .ok (.iload_n 1, 1) := by decide +kernel
theorem dX12_ask_22 : decode cX12_ask 22 = .ok (.iconst 1, 1) := by decide +kernel
theorem dX12_ask_23 : decode cX12_ask 23 = .ok (.iastore, 1) := by decide +kernel
theorem dX12_ask_24 : decode cX12_ask 24 = .ok (.aload_n 0, 1) := by decide +kernel
theorem dX12_ask_25 : decode cX12_ask 25 = .ok (.iload_n 1, 1) := by decide +kernel
theorem dX12_ask_26 : decode cX12_ask 26 = .ok (.invokevirtual 394, 3) := by decide +kernel
theorem dX12_ask_29 : decode cX12_ask 29 = .ok (.return_, 1) := by decide +kernel
theorem dX12_askAgain_0 : decode cX12_askAgain 0 = .ok (.aload_n 0, 1) := by decide +kernel
theorem dX12_askAgain_1 : decode cX12_askAgain 1 = .ok (.getfield 107, 3) := by decide +kernel
theorem dX12_askAgain_4 : decode cX12_askAgain 4 = .ok (.iload_n 1, 1) := by decide +kernel
theorem dX12_askAgain_5 : decode cX12_askAgain 5 = .ok (.iaload, 1) := by decide +kernel
theorem dX12_askAgain_6 : decode cX12_askAgain 6 = .ok (.iconst 1, 1) := by decide +kernel
theorem dX12_askAgain_7 : decode cX12_askAgain 7 = .ok (.if_icmp .ne 20, 3) := by decide +kernel
theorem dX12_askAgain_10 : decode cX12_askAgain 10 = .ok (.aload_n 0, 1) := by decide +kernel
theorem dX12_askAgain_11 : decode cX12_askAgain 11 = .ok (.iload_n 1, 1) := by decide +kernel
theorem dX12_askAgain_12 : decode cX12_askAgain 12 = .ok (.iconst 1, 1) := by decide +kernel
theorem dX12_askAgain_13 : decode cX12_askAgain 13 = .ok (.bipush 8, 2) := by decide +kernel
theorem dX12_askAgain_15 : decode cX12_askAgain 15 = .ok (.aload_n 0, 1) := by decide +kernel
theorem dX12_askAgain_16 : decode cX12_askAgain 16 = .ok (.getfield 134, 3) := by decide +kernel
theorem dX12_askAgain_19 : decode cX12_askAgain 19 = .ok (.iload_n 1, 1) := by decide +kernel
theorem dX12_askAgain_20 : decode cX12_askAgain 20 = .ok (.iaload, 1) := by decide +kernel
theorem dX12_askAgain_21 : decode cX12_askAgain 21 = .ok (.invokevirtual 397, 3) := by decide +kernel
theorem dX12_askAgain_24 : decode cX12_askAgain 24 = .ok (.goto 51, 3) := by decide +kernel
theorem dX12_askAgain_27 : decode cX12_askAgain 27 = .ok (.aload_n 0, 1) := by decide +kernel
theorem dX12_askAgain_28 : decode cX12_askAgain 28 = .ok (.getfield 107, 3) := by decide +kernel
theorem dX12_askAgain_31 : decode cX12_askAgain 31 = .ok (.iload_n 1, 1) := by decide +kernel
theorem dX12_askAgain_32 : decode cX12_askAgain 32 = .ok (.iaload, 1) := by decide +kernel
theorem dX12_askAgain_33 : decode cX12_askAgain 33 = .ok (.iconst 3, 1) := by decide +kernel
theorem dX12_askAgain_34 : decode cX12_askAgain 34 = .ok (.if_icmp .ne 34, 3) := by decide +kernel
theorem dX12_askAgain_37 : decode cX12_askAgain 37 = .ok (.aload_n 0, 1) := by decide +kernel
theorem dX12_askAgain_38 : decode cX12_askAgain 38 = .ok (.iload_n 1, 1) := by decide +kernel
theorem dX12_askAgain_39 : decode cX12_askAgain 39 = .ok (.aload_n 0, 1) := by decide +kernel
theorem dX12_askAgain_40 : decode cX12_askAgain 40 = .ok (.getfield 149, 3) := by decide +kernel
theorem dX12_askAgain_43 : decode cX12_askAgain 43 = .ok (.iload_n 1, 1) := by decide +kernel
theorem dX12_askAgain_44 : decode cX12_askAgain 44 = .ok (.baload, 1) := by decide +kernel
theorem dX12_askAgain_45 : decode cX12_askAgain 45 = .ok (.ifCond .eq 8, 3) := by decide +kernel
theorem dX12_askAgain_48 : decode cX12_askAgain 48 = .ok (.bipush 9, 2) := by decide +kernel
theorem dX12_askAgain_50 : decode cX12_askAgain 50 = .ok (.goto 4, 3) := by decide +kernel
theorem dX12_askAgain_53 : decode cX12_askAgain 53 = .ok (.iconst 5, 1) := by decide +kernel
theorem dX12_askAgain_54 : decode cX12_askAgain 54 = .ok (.bipush 8, 2) := by decide +kernel
theorem dX12_askAgain_56 : decode cX12_askAgain 56 = .ok (.aload_n 0, 1) := by decide +kernel
theorem dX12_askAgain_57 : decode cX12_askAgain 57 = .ok (.getfield 134, 3) := by decide +kernel
theorem dX12_askAgain_60 : decode cX12_askAgain 60 = .ok (.iload_n 1, 1) := by decide +kernel
theorem dX12_askAgain_61 : decode cX12_askAgain 61 = .ok (.iaload, 1) := by decide +kernel
theorem dX12_askAgain_62 : decode cX12_askAgain 62 = .ok (.invokevirtual 397, 3) := by decide +kernel
theorem dX12_askAgain_65 : decode cX12_askAgain 65 = .ok (.goto 10, 3) := by decide +kernel
theorem dX12_askAgain_68 : decode cX12_askAgain 68 = .ok (.aload_n 0, 1) := by decide +kernel
theorem dX12_askAgain_69 : decode cX12_askAgain 69 = .ok (.iload_n 1, 1) := by decide +kernel
theorem dX12_askAgain_70 : decode cX12_askAgain 70 = .ok (.iconst 3, 1) := by decide +kernel
theorem dX12_askAgain_71 : decode cX12_askAgain 71 = .ok (.iconst 0, 1) := by decide +kernel
theorem dX12_askAgain_72 : decode cX12_askAgain 72 = .ok (.invokevirtual 400, 3) := by decide +kernel
theorem dX12_askAgain_75 : decode cX12_askAgain 75 = .ok (.return_, 1) := by decide +kernel
theorem dX12_askReset_0 : decode cX12_askReset 0 = .ok (.aload_n 0, 1) := by decide +kernel
theorem dX12_askReset_1 : decode cX12_askReset 1 = .ok (.getfield 134, 3) := by decide +kernel
theorem dX12_askReset_4 : decode cX12_askReset 4 = .ok (.iload_n 1, 1) := by decide +kernel
theorem dX12_askReset_5 : decode cX12_askReset 5 = .ok (.dup2, 1) := by decide +kernel
theorem dX12_askReset_6 : decode cX12_askReset 6 = .ok (.iaload, 1) := by decide +kernel
theorem dX12_askReset_7 : decode cX12_askReset 7 = .ok (.iconst 1, 1) := by decide +kernel
theorem dX12_askReset_8 : decode cX12_askReset 8 = .ok (.iadd, 1) := by decide +kernel
theorem dX12_askReset_9 : decode cX12_askReset 9 = .ok (.iastore, 1) := by decide +kernel
theorem dX12_askReset_10 : decode cX12_askReset 10 = .ok (.aload_n 0, 1) := by decide +kernel
theorem dX12_askReset_11 : decode cX12_askReset 11 = .ok (.getfield 149, 3) := by decide +kernel
theorem dX12_askReset_14 : decode cX12_askReset 14 = .ok (.iload_n 1, 1) := by decide +kernel
theorem dX12_askReset_15 : decode cX12_askReset 15 = .ok (.iload_n 2, 1) := by decide +kernel
theorem dX12_askReset_16 : decode cX12_askReset 16 = .ok (.bastore, 1) := by decide +kernel
theorem dX12_askReset_17 : decode cX12_askReset 17 = .ok (.aload_n 0, 1) := by decide +kernel
theorem dX12_askReset_18 : decode cX12_askReset 18 = .ok (.iload_n 1, 1) := by decide +kernel
theorem dX12_askReset_19 : decode cX12_askReset 19 = .ok (.iconst 3, 1) := by decide +kernel
theorem dX12_askReset_20 : decode cX12_askReset 20 = .ok (.invokevirtual 403, 3) := by decide +kernel
theorem dX12_askReset_23 : decode cX12_askReset 23 = .ok (.return_, 1) := by decide +kernel
theorem dX12_byteOfWord_0 : decode cX12_byteOfWord 0 = .ok (.aload_n 0, 1) := by decide +kernel
theorem dX12_byteOfWord_1 : decode cX12_byteOfWord 1 = .ok (.getfield 89, 3) := by decide +kernel
theorem dX12_byteOfWord_4 : decode cX12_byteOfWord 4 = .ok (.iload_n 1, 1) := by decide +kernel
theorem dX12_byteOfWord_5 : decode cX12_byteOfWord 5 = .ok (.iaload, 1) := by decide +kernel
theorem dX12_byteOfWord_6 : decode cX12_byteOfWord 6 = .ok (.bipush 24, 2) := by decide +kernel
theorem dX12_byteOfWord_8 : decode cX12_byteOfWord 8 = .ok (.ishl, 1) := by decide +kernel
theorem dX12_byteOfWord_9 : decode cX12_byteOfWord 9 = .ok (.aload_n 0, 1) := by decide +kernel
theorem dX12_byteOfWord_10 : decode cX12_byteOfWord 10 = .ok (.getfield 89, 3) := by decide +kernel
theorem dX12_byteOfWord_13 : decode cX12_byteOfWord 13 = .ok (.iload_n 1, 1) := by decide +kernel
theorem dX12_byteOfWord_14 : decode cX12_byteOfWord 14 = .ok (.iconst 1, 1) := by decide +kernel
theorem dX12_byteOfWord_15 : decode cX12_byteOfWord 15 = .ok (.iadd, 1) := by decide +kernel
theorem dX12_byteOfWord_16 : decode cX12_byteOfWord 16 = .ok (.iaload, 1) := by decide +kernel
theorem dX12_byteOfWord_17 : decode cX12_byteOfWord 17 = .ok (.bipush 16, 2) := by decide +kernel
theorem dX12_byteOfWord_19 : decode cX12_byteOfWord 19 = .ok (.ishl, 1) := by decide +kernel
theorem dX12_byteOfWord_20 : decode cX12_byteOfWord 20 = .ok (.ior, 1) := by decide +kernel
theorem dX12_byteOfWord_21 : decode cX12_byteOfWord 21 = .ok (.aload_n 0, 1) := by decide +kernel
theorem dX12_byteOfWord_22 : decode cX12_byteOfWord 22 = .ok (.getfield 89, 3) := by decide +kernel
theorem dX12_byteOfWord_25 : decode cX12_byteOfWord 25 = .ok (.iload_n 1, 1) := by decide +kernel
theorem dX12_byteOfWord_26 : decode cX12_byteOfWord 26 = .ok (.iconst 2, 1) := by decide +kernel
theorem dX12_byteOfWord_27 : decode cX12_byteOfWord 27 = .ok (.iadd, 1) := by decide +kernel
theorem dX12_byteOfWord_28 : decode cX12_byteOfWord 28 = .ok (.iaload, 1) := by decide +kernel
theorem dX12_byteOfWord_29 : decode cX12_byteOfWord 29 = .ok (.bipush 8, 2) := by decide +kernel
theorem dX12_byteOfWord_31 : decode cX12_byteOfWord 31 = .ok (.ishl, 1) := by decide +kernel
theorem dX12_byteOfWord_32 : decode cX12_byteOfWord 32 = .ok (.ior, 1) := by decide +kernel
theorem dX12_byteOfWord_33 : decode cX12_byteOfWord 33 = .ok (.aload_n 0, 1) := by decide +kernel
theorem dX12_byteOfWord_34 : decode cX12_byteOfWord 34 = .ok (.getfield 89, 3) := by decide +kernel
theorem dX12_byteOfWord_37 : decode cX12_byteOfWord 37 = .ok (.iload_n 1, 1) := by decide +kernel
theorem dX12_byteOfWord_38 : decode cX12_byteOfWord 38 = .ok (.iconst 3, 1) := by decide +kernel
theorem dX12_byteOfWord_39 : decode cX12_byteOfWord 39 = .ok (.iadd, 1) := by decide +kernel
theorem dX12_byteOfWord_40 : decode cX12_byteOfWord 40 = .ok (.iaload, 1) := by decide +kernel
theorem dX12_byteOfWord_41 : decode cX12_byteOfWord 41 = .ok (.ior, 1) := by decide +kernel
theorem dX12_byteOfWord_42 : decode cX12_byteOfWord 42 = .ok (.ireturn, 1) := by decide +kernel
theorem dX12_unit_0 : decode cX12_unit 0 = .ok (.aload_n 0, 1) := by decide +kernel
theorem dX12_unit_1 : decode cX12_unit 1 = .ok (.getfield 357, 3) := by decide +kernel
theorem dX12_unit_4 : decode cX12_unit 4 = .ok (.iconst 4, 1) := by decide +kernel
theorem dX12_unit_5 : decode cX12_unit 5 = .ok (.if_icmp .ge 4, 3) := by decide +kernel
theorem dX12_unit_8 : decode cX12_unit 8 = .ok (.return_, 1) := by decide +kernel
theorem dX12_unit_9 : decode cX12_unit 9 = .ok (.aload_n 0, 1) := by decide +kernel
theorem dX12_unit_10 : decode cX12_unit 10 = .ok (.aload_n 0, 1) := by decide +kernel
theorem dX12_unit_11 : decode cX12_unit 11 = .ok (.getfield 357, 3) := by decide +kernel
theorem dX12_unit_14 : decode cX12_unit 14 = .ok (.iconst 4, 1) := by decide +kernel
theorem dX12_unit_15 : decode cX12_unit 15 = .ok (.isub, 1) := by decide +kernel
theorem dX12_unit_16 : decode cX12_unit 16 = .ok (.invokevirtual 406, 3) := by decide +kernel
theorem dX12_unit_19 : decode cX12_unit 19 = .ok (.istore_n 2, 1) := by decide +kernel
theorem dX12_unit_20 : decode cX12_unit 20 = .ok (.iload_n 2, 1) := by decide +kernel
theorem dX12_unit_21 : decode cX12_unit 21 = .ok (.bipush 24, 2) := by decide +kernel
theorem dX12_unit_23 : decode cX12_unit 23 = .ok (.iushr, 1) := by decide +kernel
theorem dX12_unit_24 : decode cX12_unit 24 = .ok (.istore_n 3, 1) := by decide +kernel
theorem dX12_unit_25 : decode cX12_unit 25 = .ok (.iload_n 2, 1) := by decide +kernel
theorem dX12_unit_26 : decode cX12_unit 26 = .ok (.ldc_w 409, 3) := by decide +kernel
theorem dX12_unit_29 : decode cX12_unit 29 = .ok (.iand, 1) := by decide +kernel
theorem dX12_unit_30 : decode cX12_unit 30 = .ok (.istore 4, 2) := by decide +kernel
theorem dX12_unit_32 : decode cX12_unit 32 = .ok (.aload_n 0, 1) := by decide +kernel
theorem dX12_unit_33 : decode cX12_unit 33 = .ok (.getfield 357, 3) := by decide +kernel
theorem dX12_unit_36 : decode cX12_unit 36 = .ok (.iconst 4, 1) := by decide +kernel
theorem dX12_unit_37 : decode cX12_unit 37 = .ok (.idiv, 1) := by decide +kernel
theorem dX12_unit_38 : decode cX12_unit 38 = .ok (.istore 5, 2) := by decide +kernel
theorem dX12_unit_40 : decode cX12_unit 40 = .ok (.aload_n 0, 1) := by decide +kernel
theorem dX12_unit_41 : decode cX12_unit 41 = .ok (.getfield 357, 3) := by decide +kernel
theorem dX12_unit_44 : decode cX12_unit 44 = .ok (.bipush 8, 2) := by decide +kernel
theorem dX12_unit_46 : decode cX12_unit 46 = .ok (.if_icmp .lt 17, 3) := by decide +kernel
theorem dX12_unit_49 : decode cX12_unit 49 = .ok (.aload_n 0, 1) := by decide +kernel
theorem dX12_unit_50 : decode cX12_unit 50 = .ok (.aload_n 0, 1) := by decide +kernel
theorem dX12_unit_51 : decode cX12_unit 51 = .ok (.getfield 357, 3) := by decide +kernel
theorem dX12_unit_54 : decode cX12_unit 54 = .ok (.bipush 8, 2) := by decide +kernel
theorem dX12_unit_56 : decode cX12_unit 56 = .ok (.isub, 1) := by decide +kernel
theorem dX12_unit_57 : decode cX12_unit 57 = .ok (.invokevirtual 406, 3) := by decide +kernel
theorem dX12_unit_60 : decode cX12_unit 60 = .ok (.goto 4, 3) := by decide +kernel
theorem dX12_unit_63 : decode cX12_unit 63 = .ok (.iconst 0, 1) := by decide +kernel
theorem dX12_unit_64 : decode cX12_unit 64 = .ok (.istore 6, 2) := by decide +kernel
theorem dX12_unit_66 : decode cX12_unit 66 = .ok (.iload_n 3, 1) := by decide +kernel
theorem dX12_unit_67 : decode cX12_unit 67 = .ok (.iconst 1, 1) := by decide +kernel
theorem dX12_unit_68 : decode cX12_unit 68 = .ok (.if_icmp .eq 14, 3) := by decide +kernel
theorem dX12_unit_71 : decode cX12_unit 71 = .ok (.iload_n 3, 1) := by decide +kernel
theorem dX12_unit_72 : decode cX12_unit 72 = .ok (.iconst 5, 1) := by decide +kernel
theorem dX12_unit_73 : decode cX12_unit 73 = .ok (.if_icmp .eq 9, 3) := by decide +kernel
theorem dX12_unit_76 : decode cX12_unit 76 = .ok (.iload_n 3, 1) := by decide +kernel
theorem dX12_unit_77 : decode cX12_unit 77 = .ok (.bipush 9, 2) := by decide +kernel
theorem dX12_unit_79 : decode cX12_unit 79 = .ok (.if_icmp .ne 7, 3) := by decide +kernel
theorem dX12_unit_82 : decode cX12_unit 82 = .ok (.iconst 1, 1) := by decide +kernel
theorem dX12_unit_83 : decode cX12_unit 83 = .ok (.goto 4, 3) := by decide +kernel
theorem dX12_unit_86 : decode cX12_unit 86 = .ok (.iconst 0, 1) := by decide +kernel
theorem dX12_unit_87 : decode cX12_unit 87 = .ok (.istore 7, 2) := by decide +kernel
theorem dX12_unit_89 : decode cX12_unit 89 = .ok (.iload_n 3, 1) := by decide +kernel
theorem dX12_unit_90 : decode cX12_unit 90 = .ok (.iconst 2, 1) := by decide +kernel
theorem dX12_unit_91 : decode cX12_unit 91 = .ok (.if_icmp .eq 15, 3) := by decide +kernel
theorem dX12_unit_94 : decode cX12_unit 94 = .ok (.iload_n 3, 1) := by decide +kernel
theorem dX12_unit_95 : decode cX12_unit 95 = .ok (.bipush 6, 2) := by decide +kernel
theorem dX12_unit_97 : decode cX12_unit 97 = .ok (.if_icmp .eq 9, 3) := by decide +kernel
theorem dX12_unit_100 : decode cX12_unit 100 = .ok (.iload_n 3, 1) := by decide +kernel
theorem dX12_unit_101 : decode cX12_unit 101 = .ok (.bipush 15, 2) := by decide +kernel
theorem dX12_unit_103 : decode cX12_unit 103 = .ok (.if_icmp .ne 7, 3) := by decide +kernel
theorem dX12_unit_106 : decode cX12_unit 106 = .ok (.iconst 1, 1) := by decide +kernel
theorem dX12_unit_107 : decode cX12_unit 107 = .ok (.goto 4, 3) := by decide +kernel
theorem dX12_unit_110 : decode cX12_unit 110 = .ok (.iconst 0, 1) := by decide +kernel
theorem dX12_unit_111 : decode cX12_unit 111 = .ok (.istore 8, 2) := by decide +kernel
theorem dX12_unit_113 : decode cX12_unit 113 = .ok (.iload_n 3, 1) := by decide +kernel
theorem dX12_unit_114 : decode cX12_unit 114 = .ok (.bipush 11, 2) := by decide +kernel
theorem dX12_unit_116 : decode cX12_unit 116 = .ok (.if_icmp .eq 9, 3) := by decide +kernel
theorem dX12_unit_119 : decode cX12_unit 119 = .ok (.iload_n 3, 1) := by decide +kernel
theorem dX12_unit_120 : decode cX12_unit 120 = .ok (.bipush 12, 2) := by decide +kernel
theorem dX12_unit_122 : decode cX12_unit 122 = .ok (.if_icmp .ne 7, 3) := by decide +kernel
theorem dX12_unit_125 : decode cX12_unit 125 = .ok (.iconst 1, 1) := by decide +kernel
theorem dX12_unit_126 : decode cX12_unit 126 = .ok (.goto 4, 3) := by decide +kernel
theorem dX12_unit_129 : decode cX12_unit 129 = .ok (.iconst 0, 1) := by decide +kernel
theorem dX12_unit_130 : decode cX12_unit 130 = .ok (.istore 9, 2) := by decide +kernel
theorem dX12_unit_132 : decode cX12_unit 132 = .ok (.iload 8, 2) := by decide +kernel
theorem dX12_unit_134 : decode cX12_unit 134 = .ok (.ifCond .ne 8, 3) := by decide +kernel
theorem dX12_unit_137 : decode cX12_unit 137 = .ok (.iload_n 3, 1) := by decide +kernel
theorem dX12_unit_138 : decode cX12_unit 138 = .ok (.iconst 4, 1) := by decide +kernel
theorem dX12_unit_139 : decode cX12_unit 139 = .ok (.if_icmp .ne 8, 3) := by decide +kernel
theorem dX12_unit_142 : decode cX12_unit 142 = .ok (.iload 4, 2) := by decide +kernel
theorem dX12_unit_144 : decode cX12_unit 144 = .ok (.ifCond .ne 14, 3) := by decide +kernel
theorem dX12_unit_147 : decode cX12_unit 147 = .ok (.iload_n 3, 1) := by decide +kernel
theorem dX12_unit_148 : decode cX12_unit 148 = .ok (.iconst 3, 1) := by decide +kernel
theorem dX12_unit_149 : decode cX12_unit 149 = .ok (.if_icmp .ne 13, 3) := by decide +kernel
theorem dX12_unit_152 : decode cX12_unit 152 = .ok (.iload 4, 2) := by decide +kernel
theorem dX12_unit_154 : decode cX12_unit 154 = .ok (.iconst 1, 1) := by decide +kernel
theorem dX12_unit_155 : decode cX12_unit 155 = .ok (.if_icmp .le 7, 3) := by decide +kernel
theorem dX12_unit_158 : decode cX12_unit 158 = .ok (.iconst 1, 1) := by decide +kernel
theorem dX12_unit_159 : decode cX12_unit 159 = .ok (.goto 4, 3) := by decide +kernel
theorem dX12_unit_162 : decode cX12_unit 162 = .ok (.iconst 0, 1) := by decide +kernel
theorem dX12_unit_163 : decode cX12_unit 163 = .ok (.istore 10, 2) := by decide +kernel
theorem dX12_unit_165 : decode cX12_unit 165 = .ok (.iload 10, 2) := by decide +kernel
theorem dX12_unit_167 : decode cX12_unit 167 = .ok (.ifCond .ne 45, 3) := by decide +kernel
theorem dX12_unit_170 : decode cX12_unit 170 = .ok (.iload 7, 2) := by decide +kernel
theorem dX12_unit_172 : decode cX12_unit 172 = .ok (.ifCond .eq 8, 3) := by decide +kernel
theorem dX12_unit_175 : decode cX12_unit 175 = .ok (.iload 4, 2) := by decide +kernel
theorem dX12_unit_177 : decode cX12_unit 177 = .ok (.ifCond .eq 35, 3) := by decide +kernel
theorem dX12_unit_180 : decode cX12_unit 180 = .ok (.iload 7, 2) := by decide +kernel
theorem dX12_unit_182 : decode cX12_unit 182 = .ok (.ifCond .ne 8, 3) := by decide +kernel
theorem dX12_unit_185 : decode cX12_unit 185 = .ok (.iload 8, 2) := by decide +kernel
theorem dX12_unit_187 : decode cX12_unit 187 = .ok (.ifCond .eq 10, 3) := by decide +kernel
theorem dX12_unit_190 : decode cX12_unit 190 = .ok (.iload 6, 2) := by decide +kernel
theorem dX12_unit_192 : decode cX12_unit 192 = .ok (.bipush 8, 2) := by decide +kernel
theorem dX12_unit_194 : decode cX12_unit 194 = .ok (.if_icmp .ne 18, 3) := by decide +kernel
theorem dX12_unit_197 : decode cX12_unit 197 = .ok (.iload 9, 2) := by decide +kernel
theorem dX12_unit_199 : decode cX12_unit 199 = .ok (.ifCond .eq 14, 3) := by decide +kernel
theorem dX12_unit_202 : decode cX12_unit 202 = .ok (.iload 6, 2) := by decide +kernel
theorem dX12_unit_204 : decode cX12_unit 204 = .ok (.iload 4, 2) := by decide +kernel
theorem dX12_unit_206 : decode cX12_unit 206 = .ok (.bipush 8, 2) := by decide +kernel
theorem dX12_unit_208 : decode cX12_unit 208 = .ok (.iadd, 1) := by decide +kernel
theorem dX12_unit_209 : decode cX12_unit 209 = .ok (.if_icmp .eq 4, 3) := by decide +kernel
theorem dX12_unit_212 : decode cX12_unit 212 = .ok (.return_, 1) := by decide +kernel
theorem dX12_unit_213 : decode cX12_unit 213 = .ok (.iload_n 3, 1) := by decide +kernel
theorem dX12_unit_214 : decode cX12_unit 214 = .ok (.bipush 8, 2) := by decide +kernel
theorem dX12_unit_216 : decode cX12_unit 216 = .ok (.if_icmp .ne 38, 3) := by decide +kernel
theorem dX12_unit_219 : decode cX12_unit 219 = .ok (.aload_n 0, 1) := by decide +kernel
theorem dX12_unit_220 : decode cX12_unit 220 = .ok (.getfield 357, 3) := by decide +kernel
theorem dX12_unit_223 : decode cX12_unit 223 = .ok (.bipush 64, 2) := by decide +kernel
theorem dX12_unit_225 : decode cX12_unit 225 = .ok (.if_icmp .gt 28, 3) := by decide +kernel
theorem dX12_unit_228 : decode cX12_unit 228 = .ok (.aload_n 0, 1) := by decide +kernel
theorem dX12_unit_229 : decode cX12_unit 229 = .ok (.getfield 357, 3) := by decide +kernel
theorem dX12_unit_232 : decode cX12_unit 232 = .ok (.iconst 4, 1) := by decide +kernel
theorem dX12_unit_233 : decode cX12_unit 233 = .ok (.if_icmp .le 20, 3) := by decide +kernel
theorem dX12_unit_236 : decode cX12_unit 236 = .ok (.aload_n 0, 1) := by decide +kernel
theorem dX12_unit_237 : decode cX12_unit 237 = .ok (.getfield 107, 3) := by decide +kernel
theorem dX12_unit_240 : decode cX12_unit 240 = .ok (.iload_n 1, 1) := by decide +kernel
theorem dX12_unit_241 : decode cX12_unit 241 = .ok (.iaload, 1) := by decide +kernel
theorem dX12_unit_242 : decode cX12_unit 242 = .ok (.iconst 2, 1) := by decide +kernel
theorem dX12_unit_243 : decode cX12_unit 243 = .ok (.if_icmp .ne 10, 3) := by decide +kernel
theorem dX12_unit_246 : decode cX12_unit 246 = .ok (.aload_n 0, 1) := by decide +kernel
theorem dX12_unit_247 : decode cX12_unit 247 = .ok (.iload_n 1, 1) := by decide +kernel
theorem dX12_unit_248 : decode cX12_unit 248 = .ok (.iload 4, 2) := by decide +kernel
theorem dX12_unit_250 : decode cX12_unit 250 = .ok (.invokevirtual 410, 3) := by decide +kernel
theorem dX12_unit_253 : decode cX12_unit 253 = .ok (.return_, 1) := by decide +kernel
theorem dX12_unit_254 : decode cX12_unit 254 = .ok (.aload_n 0, 1) := by decide +kernel
theorem dX12_unit_255 : decode cX12_unit 255 = .ok (.getfield 357, 3) := by decide +kernel
theorem dX12_unit_258 : decode cX12_unit 258 = .ok (.iconst 4, 1) := by decide +kernel
theorem dX12_unit_259 : decode cX12_unit 259 = .ok (.irem, 1) := by decide +kernel
theorem dX12_unit_260 : decode cX12_unit 260 = .ok (.ifCond .eq 4, 3) := by decide +kernel
theorem dX12_unit_263 : decode cX12_unit 263 = .ok (.return_, 1) := by decide +kernel
theorem dX12_unit_264 : decode cX12_unit 264 = .ok (.iload_n 3, 1) := by decide +kernel
theorem dX12_unit_265 : decode cX12_unit 265 = .ok (.tableswitch 257 1 15 #[75, 93, 119, 149, 181, 211, 257, 257, 181, 257, 257, 257, 257, 257, 211], 75) := by decide +kernel
theorem dX12_unit_340 : decode cX12_unit 340 = .ok (.iload 5, 2) := by decide +kernel
theorem dX12_unit_342 : decode cX12_unit 342 = .ok (.iconst 2, 1) := by decide +kernel
theorem dX12_unit_343 : decode cX12_unit 343 = .ok (.if_icmp .ne 201, 3) := by decide +kernel
theorem dX12_unit_346 : decode cX12_unit 346 = .ok (.aload_n 0, 1) := by decide +kernel
theorem dX12_unit_347 : decode cX12_unit 347 = .ok (.iload_n 1, 1) := by decide +kernel
theorem dX12_unit_348 : decode cX12_unit 348 = .ok (.iload 6, 2) := by decide +kernel
theorem dX12_unit_350 : decode cX12_unit 350 = .ok (.iload 4, 2) := by decide +kernel
theorem dX12_unit_352 : decode cX12_unit 352 = .ok (.invokevirtual 413, 3) := by decide +kernel
theorem dX12_unit_355 : decode cX12_unit 355 = .ok (.goto 189, 3) := by decide +kernel
theorem dX12_unit_358 : decode cX12_unit 358 = .ok (.iload 5, 2) := by decide +kernel
theorem dX12_unit_360 : decode cX12_unit 360 = .ok (.iconst 2, 1) := by decide +kernel
theorem dX12_unit_361 : decode cX12_unit 361 = .ok (.if_icmp .ne 183, 3) := by decide +kernel
theorem dX12_unit_364 : decode cX12_unit 364 = .ok (.aload_n 0, 1) := by decide +kernel
theorem dX12_unit_365 : decode cX12_unit 365 = .ok (.getfield 107, 3) := by decide +kernel
theorem dX12_unit_368 : decode cX12_unit 368 = .ok (.iload_n 1, 1) := by decide +kernel
theorem dX12_unit_369 : decode cX12_unit 369 = .ok (.iaload, 1) := by decide +kernel
theorem dX12_unit_370 : decode cX12_unit 370 = .ok (.iconst 1, 1) := by decide +kernel
theorem dX12_unit_371 : decode cX12_unit 371 = .ok (.if_icmp .ne 173, 3) := by decide +kernel
theorem dX12_unit_374 : decode cX12_unit 374 = .ok (.aload_n 0, 1) := by decide +kernel
theorem dX12_unit_375 : decode cX12_unit 375 = .ok (.iload_n 1, 1) := by decide +kernel
theorem dX12_unit_376 : decode cX12_unit 376 = .ok (.iload 6, 2) := by decide +kernel
theorem dX12_unit_378 : decode cX12_unit 378 = .ok (.invokevirtual 416, 3) := by decide +kernel
theorem dX12_unit_381 : decode cX12_unit 381 = .ok (.goto 163, 3) := by decide +kernel
theorem dX12_unit_384 : decode cX12_unit 384 = .ok (.iload 5, 2) := by decide +kernel
theorem dX12_unit_386 : decode cX12_unit 386 = .ok (.iconst 1, 1) := by decide +kernel
theorem dX12_unit_387 : decode cX12_unit 387 = .ok (.if_icmp .ne 157, 3) := by decide +kernel
theorem dX12_unit_390 : decode cX12_unit 390 = .ok (.aload_n 0, 1) := by decide +kernel
theorem dX12_unit_391 : decode cX12_unit 391 = .ok (.getfield 107, 3) := by decide +kernel
theorem dX12_unit_394 : decode cX12_unit 394 = .ok (.iload_n 1, 1) := by decide +kernel
theorem dX12_unit_395 : decode cX12_unit 395 = .ok (.iaload, 1) := by decide +kernel
theorem dX12_unit_396 : decode cX12_unit 396 = .ok (.ifCond .eq 8, 3) := by decide +kernel
theorem dX12_unit_399 : decode cX12_unit 399 = .ok (.aload_n 0, 1) := by decide +kernel
theorem dX12_unit_400 : decode cX12_unit 400 = .ok (.iload_n 1, 1) := by decide +kernel
theorem dX12_unit_401 : decode cX12_unit 401 = .ok (.invokevirtual 419, 3) := by decide +kernel
theorem dX12_unit_404 : decode cX12_unit 404 = .ok (.aload_n 0, 1) := by decide +kernel
theorem dX12_unit_405 : decode cX12_unit 405 = .ok (.iload_n 1, 1) := by decide +kernel
theorem dX12_unit_406 : decode cX12_unit 406 = .ok (.iconst 4, 1) := by decide +kernel
theorem dX12_unit_407 : decode cX12_unit 407 = .ok (.iconst 0, 1) := by decide +kernel
theorem dX12_unit_408 : decode cX12_unit 408 = .ok (.invokevirtual 400, 3) := by decide +kernel
theorem dX12_unit_411 : decode cX12_unit 411 = .ok (.goto 133, 3) := by decide +kernel
theorem dX12_unit_414 : decode cX12_unit 414 = .ok (.iload 5, 2) := by decide +kernel
theorem dX12_unit_416 : decode cX12_unit 416 = .ok (.iconst 1, 1) := by decide +kernel
theorem dX12_unit_417 : decode cX12_unit 417 = .ok (.if_icmp .ne 127, 3) := by decide +kernel
theorem dX12_unit_420 : decode cX12_unit 420 = .ok (.aload_n 0, 1) := by decide +kernel
theorem dX12_unit_421 : decode cX12_unit 421 = .ok (.getfield 107, 3) := by decide +kernel
theorem dX12_unit_424 : decode cX12_unit 424 = .ok (.iload_n 1, 1) := by decide +kernel
theorem dX12_unit_425 : decode cX12_unit 425 = .ok (.iaload, 1) := by decide +kernel
theorem dX12_unit_426 : decode cX12_unit 426 = .ok (.iconst 4, 1) := by decide +kernel
theorem dX12_unit_427 : decode cX12_unit 427 = .ok (.if_icmp .ne 117, 3) := by decide +kernel
theorem dX12_unit_430 : decode cX12_unit 430 = .ok (.aload_n 0, 1) := by decide +kernel
theorem dX12_unit_431 : decode cX12_unit 431 = .ok (.getfield 107, 3) := by decide +kernel
theorem dX12_unit_434 : decode cX12_unit 434 = .ok (.iload_n 1, 1) := by decide +kernel
theorem dX12_unit_435 : decode cX12_unit 435 = .ok (.iconst 0, 1) := by decide +kernel
theorem dX12_unit_436 : decode cX12_unit 436 = .ok (.iastore, 1) := by decide +kernel
theorem dX12_unit_437 : decode cX12_unit 437 = .ok (.aload_n 0, 1) := by decide +kernel
theorem dX12_unit_438 : decode cX12_unit 438 = .ok (.iload_n 1, 1) := by decide +kernel
theorem dX12_unit_439 : decode cX12_unit 439 = .ok (.iconst 0, 1) := by decide +kernel
theorem dX12_unit_440 : decode cX12_unit 440 = .ok (.invokevirtual 388, 3) := by decide +kernel
theorem dX12_unit_443 : decode cX12_unit 443 = .ok (.goto 101, 3) := by decide +kernel
theorem dX12_unit_446 : decode cX12_unit 446 = .ok (.iload 5, 2) := by decide +kernel
theorem dX12_unit_448 : decode cX12_unit 448 = .ok (.iconst 2, 1) := by decide +kernel
theorem dX12_unit_449 : decode cX12_unit 449 = .ok (.if_icmp .ne 95, 3) := by decide +kernel
theorem dX12_unit_452 : decode cX12_unit 452 = .ok (.aload_n 0, 1) := by decide +kernel
theorem dX12_unit_453 : decode cX12_unit 453 = .ok (.iload_n 1, 1) := by decide +kernel
theorem dX12_unit_454 : decode cX12_unit 454 = .ok (.iload 6, 2) := by decide +kernel
theorem dX12_unit_456 : decode cX12_unit 456 = .ok (.iload 4, 2) := by decide +kernel
theorem dX12_unit_458 : decode cX12_unit 458 = .ok (.iload_n 3, 1) := by decide +kernel
theorem dX12_unit_459 : decode cX12_unit 459 = .ok (.iconst 5, 1) := by decide +kernel
theorem dX12_unit_460 : decode cX12_unit 460 = .ok (.if_icmp .ne 8, 3) := by decide +kernel
theorem dX12_unit_463 : decode cX12_unit 463 = .ok (.bipush 6, 2) := by decide +kernel
theorem dX12_unit_465 : decode cX12_unit 465 = .ok (.goto 5, 3) := by decide +kernel
theorem dX12_unit_468 : decode cX12_unit 468 = .ok (.bipush 15, 2) := by decide +kernel
theorem dX12_unit_470 : decode cX12_unit 470 = .ok (.invokevirtual 422, 3) := by decide +kernel
theorem dX12_unit_473 : decode cX12_unit 473 = .ok (.goto 71, 3) := by decide +kernel
theorem dX12_unit_476 : decode cX12_unit 476 = .ok (.iload 5, 2) := by decide +kernel
theorem dX12_unit_478 : decode cX12_unit 478 = .ok (.iconst 2, 1) := by decide +kernel
theorem dX12_unit_479 : decode cX12_unit 479 = .ok (.if_icmp .ne 65, 3) := by decide +kernel
theorem dX12_unit_482 : decode cX12_unit 482 = .ok (.aload_n 0, 1) := by decide +kernel
theorem dX12_unit_483 : decode cX12_unit 483 = .ok (.getfield 107, 3) := by decide +kernel
theorem dX12_unit_486 : decode cX12_unit 486 = .ok (.iload_n 1, 1) := by decide +kernel
theorem dX12_unit_487 : decode cX12_unit 487 = .ok (.iaload, 1) := by decide +kernel
theorem dX12_unit_488 : decode cX12_unit 488 = .ok (.iconst 3, 1) := by decide +kernel
theorem dX12_unit_489 : decode cX12_unit 489 = .ok (.if_icmp .ne 55, 3) := by decide +kernel
theorem dX12_unit_492 : decode cX12_unit 492 = .ok (.aload_n 0, 1) := by decide +kernel
theorem dX12_unit_493 : decode cX12_unit 493 = .ok (.getfield 149, 3) := by decide +kernel
theorem dX12_unit_496 : decode cX12_unit 496 = .ok (.iload_n 1, 1) := by decide +kernel
theorem dX12_unit_497 : decode cX12_unit 497 = .ok (.baload, 1) := by decide +kernel
theorem dX12_unit_498 : decode cX12_unit 498 = .ok (.iload_n 3, 1) := by decide +kernel
theorem dX12_unit_499 : decode cX12_unit 499 = .ok (.bipush 15, 2) := by decide +kernel
theorem dX12_unit_501 : decode cX12_unit 501 = .ok (.if_icmp .ne 7, 3) := by decide +kernel
theorem dX12_unit_504 : decode cX12_unit 504 = .ok (.iconst 1, 1) := by decide +kernel
theorem dX12_unit_505 : decode cX12_unit 505 = .ok (.goto 4, 3) := by decide +kernel
theorem dX12_unit_508 : decode cX12_unit 508 = .ok (.iconst 0, 1) := by decide +kernel
theorem dX12_unit_509 : decode cX12_unit 509 = .ok (.if_icmp .ne 35, 3) := by decide +kernel
theorem dX12_unit_512 : decode cX12_unit 512 = .ok (.aload_n 0, 1) := by decide +kernel
theorem dX12_unit_513 : decode cX12_unit 513 = .ok (.iload_n 1, 1) := by decide +kernel
theorem dX12_unit_514 : decode cX12_unit 514 = .ok (.iload 6, 2) := by decide +kernel
theorem dX12_unit_516 : decode cX12_unit 516 = .ok (.invokevirtual 416, 3) := by decide +kernel
theorem dX12_unit_519 : decode cX12_unit 519 = .ok (.goto 25, 3) := by decide +kernel
theorem dX12_unit_522 : decode cX12_unit 522 = .ok (.aload_n 0, 1) := by decide +kernel
theorem dX12_unit_523 : decode cX12_unit 523 = .ok (.getfield 107, 3) := by decide +kernel
theorem dX12_unit_526 : decode cX12_unit 526 = .ok (.iload_n 1, 1) := by decide +kernel
theorem dX12_unit_527 : decode cX12_unit 527 = .ok (.iaload, 1) := by decide +kernel
theorem dX12_unit_528 : decode cX12_unit 528 = .ok (.iconst 2, 1) := by decide +kernel
theorem dX12_unit_529 : decode cX12_unit 529 = .ok (.if_icmp .ne 15, 3) := by decide +kernel
theorem dX12_unit_532 : decode cX12_unit 532 = .ok (.aload_n 0, 1) := by decide +kernel
theorem dX12_unit_533 : decode cX12_unit 533 = .ok (.iload_n 1, 1) := by decide +kernel
theorem dX12_unit_534 : decode cX12_unit 534 = .ok (.iload_n 3, 1) := by decide +kernel
theorem dX12_unit_535 : decode cX12_unit 535 = .ok (.iload 4, 2) := by decide +kernel
theorem dX12_unit_537 : decode cX12_unit 537 = .ok (.iload 5, 2) := by decide +kernel
theorem dX12_unit_539 : decode cX12_unit 539 = .ok (.iload 6, 2) := by decide +kernel
theorem dX12_unit_541 : decode cX12_unit 541 = .ok (.invokevirtual 425, 3) := by decide +kernel
theorem dX12_unit_544 : decode cX12_unit 544 = .ok (.return_, 1) := by decide +kernel
theorem dX12_begin_0 : decode cX12_begin 0 = .ok (.aload_n 0, 1) := by decide +kernel
theorem dX12_begin_1 : decode cX12_begin 1 = .ok (.getfield 107, 3) := by decide +kernel
theorem dX12_begin_4 : decode cX12_begin 4 = .ok (.iload_n 1, 1) := by decide +kernel
theorem dX12_begin_5 : decode cX12_begin 5 = .ok (.iaload, 1) := by decide +kernel
theorem dX12_begin_6 : decode cX12_begin 6 = .ok (.iconst 2, 1) := by decide +kernel
theorem dX12_begin_7 : decode cX12_begin 7 = .ok (.if_icmp .ne 13, 3) := by decide +kernel
theorem dX12_begin_10 : decode cX12_begin 10 = .ok (.aload_n 0, 1) := by decide +kernel
theorem dX12_begin_11 : decode cX12_begin 11 = .ok (.getfield 137, 3) := by decide +kernel
theorem dX12_begin_14 : decode cX12_begin 14 = .ok (.iload_n 1, 1) := by decide +kernel
theorem dX12_begin_15 : decode cX12_begin 15 = .ok (.iaload, 1) := by decide +kernel
theorem dX12_begin_16 : decode cX12_begin 16 = .ok (.iload_n 3, 1) := by decide +kernel
theorem dX12_begin_17 : decode cX12_begin 17 = .ok (.if_icmp .eq 63, 3) := by decide +kernel
theorem dX12_begin_20 : decode cX12_begin 20 = .ok (.aload_n 0, 1) := by decide +kernel
theorem dX12_begin_21 : decode cX12_begin 21 = .ok (.getfield 107, 3) := by decide +kernel
theorem dX12_begin_24 : decode cX12_begin 24 = .ok (.iload_n 1, 1) := by decide +kernel
theorem dX12_begin_25 : decode cX12_begin 25 = .ok (.iaload, 1) := by decide +kernel
theorem dX12_begin_26 : decode cX12_begin 26 = .ok (.iconst 2, 1) := by decide +kernel
theorem dX12_begin_27 : decode cX12_begin 27 = .ok (.if_icmp .eq 23, 3) := by decide +kernel
theorem dX12_begin_30 : decode cX12_begin 30 = .ok (.aload_n 0, 1) := by decide +kernel
theorem dX12_begin_31 : decode cX12_begin 31 = .ok (.getfield 107, 3) := by decide +kernel
theorem dX12_begin_34 : decode cX12_begin 34 = .ok (.iload_n 1, 1) := by decide +kernel
theorem dX12_begin_35 : decode cX12_begin 35 = .ok (.iaload, 1) := by decide +kernel
theorem dX12_begin_36 : decode cX12_begin 36 = .ok (.iconst 3, 1) := by decide +kernel
theorem dX12_begin_37 : decode cX12_begin 37 = .ok (.if_icmp .eq 13, 3) := by decide +kernel
theorem dX12_begin_40 : decode cX12_begin 40 = .ok (.aload_n 0, 1) := by decide +kernel
theorem dX12_begin_41 : decode cX12_begin 41 = .ok (.getfield 107, 3) := by decide +kernel
theorem dX12_begin_44 : decode cX12_begin 44 = .ok (.iload_n 1, 1) := by decide +kernel
theorem dX12_begin_45 : decode cX12_begin 45 = .ok (.iaload, 1) := by decide +kernel
theorem dX12_begin_46 : decode cX12_begin 46 = .ok (.iconst 4, 1) := by decide +kernel
theorem dX12_begin_47 : decode cX12_begin 47 = .ok (.if_icmp .ne 7, 3) := by decide +kernel
theorem dX12_begin_50 : decode cX12_begin 50 = .ok (.iconst 1, 1) := by decide +kernel
theorem dX12_begin_51 : decode cX12_begin 51 = .ok (.goto 4, 3) := by decide +kernel
theorem dX12_begin_54 : decode cX12_begin 54 = .ok (.iconst 0, 1) := by decide +kernel
theorem dX12_begin_55 : decode cX12_begin 55 = .ok (.istore 4, 2) := by decide +kernel
theorem dX12_begin_57 : decode cX12_begin 57 = .ok (.aload_n 0, 1) := by decide +kernel
theorem dX12_begin_58 : decode cX12_begin 58 = .ok (.getfield 137, 3) := by decide +kernel
theorem dX12_begin_61 : decode cX12_begin 61 = .ok (.iload_n 1, 1) := by decide +kernel
theorem dX12_begin_62 : decode cX12_begin 62 = .ok (.iload_n 3, 1) := by decide +kernel
theorem dX12_begin_63 : decode cX12_begin 63 = .ok (.iastore, 1) := by decide +kernel
theorem dX12_begin_64 : decode cX12_begin 64 = .ok (.aload_n 0, 1) := by decide +kernel
theorem dX12_begin_65 : decode cX12_begin 65 = .ok (.iload_n 1, 1) := by decide +kernel
theorem dX12_begin_66 : decode cX12_begin 66 = .ok (.iload_n 2, 1) := by decide +kernel
theorem dX12_begin_67 : decode cX12_begin 67 = .ok (.invokevirtual 416, 3) := by decide +kernel
theorem dX12_begin_70 : decode cX12_begin 70 = .ok (.iload 4, 2) := by decide +kernel
theorem dX12_begin_72 : decode cX12_begin 72 = .ok (.ifCond .eq 8, 3) := by decide +kernel
theorem dX12_begin_75 : decode cX12_begin 75 = .ok (.aload_n 0, 1) := by decide +kernel
theorem dX12_begin_76 : decode cX12_begin 76 = .ok (.iload_n 1, 1) := by decide +kernel
theorem dX12_begin_77 : decode cX12_begin 77 = .ok (.invokevirtual 391, 3) := by decide +kernel
theorem dX12_begin_80 : decode cX12_begin 80 = .ok (.aload_n 0, 1) := by decide +kernel
theorem dX12_begin_81 : decode cX12_begin 81 = .ok (.iload_n 1, 1) := by decide +kernel
theorem dX12_begin_82 : decode cX12_begin 82 = .ok (.iconst 2, 1) := by decide +kernel
theorem dX12_begin_83 : decode cX12_begin 83 = .ok (.aload_n 0, 1) := by decide +kernel
theorem dX12_begin_84 : decode cX12_begin 84 = .ok (.getfield 125, 3) := by decide +kernel
theorem dX12_begin_87 : decode cX12_begin 87 = .ok (.iload_n 1, 1) := by decide +kernel
theorem dX12_begin_88 : decode cX12_begin 88 = .ok (.iaload, 1) := by decide +kernel
theorem dX12_begin_89 : decode cX12_begin 89 = .ok (.bipush 8, 2) := by decide +kernel
theorem dX12_begin_91 : decode cX12_begin 91 = .ok (.iadd, 1) := by decide +kernel
theorem dX12_begin_92 : decode cX12_begin 92 = .ok (.iconst 0, 1) := by decide +kernel
theorem dX12_begin_93 : decode cX12_begin 93 = .ok (.invokevirtual 397, 3) := by decide +kernel
theorem dX12_begin_96 : decode cX12_begin 96 = .ok (.return_, 1) := by decide +kernel
theorem dX12_resetCame_0 : decode cX12_resetCame 0 = .ok (.aload_n 0, 1) := by decide +kernel
theorem dX12_resetCame_1 : decode cX12_resetCame 1 = .ok (.getfield 107, 3) := by decide +kernel
theorem dX12_resetCame_4 : decode cX12_resetCame 4 = .ok (.iload_n 1, 1) := by decide +kernel
theorem dX12_resetCame_5 : decode cX12_resetCame 5 = .ok (.iaload, 1) := by decide +kernel
theorem dX12_resetCame_6 : decode cX12_resetCame 6 = .ok (.ifCond .ne 11, 3) := by decide +kernel
theorem dX12_resetCame_9 : decode cX12_resetCame 9 = .ok (.aload_n 0, 1) := by decide +kernel
theorem dX12_resetCame_10 : decode cX12_resetCame 10 = .ok (.iload_n 1, 1) := by decide +kernel
theorem dX12_resetCame_11 : decode cX12_resetCame 11 = .ok (.iconst 3, 1) := by decide +kernel
theorem dX12_resetCame_12 : decode cX12_resetCame 12 = .ok (.iconst 1, 1) := by decide +kernel
theorem dX12_resetCame_13 : decode cX12_resetCame 13 = .ok (.invokevirtual 400, 3) := by decide +kernel
theorem dX12_resetCame_16 : decode cX12_resetCame 16 = .ok (.return_, 1) := by decide +kernel
theorem dX12_resetCame_17 : decode cX12_resetCame 17 = .ok (.aload_n 0, 1) := by decide +kernel
theorem dX12_resetCame_18 : decode cX12_resetCame 18 = .ok (.getfield 107, 3) := by decide +kernel
theorem dX12_resetCame_21 : decode cX12_resetCame 21 = .ok (.iload_n 1, 1) := by decide +kernel
theorem dX12_resetCame_22 : decode cX12_resetCame 22 = .ok (.iaload, 1) := by decide +kernel
theorem dX12_resetCame_23 : decode cX12_resetCame 23 = .ok (.iconst 2, 1) := by decide +kernel
theorem dX12_resetCame_24 : decode cX12_resetCame 24 = .ok (.if_icmp .eq 14, 3) := by decide +kernel
theorem dX12_resetCame_27 : decode cX12_resetCame 27 = .ok (.aload_n 0, 1) := by decide +kernel
theorem dX12_resetCame_28 : decode cX12_resetCame 28 = .ok (.getfield 107, 3) := by decide +kernel
theorem dX12_resetCame_31 : decode cX12_resetCame 31 = .ok (.iload_n 1, 1) := by decide +kernel
theorem dX12_resetCame_32 : decode cX12_resetCame 32 = .ok (.iaload, 1) := by decide +kernel
theorem dX12_resetCame_33 : decode cX12_resetCame 33 = .ok (.iconst 3, 1) := by decide +kernel
theorem dX12_resetCame_34 : decode cX12_resetCame 34 = .ok (.if_icmp .eq 4, 3) := by decide +kernel
theorem dX12_resetCame_37 : decode cX12_resetCame 37 = .ok (.return_, 1) := by decide +kernel
theorem dX12_resetCame_38 : decode cX12_resetCame 38 = .ok (.aload_n 0, 1) := by decide +kernel
theorem dX12_resetCame_39 : decode cX12_resetCame 39 = .ok (.getfield 107, 3) := by decide +kernel
theorem dX12_resetCame_42 : decode cX12_resetCame 42 = .ok (.iload_n 1, 1) := by decide +kernel
theorem dX12_resetCame_43 : decode cX12_resetCame 43 = .ok (.iaload, 1) := by decide +kernel
theorem dX12_resetCame_44 : decode cX12_resetCame 44 = .ok (.iconst 2, 1) := by decide +kernel
theorem dX12_resetCame_45 : decode cX12_resetCame 45 = .ok (.if_icmp .ne 13, 3) := by decide +kernel
theorem dX12_resetCame_48 : decode cX12_resetCame 48 = .ok (.aload_n 0, 1) := by decide +kernel
theorem dX12_resetCame_49 : decode cX12_resetCame 49 = .ok (.getfield 140, 3) := by decide +kernel
theorem dX12_resetCame_52 : decode cX12_resetCame 52 = .ok (.iload_n 1, 1) := by decide +kernel
theorem dX12_resetCame_53 : decode cX12_resetCame 53 = .ok (.iaload, 1) := by decide +kernel
theorem dX12_resetCame_54 : decode cX12_resetCame 54 = .ok (.iload_n 3, 1) := by decide +kernel
theorem dX12_resetCame_55 : decode cX12_resetCame 55 = .ok (.if_icmp .eq 16, 3) := by decide +kernel
theorem dX12_resetCame_58 : decode cX12_resetCame 58 = .ok (.aload_n 0, 1) := by decide +kernel
theorem dX12_resetCame_59 : decode cX12_resetCame 59 = .ok (.getfield 140, 3) := by decide +kernel
theorem dX12_resetCame_62 : decode cX12_resetCame 62 = .ok (.iload_n 1, 1) := by decide +kernel
theorem dX12_resetCame_63 : decode cX12_resetCame 63 = .ok (.iload_n 3, 1) := by decide +kernel
theorem dX12_resetCame_64 : decode cX12_resetCame 64 = .ok (.iastore, 1) := by decide +kernel
theorem dX12_resetCame_65 : decode cX12_resetCame 65 = .ok (.aload_n 0, 1) := by decide +kernel
theorem dX12_resetCame_66 : decode cX12_resetCame 66 = .ok (.iload_n 1, 1) := by decide +kernel
theorem dX12_resetCame_67 : decode cX12_resetCame 67 = .ok (.iload_n 2, 1) := by decide +kernel
theorem dX12_resetCame_68 : decode cX12_resetCame 68 = .ok (.invokevirtual 416, 3) := by decide +kernel
theorem dX12_resetCame_71 : decode cX12_resetCame 71 = .ok (.aload_n 0, 1) := by decide +kernel
theorem dX12_resetCame_72 : decode cX12_resetCame 72 = .ok (.iload_n 1, 1) := by decide +kernel
theorem dX12_resetCame_73 : decode cX12_resetCame 73 = .ok (.iload 4, 2) := by decide +kernel
theorem dX12_resetCame_75 : decode cX12_resetCame 75 = .ok (.aload_n 0, 1) := by decide +kernel
theorem dX12_resetCame_76 : decode cX12_resetCame 76 = .ok (.getfield 125, 3) := by decide +kernel
theorem dX12_resetCame_79 : decode cX12_resetCame 79 = .ok (.iload_n 1, 1) := by decide +kernel
theorem dX12_resetCame_80 : decode cX12_resetCame 80 = .ok (.iaload, 1) := by decide +kernel
theorem dX12_resetCame_81 : decode cX12_resetCame 81 = .ok (.bipush 8, 2) := by decide +kernel
theorem dX12_resetCame_83 : decode cX12_resetCame 83 = .ok (.iadd, 1) := by decide +kernel
theorem dX12_resetCame_84 : decode cX12_resetCame 84 = .ok (.iconst 0, 1) := by decide +kernel
theorem dX12_resetCame_85 : decode cX12_resetCame 85 = .ok (.invokevirtual 397, 3) := by decide +kernel
theorem dX12_resetCame_88 : decode cX12_resetCame 88 = .ok (.return_, 1) := by decide +kernel
theorem dX12_readyUnit_0 : decode cX12_readyUnit 0 = .ok (.iload_n 2, 1) := by decide +kernel
theorem dX12_readyUnit_1 : decode cX12_readyUnit 1 = .ok (.bipush 10, 2) := by decide +kernel
theorem dX12_readyUnit_3 : decode cX12_readyUnit 3 = .ok (.if_icmp .ne 20, 3) := by decide +kernel
theorem dX12_readyUnit_6 : decode cX12_readyUnit 6 = .ok (.iload 4, 2) := by decide +kernel
theorem dX12_readyUnit_8 : decode cX12_readyUnit 8 = .ok (.iconst 2, 1) := by decide +kernel
theorem dX12_readyUnit_9 : decode cX12_readyUnit 9 = .ok (.if_icmp .ne 14, 3) := by decide +kernel
theorem dX12_readyUnit_12 : decode cX12_readyUnit 12 = .ok (.aload_n 0, 1) := by decide +kernel
theorem dX12_readyUnit_13 : decode cX12_readyUnit 13 = .ok (.iload_n 1, 1) := by decide +kernel
theorem dX12_readyUnit_14 : decode cX12_readyUnit 14 = .ok (.iload 5, 2) := by decide +kernel
theorem dX12_readyUnit_16 : decode cX12_readyUnit 16 = .ok (.iload_n 3, 1) := by decide +kernel
theorem dX12_readyUnit_17 : decode cX12_readyUnit 17 = .ok (.invokevirtual 429, 3) := by decide +kernel
theorem dX12_readyUnit_20 : decode cX12_readyUnit 20 = .ok (.goto 55, 3) := by decide +kernel
theorem dX12_readyUnit_23 : decode cX12_readyUnit 23 = .ok (.iload_n 2, 1) := by decide +kernel
theorem dX12_readyUnit_24 : decode cX12_readyUnit 24 = .ok (.bipush 11, 2) := by decide +kernel
theorem dX12_readyUnit_26 : decode cX12_readyUnit 26 = .ok (.if_icmp .ne 29, 3) := by decide +kernel
theorem dX12_readyUnit_29 : decode cX12_readyUnit 29 = .ok (.iload 4, 2) := by decide +kernel
theorem dX12_readyUnit_31 : decode cX12_readyUnit 31 = .ok (.iconst 3, 1) := by decide +kernel
theorem dX12_readyUnit_32 : decode cX12_readyUnit 32 = .ok (.if_icmp .lt 23, 3) := by decide +kernel
theorem dX12_readyUnit_35 : decode cX12_readyUnit 35 = .ok (.iload 4, 2) := by decide +kernel
theorem dX12_readyUnit_37 : decode cX12_readyUnit 37 = .ok (.bipush 15, 2) := by decide +kernel
theorem dX12_readyUnit_39 : decode cX12_readyUnit 39 = .ok (.if_icmp .gt 16, 3) := by decide +kernel
theorem dX12_readyUnit_42 : decode cX12_readyUnit 42 = .ok (.aload_n 0, 1) := by decide +kernel
theorem dX12_readyUnit_43 : decode cX12_readyUnit 43 = .ok (.iload_n 1, 1) := by decide +kernel
theorem dX12_readyUnit_44 : decode cX12_readyUnit 44 = .ok (.iload_n 3, 1) := by decide +kernel
theorem dX12_readyUnit_45 : decode cX12_readyUnit 45 = .ok (.iload 4, 2) := by decide +kernel
theorem dX12_readyUnit_47 : decode cX12_readyUnit 47 = .ok (.iload 5, 2) := by decide +kernel
theorem dX12_readyUnit_49 : decode cX12_readyUnit 49 = .ok (.invokevirtual 432, 3) := by decide +kernel
theorem dX12_readyUnit_52 : decode cX12_readyUnit 52 = .ok (.goto 23, 3) := by decide +kernel
theorem dX12_readyUnit_55 : decode cX12_readyUnit 55 = .ok (.iload_n 2, 1) := by decide +kernel
theorem dX12_readyUnit_56 : decode cX12_readyUnit 56 = .ok (.bipush 12, 2) := by decide +kernel
theorem dX12_readyUnit_58 : decode cX12_readyUnit 58 = .ok (.if_icmp .ne 17, 3) := by decide +kernel
theorem dX12_readyUnit_61 : decode cX12_readyUnit 61 = .ok (.iload 4, 2) := by decide +kernel
theorem dX12_readyUnit_63 : decode cX12_readyUnit 63 = .ok (.iconst 4, 1) := by decide +kernel
theorem dX12_readyUnit_64 : decode cX12_readyUnit 64 = .ok (.if_icmp .ne 11, 3) := by decide +kernel
theorem dX12_readyUnit_67 : decode cX12_readyUnit 67 = .ok (.aload_n 0, 1) := by decide +kernel
theorem dX12_readyUnit_68 : decode cX12_readyUnit 68 = .ok (.iload_n 1, 1) := by decide +kernel
theorem dX12_readyUnit_69 : decode cX12_readyUnit 69 = .ok (.iload_n 3, 1) := by decide +kernel
theorem dX12_readyUnit_70 : decode cX12_readyUnit 70 = .ok (.iload 5, 2) := by decide +kernel
theorem dX12_readyUnit_72 : decode cX12_readyUnit 72 = .ok (.invokevirtual 435, 3) := by decide +kernel
theorem dX12_readyUnit_75 : decode cX12_readyUnit 75 = .ok (.return_, 1) := by decide +kernel
theorem dX12_data_0 : decode cX12_data 0 = .ok (.aload_n 0, 1) := by decide +kernel
theorem dX12_data_1 : decode cX12_data 1 = .ok (.getfield 357, 3) := by decide +kernel
theorem dX12_data_4 : decode cX12_data 4 = .ok (.iconst 4, 1) := by decide +kernel
theorem dX12_data_5 : decode cX12_data 5 = .ok (.isub, 1) := by decide +kernel
theorem dX12_data_6 : decode cX12_data 6 = .ok (.istore_n 3, 1) := by decide +kernel
theorem dX12_data_7 : decode cX12_data 7 = .ok (.iload_n 2, 1) := by decide +kernel
theorem dX12_data_8 : decode cX12_data 8 = .ok (.aload_n 0, 1) := by decide +kernel
theorem dX12_data_9 : decode cX12_data 9 = .ok (.getfield 125, 3) := by decide +kernel
theorem dX12_data_12 : decode cX12_data 12 = .ok (.iload_n 1, 1) := by decide +kernel
theorem dX12_data_13 : decode cX12_data 13 = .ok (.iaload, 1) := by decide +kernel
theorem dX12_data_14 : decode cX12_data 14 = .ok (.if_icmp .ne 63, 3) := by decide +kernel
theorem dX12_data_17 : decode cX12_data 17 = .ok (.aload_n 0, 1) := by decide +kernel
theorem dX12_data_18 : decode cX12_data 18 = .ok (.getfield 125, 3) := by decide +kernel
theorem dX12_data_21 : decode cX12_data 21 = .ok (.iload_n 1, 1) := by decide +kernel
theorem dX12_data_22 : decode cX12_data 22 = .ok (.dup2, 1) := by decide +kernel
theorem dX12_data_23 : decode cX12_data 23 = .ok (.iaload, 1) := by decide +kernel
theorem dX12_data_24 : decode cX12_data 24 = .ok (.iconst 1, 1) := by decide +kernel
theorem dX12_data_25 : decode cX12_data 25 = .ok (.iadd, 1) := by decide +kernel
theorem dX12_data_26 : decode cX12_data 26 = .ok (.iastore, 1) := by decide +kernel
theorem dX12_data_27 : decode cX12_data 27 = .ok (.aload_n 0, 1) := by decide +kernel
theorem dX12_data_28 : decode cX12_data 28 = .ok (.getfield 128, 3) := by decide +kernel
theorem dX12_data_31 : decode cX12_data 31 = .ok (.iload_n 1, 1) := by decide +kernel
theorem dX12_data_32 : decode cX12_data 32 = .ok (.aload_n 0, 1) := by decide +kernel
theorem dX12_data_33 : decode cX12_data 33 = .ok (.getfield 128, 3) := by decide +kernel
theorem dX12_data_36 : decode cX12_data 36 = .ok (.iload_n 1, 1) := by decide +kernel
theorem dX12_data_37 : decode cX12_data 37 = .ok (.iaload, 1) := by decide +kernel
theorem dX12_data_38 : decode cX12_data 38 = .ok (.aload_n 0, 1) := by decide +kernel
theorem dX12_data_39 : decode cX12_data 39 = .ok (.getfield 125, 3) := by decide +kernel
theorem dX12_data_42 : decode cX12_data 42 = .ok (.iload_n 1, 1) := by decide +kernel
theorem dX12_data_43 : decode cX12_data 43 = .ok (.iaload, 1) := by decide +kernel
theorem dX12_data_44 : decode cX12_data 44 = .ok (.if_icmp .ge 12, 3) := by decide +kernel
theorem dX12_data_47 : decode cX12_data 47 = .ok (.aload_n 0, 1) := by decide +kernel
theorem dX12_data_48 : decode cX12_data 48 = .ok (.getfield 125, 3) := by decide +kernel
theorem dX12_data_51 : decode cX12_data 51 = .ok (.iload_n 1, 1) := by decide +kernel
theorem dX12_data_52 : decode cX12_data 52 = .ok (.iaload, 1) := by decide +kernel
theorem dX12_data_53 : decode cX12_data 53 = .ok (.goto 9, 3) := by decide +kernel
theorem dX12_data_56 : decode cX12_data 56 = .ok (.aload_n 0, 1) := by decide +kernel
theorem dX12_data_57 : decode cX12_data 57 = .ok (.getfield 128, 3) := by decide +kernel
theorem dX12_data_60 : decode cX12_data 60 = .ok (.iload_n 1, 1) := by decide +kernel
theorem dX12_data_61 : decode cX12_data 61 = .ok (.iaload, 1) := by decide +kernel
theorem dX12_data_62 : decode cX12_data 62 = .ok (.iastore, 1) := by decide +kernel
theorem dX12_data_63 : decode cX12_data 63 = .ok (.aload_n 0, 1) := by decide +kernel
theorem dX12_data_64 : decode cX12_data 64 = .ok (.iload_n 1, 1) := by decide +kernel
theorem dX12_data_65 : decode cX12_data 65 = .ok (.iload_n 3, 1) := by decide +kernel
theorem dX12_data_66 : decode cX12_data 66 = .ok (.invokevirtual 438, 3) := by decide +kernel
theorem dX12_data_69 : decode cX12_data 69 = .ok (.aload_n 0, 1) := by decide +kernel
theorem dX12_data_70 : decode cX12_data 70 = .ok (.iload_n 1, 1) := by decide +kernel
theorem dX12_data_71 : decode cX12_data 71 = .ok (.invokevirtual 441, 3) := by decide +kernel
theorem dX12_data_74 : decode cX12_data 74 = .ok (.goto 171, 3) := by decide +kernel
theorem dX12_data_77 : decode cX12_data 77 = .ok (.iload_n 2, 1) := by decide +kernel
theorem dX12_data_78 : decode cX12_data 78 = .ok (.aload_n 0, 1) := by decide +kernel
theorem dX12_data_79 : decode cX12_data 79 = .ok (.getfield 125, 3) := by decide +kernel
theorem dX12_data_82 : decode cX12_data 82 = .ok (.iload_n 1, 1) := by decide +kernel
theorem dX12_data_83 : decode cX12_data 83 = .ok (.iaload, 1) := by decide +kernel
theorem dX12_data_84 : decode cX12_data 84 = .ok (.if_icmp .le 161, 3) := by decide +kernel
theorem dX12_data_87 : decode cX12_data 87 = .ok (.iload_n 2, 1) := by decide +kernel
theorem dX12_data_88 : decode cX12_data 88 = .ok (.aload_n 0, 1) := by decide +kernel
theorem dX12_data_89 : decode cX12_data 89 = .ok (.getfield 125, 3) := by decide +kernel
theorem dX12_data_92 : decode cX12_data 92 = .ok (.iload_n 1, 1) := by decide +kernel
theorem dX12_data_93 : decode cX12_data 93 = .ok (.iaload, 1) := by decide +kernel
theorem dX12_data_94 : decode cX12_data 94 = .ok (.bipush 8, 2) := by decide +kernel
theorem dX12_data_96 : decode cX12_data 96 = .ok (.iadd, 1) := by decide +kernel
theorem dX12_data_97 : decode cX12_data 97 = .ok (.if_icmp .ge 148, 3) := by decide +kernel
theorem dX12_data_100 : decode cX12_data 100 = .ok (.iload_n 2, 1) := by decide +kernel
theorem dX12_data_101 : decode cX12_data 101 = .ok (.aload_n 0, 1) := by decide +kernel
theorem dX12_data_102 : decode cX12_data 102 = .ok (.getfield 128, 3) := by decide +kernel
theorem dX12_data_105 : decode cX12_data 105 = .ok (.iload_n 1, 1) := by decide +kernel
theorem dX12_data_106 : decode cX12_data 106 = .ok (.iaload, 1) := by decide +kernel
theorem dX12_data_107 : decode cX12_data 107 = .ok (.if_icmp .le 48, 3) := by decide +kernel
theorem dX12_data_110 : decode cX12_data 110 = .ok (.aload_n 0, 1) := by decide +kernel
theorem dX12_data_111 : decode cX12_data 111 = .ok (.invokevirtual 313, 3) := by decide +kernel
theorem dX12_data_114 : decode cX12_data 114 = .ok (.aload_n 0, 1) := by decide +kernel
theorem dX12_data_115 : decode cX12_data 115 = .ok (.aload_n 0, 1) := by decide +kernel
theorem dX12_data_116 : decode cX12_data 116 = .ok (.getfield 128, 3) := by decide +kernel
theorem dX12_data_119 : decode cX12_data 119 = .ok (.iload_n 1, 1) := by decide +kernel
theorem dX12_data_120 : decode cX12_data 120 = .ok (.iaload, 1) := by decide +kernel
theorem dX12_data_121 : decode cX12_data 121 = .ok (.invokevirtual 299, 3) := by decide +kernel
theorem dX12_data_124 : decode cX12_data 124 = .ok (.aload_n 0, 1) := by decide +kernel
theorem dX12_data_125 : decode cX12_data 125 = .ok (.iload_n 2, 1) := by decide +kernel
theorem dX12_data_126 : decode cX12_data 126 = .ok (.invokevirtual 299, 3) := by decide +kernel
theorem dX12_data_129 : decode cX12_data 129 = .ok (.aload_n 0, 1) := by decide +kernel
theorem dX12_data_130 : decode cX12_data 130 = .ok (.aload_n 0, 1) := by decide +kernel
theorem dX12_data_131 : decode cX12_data 131 = .ok (.getfield 125, 3) := by decide +kernel
theorem dX12_data_134 : decode cX12_data 134 = .ok (.iload_n 1, 1) := by decide +kernel
theorem dX12_data_135 : decode cX12_data 135 = .ok (.iaload, 1) := by decide +kernel
theorem dX12_data_136 : decode cX12_data 136 = .ok (.bipush 8, 2) := by decide +kernel
theorem dX12_data_138 : decode cX12_data 138 = .ok (.iadd, 1) := by decide +kernel
theorem dX12_data_139 : decode cX12_data 139 = .ok (.invokevirtual 299, 3) := by decide +kernel
theorem dX12_data_142 : decode cX12_data 142 = .ok (.aload_n 0, 1) := by decide +kernel
theorem dX12_data_143 : decode cX12_data 143 = .ok (.iload_n 1, 1) := by decide +kernel
theorem dX12_data_144 : decode cX12_data 144 = .ok (.bipush 12, 2) := by decide +kernel
theorem dX12_data_146 : decode cX12_data 146 = .ok (.aload_n 0, 1) := by decide +kernel
theorem dX12_data_147 : decode cX12_data 147 = .ok (.getfield 125, 3) := by decide +kernel
theorem dX12_data_150 : decode cX12_data 150 = .ok (.iload_n 1, 1) := by decide +kernel
theorem dX12_data_151 : decode cX12_data 151 = .ok (.iaload, 1) := by decide +kernel
theorem dX12_data_152 : decode cX12_data 152 = .ok (.invokevirtual 316, 3) := by decide +kernel
theorem dX12_data_155 : decode cX12_data 155 = .ok (.aload_n 0, 1) := by decide +kernel
theorem dX12_data_156 : decode cX12_data 156 = .ok (.getfield 128, 3) := by decide +kernel
theorem dX12_data_159 : decode cX12_data 159 = .ok (.iload_n 1, 1) := by decide +kernel
theorem dX12_data_160 : decode cX12_data 160 = .ok (.iload_n 2, 1) := by decide +kernel
theorem dX12_data_161 : decode cX12_data 161 = .ok (.aload_n 0, 1) := by decide +kernel
theorem dX12_data_162 : decode cX12_data 162 = .ok (.getfield 128, 3) := by decide +kernel
theorem dX12_data_165 : decode cX12_data 165 = .ok (.iload_n 1, 1) := by decide +kernel
theorem dX12_data_166 : decode cX12_data 166 = .ok (.iaload, 1) := by decide +kernel
theorem dX12_data_167 : decode cX12_data 167 = .ok (.if_icmp .lt 9, 3) := by decide +kernel
theorem dX12_data_170 : decode cX12_data 170 = .ok (.iload_n 2, 1) := by decide +kernel
theorem dX12_data_171 : decode cX12_data 171 = .ok (.iconst 1, 1) := by decide +kernel
theorem dX12_data_172 : decode cX12_data 172 = .ok (.iadd, 1) := by decide +kernel
theorem dX12_data_173 : decode cX12_data 173 = .ok (.goto 9, 3) := by decide +kernel
theorem dX12_data_176 : decode cX12_data 176 = .ok (.aload_n 0, 1) := by decide +kernel
theorem dX12_data_177 : decode cX12_data 177 = .ok (.getfield 128, 3) := by decide +kernel
theorem dX12_data_180 : decode cX12_data 180 = .ok (.iload_n 1, 1) := by decide +kernel
theorem dX12_data_181 : decode cX12_data 181 = .ok (.iaload, 1) := by decide +kernel
theorem dX12_data_182 : decode cX12_data 182 = .ok (.iastore, 1) := by decide +kernel
theorem dX12_data_183 : decode cX12_data 183 = .ok (.bipush 8, 2) := by decide +kernel
theorem dX12_data_185 : decode cX12_data 185 = .ok (.iload_n 1, 1) := by decide +kernel
theorem dX12_data_186 : decode cX12_data 186 = .ok (.imul, 1) := by decide +kernel
theorem dX12_data_187 : decode cX12_data 187 = .ok (.iload_n 2, 1) := by decide +kernel
theorem dX12_data_188 : decode cX12_data 188 = .ok (.bipush 8, 2) := by decide +kernel
theorem dX12_data_190 : decode cX12_data 190 = .ok (.irem, 1) := by decide +kernel
theorem dX12_data_191 : decode cX12_data 191 = .ok (.iadd, 1) := by decide +kernel
theorem dX12_data_192 : decode cX12_data 192 = .ok (.istore 4, 2) := by decide +kernel
theorem dX12_data_194 : decode cX12_data 194 = .ok (.aload_n 0, 1) := by decide +kernel
theorem dX12_data_195 : decode cX12_data 195 = .ok (.getfield 189, 3) := by decide +kernel
theorem dX12_data_198 : decode cX12_data 198 = .ok (.iload 4, 2) := by decide +kernel
theorem dX12_data_200 : decode cX12_data 200 = .ok (.iconst 1, 1) := by decide +kernel
theorem dX12_data_201 : decode cX12_data 201 = .ok (.bastore, 1) := by decide +kernel
theorem dX12_data_202 : decode cX12_data 202 = .ok (.aload_n 0, 1) := by decide +kernel
theorem dX12_data_203 : decode cX12_data 203 = .ok (.getfield 186, 3) := by decide +kernel
theorem dX12_data_206 : decode cX12_data 206 = .ok (.iload 4, 2) := by decide +kernel
theorem dX12_data_208 : decode cX12_data 208 = .ok (.iload_n 3, 1) := by decide +kernel
theorem dX12_data_209 : decode cX12_data 209 = .ok (.iastore, 1) := by decide +kernel
theorem dX12_data_210 : decode cX12_data 210 = .ok (.iconst 0, 1) := by decide +kernel
theorem dX12_data_211 : decode cX12_data 211 = .ok (.istore 5, 2) := by decide +kernel
theorem dX12_data_213 : decode cX12_data 213 = .ok (.iload 5, 2) := by decide +kernel
theorem dX12_data_215 : decode cX12_data 215 = .ok (.iload_n 3, 1) := by decide +kernel
theorem dX12_data_216 : decode cX12_data 216 = .ok (.if_icmp .ge 29, 3) := by decide +kernel
theorem dX12_data_219 : decode cX12_data 219 = .ok (.aload_n 0, 1) := by decide +kernel
theorem dX12_data_220 : decode cX12_data 220 = .ok (.getfield 183, 3) := by decide +kernel
theorem dX12_data_223 : decode cX12_data 223 = .ok (.bipush 60, 2) := by decide +kernel
theorem dX12_data_225 : decode cX12_data 225 = .ok (.iload 4, 2) := by decide +kernel
theorem dX12_data_227 : decode cX12_data 227 = .ok (.imul, 1) := by decide +kernel
theorem dX12_data_228 : decode cX12_data 228 = .ok (.iload 5, 2) := by decide +kernel
theorem dX12_data_230 : decode cX12_data 230 = .ok (.iadd, 1) := by decide +kernel
theorem dX12_data_231 : decode cX12_data 231 = .ok (.aload_n 0, 1) := by decide +kernel
theorem dX12_data_232 : decode cX12_data 232 = .ok (.getfield 89, 3) := by decide +kernel
theorem dX12_data_235 : decode cX12_data 235 = .ok (.iload 5, 2) := by decide +kernel
theorem dX12_data_237 : decode cX12_data 237 = .ok (.iaload, 1) := by decide +kernel
theorem dX12_data_238 : decode cX12_data 238 = .ok (.iastore, 1) := by decide +kernel
theorem dX12_data_239 : decode cX12_data 239 = .ok (.iinc 5 1, 3) := by decide +kernel
theorem dX12_data_242 : decode cX12_data 242 = .ok (.goto (-29), 3) := by decide +kernel
theorem dX12_data_245 : decode cX12_data 245 = .ok (.return_, 1) := by decide +kernel
theorem dX12_takeAhead_0 : decode cX12_takeAhead 0 = .ok (.bipush 8, 2) := by decide +kernel
theorem dX12_takeAhead_2 : decode cX12_takeAhead 2 = .ok (.iload_n 1, 1) := by decide +kernel
theorem dX12_takeAhead_3 : decode cX12_takeAhead 3 = .ok (.imul, 1) := by decide +kernel
theorem dX12_takeAhead_4 : decode cX12_takeAhead 4 = .ok (.aload_n 0, 1) := by decide +kernel
theorem dX12_takeAhead_5 : decode cX12_takeAhead 5 = .ok (.getfield 125, 3) := by decide +kernel
theorem dX12_takeAhead_8 : decode cX12_takeAhead 8 = .ok (.iload_n 1, 1) := by decide +kernel
theorem dX12_takeAhead_9 : decode cX12_takeAhead 9 = .ok (.iaload, 1) := by decide +kernel
theorem dX12_takeAhead_10 : decode cX12_takeAhead 10 = .ok (.bipush 8, 2) := by decide +kernel
theorem dX12_takeAhead_12 : decode cX12_takeAhead 12 = .ok (.irem, 1) := by decide +kernel
theorem dX12_takeAhead_13 : decode cX12_takeAhead 13 = .ok (.iadd, 1) := by decide +kernel
theorem dX12_takeAhead_14 : decode cX12_takeAhead 14 = .ok (.istore_n 2, 1) := by decide +kernel
theorem dX12_takeAhead_15 : decode cX12_takeAhead 15 = .ok (.aload_n 0, 1) := by decide +kernel
theorem dX12_takeAhead_16 : decode cX12_takeAhead 16 = .ok (.getfield 107, 3) := by decide +kernel
theorem dX12_takeAhead_19 : decode cX12_takeAhead 19 = .ok (.iload_n 1, 1) := by decide +kernel
theorem dX12_takeAhead_20 : decode cX12_takeAhead 20 = .ok (.iaload, 1) := by decide +kernel
theorem dX12_takeAhead_21 : decode cX12_takeAhead 21 = .ok (.iconst 2, 1) := by decide +kernel
theorem dX12_takeAhead_22 : decode cX12_takeAhead 22 = .ok (.if_icmp .ne 129, 3) := by decide +kernel
theorem dX12_takeAhead_25 : decode cX12_takeAhead 25 = .ok (.aload_n 0, 1) := by decide +kernel
theorem dX12_takeAhead_26 : decode cX12_takeAhead 26 = .ok (.getfield 189, 3) := by decide +kernel
theorem dX12_takeAhead_29 : decode cX12_takeAhead 29 = .ok (.iload_n 2, 1) := by decide +kernel
theorem dX12_takeAhead_30 : decode cX12_takeAhead 30 = .ok (.baload, 1) := by decide +kernel
theorem dX12_takeAhead_31 : decode cX12_takeAhead 31 = .ok (.ifCond .eq 120, 3) := by decide +kernel
theorem dX12_takeAhead_34 : decode cX12_takeAhead 34 = .ok (.aload_n 0, 1) := by decide +kernel
theorem dX12_takeAhead_35 : decode cX12_takeAhead 35 = .ok (.getfield 189, 3) := by decide +kernel
theorem dX12_takeAhead_38 : decode cX12_takeAhead 38 = .ok (.iload_n 2, 1) := by decide +kernel
theorem dX12_takeAhead_39 : decode cX12_takeAhead 39 = .ok (.iconst 0, 1) := by decide +kernel
theorem dX12_takeAhead_40 : decode cX12_takeAhead 40 = .ok (.bastore, 1) := by decide +kernel
theorem dX12_takeAhead_41 : decode cX12_takeAhead 41 = .ok (.aload_n 0, 1) := by decide +kernel
theorem dX12_takeAhead_42 : decode cX12_takeAhead 42 = .ok (.getfield 125, 3) := by decide +kernel
theorem dX12_takeAhead_45 : decode cX12_takeAhead 45 = .ok (.iload_n 1, 1) := by decide +kernel
theorem dX12_takeAhead_46 : decode cX12_takeAhead 46 = .ok (.dup2, 1) := by decide +kernel
theorem dX12_takeAhead_47 : decode cX12_takeAhead 47 = .ok (.iaload, 1) := by decide +kernel
theorem dX12_takeAhead_48 : decode cX12_takeAhead 48 = .ok (.iconst 1, 1) := by decide +kernel
theorem dX12_takeAhead_49 : decode cX12_takeAhead 49 = .ok (.iadd, 1) := by decide +kernel
theorem dX12_takeAhead_50 : decode cX12_takeAhead 50 = .ok (.iastore, 1) := by decide +kernel
theorem dX12_takeAhead_51 : decode cX12_takeAhead 51 = .ok (.aload_n 0, 1) := by decide +kernel
theorem dX12_takeAhead_52 : decode cX12_takeAhead 52 = .ok (.getfield 128, 3) := by decide +kernel
theorem dX12_takeAhead_55 : decode cX12_takeAhead 55 = .ok (.iload_n 1, 1) := by decide +kernel
theorem dX12_takeAhead_56 : decode cX12_takeAhead 56 = .ok (.aload_n 0, 1) := by decide +kernel
theorem dX12_takeAhead_57 : decode cX12_takeAhead 57 = .ok (.getfield 128, 3) := by decide +kernel
theorem dX12_takeAhead_60 : decode cX12_takeAhead 60 = .ok (.iload_n 1, 1) := by decide +kernel
theorem dX12_takeAhead_61 : decode cX12_takeAhead 61 = .ok (.iaload, 1) := by decide +kernel
theorem dX12_takeAhead_62 : decode cX12_takeAhead 62 = .ok (.aload_n 0, 1) := by decide +kernel
theorem dX12_takeAhead_63 : decode cX12_takeAhead 63 = .ok (.getfield 125, 3) := by decide +kernel
theorem dX12_takeAhead_66 : decode cX12_takeAhead 66 = .ok (.iload_n 1, 1) := by decide +kernel
theorem dX12_takeAhead_67 : decode cX12_takeAhead 67 = .ok (.iaload, 1) := by decide +kernel
theorem dX12_takeAhead_68 : decode cX12_takeAhead 68 = .ok (.if_icmp .ge 12, 3) := by decide +kernel
theorem dX12_takeAhead_71 : decode cX12_takeAhead 71 = .ok (.aload_n 0, 1) := by decide +kernel
theorem dX12_takeAhead_72 : decode cX12_takeAhead 72 = .ok (.getfield 125, 3) := by decide +kernel
theorem dX12_takeAhead_75 : decode cX12_takeAhead 75 = .ok (.iload_n 1, 1) := by decide +kernel
theorem dX12_takeAhead_76 : decode cX12_takeAhead 76 = .ok (.iaload, 1) := by decide +kernel
theorem dX12_takeAhead_77 : decode cX12_takeAhead 77 = .ok (.goto 9, 3) := by decide +kernel
theorem dX12_takeAhead_80 : decode cX12_takeAhead 80 = .ok (.aload_n 0, 1) := by decide +kernel
theorem dX12_takeAhead_81 : decode cX12_takeAhead 81 = .ok (.getfield 128, 3) := by decide +kernel
theorem dX12_takeAhead_84 : decode cX12_takeAhead 84 = .ok (.iload_n 1, 1) := by decide +kernel
theorem dX12_takeAhead_85 : decode cX12_takeAhead 85 = .ok (.iaload, 1) := by decide +kernel
theorem dX12_takeAhead_86 : decode cX12_takeAhead 86 = .ok (.iastore, 1) := by decide +kernel
theorem dX12_takeAhead_87 : decode cX12_takeAhead 87 = .ok (.iconst 0, 1) := by decide +kernel
theorem dX12_takeAhead_88 : decode cX12_takeAhead 88 = .ok (.istore_n 3, 1) := by decide +kernel
theorem dX12_takeAhead_89 : decode cX12_takeAhead 89 = .ok (.iload_n 3, 1) := by decide +kernel
theorem dX12_takeAhead_90 : decode cX12_takeAhead 90 = .ok (.aload_n 0, 1) := by decide +kernel
theorem dX12_takeAhead_91 : decode cX12_takeAhead 91 = .ok (.getfield 186, 3) := by decide +kernel
theorem dX12_takeAhead_94 : decode cX12_takeAhead 94 = .ok (.iload_n 2, 1) := by decide +kernel
theorem dX12_takeAhead_95 : decode cX12_takeAhead 95 = .ok (.iaload, 1) := by decide +kernel
theorem dX12_takeAhead_96 : decode cX12_takeAhead 96 = .ok (.if_icmp .ge 26, 3) := by decide +kernel
theorem dX12_takeAhead_99 : decode cX12_takeAhead 99 = .ok (.aload_n 0, 1) := by decide +kernel
theorem dX12_takeAhead_100 : decode cX12_takeAhead 100 = .ok (.getfield 89, 3) := by decide +kernel
theorem dX12_takeAhead_103 : decode cX12_takeAhead 103 = .ok (.iload_n 3, 1) := by decide +kernel
theorem dX12_takeAhead_104 : decode cX12_takeAhead 104 = .ok (.aload_n 0, 1) := by decide +kernel
theorem dX12_takeAhead_105 : decode cX12_takeAhead 105 = .ok (.getfield 183, 3) := by decide +kernel
theorem dX12_takeAhead_108 : decode cX12_takeAhead 108 = .ok (.bipush 60, 2) := by decide +kernel
theorem dX12_takeAhead_110 : decode cX12_takeAhead 110 = .ok (.iload_n 2, 1) := by decide +kernel
theorem dX12_takeAhead_111 : decode cX12_takeAhead 111 = .ok (.imul, 1) := by decide +kernel
theorem dX12_takeAhead_112 : decode cX12_takeAhead 112 = .ok (.iload_n 3, 1) := by decide +kernel
theorem dX12_takeAhead_113 : decode cX12_takeAhead 113 = .ok (.iadd, 1) := by decide +kernel
theorem dX12_takeAhead_114 : decode cX12_takeAhead 114 = .ok (.iaload, 1) := by decide +kernel
theorem dX12_takeAhead_115 : decode cX12_takeAhead 115 = .ok (.iastore, 1) := by decide +kernel
theorem dX12_takeAhead_116 : decode cX12_takeAhead 116 = .ok (.iinc 3 1, 3) := by decide +kernel
theorem dX12_takeAhead_119 : decode cX12_takeAhead 119 = .ok (.goto (-30), 3) := by decide +kernel
theorem dX12_takeAhead_122 : decode cX12_takeAhead 122 = .ok (.aload_n 0, 1) := by decide +kernel
theorem dX12_takeAhead_123 : decode cX12_takeAhead 123 = .ok (.iload_n 1, 1) := by decide +kernel
theorem dX12_takeAhead_124 : decode cX12_takeAhead 124 = .ok (.aload_n 0, 1) := by decide +kernel
theorem dX12_takeAhead_125 : decode cX12_takeAhead 125 = .ok (.getfield 186, 3) := by decide +kernel
theorem dX12_takeAhead_128 : decode cX12_takeAhead 128 = .ok (.iload_n 2, 1) := by decide +kernel
theorem dX12_takeAhead_129 : decode cX12_takeAhead 129 = .ok (.iaload, 1) := by decide +kernel
theorem dX12_takeAhead_130 : decode cX12_takeAhead 130 = .ok (.invokevirtual 438, 3) := by decide +kernel
theorem dX12_takeAhead_133 : decode cX12_takeAhead 133 = .ok (.bipush 8, 2) := by decide +kernel
theorem dX12_takeAhead_135 : decode cX12_takeAhead 135 = .ok (.iload_n 1, 1) := by decide +kernel
theorem dX12_takeAhead_136 : decode cX12_takeAhead 136 = .ok (.imul, 1) := by decide +kernel
theorem dX12_takeAhead_137 : decode cX12_takeAhead 137 = .ok (.aload_n 0, 1) := by decide +kernel
theorem dX12_takeAhead_138 : decode cX12_takeAhead 138 = .ok (.getfield 125, 3) := by decide +kernel
theorem dX12_takeAhead_141 : decode cX12_takeAhead 141 = .ok (.iload_n 1, 1) := by decide +kernel
theorem dX12_takeAhead_142 : decode cX12_takeAhead 142 = .ok (.iaload, 1) := by decide +kernel
theorem dX12_takeAhead_143 : decode cX12_takeAhead 143 = .ok (.bipush 8, 2) := by decide +kernel
theorem dX12_takeAhead_145 : decode cX12_takeAhead 145 = .ok (.irem, 1) := by decide +kernel
theorem dX12_takeAhead_146 : decode cX12_takeAhead 146 = .ok (.iadd, 1) := by decide +kernel
theorem dX12_takeAhead_147 : decode cX12_takeAhead 147 = .ok (.istore_n 2, 1) := by decide +kernel
theorem dX12_takeAhead_148 : decode cX12_takeAhead 148 = .ok (.goto (-133), 3) := by decide +kernel
theorem dX12_takeAhead_151 : decode cX12_takeAhead 151 = .ok (.return_, 1) := by decide +kernel
theorem dX12_poll_0 : decode cX12_poll 0 = .ok (.aload_n 0, 1) := by decide +kernel
theorem dX12_poll_1 : decode cX12_poll 1 = .ok (.getfield 125, 3) := by decide +kernel
theorem dX12_poll_4 : decode cX12_poll 4 = .ok (.iload_n 1, 1) := by decide +kernel
theorem dX12_poll_5 : decode cX12_poll 5 = .ok (.iaload, 1) := by decide +kernel
theorem dX12_poll_6 : decode cX12_poll 6 = .ok (.bipush 8, 2) := by decide +kernel
theorem dX12_poll_8 : decode cX12_poll 8 = .ok (.iadd, 1) := by decide +kernel
theorem dX12_poll_9 : decode cX12_poll 9 = .ok (.istore 4, 2) := by decide +kernel
theorem dX12_poll_11 : decode cX12_poll 11 = .ok (.iload_n 3, 1) := by decide +kernel
theorem dX12_poll_12 : decode cX12_poll 12 = .ok (.iload 4, 2) := by decide +kernel
theorem dX12_poll_14 : decode cX12_poll 14 = .ok (.if_icmp .ge 7, 3) := by decide +kernel
theorem dX12_poll_17 : decode cX12_poll 17 = .ok (.iload_n 3, 1) := by decide +kernel
theorem dX12_poll_18 : decode cX12_poll 18 = .ok (.goto 5, 3) := by decide +kernel
theorem dX12_poll_21 : decode cX12_poll 21 = .ok (.iload 4, 2) := by decide +kernel
theorem dX12_poll_23 : decode cX12_poll 23 = .ok (.istore 5, 2) := by decide +kernel
theorem dX12_poll_25 : decode cX12_poll 25 = .ok (.aload_n 0, 1) := by decide +kernel
theorem dX12_poll_26 : decode cX12_poll 26 = .ok (.getfield 128, 3) := by decide +kernel
theorem dX12_poll_29 : decode cX12_poll 29 = .ok (.iload_n 1, 1) := by decide +kernel
theorem dX12_poll_30 : decode cX12_poll 30 = .ok (.aload_n 0, 1) := by decide +kernel
theorem dX12_poll_31 : decode cX12_poll 31 = .ok (.getfield 128, 3) := by decide +kernel
theorem dX12_poll_34 : decode cX12_poll 34 = .ok (.iload_n 1, 1) := by decide +kernel
theorem dX12_poll_35 : decode cX12_poll 35 = .ok (.iaload, 1) := by decide +kernel
theorem dX12_poll_36 : decode cX12_poll 36 = .ok (.iload 5, 2) := by decide +kernel
theorem dX12_poll_38 : decode cX12_poll 38 = .ok (.if_icmp .ge 8, 3) := by decide +kernel
theorem dX12_poll_41 : decode cX12_poll 41 = .ok (.iload 5, 2) := by decide +kernel
theorem dX12_poll_43 : decode cX12_poll 43 = .ok (.goto 9, 3) := by decide +kernel
theorem dX12_poll_46 : decode cX12_poll 46 = .ok (.aload_n 0, 1) := by decide +kernel
theorem dX12_poll_47 : decode cX12_poll 47 = .ok (.getfield 128, 3) := by decide +kernel
theorem dX12_poll_50 : decode cX12_poll 50 = .ok (.iload_n 1, 1) := by decide +kernel
theorem dX12_poll_51 : decode cX12_poll 51 = .ok (.iaload, 1) := by decide +kernel
theorem dX12_poll_52 : decode cX12_poll 52 = .ok (.iastore, 1) := by decide +kernel
theorem dX12_poll_53 : decode cX12_poll 53 = .ok (.aload_n 0, 1) := by decide +kernel
theorem dX12_poll_54 : decode cX12_poll 54 = .ok (.invokevirtual 313, 3) := by decide +kernel
theorem dX12_poll_57 : decode cX12_poll 57 = .ok (.aload_n 0, 1) := by decide +kernel
theorem dX12_poll_58 : decode cX12_poll 58 = .ok (.getfield 125, 3) := by decide +kernel
theorem dX12_poll_61 : decode cX12_poll 61 = .ok (.iload_n 1, 1) := by decide +kernel
theorem dX12_poll_62 : decode cX12_poll 62 = .ok (.iaload, 1) := by decide +kernel
theorem dX12_poll_63 : decode cX12_poll 63 = .ok (.aload_n 0, 1) := by decide +kernel
theorem dX12_poll_64 : decode cX12_poll 64 = .ok (.getfield 128, 3) := by decide +kernel
theorem dX12_poll_67 : decode cX12_poll 67 = .ok (.iload_n 1, 1) := by decide +kernel
theorem dX12_poll_68 : decode cX12_poll 68 = .ok (.iaload, 1) := by decide +kernel
theorem dX12_poll_69 : decode cX12_poll 69 = .ok (.if_icmp .ge 115, 3) := by decide +kernel
theorem dX12_poll_72 : decode cX12_poll 72 = .ok (.iconst 1, 1) := by decide +kernel
theorem dX12_poll_73 : decode cX12_poll 73 = .ok (.istore 6, 2) := by decide +kernel
theorem dX12_poll_75 : decode cX12_poll 75 = .ok (.iconst 1, 1) := by decide +kernel
theorem dX12_poll_76 : decode cX12_poll 76 = .ok (.istore 7, 2) := by decide +kernel
theorem dX12_poll_78 : decode cX12_poll 78 = .ok (.aload_n 0, 1) := by decide +kernel
theorem dX12_poll_79 : decode cX12_poll 79 = .ok (.aload_n 0, 1) := by decide +kernel
theorem dX12_poll_80 : decode cX12_poll 80 = .ok (.getfield 125, 3) := by decide +kernel
theorem dX12_poll_83 : decode cX12_poll 83 = .ok (.iload_n 1, 1) := by decide +kernel
theorem dX12_poll_84 : decode cX12_poll 84 = .ok (.iaload, 1) := by decide +kernel
theorem dX12_poll_85 : decode cX12_poll 85 = .ok (.invokevirtual 299, 3) := by decide +kernel
theorem dX12_poll_88 : decode cX12_poll 88 = .ok (.aload_n 0, 1) := by decide +kernel
theorem dX12_poll_89 : decode cX12_poll 89 = .ok (.getfield 125, 3) := by decide +kernel
theorem dX12_poll_92 : decode cX12_poll 92 = .ok (.iload_n 1, 1) := by decide +kernel
theorem dX12_poll_93 : decode cX12_poll 93 = .ok (.iaload, 1) := by decide +kernel
theorem dX12_poll_94 : decode cX12_poll 94 = .ok (.iconst 1, 1) := by decide +kernel
theorem dX12_poll_95 : decode cX12_poll 95 = .ok (.iadd, 1) := by decide +kernel
theorem dX12_poll_96 : decode cX12_poll 96 = .ok (.istore 8, 2) := by decide +kernel
theorem dX12_poll_98 : decode cX12_poll 98 = .ok (.iload 8, 2) := by decide +kernel
theorem dX12_poll_100 : decode cX12_poll 100 = .ok (.aload_n 0, 1) := by decide +kernel
theorem dX12_poll_101 : decode cX12_poll 101 = .ok (.getfield 128, 3) := by decide +kernel
theorem dX12_poll_104 : decode cX12_poll 104 = .ok (.iload_n 1, 1) := by decide +kernel
theorem dX12_poll_105 : decode cX12_poll 105 = .ok (.iaload, 1) := by decide +kernel
theorem dX12_poll_106 : decode cX12_poll 106 = .ok (.if_icmp .ge 61, 3) := by decide +kernel
theorem dX12_poll_109 : decode cX12_poll 109 = .ok (.iload 6, 2) := by decide +kernel
theorem dX12_poll_111 : decode cX12_poll 111 = .ok (.bipush 12, 2) := by decide +kernel
theorem dX12_poll_113 : decode cX12_poll 113 = .ok (.if_icmp .ge 54, 3) := by decide +kernel
theorem dX12_poll_116 : decode cX12_poll 116 = .ok (.aload_n 0, 1) := by decide +kernel
theorem dX12_poll_117 : decode cX12_poll 117 = .ok (.getfield 189, 3) := by decide +kernel
theorem dX12_poll_120 : decode cX12_poll 120 = .ok (.bipush 8, 2) := by decide +kernel
theorem dX12_poll_122 : decode cX12_poll 122 = .ok (.iload_n 1, 1) := by decide +kernel
theorem dX12_poll_123 : decode cX12_poll 123 = .ok (.imul, 1) := by decide +kernel
theorem dX12_poll_124 : decode cX12_poll 124 = .ok (.iload 8, 2) := by decide +kernel
theorem dX12_poll_126 : decode cX12_poll 126 = .ok (.bipush 8, 2) := by decide +kernel
theorem dX12_poll_128 : decode cX12_poll 128 = .ok (.irem, 1) := by decide +kernel
theorem dX12_poll_129 : decode cX12_poll 129 = .ok (.iadd, 1) := by decide +kernel
theorem dX12_poll_130 : decode cX12_poll 130 = .ok (.baload, 1) := by decide +kernel
theorem dX12_poll_131 : decode cX12_poll 131 = .ok (.ifCond .ne 7, 3) := by decide +kernel
theorem dX12_poll_134 : decode cX12_poll 134 = .ok (.iconst 1, 1) := by decide +kernel
theorem dX12_poll_135 : decode cX12_poll 135 = .ok (.goto 4, 3) := by decide +kernel
theorem dX12_poll_138 : decode cX12_poll 138 = .ok (.iconst 0, 1) := by decide +kernel
theorem dX12_poll_139 : decode cX12_poll 139 = .ok (.istore 9, 2) := by decide +kernel
theorem dX12_poll_141 : decode cX12_poll 141 = .ok (.iload 9, 2) := by decide +kernel
theorem dX12_poll_143 : decode cX12_poll 143 = .ok (.iload 7, 2) := by decide +kernel
theorem dX12_poll_145 : decode cX12_poll 145 = .ok (.if_icmp .eq 16, 3) := by decide +kernel
theorem dX12_poll_148 : decode cX12_poll 148 = .ok (.aload_n 0, 1) := by decide +kernel
theorem dX12_poll_149 : decode cX12_poll 149 = .ok (.iload 8, 2) := by decide +kernel
theorem dX12_poll_151 : decode cX12_poll 151 = .ok (.invokevirtual 299, 3) := by decide +kernel
theorem dX12_poll_154 : decode cX12_poll 154 = .ok (.iinc 6 1, 3) := by decide +kernel
theorem dX12_poll_157 : decode cX12_poll 157 = .ok (.iload 9, 2) := by decide +kernel
theorem dX12_poll_159 : decode cX12_poll 159 = .ok (.istore 7, 2) := by decide +kernel
theorem dX12_poll_161 : decode cX12_poll 161 = .ok (.iinc 8 1, 3) := by decide +kernel
theorem dX12_poll_164 : decode cX12_poll 164 = .ok (.goto (-66), 3) := by decide +kernel
theorem dX12_poll_167 : decode cX12_poll 167 = .ok (.iload 6, 2) := by decide +kernel
theorem dX12_poll_169 : decode cX12_poll 169 = .ok (.bipush 12, 2) := by decide +kernel
theorem dX12_poll_171 : decode cX12_poll 171 = .ok (.if_icmp .ge 13, 3) := by decide +kernel
theorem dX12_poll_174 : decode cX12_poll 174 = .ok (.aload_n 0, 1) := by decide +kernel
theorem dX12_poll_175 : decode cX12_poll 175 = .ok (.aload_n 0, 1) := by decide +kernel
theorem dX12_poll_176 : decode cX12_poll 176 = .ok (.getfield 128, 3) := by decide +kernel
theorem dX12_poll_179 : decode cX12_poll 179 = .ok (.iload_n 1, 1) := by decide +kernel
theorem dX12_poll_180 : decode cX12_poll 180 = .ok (.iaload, 1) := by decide +kernel
theorem dX12_poll_181 : decode cX12_poll 181 = .ok (.invokevirtual 299, 3) := by decide +kernel
theorem dX12_poll_184 : decode cX12_poll 184 = .ok (.aload_n 0, 1) := by decide +kernel
theorem dX12_poll_185 : decode cX12_poll 185 = .ok (.iload_n 2, 1) := by decide +kernel
theorem dX12_poll_186 : decode cX12_poll 186 = .ok (.invokevirtual 299, 3) := by decide +kernel
theorem dX12_poll_189 : decode cX12_poll 189 = .ok (.aload_n 0, 1) := by decide +kernel
theorem dX12_poll_190 : decode cX12_poll 190 = .ok (.iload 4, 2) := by decide +kernel
theorem dX12_poll_192 : decode cX12_poll 192 = .ok (.invokevirtual 299, 3) := by decide +kernel
theorem dX12_poll_195 : decode cX12_poll 195 = .ok (.aload_n 0, 1) := by decide +kernel
theorem dX12_poll_196 : decode cX12_poll 196 = .ok (.iload_n 1, 1) := by decide +kernel
theorem dX12_poll_197 : decode cX12_poll 197 = .ok (.bipush 11, 2) := by decide +kernel
theorem dX12_poll_199 : decode cX12_poll 199 = .ok (.aload_n 0, 1) := by decide +kernel
theorem dX12_poll_200 : decode cX12_poll 200 = .ok (.getfield 125, 3) := by decide +kernel
theorem dX12_poll_203 : decode cX12_poll 203 = .ok (.iload_n 1, 1) := by decide +kernel
theorem dX12_poll_204 : decode cX12_poll 204 = .ok (.iaload, 1) := by decide +kernel
theorem dX12_poll_205 : decode cX12_poll 205 = .ok (.invokevirtual 316, 3) := by decide +kernel
theorem dX12_poll_208 : decode cX12_poll 208 = .ok (.return_, 1) := by decide +kernel
theorem dX12_acknowledge_0 : decode cX12_acknowledge 0 = .ok (.aload_n 0, 1) := by decide +kernel
theorem dX12_acknowledge_1 : decode cX12_acknowledge 1 = .ok (.getfield 113, 3) := by decide +kernel
theorem dX12_acknowledge_4 : decode cX12_acknowledge 4 = .ok (.iload_n 1, 1) := by decide +kernel
theorem dX12_acknowledge_5 : decode cX12_acknowledge 5 = .ok (.iaload, 1) := by decide +kernel
theorem dX12_acknowledge_6 : decode cX12_acknowledge 6 = .ok (.istore_n 3, 1) := by decide +kernel
theorem dX12_acknowledge_7 : decode cX12_acknowledge 7 = .ok (.iload_n 3, 1) := by decide +kernel
theorem dX12_acknowledge_8 : decode cX12_acknowledge 8 = .ok (.iload_n 2, 1) := by decide +kernel
theorem dX12_acknowledge_9 : decode cX12_acknowledge 9 = .ok (.if_icmp .ge 24, 3) := by decide +kernel
theorem dX12_acknowledge_12 : decode cX12_acknowledge 12 = .ok (.aload_n 0, 1) := by decide +kernel
theorem dX12_acknowledge_13 : decode cX12_acknowledge 13 = .ok (.getfield 180, 3) := by decide +kernel
theorem dX12_acknowledge_16 : decode cX12_acknowledge 16 = .ok (.bipush 8, 2) := by decide +kernel
theorem dX12_acknowledge_18 : decode cX12_acknowledge 18 = .ok (.iload_n 1, 1) := by decide +kernel
theorem dX12_acknowledge_19 : decode cX12_acknowledge 19 = .ok (.imul, 1) := by decide +kernel
theorem dX12_acknowledge_20 : decode cX12_acknowledge 20 = .ok (.iload_n 3, 1) := by decide +kernel
theorem dX12_acknowledge_21 : decode cX12_acknowledge 21 = .ok (.bipush 8, 2) := by decide +kernel
theorem dX12_acknowledge_23 : decode cX12_acknowledge 23 = .ok (.irem, 1) := by decide +kernel
theorem dX12_acknowledge_24 : decode cX12_acknowledge 24 = .ok (.iadd, 1) := by decide +kernel
theorem dX12_acknowledge_25 : decode cX12_acknowledge 25 = .ok (.iconst 0, 1) := by decide +kernel
theorem dX12_acknowledge_26 : decode cX12_acknowledge 26 = .ok (.bastore, 1) := by decide +kernel
theorem dX12_acknowledge_27 : decode cX12_acknowledge 27 = .ok (.iinc 3 1, 3) := by decide +kernel
theorem dX12_acknowledge_30 : decode cX12_acknowledge 30 = .ok (.goto (-23), 3) := by decide +kernel
theorem dX12_acknowledge_33 : decode cX12_acknowledge 33 = .ok (.aload_n 0, 1) := by decide +kernel
theorem dX12_acknowledge_34 : decode cX12_acknowledge 34 = .ok (.getfield 113, 3) := by decide +kernel
theorem dX12_acknowledge_37 : decode cX12_acknowledge 37 = .ok (.iload_n 1, 1) := by decide +kernel
theorem dX12_acknowledge_38 : decode cX12_acknowledge 38 = .ok (.iload_n 2, 1) := by decide +kernel
theorem dX12_acknowledge_39 : decode cX12_acknowledge 39 = .ok (.iastore, 1) := by decide +kernel
theorem dX12_acknowledge_40 : decode cX12_acknowledge 40 = .ok (.return_, 1) := by decide +kernel
theorem dX12_status_0 : decode cX12_status 0 = .ok (.iload_n 3, 1) := by decide +kernel
theorem dX12_status_1 : decode cX12_status 1 = .ok (.iconst 3, 1) := by decide +kernel
theorem dX12_status_2 : decode cX12_status 2 = .ok (.isub, 1) := by decide +kernel
theorem dX12_status_3 : decode cX12_status 3 = .ok (.istore 5, 2) := by decide +kernel
theorem dX12_status_5 : decode cX12_status 5 = .ok (.aload_n 0, 1) := by decide +kernel
theorem dX12_status_6 : decode cX12_status 6 = .ok (.iconst 4, 1) := by decide +kernel
theorem dX12_status_7 : decode cX12_status 7 = .ok (.iload 5, 2) := by decide +kernel
theorem dX12_status_9 : decode cX12_status 9 = .ok (.imul, 1) := by decide +kernel
theorem dX12_status_10 : decode cX12_status 10 = .ok (.invokevirtual 406, 3) := by decide +kernel
theorem dX12_status_13 : decode cX12_status 13 = .ok (.istore 6, 2) := by decide +kernel
theorem dX12_status_15 : decode cX12_status 15 = .ok (.iload_n 2, 1) := by decide +kernel
theorem dX12_status_16 : decode cX12_status 16 = .ok (.aload_n 0, 1) := by decide +kernel
theorem dX12_status_17 : decode cX12_status 17 = .ok (.getfield 113, 3) := by decide +kernel
theorem dX12_status_20 : decode cX12_status 20 = .ok (.iload_n 1, 1) := by decide +kernel
theorem dX12_status_21 : decode cX12_status 21 = .ok (.iaload, 1) := by decide +kernel
theorem dX12_status_22 : decode cX12_status 22 = .ok (.if_icmp .lt 39, 3) := by decide +kernel
theorem dX12_status_25 : decode cX12_status 25 = .ok (.iload_n 2, 1) := by decide +kernel
theorem dX12_status_26 : decode cX12_status 26 = .ok (.aload_n 0, 1) := by decide +kernel
theorem dX12_status_27 : decode cX12_status 27 = .ok (.getfield 110, 3) := by decide +kernel
theorem dX12_status_30 : decode cX12_status 30 = .ok (.iload_n 1, 1) := by decide +kernel
theorem dX12_status_31 : decode cX12_status 31 = .ok (.iaload, 1) := by decide +kernel
theorem dX12_status_32 : decode cX12_status 32 = .ok (.if_icmp .gt 29, 3) := by decide +kernel
theorem dX12_status_35 : decode cX12_status 35 = .ok (.iload 6, 2) := by decide +kernel
theorem dX12_status_37 : decode cX12_status 37 = .ok (.aload_n 0, 1) := by decide +kernel
theorem dX12_status_38 : decode cX12_status 38 = .ok (.getfield 122, 3) := by decide +kernel
