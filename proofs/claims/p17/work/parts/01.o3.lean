theorem dX12_status_41 : decode cX12_status 41 = .ok (.iload_n 1, 1) := by decide +kernel
theorem dX12_status_42 : decode cX12_status 42 = .ok (.iaload, 1) := by decide +kernel
theorem dX12_status_43 : decode cX12_status 43 = .ok (.if_icmp .lt 18, 3) := by decide +kernel
theorem dX12_status_46 : decode cX12_status 46 = .ok (.iload 6, 2) := by decide +kernel
theorem dX12_status_48 : decode cX12_status 48 = .ok (.aload_n 0, 1) := by decide +kernel
theorem dX12_status_49 : decode cX12_status 49 = .ok (.getfield 119, 3) := by decide +kernel
theorem dX12_status_52 : decode cX12_status 52 = .ok (.iload_n 1, 1) := by decide +kernel
theorem dX12_status_53 : decode cX12_status 53 = .ok (.iaload, 1) := by decide +kernel
theorem dX12_status_54 : decode cX12_status 54 = .ok (.if_icmp .gt 7, 3) := by decide +kernel
theorem dX12_status_57 : decode cX12_status 57 = .ok (.iconst 1, 1) := by decide +kernel
theorem dX12_status_58 : decode cX12_status 58 = .ok (.goto 4, 3) := by decide +kernel
theorem dX12_status_61 : decode cX12_status 61 = .ok (.iconst 0, 1) := by decide +kernel
theorem dX12_status_62 : decode cX12_status 62 = .ok (.istore 7, 2) := by decide +kernel
theorem dX12_status_64 : decode cX12_status 64 = .ok (.iload_n 2, 1) := by decide +kernel
theorem dX12_status_65 : decode cX12_status 65 = .ok (.iconst 1, 1) := by decide +kernel
theorem dX12_status_66 : decode cX12_status 66 = .ok (.isub, 1) := by decide +kernel
theorem dX12_status_67 : decode cX12_status 67 = .ok (.istore 8, 2) := by decide +kernel
theorem dX12_status_69 : decode cX12_status 69 = .ok (.iconst 0, 1) := by decide +kernel
theorem dX12_status_70 : decode cX12_status 70 = .ok (.istore 9, 2) := by decide +kernel
theorem dX12_status_72 : decode cX12_status 72 = .ok (.iload 9, 2) := by decide +kernel
theorem dX12_status_74 : decode cX12_status 74 = .ok (.iload 5, 2) := by decide +kernel
theorem dX12_status_76 : decode cX12_status 76 = .ok (.if_icmp .ge 53, 3) := by decide +kernel
theorem dX12_status_79 : decode cX12_status 79 = .ok (.aload_n 0, 1) := by decide +kernel
theorem dX12_status_80 : decode cX12_status 80 = .ok (.iconst 4, 1) := by decide +kernel
theorem dX12_status_81 : decode cX12_status 81 = .ok (.iload 9, 2) := by decide +kernel
theorem dX12_status_83 : decode cX12_status 83 = .ok (.imul, 1) := by decide +kernel
theorem dX12_status_84 : decode cX12_status 84 = .ok (.invokevirtual 406, 3) := by decide +kernel
theorem dX12_status_87 : decode cX12_status 87 = .ok (.istore 10, 2) := by decide +kernel
theorem dX12_status_89 : decode cX12_status 89 = .ok (.iload 7, 2) := by decide +kernel
theorem dX12_status_91 : decode cX12_status 91 = .ok (.ifCond .eq 25, 3) := by decide +kernel
theorem dX12_status_94 : decode cX12_status 94 = .ok (.iload 10, 2) := by decide +kernel
theorem dX12_status_96 : decode cX12_status 96 = .ok (.iload 8, 2) := by decide +kernel
theorem dX12_status_98 : decode cX12_status 98 = .ok (.if_icmp .le 18, 3) := by decide +kernel
theorem dX12_status_101 : decode cX12_status 101 = .ok (.iload 10, 2) := by decide +kernel
theorem dX12_status_103 : decode cX12_status 103 = .ok (.aload_n 0, 1) := by decide +kernel
theorem dX12_status_104 : decode cX12_status 104 = .ok (.getfield 110, 3) := by decide +kernel
theorem dX12_status_107 : decode cX12_status 107 = .ok (.iload_n 1, 1) := by decide +kernel
theorem dX12_status_108 : decode cX12_status 108 = .ok (.iaload, 1) := by decide +kernel
theorem dX12_status_109 : decode cX12_status 109 = .ok (.if_icmp .gt 7, 3) := by decide +kernel
theorem dX12_status_112 : decode cX12_status 112 = .ok (.iconst 1, 1) := by decide +kernel
theorem dX12_status_113 : decode cX12_status 113 = .ok (.goto 4, 3) := by decide +kernel
theorem dX12_status_116 : decode cX12_status 116 = .ok (.iconst 0, 1) := by decide +kernel
theorem dX12_status_117 : decode cX12_status 117 = .ok (.istore 7, 2) := by decide +kernel
theorem dX12_status_119 : decode cX12_status 119 = .ok (.iload 10, 2) := by decide +kernel
theorem dX12_status_121 : decode cX12_status 121 = .ok (.istore 8, 2) := by decide +kernel
theorem dX12_status_123 : decode cX12_status 123 = .ok (.iinc 9 1, 3) := by decide +kernel
theorem dX12_status_126 : decode cX12_status 126 = .ok (.goto (-54), 3) := by decide +kernel
theorem dX12_status_129 : decode cX12_status 129 = .ok (.iload 7, 2) := by decide +kernel
theorem dX12_status_131 : decode cX12_status 131 = .ok (.ifCond .ne 10, 3) := by decide +kernel
theorem dX12_status_134 : decode cX12_status 134 = .ok (.aload_n 0, 1) := by decide +kernel
theorem dX12_status_135 : decode cX12_status 135 = .ok (.iload_n 1, 1) := by decide +kernel
theorem dX12_status_136 : decode cX12_status 136 = .ok (.iconst 1, 1) := by decide +kernel
theorem dX12_status_137 : decode cX12_status 137 = .ok (.invokevirtual 444, 3) := by decide +kernel
theorem dX12_status_140 : decode cX12_status 140 = .ok (.return_, 1) := by decide +kernel
theorem dX12_status_141 : decode cX12_status 141 = .ok (.aload_n 0, 1) := by decide +kernel
theorem dX12_status_142 : decode cX12_status 142 = .ok (.iload_n 1, 1) := by decide +kernel
theorem dX12_status_143 : decode cX12_status 143 = .ok (.iload_n 2, 1) := by decide +kernel
theorem dX12_status_144 : decode cX12_status 144 = .ok (.invokevirtual 448, 3) := by decide +kernel
theorem dX12_status_147 : decode cX12_status 147 = .ok (.aload_n 0, 1) := by decide +kernel
theorem dX12_status_148 : decode cX12_status 148 = .ok (.getfield 122, 3) := by decide +kernel
theorem dX12_status_151 : decode cX12_status 151 = .ok (.iload_n 1, 1) := by decide +kernel
theorem dX12_status_152 : decode cX12_status 152 = .ok (.iload 6, 2) := by decide +kernel
theorem dX12_status_154 : decode cX12_status 154 = .ok (.iastore, 1) := by decide +kernel
theorem dX12_status_155 : decode cX12_status 155 = .ok (.aload_n 0, 1) := by decide +kernel
theorem dX12_status_156 : decode cX12_status 156 = .ok (.getfield 116, 3) := by decide +kernel
theorem dX12_status_159 : decode cX12_status 159 = .ok (.iload_n 1, 1) := by decide +kernel
theorem dX12_status_160 : decode cX12_status 160 = .ok (.iload 4, 2) := by decide +kernel
theorem dX12_status_162 : decode cX12_status 162 = .ok (.iastore, 1) := by decide +kernel
theorem dX12_status_163 : decode cX12_status 163 = .ok (.aload_n 0, 1) := by decide +kernel
theorem dX12_status_164 : decode cX12_status 164 = .ok (.getfield 153, 3) := by decide +kernel
theorem dX12_status_167 : decode cX12_status 167 = .ok (.iload_n 1, 1) := by decide +kernel
theorem dX12_status_168 : decode cX12_status 168 = .ok (.aload_n 0, 1) := by decide +kernel
theorem dX12_status_169 : decode cX12_status 169 = .ok (.getfield 378, 3) := by decide +kernel
theorem dX12_status_172 : decode cX12_status 172 = .ok (.iastore, 1) := by decide +kernel
theorem dX12_status_173 : decode cX12_status 173 = .ok (.iconst 0, 1) := by decide +kernel
theorem dX12_status_174 : decode cX12_status 174 = .ok (.istore 9, 2) := by decide +kernel
theorem dX12_status_176 : decode cX12_status 176 = .ok (.iload 9, 2) := by decide +kernel
theorem dX12_status_178 : decode cX12_status 178 = .ok (.iconst 1, 1) := by decide +kernel
theorem dX12_status_179 : decode cX12_status 179 = .ok (.iadd, 1) := by decide +kernel
theorem dX12_status_180 : decode cX12_status 180 = .ok (.iload 5, 2) := by decide +kernel
theorem dX12_status_182 : decode cX12_status 182 = .ok (.if_icmp .ge 90, 3) := by decide +kernel
theorem dX12_status_185 : decode cX12_status 185 = .ok (.aload_n 0, 1) := by decide +kernel
theorem dX12_status_186 : decode cX12_status 186 = .ok (.iconst 4, 1) := by decide +kernel
theorem dX12_status_187 : decode cX12_status 187 = .ok (.iload 9, 2) := by decide +kernel
theorem dX12_status_189 : decode cX12_status 189 = .ok (.imul, 1) := by decide +kernel
theorem dX12_status_190 : decode cX12_status 190 = .ok (.iconst 4, 1) := by decide +kernel
theorem dX12_status_191 : decode cX12_status 191 = .ok (.iadd, 1) := by decide +kernel
theorem dX12_status_192 : decode cX12_status 192 = .ok (.invokevirtual 406, 3) := by decide +kernel
theorem dX12_status_195 : decode cX12_status 195 = .ok (.istore 10, 2) := by decide +kernel
theorem dX12_status_197 : decode cX12_status 197 = .ok (.aload_n 0, 1) := by decide +kernel
theorem dX12_status_198 : decode cX12_status 198 = .ok (.iconst 4, 1) := by decide +kernel
theorem dX12_status_199 : decode cX12_status 199 = .ok (.iload 9, 2) := by decide +kernel
theorem dX12_status_201 : decode cX12_status 201 = .ok (.imul, 1) := by decide +kernel
theorem dX12_status_202 : decode cX12_status 202 = .ok (.invokevirtual 406, 3) := by decide +kernel
theorem dX12_status_205 : decode cX12_status 205 = .ok (.istore 11, 2) := by decide +kernel
theorem dX12_status_207 : decode cX12_status 207 = .ok (.iload 11, 2) := by decide +kernel
theorem dX12_status_209 : decode cX12_status 209 = .ok (.iload 10, 2) := by decide +kernel
theorem dX12_status_211 : decode cX12_status 211 = .ok (.if_icmp .ge 55, 3) := by decide +kernel
theorem dX12_status_214 : decode cX12_status 214 = .ok (.bipush 8, 2) := by decide +kernel
theorem dX12_status_216 : decode cX12_status 216 = .ok (.iload_n 1, 1) := by decide +kernel
theorem dX12_status_217 : decode cX12_status 217 = .ok (.imul, 1) := by decide +kernel
theorem dX12_status_218 : decode cX12_status 218 = .ok (.iload 11, 2) := by decide +kernel
theorem dX12_status_220 : decode cX12_status 220 = .ok (.bipush 8, 2) := by decide +kernel
theorem dX12_status_222 : decode cX12_status 222 = .ok (.irem, 1) := by decide +kernel
theorem dX12_status_223 : decode cX12_status 223 = .ok (.iadd, 1) := by decide +kernel
theorem dX12_status_224 : decode cX12_status 224 = .ok (.istore 12, 2) := by decide +kernel
theorem dX12_status_226 : decode cX12_status 226 = .ok (.aload_n 0, 1) := by decide +kernel
theorem dX12_status_227 : decode cX12_status 227 = .ok (.getfield 180, 3) := by decide +kernel
theorem dX12_status_230 : decode cX12_status 230 = .ok (.iload 12, 2) := by decide +kernel
theorem dX12_status_232 : decode cX12_status 232 = .ok (.aload_n 0, 1) := by decide +kernel
theorem dX12_status_233 : decode cX12_status 233 = .ok (.getfield 180, 3) := by decide +kernel
theorem dX12_status_236 : decode cX12_status 236 = .ok (.iload 12, 2) := by decide +kernel
theorem dX12_status_238 : decode cX12_status 238 = .ok (.baload, 1) := by decide +kernel
theorem dX12_status_239 : decode cX12_status 239 = .ok (.ifCond .ne 15, 3) := by decide +kernel
theorem dX12_status_242 : decode cX12_status 242 = .ok (.aload_n 0, 1) := by decide +kernel
theorem dX12_status_243 : decode cX12_status 243 = .ok (.getfield 177, 3) := by decide +kernel
theorem dX12_status_246 : decode cX12_status 246 = .ok (.iload 12, 2) := by decide +kernel
theorem dX12_status_248 : decode cX12_status 248 = .ok (.iaload, 1) := by decide +kernel
theorem dX12_status_249 : decode cX12_status 249 = .ok (.iload 6, 2) := by decide +kernel
theorem dX12_status_251 : decode cX12_status 251 = .ok (.if_icmp .ge 7, 3) := by decide +kernel
theorem dX12_status_254 : decode cX12_status 254 = .ok (.iconst 1, 1) := by decide +kernel
theorem dX12_status_255 : decode cX12_status 255 = .ok (.goto 4, 3) := by decide +kernel
theorem dX12_status_258 : decode cX12_status 258 = .ok (.iconst 0, 1) := by decide +kernel
theorem dX12_status_259 : decode cX12_status 259 = .ok (.bastore, 1) := by decide +kernel
theorem dX12_status_260 : decode cX12_status 260 = .ok (.iinc 11 1, 3) := by decide +kernel
theorem dX12_status_263 : decode cX12_status 263 = .ok (.goto (-56), 3) := by decide +kernel
theorem dX12_status_266 : decode cX12_status 266 = .ok (.iinc 9 2, 3) := by decide +kernel
theorem dX12_status_269 : decode cX12_status 269 = .ok (.goto (-93), 3) := by decide +kernel
theorem dX12_status_272 : decode cX12_status 272 = .ok (.return_, 1) := by decide +kernel
theorem dX12_gap_0 : decode cX12_gap 0 = .ok (.aload_n 0, 1) := by decide +kernel
theorem dX12_gap_1 : decode cX12_gap 1 = .ok (.iconst 0, 1) := by decide +kernel
theorem dX12_gap_2 : decode cX12_gap 2 = .ok (.invokevirtual 406, 3) := by decide +kernel
theorem dX12_gap_5 : decode cX12_gap 5 = .ok (.istore 4, 2) := by decide +kernel
theorem dX12_gap_7 : decode cX12_gap 7 = .ok (.aload_n 0, 1) := by decide +kernel
theorem dX12_gap_8 : decode cX12_gap 8 = .ok (.iconst 4, 1) := by decide +kernel
theorem dX12_gap_9 : decode cX12_gap 9 = .ok (.invokevirtual 406, 3) := by decide +kernel
theorem dX12_gap_12 : decode cX12_gap 12 = .ok (.istore 5, 2) := by decide +kernel
theorem dX12_gap_14 : decode cX12_gap 14 = .ok (.aload_n 0, 1) := by decide +kernel
theorem dX12_gap_15 : decode cX12_gap 15 = .ok (.getfield 113, 3) := by decide +kernel
theorem dX12_gap_18 : decode cX12_gap 18 = .ok (.iload_n 1, 1) := by decide +kernel
theorem dX12_gap_19 : decode cX12_gap 19 = .ok (.iaload, 1) := by decide +kernel
theorem dX12_gap_20 : decode cX12_gap 20 = .ok (.iload_n 2, 1) := by decide +kernel
theorem dX12_gap_21 : decode cX12_gap 21 = .ok (.if_icmp .gt 31, 3) := by decide +kernel
theorem dX12_gap_24 : decode cX12_gap 24 = .ok (.iload_n 2, 1) := by decide +kernel
theorem dX12_gap_25 : decode cX12_gap 25 = .ok (.iload 4, 2) := by decide +kernel
theorem dX12_gap_27 : decode cX12_gap 27 = .ok (.if_icmp .gt 25, 3) := by decide +kernel
theorem dX12_gap_30 : decode cX12_gap 30 = .ok (.iload 4, 2) := by decide +kernel
theorem dX12_gap_32 : decode cX12_gap 32 = .ok (.iload 5, 2) := by decide +kernel
theorem dX12_gap_34 : decode cX12_gap 34 = .ok (.if_icmp .ge 18, 3) := by decide +kernel
theorem dX12_gap_37 : decode cX12_gap 37 = .ok (.iload 5, 2) := by decide +kernel
theorem dX12_gap_39 : decode cX12_gap 39 = .ok (.aload_n 0, 1) := by decide +kernel
theorem dX12_gap_40 : decode cX12_gap 40 = .ok (.getfield 110, 3) := by decide +kernel
theorem dX12_gap_43 : decode cX12_gap 43 = .ok (.iload_n 1, 1) := by decide +kernel
theorem dX12_gap_44 : decode cX12_gap 44 = .ok (.iaload, 1) := by decide +kernel
theorem dX12_gap_45 : decode cX12_gap 45 = .ok (.if_icmp .gt 7, 3) := by decide +kernel
theorem dX12_gap_48 : decode cX12_gap 48 = .ok (.iconst 1, 1) := by decide +kernel
theorem dX12_gap_49 : decode cX12_gap 49 = .ok (.goto 4, 3) := by decide +kernel
theorem dX12_gap_52 : decode cX12_gap 52 = .ok (.iconst 0, 1) := by decide +kernel
theorem dX12_gap_53 : decode cX12_gap 53 = .ok (.istore 6, 2) := by decide +kernel
theorem dX12_gap_55 : decode cX12_gap 55 = .ok (.iload 6, 2) := by decide +kernel
theorem dX12_gap_57 : decode cX12_gap 57 = .ok (.ifCond .ne 10, 3) := by decide +kernel
theorem dX12_gap_60 : decode cX12_gap 60 = .ok (.aload_n 0, 1) := by decide +kernel
theorem dX12_gap_61 : decode cX12_gap 61 = .ok (.iload_n 1, 1) := by decide +kernel
theorem dX12_gap_62 : decode cX12_gap 62 = .ok (.iconst 1, 1) := by decide +kernel
theorem dX12_gap_63 : decode cX12_gap 63 = .ok (.invokevirtual 444, 3) := by decide +kernel
theorem dX12_gap_66 : decode cX12_gap 66 = .ok (.return_, 1) := by decide +kernel
theorem dX12_gap_67 : decode cX12_gap 67 = .ok (.aload_n 0, 1) := by decide +kernel
theorem dX12_gap_68 : decode cX12_gap 68 = .ok (.iload_n 1, 1) := by decide +kernel
theorem dX12_gap_69 : decode cX12_gap 69 = .ok (.iload_n 2, 1) := by decide +kernel
theorem dX12_gap_70 : decode cX12_gap 70 = .ok (.invokevirtual 448, 3) := by decide +kernel
theorem dX12_gap_73 : decode cX12_gap 73 = .ok (.aload_n 0, 1) := by decide +kernel
theorem dX12_gap_74 : decode cX12_gap 74 = .ok (.getfield 116, 3) := by decide +kernel
theorem dX12_gap_77 : decode cX12_gap 77 = .ok (.iload_n 1, 1) := by decide +kernel
theorem dX12_gap_78 : decode cX12_gap 78 = .ok (.iload_n 3, 1) := by decide +kernel
theorem dX12_gap_79 : decode cX12_gap 79 = .ok (.iastore, 1) := by decide +kernel
theorem dX12_gap_80 : decode cX12_gap 80 = .ok (.iload 4, 2) := by decide +kernel
theorem dX12_gap_82 : decode cX12_gap 82 = .ok (.istore 7, 2) := by decide +kernel
theorem dX12_gap_84 : decode cX12_gap 84 = .ok (.iload 7, 2) := by decide +kernel
theorem dX12_gap_86 : decode cX12_gap 86 = .ok (.iload 5, 2) := by decide +kernel
theorem dX12_gap_88 : decode cX12_gap 88 = .ok (.if_icmp .ge 25, 3) := by decide +kernel
theorem dX12_gap_91 : decode cX12_gap 91 = .ok (.aload_n 0, 1) := by decide +kernel
theorem dX12_gap_92 : decode cX12_gap 92 = .ok (.getfield 180, 3) := by decide +kernel
theorem dX12_gap_95 : decode cX12_gap 95 = .ok (.bipush 8, 2) := by decide +kernel
theorem dX12_gap_97 : decode cX12_gap 97 = .ok (.iload_n 1, 1) := by decide +kernel
theorem dX12_gap_98 : decode cX12_gap 98 = .ok (.imul, 1) := by decide +kernel
theorem dX12_gap_99 : decode cX12_gap 99 = .ok (.iload 7, 2) := by decide +kernel
theorem dX12_gap_101 : decode cX12_gap 101 = .ok (.bipush 8, 2) := by decide +kernel
theorem dX12_gap_103 : decode cX12_gap 103 = .ok (.irem, 1) := by decide +kernel
theorem dX12_gap_104 : decode cX12_gap 104 = .ok (.iadd, 1) := by decide +kernel
theorem dX12_gap_105 : decode cX12_gap 105 = .ok (.iconst 1, 1) := by decide +kernel
theorem dX12_gap_106 : decode cX12_gap 106 = .ok (.bastore, 1) := by decide +kernel
theorem dX12_gap_107 : decode cX12_gap 107 = .ok (.iinc 7 1, 3) := by decide +kernel
theorem dX12_gap_110 : decode cX12_gap 110 = .ok (.goto (-26), 3) := by decide +kernel
theorem dX12_gap_113 : decode cX12_gap 113 = .ok (.return_, 1) := by decide +kernel
theorem dX12_sendPoll_0 : decode cX12_sendPoll 0 = .ok (.aload_n 0, 1) := by decide +kernel
theorem dX12_sendPoll_1 : decode cX12_sendPoll 1 = .ok (.getfield 119, 3) := by decide +kernel
theorem dX12_sendPoll_4 : decode cX12_sendPoll 4 = .ok (.iload_n 1, 1) := by decide +kernel
theorem dX12_sendPoll_5 : decode cX12_sendPoll 5 = .ok (.dup2, 1) := by decide +kernel
theorem dX12_sendPoll_6 : decode cX12_sendPoll 6 = .ok (.iaload, 1) := by decide +kernel
theorem dX12_sendPoll_7 : decode cX12_sendPoll 7 = .ok (.iconst 1, 1) := by decide +kernel
theorem dX12_sendPoll_8 : decode cX12_sendPoll 8 = .ok (.iadd, 1) := by decide +kernel
theorem dX12_sendPoll_9 : decode cX12_sendPoll 9 = .ok (.iastore, 1) := by decide +kernel
theorem dX12_sendPoll_10 : decode cX12_sendPoll 10 = .ok (.aload_n 0, 1) := by decide +kernel
theorem dX12_sendPoll_11 : decode cX12_sendPoll 11 = .ok (.getfield 156, 3) := by decide +kernel
theorem dX12_sendPoll_14 : decode cX12_sendPoll 14 = .ok (.iload_n 1, 1) := by decide +kernel
theorem dX12_sendPoll_15 : decode cX12_sendPoll 15 = .ok (.aload_n 0, 1) := by decide +kernel
theorem dX12_sendPoll_16 : decode cX12_sendPoll 16 = .ok (.getfield 378, 3) := by decide +kernel
theorem dX12_sendPoll_19 : decode cX12_sendPoll 19 = .ok (.iastore, 1) := by decide +kernel
theorem dX12_sendPoll_20 : decode cX12_sendPoll 20 = .ok (.aload_n 0, 1) := by decide +kernel
theorem dX12_sendPoll_21 : decode cX12_sendPoll 21 = .ok (.getfield 159, 3) := by decide +kernel
theorem dX12_sendPoll_24 : decode cX12_sendPoll 24 = .ok (.iload_n 1, 1) := by decide +kernel
theorem dX12_sendPoll_25 : decode cX12_sendPoll 25 = .ok (.iconst 0, 1) := by decide +kernel
theorem dX12_sendPoll_26 : decode cX12_sendPoll 26 = .ok (.iastore, 1) := by decide +kernel
theorem dX12_sendPoll_27 : decode cX12_sendPoll 27 = .ok (.aload_n 0, 1) := by decide +kernel
theorem dX12_sendPoll_28 : decode cX12_sendPoll 28 = .ok (.invokevirtual 313, 3) := by decide +kernel
theorem dX12_sendPoll_31 : decode cX12_sendPoll 31 = .ok (.aload_n 0, 1) := by decide +kernel
theorem dX12_sendPoll_32 : decode cX12_sendPoll 32 = .ok (.aload_n 0, 1) := by decide +kernel
theorem dX12_sendPoll_33 : decode cX12_sendPoll 33 = .ok (.getfield 119, 3) := by decide +kernel
theorem dX12_sendPoll_36 : decode cX12_sendPoll 36 = .ok (.iload_n 1, 1) := by decide +kernel
theorem dX12_sendPoll_37 : decode cX12_sendPoll 37 = .ok (.iaload, 1) := by decide +kernel
theorem dX12_sendPoll_38 : decode cX12_sendPoll 38 = .ok (.invokevirtual 299, 3) := by decide +kernel
theorem dX12_sendPoll_41 : decode cX12_sendPoll 41 = .ok (.aload_n 0, 1) := by decide +kernel
theorem dX12_sendPoll_42 : decode cX12_sendPoll 42 = .ok (.iload_n 1, 1) := by decide +kernel
theorem dX12_sendPoll_43 : decode cX12_sendPoll 43 = .ok (.bipush 10, 2) := by decide +kernel
theorem dX12_sendPoll_45 : decode cX12_sendPoll 45 = .ok (.aload_n 0, 1) := by decide +kernel
theorem dX12_sendPoll_46 : decode cX12_sendPoll 46 = .ok (.getfield 110, 3) := by decide +kernel
theorem dX12_sendPoll_49 : decode cX12_sendPoll 49 = .ok (.iload_n 1, 1) := by decide +kernel
theorem dX12_sendPoll_50 : decode cX12_sendPoll 50 = .ok (.iaload, 1) := by decide +kernel
theorem dX12_sendPoll_51 : decode cX12_sendPoll 51 = .ok (.invokevirtual 316, 3) := by decide +kernel
theorem dX12_sendPoll_54 : decode cX12_sendPoll 54 = .ok (.return_, 1) := by decide +kernel
theorem dX12_sendData_0 : decode cX12_sendData 0 = .ok (.bipush 8, 2) := by decide +kernel
theorem dX12_sendData_2 : decode cX12_sendData 2 = .ok (.iload_n 1, 1) := by decide +kernel
theorem dX12_sendData_3 : decode cX12_sendData 3 = .ok (.imul, 1) := by decide +kernel
theorem dX12_sendData_4 : decode cX12_sendData 4 = .ok (.iload_n 2, 1) := by decide +kernel
theorem dX12_sendData_5 : decode cX12_sendData 5 = .ok (.bipush 8, 2) := by decide +kernel
theorem dX12_sendData_7 : decode cX12_sendData 7 = .ok (.irem, 1) := by decide +kernel
theorem dX12_sendData_8 : decode cX12_sendData 8 = .ok (.iadd, 1) := by decide +kernel
theorem dX12_sendData_9 : decode cX12_sendData 9 = .ok (.istore_n 3, 1) := by decide +kernel
theorem dX12_sendData_10 : decode cX12_sendData 10 = .ok (.aload_n 0, 1) := by decide +kernel
theorem dX12_sendData_11 : decode cX12_sendData 11 = .ok (.getfield 180, 3) := by decide +kernel
theorem dX12_sendData_14 : decode cX12_sendData 14 = .ok (.iload_n 3, 1) := by decide +kernel
theorem dX12_sendData_15 : decode cX12_sendData 15 = .ok (.iconst 0, 1) := by decide +kernel
theorem dX12_sendData_16 : decode cX12_sendData 16 = .ok (.bastore, 1) := by decide +kernel
theorem dX12_sendData_17 : decode cX12_sendData 17 = .ok (.aload_n 0, 1) := by decide +kernel
theorem dX12_sendData_18 : decode cX12_sendData 18 = .ok (.getfield 177, 3) := by decide +kernel
theorem dX12_sendData_21 : decode cX12_sendData 21 = .ok (.iload_n 3, 1) := by decide +kernel
theorem dX12_sendData_22 : decode cX12_sendData 22 = .ok (.aload_n 0, 1) := by decide +kernel
theorem dX12_sendData_23 : decode cX12_sendData 23 = .ok (.getfield 119, 3) := by decide +kernel
theorem dX12_sendData_26 : decode cX12_sendData 26 = .ok (.iload_n 1, 1) := by decide +kernel
theorem dX12_sendData_27 : decode cX12_sendData 27 = .ok (.iaload, 1) := by decide +kernel
theorem dX12_sendData_28 : decode cX12_sendData 28 = .ok (.iastore, 1) := by decide +kernel
theorem dX12_sendData_29 : decode cX12_sendData 29 = .ok (.aload_n 0, 1) := by decide +kernel
theorem dX12_sendData_30 : decode cX12_sendData 30 = .ok (.invokevirtual 313, 3) := by decide +kernel
theorem dX12_sendData_33 : decode cX12_sendData 33 = .ok (.iconst 0, 1) := by decide +kernel
theorem dX12_sendData_34 : decode cX12_sendData 34 = .ok (.istore 4, 2) := by decide +kernel
theorem dX12_sendData_36 : decode cX12_sendData 36 = .ok (.iload 4, 2) := by decide +kernel
theorem dX12_sendData_38 : decode cX12_sendData 38 = .ok (.aload_n 0, 1) := by decide +kernel
theorem dX12_sendData_39 : decode cX12_sendData 39 = .ok (.getfield 174, 3) := by decide +kernel
theorem dX12_sendData_42 : decode cX12_sendData 42 = .ok (.iload_n 3, 1) := by decide +kernel
theorem dX12_sendData_43 : decode cX12_sendData 43 = .ok (.iaload, 1) := by decide +kernel
theorem dX12_sendData_44 : decode cX12_sendData 44 = .ok (.if_icmp .ge 28, 3) := by decide +kernel
theorem dX12_sendData_47 : decode cX12_sendData 47 = .ok (.aload_n 0, 1) := by decide +kernel
theorem dX12_sendData_48 : decode cX12_sendData 48 = .ok (.getfield 29, 3) := by decide +kernel
theorem dX12_sendData_51 : decode cX12_sendData 51 = .ok (.iload 4, 2) := by decide +kernel
theorem dX12_sendData_53 : decode cX12_sendData 53 = .ok (.aload_n 0, 1) := by decide +kernel
theorem dX12_sendData_54 : decode cX12_sendData 54 = .ok (.getfield 171, 3) := by decide +kernel
theorem dX12_sendData_57 : decode cX12_sendData 57 = .ok (.bipush 60, 2) := by decide +kernel
theorem dX12_sendData_59 : decode cX12_sendData 59 = .ok (.iload_n 3, 1) := by decide +kernel
theorem dX12_sendData_60 : decode cX12_sendData 60 = .ok (.imul, 1) := by decide +kernel
theorem dX12_sendData_61 : decode cX12_sendData 61 = .ok (.iload 4, 2) := by decide +kernel
theorem dX12_sendData_63 : decode cX12_sendData 63 = .ok (.iadd, 1) := by decide +kernel
theorem dX12_sendData_64 : decode cX12_sendData 64 = .ok (.iaload, 1) := by decide +kernel
theorem dX12_sendData_65 : decode cX12_sendData 65 = .ok (.iastore, 1) := by decide +kernel
theorem dX12_sendData_66 : decode cX12_sendData 66 = .ok (.iinc 4 1, 3) := by decide +kernel
theorem dX12_sendData_69 : decode cX12_sendData 69 = .ok (.goto (-33), 3) := by decide +kernel
theorem dX12_sendData_72 : decode cX12_sendData 72 = .ok (.aload_n 0, 1) := by decide +kernel
theorem dX12_sendData_73 : decode cX12_sendData 73 = .ok (.aload_n 0, 1) := by decide +kernel
theorem dX12_sendData_74 : decode cX12_sendData 74 = .ok (.getfield 174, 3) := by decide +kernel
theorem dX12_sendData_77 : decode cX12_sendData 77 = .ok (.iload_n 3, 1) := by decide +kernel
theorem dX12_sendData_78 : decode cX12_sendData 78 = .ok (.iaload, 1) := by decide +kernel
theorem dX12_sendData_79 : decode cX12_sendData 79 = .ok (.putfield 279, 3) := by decide +kernel
theorem dX12_sendData_82 : decode cX12_sendData 82 = .ok (.aload_n 0, 1) := by decide +kernel
theorem dX12_sendData_83 : decode cX12_sendData 83 = .ok (.iload_n 1, 1) := by decide +kernel
theorem dX12_sendData_84 : decode cX12_sendData 84 = .ok (.bipush 8, 2) := by decide +kernel
theorem dX12_sendData_86 : decode cX12_sendData 86 = .ok (.iload_n 2, 1) := by decide +kernel
theorem dX12_sendData_87 : decode cX12_sendData 87 = .ok (.invokevirtual 316, 3) := by decide +kernel
theorem dX12_sendData_90 : decode cX12_sendData 90 = .ok (.aload_n 0, 1) := by decide +kernel
theorem dX12_sendData_91 : decode cX12_sendData 91 = .ok (.getfield 159, 3) := by decide +kernel
theorem dX12_sendData_94 : decode cX12_sendData 94 = .ok (.iload_n 1, 1) := by decide +kernel
theorem dX12_sendData_95 : decode cX12_sendData 95 = .ok (.dup2, 1) := by decide +kernel
theorem dX12_sendData_96 : decode cX12_sendData 96 = .ok (.iaload, 1) := by decide +kernel
theorem dX12_sendData_97 : decode cX12_sendData 97 = .ok (.iconst 1, 1) := by decide +kernel
theorem dX12_sendData_98 : decode cX12_sendData 98 = .ok (.iadd, 1) := by decide +kernel
theorem dX12_sendData_99 : decode cX12_sendData 99 = .ok (.iastore, 1) := by decide +kernel
theorem dX12_sendData_100 : decode cX12_sendData 100 = .ok (.aload_n 0, 1) := by decide +kernel
theorem dX12_sendData_101 : decode cX12_sendData 101 = .ok (.getfield 159, 3) := by decide +kernel
theorem dX12_sendData_104 : decode cX12_sendData 104 = .ok (.iload_n 1, 1) := by decide +kernel
theorem dX12_sendData_105 : decode cX12_sendData 105 = .ok (.iaload, 1) := by decide +kernel
theorem dX12_sendData_106 : decode cX12_sendData 106 = .ok (.iconst 5, 1) := by decide +kernel
theorem dX12_sendData_107 : decode cX12_sendData 107 = .ok (.if_icmp .ne 8, 3) := by decide +kernel
theorem dX12_sendData_110 : decode cX12_sendData 110 = .ok (.aload_n 0, 1) := by decide +kernel
theorem dX12_sendData_111 : decode cX12_sendData 111 = .ok (.iload_n 1, 1) := by decide +kernel
theorem dX12_sendData_112 : decode cX12_sendData 112 = .ok (.invokevirtual 451, 3) := by decide +kernel
theorem dX12_sendData_115 : decode cX12_sendData 115 = .ok (.return_, 1) := by decide +kernel
theorem dX12_lineTimers_0 : decode cX12_lineTimers 0 = .ok (.aload_n 0, 1) := by decide +kernel
theorem dX12_lineTimers_1 : decode cX12_lineTimers 1 = .ok (.getfield 107, 3) := by decide +kernel
theorem dX12_lineTimers_4 : decode cX12_lineTimers 4 = .ok (.iload_n 1, 1) := by decide +kernel
theorem dX12_lineTimers_5 : decode cX12_lineTimers 5 = .ok (.iaload, 1) := by decide +kernel
theorem dX12_lineTimers_6 : decode cX12_lineTimers 6 = .ok (.iconst 1, 1) := by decide +kernel
theorem dX12_lineTimers_7 : decode cX12_lineTimers 7 = .ok (.if_icmp .eq 23, 3) := by decide +kernel
theorem dX12_lineTimers_10 : decode cX12_lineTimers 10 = .ok (.aload_n 0, 1) := by decide +kernel
theorem dX12_lineTimers_11 : decode cX12_lineTimers 11 = .ok (.getfield 107, 3) := by decide +kernel
theorem dX12_lineTimers_14 : decode cX12_lineTimers 14 = .ok (.iload_n 1, 1) := by decide +kernel
theorem dX12_lineTimers_15 : decode cX12_lineTimers 15 = .ok (.iaload, 1) := by decide +kernel
theorem dX12_lineTimers_16 : decode cX12_lineTimers 16 = .ok (.iconst 3, 1) := by decide +kernel
theorem dX12_lineTimers_17 : decode cX12_lineTimers 17 = .ok (.if_icmp .eq 13, 3) := by decide +kernel
theorem dX12_lineTimers_20 : decode cX12_lineTimers 20 = .ok (.aload_n 0, 1) := by decide +kernel
theorem dX12_lineTimers_21 : decode cX12_lineTimers 21 = .ok (.getfield 107, 3) := by decide +kernel
theorem dX12_lineTimers_24 : decode cX12_lineTimers 24 = .ok (.iload_n 1, 1) := by decide +kernel
theorem dX12_lineTimers_25 : decode cX12_lineTimers 25 = .ok (.iaload, 1) := by decide +kernel
theorem dX12_lineTimers_26 : decode cX12_lineTimers 26 = .ok (.iconst 4, 1) := by decide +kernel
theorem dX12_lineTimers_27 : decode cX12_lineTimers 27 = .ok (.if_icmp .ne 7, 3) := by decide +kernel
theorem dX12_lineTimers_30 : decode cX12_lineTimers 30 = .ok (.iconst 1, 1) := by decide +kernel
theorem dX12_lineTimers_31 : decode cX12_lineTimers 31 = .ok (.goto 4, 3) := by decide +kernel
theorem dX12_lineTimers_34 : decode cX12_lineTimers 34 = .ok (.iconst 0, 1) := by decide +kernel
theorem dX12_lineTimers_35 : decode cX12_lineTimers 35 = .ok (.istore_n 2, 1) := by decide +kernel
theorem dX12_lineTimers_36 : decode cX12_lineTimers 36 = .ok (.iload_n 2, 1) := by decide +kernel
theorem dX12_lineTimers_37 : decode cX12_lineTimers 37 = .ok (.ifCond .eq 71, 3) := by decide +kernel
theorem dX12_lineTimers_40 : decode cX12_lineTimers 40 = .ok (.aload_n 0, 1) := by decide +kernel
theorem dX12_lineTimers_41 : decode cX12_lineTimers 41 = .ok (.getfield 378, 3) := by decide +kernel
theorem dX12_lineTimers_44 : decode cX12_lineTimers 44 = .ok (.aload_n 0, 1) := by decide +kernel
theorem dX12_lineTimers_45 : decode cX12_lineTimers 45 = .ok (.getfield 143, 3) := by decide +kernel
theorem dX12_lineTimers_48 : decode cX12_lineTimers 48 = .ok (.iload_n 1, 1) := by decide +kernel
theorem dX12_lineTimers_49 : decode cX12_lineTimers 49 = .ok (.iaload, 1) := by decide +kernel
theorem dX12_lineTimers_50 : decode cX12_lineTimers 50 = .ok (.isub, 1) := by decide +kernel
theorem dX12_lineTimers_51 : decode cX12_lineTimers 51 = .ok (.iconst 5, 1) := by decide +kernel
theorem dX12_lineTimers_52 : decode cX12_lineTimers 52 = .ok (.if_icmp .lt 56, 3) := by decide +kernel
theorem dX12_lineTimers_55 : decode cX12_lineTimers 55 = .ok (.aload_n 0, 1) := by decide +kernel
theorem dX12_lineTimers_56 : decode cX12_lineTimers 56 = .ok (.getfield 146, 3) := by decide +kernel
theorem dX12_lineTimers_59 : decode cX12_lineTimers 59 = .ok (.iload_n 1, 1) := by decide +kernel
theorem dX12_lineTimers_60 : decode cX12_lineTimers 60 = .ok (.iaload, 1) := by decide +kernel
theorem dX12_lineTimers_61 : decode cX12_lineTimers 61 = .ok (.iconst 4, 1) := by decide +kernel
theorem dX12_lineTimers_62 : decode cX12_lineTimers 62 = .ok (.if_icmp .ne 18, 3) := by decide +kernel
theorem dX12_lineTimers_65 : decode cX12_lineTimers 65 = .ok (.aload_n 0, 1) := by decide +kernel
theorem dX12_lineTimers_66 : decode cX12_lineTimers 66 = .ok (.iload_n 1, 1) := by decide +kernel
theorem dX12_lineTimers_67 : decode cX12_lineTimers 67 = .ok (.iconst 3, 1) := by decide +kernel
theorem dX12_lineTimers_68 : decode cX12_lineTimers 68 = .ok (.iconst 1, 1) := by decide +kernel
theorem dX12_lineTimers_69 : decode cX12_lineTimers 69 = .ok (.invokevirtual 400, 3) := by decide +kernel
theorem dX12_lineTimers_72 : decode cX12_lineTimers 72 = .ok (.aload_n 0, 1) := by decide +kernel
theorem dX12_lineTimers_73 : decode cX12_lineTimers 73 = .ok (.iload_n 1, 1) := by decide +kernel
theorem dX12_lineTimers_74 : decode cX12_lineTimers 74 = .ok (.invokevirtual 419, 3) := by decide +kernel
theorem dX12_lineTimers_77 : decode cX12_lineTimers 77 = .ok (.goto 115, 3) := by decide +kernel
theorem dX12_lineTimers_80 : decode cX12_lineTimers 80 = .ok (.aload_n 0, 1) := by decide +kernel
theorem dX12_lineTimers_81 : decode cX12_lineTimers 81 = .ok (.getfield 146, 3) := by decide +kernel
theorem dX12_lineTimers_84 : decode cX12_lineTimers 84 = .ok (.iload_n 1, 1) := by decide +kernel
theorem dX12_lineTimers_85 : decode cX12_lineTimers 85 = .ok (.dup2, 1) := by decide +kernel
theorem dX12_lineTimers_86 : decode cX12_lineTimers 86 = .ok (.iaload, 1) := by decide +kernel
theorem dX12_lineTimers_87 : decode cX12_lineTimers 87 = .ok (.iconst 1, 1) := by decide +kernel
theorem dX12_lineTimers_88 : decode cX12_lineTimers 88 = .ok (.iadd, 1) := by decide +kernel
theorem dX12_lineTimers_89 : decode cX12_lineTimers 89 = .ok (.iastore, 1) := by decide +kernel
theorem dX12_lineTimers_90 : decode cX12_lineTimers 90 = .ok (.aload_n 0, 1) := by decide +kernel
theorem dX12_lineTimers_91 : decode cX12_lineTimers 91 = .ok (.getfield 143, 3) := by decide +kernel
theorem dX12_lineTimers_94 : decode cX12_lineTimers 94 = .ok (.iload_n 1, 1) := by decide +kernel
theorem dX12_lineTimers_95 : decode cX12_lineTimers 95 = .ok (.aload_n 0, 1) := by decide +kernel
theorem dX12_lineTimers_96 : decode cX12_lineTimers 96 = .ok (.getfield 378, 3) := by decide +kernel
theorem dX12_lineTimers_99 : decode cX12_lineTimers 99 = .ok (.iastore, 1) := by decide +kernel
theorem dX12_lineTimers_100 : decode cX12_lineTimers 100 = .ok (.aload_n 0, 1) := by decide +kernel
theorem dX12_lineTimers_101 : decode cX12_lineTimers 101 = .ok (.iload_n 1, 1) := by decide +kernel
theorem dX12_lineTimers_102 : decode cX12_lineTimers 102 = .ok (.invokevirtual 394, 3) := by decide +kernel
theorem dX12_lineTimers_105 : decode cX12_lineTimers 105 = .ok (.goto 87, 3) := by decide +kernel
theorem dX12_lineTimers_108 : decode cX12_lineTimers 108 = .ok (.aload_n 0, 1) := by decide +kernel
theorem dX12_lineTimers_109 : decode cX12_lineTimers 109 = .ok (.getfield 107, 3) := by decide +kernel
theorem dX12_lineTimers_112 : decode cX12_lineTimers 112 = .ok (.iload_n 1, 1) := by decide +kernel
theorem dX12_lineTimers_113 : decode cX12_lineTimers 113 = .ok (.iaload, 1) := by decide +kernel
theorem dX12_lineTimers_114 : decode cX12_lineTimers 114 = .ok (.iconst 2, 1) := by decide +kernel
theorem dX12_lineTimers_115 : decode cX12_lineTimers 115 = .ok (.if_icmp .ne 77, 3) := by decide +kernel
theorem dX12_lineTimers_118 : decode cX12_lineTimers 118 = .ok (.aload_n 0, 1) := by decide +kernel
theorem dX12_lineTimers_119 : decode cX12_lineTimers 119 = .ok (.getfield 378, 3) := by decide +kernel
theorem dX12_lineTimers_122 : decode cX12_lineTimers 122 = .ok (.aload_n 0, 1) := by decide +kernel
theorem dX12_lineTimers_123 : decode cX12_lineTimers 123 = .ok (.getfield 156, 3) := by decide +kernel
theorem dX12_lineTimers_126 : decode cX12_lineTimers 126 = .ok (.iload_n 1, 1) := by decide +kernel
theorem dX12_lineTimers_127 : decode cX12_lineTimers 127 = .ok (.iaload, 1) := by decide +kernel
theorem dX12_lineTimers_128 : decode cX12_lineTimers 128 = .ok (.isub, 1) := by decide +kernel
theorem dX12_lineTimers_129 : decode cX12_lineTimers 129 = .ok (.istore_n 3, 1) := by decide +kernel
theorem dX12_lineTimers_130 : decode cX12_lineTimers 130 = .ok (.aload_n 0, 1) := by decide +kernel
theorem dX12_lineTimers_131 : decode cX12_lineTimers 131 = .ok (.getfield 378, 3) := by decide +kernel
theorem dX12_lineTimers_134 : decode cX12_lineTimers 134 = .ok (.aload_n 0, 1) := by decide +kernel
theorem dX12_lineTimers_135 : decode cX12_lineTimers 135 = .ok (.getfield 153, 3) := by decide +kernel
theorem dX12_lineTimers_138 : decode cX12_lineTimers 138 = .ok (.iload_n 1, 1) := by decide +kernel
theorem dX12_lineTimers_139 : decode cX12_lineTimers 139 = .ok (.iaload, 1) := by decide +kernel
theorem dX12_lineTimers_140 : decode cX12_lineTimers 140 = .ok (.isub, 1) := by decide +kernel
theorem dX12_lineTimers_141 : decode cX12_lineTimers 141 = .ok (.bipush 30, 2) := by decide +kernel
theorem dX12_lineTimers_143 : decode cX12_lineTimers 143 = .ok (.if_icmp .lt 18, 3) := by decide +kernel
theorem dX12_lineTimers_146 : decode cX12_lineTimers 146 = .ok (.aload_n 0, 1) := by decide +kernel
theorem dX12_lineTimers_147 : decode cX12_lineTimers 147 = .ok (.iload_n 1, 1) := by decide +kernel
theorem dX12_lineTimers_148 : decode cX12_lineTimers 148 = .ok (.iconst 3, 1) := by decide +kernel
theorem dX12_lineTimers_149 : decode cX12_lineTimers 149 = .ok (.iconst 1, 1) := by decide +kernel
theorem dX12_lineTimers_150 : decode cX12_lineTimers 150 = .ok (.invokevirtual 400, 3) := by decide +kernel
theorem dX12_lineTimers_153 : decode cX12_lineTimers 153 = .ok (.aload_n 0, 1) := by decide +kernel
theorem dX12_lineTimers_154 : decode cX12_lineTimers 154 = .ok (.iload_n 1, 1) := by decide +kernel
theorem dX12_lineTimers_155 : decode cX12_lineTimers 155 = .ok (.invokevirtual 419, 3) := by decide +kernel
theorem dX12_lineTimers_158 : decode cX12_lineTimers 158 = .ok (.goto 34, 3) := by decide +kernel
theorem dX12_lineTimers_161 : decode cX12_lineTimers 161 = .ok (.iload_n 3, 1) := by decide +kernel
theorem dX12_lineTimers_162 : decode cX12_lineTimers 162 = .ok (.bipush 20, 2) := by decide +kernel
theorem dX12_lineTimers_164 : decode cX12_lineTimers 164 = .ok (.if_icmp .ge 23, 3) := by decide +kernel
theorem dX12_lineTimers_167 : decode cX12_lineTimers 167 = .ok (.iload_n 3, 1) := by decide +kernel
theorem dX12_lineTimers_168 : decode cX12_lineTimers 168 = .ok (.iconst 4, 1) := by decide +kernel
theorem dX12_lineTimers_169 : decode cX12_lineTimers 169 = .ok (.if_icmp .lt 23, 3) := by decide +kernel
theorem dX12_lineTimers_172 : decode cX12_lineTimers 172 = .ok (.aload_n 0, 1) := by decide +kernel
theorem dX12_lineTimers_173 : decode cX12_lineTimers 173 = .ok (.getfield 113, 3) := by decide +kernel
theorem dX12_lineTimers_176 : decode cX12_lineTimers 176 = .ok (.iload_n 1, 1) := by decide +kernel
theorem dX12_lineTimers_177 : decode cX12_lineTimers 177 = .ok (.iaload, 1) := by decide +kernel
theorem dX12_lineTimers_178 : decode cX12_lineTimers 178 = .ok (.aload_n 0, 1) := by decide +kernel
theorem dX12_lineTimers_179 : decode cX12_lineTimers 179 = .ok (.getfield 110, 3) := by decide +kernel
theorem dX12_lineTimers_182 : decode cX12_lineTimers 182 = .ok (.iload_n 1, 1) := by decide +kernel
theorem dX12_lineTimers_183 : decode cX12_lineTimers 183 = .ok (.iaload, 1) := by decide +kernel
theorem dX12_lineTimers_184 : decode cX12_lineTimers 184 = .ok (.if_icmp .ge 8, 3) := by decide +kernel
theorem dX12_lineTimers_187 : decode cX12_lineTimers 187 = .ok (.aload_n 0, 1) := by decide +kernel
theorem dX12_lineTimers_188 : decode cX12_lineTimers 188 = .ok (.iload_n 1, 1) := by decide +kernel
theorem dX12_lineTimers_189 : decode cX12_lineTimers 189 = .ok (.invokevirtual 451, 3) := by decide +kernel
theorem dX12_lineTimers_192 : decode cX12_lineTimers 192 = .ok (.return_, 1) := by decide +kernel
theorem dX12_lineTurn_0 : decode cX12_lineTurn 0 = .ok (.aload_n 0, 1) := by decide +kernel
theorem dX12_lineTurn_1 : decode cX12_lineTurn 1 = .ok (.getfield 107, 3) := by decide +kernel
theorem dX12_lineTurn_4 : decode cX12_lineTurn 4 = .ok (.iload_n 1, 1) := by decide +kernel
theorem dX12_lineTurn_5 : decode cX12_lineTurn 5 = .ok (.iaload, 1) := by decide +kernel
theorem dX12_lineTurn_6 : decode cX12_lineTurn 6 = .ok (.ifCond .ne 28, 3) := by decide +kernel
theorem dX12_lineTurn_9 : decode cX12_lineTurn 9 = .ok (.aload_n 0, 1) := by decide +kernel
theorem dX12_lineTurn_10 : decode cX12_lineTurn 10 = .ok (.getfield 168, 3) := by decide +kernel
theorem dX12_lineTurn_13 : decode cX12_lineTurn 13 = .ok (.iload_n 1, 1) := by decide +kernel
theorem dX12_lineTurn_14 : decode cX12_lineTurn 14 = .ok (.iaload, 1) := by decide +kernel
theorem dX12_lineTurn_15 : decode cX12_lineTurn 15 = .ok (.ifCond .le 19, 3) := by decide +kernel
theorem dX12_lineTurn_18 : decode cX12_lineTurn 18 = .ok (.aload_n 0, 1) := by decide +kernel
theorem dX12_lineTurn_19 : decode cX12_lineTurn 19 = .ok (.getfield 134, 3) := by decide +kernel
theorem dX12_lineTurn_22 : decode cX12_lineTurn 22 = .ok (.iload_n 1, 1) := by decide +kernel
theorem dX12_lineTurn_23 : decode cX12_lineTurn 23 = .ok (.dup2, 1) := by decide +kernel
theorem dX12_lineTurn_24 : decode cX12_lineTurn 24 = .ok (.iaload, 1) := by decide +kernel
theorem dX12_lineTurn_25 : decode cX12_lineTurn 25 = .ok (.iconst 1, 1) := by decide +kernel
theorem dX12_lineTurn_26 : decode cX12_lineTurn 26 = .ok (.iadd, 1) := by decide +kernel
theorem dX12_lineTurn_27 : decode cX12_lineTurn 27 = .ok (.iastore, 1) := by decide +kernel
theorem dX12_lineTurn_28 : decode cX12_lineTurn 28 = .ok (.aload_n 0, 1) := by decide +kernel
theorem dX12_lineTurn_29 : decode cX12_lineTurn 29 = .ok (.iload_n 1, 1) := by decide +kernel
theorem dX12_lineTurn_30 : decode cX12_lineTurn 30 = .ok (.iconst 1, 1) := by decide +kernel
theorem dX12_lineTurn_31 : decode cX12_lineTurn 31 = .ok (.invokevirtual 403, 3) := by decide +kernel
theorem dX12_lineTurn_34 : decode cX12_lineTurn 34 = .ok (.aload_n 0, 1) := by decide +kernel
theorem dX12_lineTurn_35 : decode cX12_lineTurn 35 = .ok (.getfield 107, 3) := by decide +kernel
theorem dX12_lineTurn_38 : decode cX12_lineTurn 38 = .ok (.iload_n 1, 1) := by decide +kernel
theorem dX12_lineTurn_39 : decode cX12_lineTurn 39 = .ok (.iaload, 1) := by decide +kernel
theorem dX12_lineTurn_40 : decode cX12_lineTurn 40 = .ok (.iconst 2, 1) := by decide +kernel
theorem dX12_lineTurn_41 : decode cX12_lineTurn 41 = .ok (.if_icmp .eq 4, 3) := by decide +kernel
theorem dX12_lineTurn_44 : decode cX12_lineTurn 44 = .ok (.return_, 1) := by decide +kernel
theorem dX12_lineTurn_45 : decode cX12_lineTurn 45 = .ok (.aload_n 0, 1) := by decide +kernel
theorem dX12_lineTurn_46 : decode cX12_lineTurn 46 = .ok (.getfield 113, 3) := by decide +kernel
theorem dX12_lineTurn_49 : decode cX12_lineTurn 49 = .ok (.iload_n 1, 1) := by decide +kernel
theorem dX12_lineTurn_50 : decode cX12_lineTurn 50 = .ok (.iaload, 1) := by decide +kernel
theorem dX12_lineTurn_51 : decode cX12_lineTurn 51 = .ok (.istore_n 2, 1) := by decide +kernel
theorem dX12_lineTurn_52 : decode cX12_lineTurn 52 = .ok (.iload_n 2, 1) := by decide +kernel
theorem dX12_lineTurn_53 : decode cX12_lineTurn 53 = .ok (.aload_n 0, 1) := by decide +kernel
theorem dX12_lineTurn_54 : decode cX12_lineTurn 54 = .ok (.getfield 110, 3) := by decide +kernel
theorem dX12_lineTurn_57 : decode cX12_lineTurn 57 = .ok (.iload_n 1, 1) := by decide +kernel
theorem dX12_lineTurn_58 : decode cX12_lineTurn 58 = .ok (.iaload, 1) := by decide +kernel
theorem dX12_lineTurn_59 : decode cX12_lineTurn 59 = .ok (.if_icmp .ge 32, 3) := by decide +kernel
theorem dX12_lineTurn_62 : decode cX12_lineTurn 62 = .ok (.aload_n 0, 1) := by decide +kernel
theorem dX12_lineTurn_63 : decode cX12_lineTurn 63 = .ok (.getfield 180, 3) := by decide +kernel
theorem dX12_lineTurn_66 : decode cX12_lineTurn 66 = .ok (.bipush 8, 2) := by decide +kernel
theorem dX12_lineTurn_68 : decode cX12_lineTurn 68 = .ok (.iload_n 1, 1) := by decide +kernel
theorem dX12_lineTurn_69 : decode cX12_lineTurn 69 = .ok (.imul, 1) := by decide +kernel
theorem dX12_lineTurn_70 : decode cX12_lineTurn 70 = .ok (.iload_n 2, 1) := by decide +kernel
theorem dX12_lineTurn_71 : decode cX12_lineTurn 71 = .ok (.bipush 8, 2) := by decide +kernel
theorem dX12_lineTurn_73 : decode cX12_lineTurn 73 = .ok (.irem, 1) := by decide +kernel
theorem dX12_lineTurn_74 : decode cX12_lineTurn 74 = .ok (.iadd, 1) := by decide +kernel
theorem dX12_lineTurn_75 : decode cX12_lineTurn 75 = .ok (.baload, 1) := by decide +kernel
theorem dX12_lineTurn_76 : decode cX12_lineTurn 76 = .ok (.ifCond .eq 9, 3) := by decide +kernel
theorem dX12_lineTurn_79 : decode cX12_lineTurn 79 = .ok (.aload_n 0, 1) := by decide +kernel
theorem dX12_lineTurn_80 : decode cX12_lineTurn 80 = .ok (.iload_n 1, 1) := by decide +kernel
theorem dX12_lineTurn_81 : decode cX12_lineTurn 81 = .ok (.iload_n 2, 1) := by decide +kernel
theorem dX12_lineTurn_82 : decode cX12_lineTurn 82 = .ok (.invokevirtual 454, 3) := by decide +kernel
theorem dX12_lineTurn_85 : decode cX12_lineTurn 85 = .ok (.iinc 2 1, 3) := by decide +kernel
theorem dX12_lineTurn_88 : decode cX12_lineTurn 88 = .ok (.goto (-36), 3) := by decide +kernel
theorem dX12_lineTurn_91 : decode cX12_lineTurn 91 = .ok (.aload_n 0, 1) := by decide +kernel
theorem dX12_lineTurn_92 : decode cX12_lineTurn 92 = .ok (.getfield 110, 3) := by decide +kernel
theorem dX12_lineTurn_95 : decode cX12_lineTurn 95 = .ok (.iload_n 1, 1) := by decide +kernel
theorem dX12_lineTurn_96 : decode cX12_lineTurn 96 = .ok (.iaload, 1) := by decide +kernel
theorem dX12_lineTurn_97 : decode cX12_lineTurn 97 = .ok (.aload_n 0, 1) := by decide +kernel
theorem dX12_lineTurn_98 : decode cX12_lineTurn 98 = .ok (.getfield 116, 3) := by decide +kernel
theorem dX12_lineTurn_101 : decode cX12_lineTurn 101 = .ok (.iload_n 1, 1) := by decide +kernel
theorem dX12_lineTurn_102 : decode cX12_lineTurn 102 = .ok (.iaload, 1) := by decide +kernel
theorem dX12_lineTurn_103 : decode cX12_lineTurn 103 = .ok (.if_icmp .ge 114, 3) := by decide +kernel
theorem dX12_lineTurn_106 : decode cX12_lineTurn 106 = .ok (.aload_n 0, 1) := by decide +kernel
theorem dX12_lineTurn_107 : decode cX12_lineTurn 107 = .ok (.getfield 168, 3) := by decide +kernel
theorem dX12_lineTurn_110 : decode cX12_lineTurn 110 = .ok (.iload_n 1, 1) := by decide +kernel
theorem dX12_lineTurn_111 : decode cX12_lineTurn 111 = .ok (.iaload, 1) := by decide +kernel
theorem dX12_lineTurn_112 : decode cX12_lineTurn 112 = .ok (.ifCond .le 105, 3) := by decide +kernel
theorem dX12_lineTurn_115 : decode cX12_lineTurn 115 = .ok (.bipush 8, 2) := by decide +kernel
theorem dX12_lineTurn_117 : decode cX12_lineTurn 117 = .ok (.iload_n 1, 1) := by decide +kernel
theorem dX12_lineTurn_118 : decode cX12_lineTurn 118 = .ok (.imul, 1) := by decide +kernel
theorem dX12_lineTurn_119 : decode cX12_lineTurn 119 = .ok (.aload_n 0, 1) := by decide +kernel
theorem dX12_lineTurn_120 : decode cX12_lineTurn 120 = .ok (.getfield 110, 3) := by decide +kernel
theorem dX12_lineTurn_123 : decode cX12_lineTurn 123 = .ok (.iload_n 1, 1) := by decide +kernel
theorem dX12_lineTurn_124 : decode cX12_lineTurn 124 = .ok (.iaload, 1) := by decide +kernel
theorem dX12_lineTurn_125 : decode cX12_lineTurn 125 = .ok (.bipush 8, 2) := by decide +kernel
theorem dX12_lineTurn_127 : decode cX12_lineTurn 127 = .ok (.irem, 1) := by decide +kernel
theorem dX12_lineTurn_128 : decode cX12_lineTurn 128 = .ok (.iadd, 1) := by decide +kernel
theorem dX12_lineTurn_129 : decode cX12_lineTurn 129 = .ok (.istore_n 2, 1) := by decide +kernel
theorem dX12_lineTurn_130 : decode cX12_lineTurn 130 = .ok (.aload_n 0, 1) := by decide +kernel
theorem dX12_lineTurn_131 : decode cX12_lineTurn 131 = .ok (.getfield 174, 3) := by decide +kernel
theorem dX12_lineTurn_134 : decode cX12_lineTurn 134 = .ok (.iload_n 2, 1) := by decide +kernel
theorem dX12_lineTurn_135 : decode cX12_lineTurn 135 = .ok (.aload_n 0, 1) := by decide +kernel
theorem dX12_lineTurn_136 : decode cX12_lineTurn 136 = .ok (.getfield 165, 3) := by decide +kernel
theorem dX12_lineTurn_139 : decode cX12_lineTurn 139 = .ok (.bipush 10, 2) := by decide +kernel
theorem dX12_lineTurn_141 : decode cX12_lineTurn 141 = .ok (.iload_n 1, 1) := by decide +kernel
theorem dX12_lineTurn_142 : decode cX12_lineTurn 142 = .ok (.imul, 1) := by decide +kernel
theorem dX12_lineTurn_143 : decode cX12_lineTurn 143 = .ok (.iaload, 1) := by decide +kernel
theorem dX12_lineTurn_144 : decode cX12_lineTurn 144 = .ok (.iastore, 1) := by decide +kernel
theorem dX12_lineTurn_145 : decode cX12_lineTurn 145 = .ok (.iconst 0, 1) := by decide +kernel
theorem dX12_lineTurn_146 : decode cX12_lineTurn 146 = .ok (.istore_n 3, 1) := by decide +kernel
theorem dX12_lineTurn_147 : decode cX12_lineTurn 147 = .ok (.iload_n 3, 1) := by decide +kernel
theorem dX12_lineTurn_148 : decode cX12_lineTurn 148 = .ok (.aload_n 0, 1) := by decide +kernel
theorem dX12_lineTurn_149 : decode cX12_lineTurn 149 = .ok (.getfield 174, 3) := by decide +kernel
theorem dX12_lineTurn_152 : decode cX12_lineTurn 152 = .ok (.iload_n 2, 1) := by decide +kernel
theorem dX12_lineTurn_153 : decode cX12_lineTurn 153 = .ok (.iaload, 1) := by decide +kernel
theorem dX12_lineTurn_154 : decode cX12_lineTurn 154 = .ok (.if_icmp .ge 32, 3) := by decide +kernel
theorem dX12_lineTurn_157 : decode cX12_lineTurn 157 = .ok (.aload_n 0, 1) := by decide +kernel
theorem dX12_lineTurn_158 : decode cX12_lineTurn 158 = .ok (.getfield 171, 3) := by decide +kernel
theorem dX12_lineTurn_161 : decode cX12_lineTurn 161 = .ok (.bipush 60, 2) := by decide +kernel
theorem dX12_lineTurn_163 : decode cX12_lineTurn 163 = .ok (.iload_n 2, 1) := by decide +kernel
theorem dX12_lineTurn_164 : decode cX12_lineTurn 164 = .ok (.imul, 1) := by decide +kernel
theorem dX12_lineTurn_165 : decode cX12_lineTurn 165 = .ok (.iload_n 3, 1) := by decide +kernel
theorem dX12_lineTurn_166 : decode cX12_lineTurn 166 = .ok (.iadd, 1) := by decide +kernel
theorem dX12_lineTurn_167 : decode cX12_lineTurn 167 = .ok (.aload_n 0, 1) := by decide +kernel
theorem dX12_lineTurn_168 : decode cX12_lineTurn 168 = .ok (.getfield 162, 3) := by decide +kernel
theorem dX12_lineTurn_171 : decode cX12_lineTurn 171 = .ok (.sipush 600, 3) := by decide +kernel
theorem dX12_lineTurn_174 : decode cX12_lineTurn 174 = .ok (.iload_n 1, 1) := by decide +kernel
theorem dX12_lineTurn_175 : decode cX12_lineTurn 175 = .ok (.imul, 1) := by decide +kernel
theorem dX12_lineTurn_176 : decode cX12_lineTurn 176 = .ok (.iload_n 3, 1) := by decide +kernel
theorem dX12_lineTurn_177 : decode cX12_lineTurn 177 = .ok (.iadd, 1) := by decide +kernel
theorem dX12_lineTurn_178 : decode cX12_lineTurn 178 = .ok (.iaload, 1) := by decide +kernel
theorem dX12_lineTurn_179 : decode cX12_lineTurn 179 = .ok (.iastore, 1) := by decide +kernel
theorem dX12_lineTurn_180 : decode cX12_lineTurn 180 = .ok (.iinc 3 1, 3) := by decide +kernel
theorem dX12_lineTurn_183 : decode cX12_lineTurn 183 = .ok (.goto (-36), 3) := by decide +kernel
theorem dX12_lineTurn_186 : decode cX12_lineTurn 186 = .ok (.aload_n 0, 1) := by decide +kernel
theorem dX12_lineTurn_187 : decode cX12_lineTurn 187 = .ok (.iload_n 1, 1) := by decide +kernel
theorem dX12_lineTurn_188 : decode cX12_lineTurn 188 = .ok (.invokevirtual 457, 3) := by decide +kernel
theorem dX12_lineTurn_191 : decode cX12_lineTurn 191 = .ok (.aload_n 0, 1) := by decide +kernel
theorem dX12_lineTurn_192 : decode cX12_lineTurn 192 = .ok (.getfield 110, 3) := by decide +kernel
theorem dX12_lineTurn_195 : decode cX12_lineTurn 195 = .ok (.iload_n 1, 1) := by decide +kernel
theorem dX12_lineTurn_196 : decode cX12_lineTurn 196 = .ok (.dup2, 1) := by decide +kernel
theorem dX12_lineTurn_197 : decode cX12_lineTurn 197 = .ok (.iaload, 1) := by decide +kernel
theorem dX12_lineTurn_198 : decode cX12_lineTurn 198 = .ok (.iconst 1, 1) := by decide +kernel
theorem dX12_lineTurn_199 : decode cX12_lineTurn 199 = .ok (.iadd, 1) := by decide +kernel
theorem dX12_lineTurn_200 : decode cX12_lineTurn 200 = .ok (.iastore, 1) := by decide +kernel
theorem dX12_lineTurn_201 : decode cX12_lineTurn 201 = .ok (.aload_n 0, 1) := by decide +kernel
theorem dX12_lineTurn_202 : decode cX12_lineTurn 202 = .ok (.iload_n 1, 1) := by decide +kernel
theorem dX12_lineTurn_203 : decode cX12_lineTurn 203 = .ok (.aload_n 0, 1) := by decide +kernel
theorem dX12_lineTurn_204 : decode cX12_lineTurn 204 = .ok (.getfield 110, 3) := by decide +kernel
theorem dX12_lineTurn_207 : decode cX12_lineTurn 207 = .ok (.iload_n 1, 1) := by decide +kernel
theorem dX12_lineTurn_208 : decode cX12_lineTurn 208 = .ok (.iaload, 1) := by decide +kernel
theorem dX12_lineTurn_209 : decode cX12_lineTurn 209 = .ok (.iconst 1, 1) := by decide +kernel
theorem dX12_lineTurn_210 : decode cX12_lineTurn 210 = .ok (.isub, 1) := by decide +kernel
theorem dX12_lineTurn_211 : decode cX12_lineTurn 211 = .ok (.invokevirtual 454, 3) := by decide +kernel
theorem dX12_lineTurn_214 : decode cX12_lineTurn 214 = .ok (.goto (-123), 3) := by decide +kernel
theorem dX12_lineTurn_217 : decode cX12_lineTurn 217 = .ok (.return_, 1) := by decide +kernel
theorem dX12_dropWaiting_0 : decode cX12_dropWaiting 0 = .ok (.aload_n 0, 1) := by decide +kernel
theorem dX12_dropWaiting_1 : decode cX12_dropWaiting 1 = .ok (.getfield 168, 3) := by decide +kernel
theorem dX12_dropWaiting_4 : decode cX12_dropWaiting 4 = .ok (.iload_n 1, 1) := by decide +kernel
theorem dX12_dropWaiting_5 : decode cX12_dropWaiting 5 = .ok (.dup2, 1) := by decide +kernel
theorem dX12_dropWaiting_6 : decode cX12_dropWaiting 6 = .ok (.iaload, 1) := by decide +kernel
theorem dX12_dropWaiting_7 : decode cX12_dropWaiting 7 = .ok (.iconst 1, 1) := by decide +kernel
theorem dX12_dropWaiting_8 : decode cX12_dropWaiting 8 = .ok (.isub, 1) := by decide +kernel
theorem dX12_dropWaiting_9 : decode cX12_dropWaiting 9 = .ok (.iastore, 1) := by decide +kernel
theorem dX12_dropWaiting_10 : decode cX12_dropWaiting 10 = .ok (.iconst 0, 1) := by decide +kernel
theorem dX12_dropWaiting_11 : decode cX12_dropWaiting 11 = .ok (.istore_n 2, 1) := by decide +kernel
theorem dX12_dropWaiting_12 : decode cX12_dropWaiting 12 = .ok (.iload_n 2, 1) := by decide +kernel
theorem dX12_dropWaiting_13 : decode cX12_dropWaiting 13 = .ok (.aload_n 0, 1) := by decide +kernel
theorem dX12_dropWaiting_14 : decode cX12_dropWaiting 14 = .ok (.getfield 168, 3) := by decide +kernel
theorem dX12_dropWaiting_17 : decode cX12_dropWaiting 17 = .ok (.iload_n 1, 1) := by decide +kernel
theorem dX12_dropWaiting_18 : decode cX12_dropWaiting 18 = .ok (.iaload, 1) := by decide +kernel
theorem dX12_dropWaiting_19 : decode cX12_dropWaiting 19 = .ok (.if_icmp .ge 33, 3) := by decide +kernel
theorem dX12_dropWaiting_22 : decode cX12_dropWaiting 22 = .ok (.aload_n 0, 1) := by decide +kernel
theorem dX12_dropWaiting_23 : decode cX12_dropWaiting 23 = .ok (.getfield 165, 3) := by decide +kernel
theorem dX12_dropWaiting_26 : decode cX12_dropWaiting 26 = .ok (.bipush 10, 2) := by decide +kernel
theorem dX12_dropWaiting_28 : decode cX12_dropWaiting 28 = .ok (.iload_n 1, 1) := by decide +kernel
theorem dX12_dropWaiting_29 : decode cX12_dropWaiting 29 = .ok (.imul, 1) := by decide +kernel
theorem dX12_dropWaiting_30 : decode cX12_dropWaiting 30 = .ok (.iload_n 2, 1) := by decide +kernel
theorem dX12_dropWaiting_31 : decode cX12_dropWaiting 31 = .ok (.iadd, 1) := by decide +kernel
theorem dX12_dropWaiting_32 : decode cX12_dropWaiting 32 = .ok (.aload_n 0, 1) := by decide +kernel
theorem dX12_dropWaiting_33 : decode cX12_dropWaiting 33 = .ok (.getfield 165, 3) := by decide +kernel
theorem dX12_dropWaiting_36 : decode cX12_dropWaiting 36 = .ok (.bipush 10, 2) := by decide +kernel
theorem dX12_dropWaiting_38 : decode cX12_dropWaiting 38 = .ok (.iload_n 1, 1) := by decide +kernel
theorem dX12_dropWaiting_39 : decode cX12_dropWaiting 39 = .ok (.imul, 1) := by decide +kernel
theorem dX12_dropWaiting_40 : decode cX12_dropWaiting 40 = .ok (.iload_n 2, 1) := by decide +kernel
theorem dX12_dropWaiting_41 : decode cX12_dropWaiting 41 = .ok (.iadd, 1) := by decide +kernel
theorem dX12_dropWaiting_42 : decode cX12_dropWaiting 42 = .ok (.iconst 1, 1) := by decide +kernel
theorem dX12_dropWaiting_43 : decode cX12_dropWaiting 43 = .ok (.iadd, 1) := by decide +kernel
theorem dX12_dropWaiting_44 : decode cX12_dropWaiting 44 = .ok (.iaload, 1) := by decide +kernel
theorem dX12_dropWaiting_45 : decode cX12_dropWaiting 45 = .ok (.iastore, 1) := by decide +kernel
theorem dX12_dropWaiting_46 : decode cX12_dropWaiting 46 = .ok (.iinc 2 1, 3) := by decide +kernel
theorem dX12_dropWaiting_49 : decode cX12_dropWaiting 49 = .ok (.goto (-37), 3) := by decide +kernel
theorem dX12_dropWaiting_52 : decode cX12_dropWaiting 52 = .ok (.iconst 0, 1) := by decide +kernel
theorem dX12_dropWaiting_53 : decode cX12_dropWaiting 53 = .ok (.istore_n 2, 1) := by decide +kernel
theorem dX12_dropWaiting_54 : decode cX12_dropWaiting 54 = .ok (.iload_n 2, 1) := by decide +kernel
theorem dX12_dropWaiting_55 : decode cX12_dropWaiting 55 = .ok (.bipush 60, 2) := by decide +kernel
theorem dX12_dropWaiting_57 : decode cX12_dropWaiting 57 = .ok (.aload_n 0, 1) := by decide +kernel
theorem dX12_dropWaiting_58 : decode cX12_dropWaiting 58 = .ok (.getfield 168, 3) := by decide +kernel
theorem dX12_dropWaiting_61 : decode cX12_dropWaiting 61 = .ok (.iload_n 1, 1) := by decide +kernel
theorem dX12_dropWaiting_62 : decode cX12_dropWaiting 62 = .ok (.iaload, 1) := by decide +kernel
theorem dX12_dropWaiting_63 : decode cX12_dropWaiting 63 = .ok (.imul, 1) := by decide +kernel
theorem dX12_dropWaiting_64 : decode cX12_dropWaiting 64 = .ok (.if_icmp .ge 36, 3) := by decide +kernel
theorem dX12_dropWaiting_67 : decode cX12_dropWaiting 67 = .ok (.aload_n 0, 1) := by decide +kernel
theorem dX12_dropWaiting_68 : decode cX12_dropWaiting 68 = .ok (.getfield 162, 3) := by decide +kernel
theorem dX12_dropWaiting_71 : decode cX12_dropWaiting 71 = .ok (.sipush 600, 3) := by decide +kernel
theorem dX12_dropWaiting_74 : decode cX12_dropWaiting 74 = .ok (.iload_n 1, 1) := by decide +kernel
theorem dX12_dropWaiting_75 : decode cX12_dropWaiting 75 = .ok (.imul, 1) := by decide +kernel
theorem dX12_dropWaiting_76 : decode cX12_dropWaiting 76 = .ok (.iload_n 2, 1) := by decide +kernel
theorem dX12_dropWaiting_77 : decode cX12_dropWaiting 77 = .ok (.iadd, 1) := by decide +kernel
theorem dX12_dropWaiting_78 : decode cX12_dropWaiting 78 = .ok (.aload_n 0, 1) := by decide +kernel
theorem dX12_dropWaiting_79 : decode cX12_dropWaiting 79 = .ok (.getfield 162, 3) := by decide +kernel
theorem dX12_dropWaiting_82 : decode cX12_dropWaiting 82 = .ok (.sipush 600, 3) := by decide +kernel
theorem dX12_dropWaiting_85 : decode cX12_dropWaiting 85 = .ok (.iload_n 1, 1) := by decide +kernel
theorem dX12_dropWaiting_86 : decode cX12_dropWaiting 86 = .ok (.imul, 1) := by decide +kernel
theorem dX12_dropWaiting_87 : decode cX12_dropWaiting 87 = .ok (.iload_n 2, 1) := by decide +kernel
theorem dX12_dropWaiting_88 : decode cX12_dropWaiting 88 = .ok (.iadd, 1) := by decide +kernel
theorem dX12_dropWaiting_89 : decode cX12_dropWaiting 89 = .ok (.bipush 60, 2) := by decide +kernel
theorem dX12_dropWaiting_91 : decode cX12_dropWaiting 91 = .ok (.iadd, 1) := by decide +kernel
theorem dX12_dropWaiting_92 : decode cX12_dropWaiting 92 = .ok (.iaload, 1) := by decide +kernel
theorem dX12_dropWaiting_93 : decode cX12_dropWaiting 93 = .ok (.iastore, 1) := by decide +kernel
theorem dX12_dropWaiting_94 : decode cX12_dropWaiting 94 = .ok (.iinc 2 1, 3) := by decide +kernel
theorem dX12_dropWaiting_97 : decode cX12_dropWaiting 97 = .ok (.goto (-43), 3) := by decide +kernel
theorem dX12_dropWaiting_100 : decode cX12_dropWaiting 100 = .ok (.return_, 1) := by decide +kernel
theorem dX12_isSide_0 : decode cX12_isSide 0 = .ok (.iload_n 1, 1) := by decide +kernel
theorem dX12_isSide_1 : decode cX12_isSide 1 = .ok (.ifCond .lt 17, 3) := by decide +kernel
theorem dX12_isSide_4 : decode cX12_isSide 4 = .ok (.iload_n 1, 1) := by decide +kernel
theorem dX12_isSide_5 : decode cX12_isSide 5 = .ok (.iconst 2, 1) := by decide +kernel
theorem dX12_isSide_6 : decode cX12_isSide 6 = .ok (.aload_n 0, 1) := by decide +kernel
theorem dX12_isSide_7 : decode cX12_isSide 7 = .ok (.getfield 260, 3) := by decide +kernel
theorem dX12_isSide_10 : decode cX12_isSide 10 = .ok (.imul, 1) := by decide +kernel
theorem dX12_isSide_11 : decode cX12_isSide 11 = .ok (.if_icmp .ge 7, 3) := by decide +kernel
theorem dX12_isSide_14 : decode cX12_isSide 14 = .ok (.iconst 1, 1) := by decide +kernel
theorem dX12_isSide_15 : decode cX12_isSide 15 = .ok (.goto 4, 3) := by decide +kernel
theorem dX12_isSide_18 : decode cX12_isSide 18 = .ok (.iconst 0, 1) := by decide +kernel
theorem dX12_isSide_19 : decode cX12_isSide 19 = .ok (.ireturn, 1) := by decide +kernel
theorem dX12_line_0 : decode cX12_line 0 = .ok (.aload_n 0, 1) := by decide +kernel
theorem dX12_line_1 : decode cX12_line 1 = .ok (.iload_n 1, 1) := by decide +kernel
theorem dX12_line_2 : decode cX12_line 2 = .ok (.invokevirtual 460, 3) := by decide +kernel
theorem dX12_line_5 : decode cX12_line 5 = .ok (.ifCond .ne 5, 3) := by decide +kernel
theorem dX12_line_8 : decode cX12_line 8 = .ok (.iconst (-1), 1) := by decide +kernel
theorem dX12_line_9 : decode cX12_line 9 = .ok (.ireturn, 1) := by decide +kernel
theorem dX12_line_10 : decode cX12_line 10 = .ok (.iload_n 2, 1) := by decide +kernel
theorem dX12_line_11 : decode cX12_line 11 = .ok (.tableswitch 151 0 11 #[61, 68, 75, 82, 89, 96, 103, 110, 117, 124, 138, 144], 61) := by decide +kernel
theorem dX12_line_72 : decode cX12_line 72 = .ok (.aload_n 0, 1) := by decide +kernel
theorem dX12_line_73 : decode cX12_line 73 = .ok (.getfield 107, 3) := by decide +kernel
theorem dX12_line_76 : decode cX12_line 76 = .ok (.iload_n 1, 1) := by decide +kernel
theorem dX12_line_77 : decode cX12_line 77 = .ok (.iaload, 1) := by decide +kernel
theorem dX12_line_78 : decode cX12_line 78 = .ok (.ireturn, 1) := by decide +kernel
theorem dX12_line_79 : decode cX12_line 79 = .ok (.aload_n 0, 1) := by decide +kernel
theorem dX12_line_80 : decode cX12_line 80 = .ok (.getfield 110, 3) := by decide +kernel
theorem dX12_line_83 : decode cX12_line 83 = .ok (.iload_n 1, 1) := by decide +kernel
theorem dX12_line_84 : decode cX12_line 84 = .ok (.iaload, 1) := by decide +kernel
theorem dX12_line_85 : decode cX12_line 85 = .ok (.ireturn, 1) := by decide +kernel
theorem dX12_line_86 : decode cX12_line 86 = .ok (.aload_n 0, 1) := by decide +kernel
theorem dX12_line_87 : decode cX12_line 87 = .ok (.getfield 113, 3) := by decide +kernel
theorem dX12_line_90 : decode cX12_line 90 = .ok (.iload_n 1, 1) := by decide +kernel
theorem dX12_line_91 : decode cX12_line 91 = .ok (.iaload, 1) := by decide +kernel
theorem dX12_line_92 : decode cX12_line 92 = .ok (.ireturn, 1) := by decide +kernel
theorem dX12_line_93 : decode cX12_line 93 = .ok (.aload_n 0, 1) := by decide +kernel
theorem dX12_line_94 : decode cX12_line 94 = .ok (.getfield 116, 3) := by decide +kernel
theorem dX12_line_97 : decode cX12_line 97 = .ok (.iload_n 1, 1) := by decide +kernel
theorem dX12_line_98 : decode cX12_line 98 = .ok (.iaload, 1) := by decide +kernel
theorem dX12_line_99 : decode cX12_line 99 = .ok (.ireturn, 1) := by decide +kernel
theorem dX12_line_100 : decode cX12_line 100 = .ok (.aload_n 0, 1) := by decide +kernel
theorem dX12_line_101 : decode cX12_line 101 = .ok (.getfield 119, 3) := by decide +kernel
theorem dX12_line_104 : decode cX12_line 104 = .ok (.iload_n 1, 1) := by decide +kernel
theorem dX12_line_105 : decode cX12_line 105 = .ok (.iaload, 1) := by decide +kernel
theorem dX12_line_106 : decode cX12_line 106 = .ok (.ireturn, 1) := by decide +kernel
theorem dX12_line_107 : decode cX12_line 107 = .ok (.aload_n 0, 1) := by decide +kernel
theorem dX12_line_108 : decode cX12_line 108 = .ok (.getfield 122, 3) := by decide +kernel
theorem dX12_line_111 : decode cX12_line 111 = .ok (.iload_n 1, 1) := by decide +kernel
theorem dX12_line_112 : decode cX12_line 112 = .ok (.iaload, 1) := by decide +kernel
theorem dX12_line_113 : decode cX12_line 113 = .ok (.ireturn, 1) := by decide +kernel
theorem dX12_line_114 : decode cX12_line 114 = .ok (.aload_n 0, 1) := by decide +kernel
theorem dX12_line_115 : decode cX12_line 115 = .ok (.getfield 125, 3) := by decide +kernel
theorem dX12_line_118 : decode cX12_line 118 = .ok (.iload_n 1, 1) := by decide +kernel
theorem dX12_line_119 : decode cX12_line 119 = .ok (.iaload, 1) := by decide +kernel
theorem dX12_line_120 : decode cX12_line 120 = .ok (.ireturn, 1) := by decide +kernel
theorem dX12_line_121 : decode cX12_line 121 = .ok (.aload_n 0, 1) := by decide +kernel
theorem dX12_line_122 : decode cX12_line 122 = .ok (.getfield 128, 3) := by decide +kernel
theorem dX12_line_125 : decode cX12_line 125 = .ok (.iload_n 1, 1) := by decide +kernel
theorem dX12_line_126 : decode cX12_line 126 = .ok (.iaload, 1) := by decide +kernel
theorem dX12_line_127 : decode cX12_line 127 = .ok (.ireturn, 1) := by decide +kernel
theorem dX12_line_128 : decode cX12_line 128 = .ok (.aload_n 0, 1) := by decide +kernel
theorem dX12_line_129 : decode cX12_line 129 = .ok (.getfield 168, 3) := by decide +kernel
theorem dX12_line_132 : decode cX12_line 132 = .ok (.iload_n 1, 1) := by decide +kernel
theorem dX12_line_133 : decode cX12_line 133 = .ok (.iaload, 1) := by decide +kernel
theorem dX12_line_134 : decode cX12_line 134 = .ok (.ireturn, 1) := by decide +kernel
theorem dX12_line_135 : decode cX12_line 135 = .ok (.aload_n 0, 1) := by decide +kernel
theorem dX12_line_136 : decode cX12_line 136 = .ok (.getfield 110, 3) := by decide +kernel
theorem dX12_line_139 : decode cX12_line 139 = .ok (.iload_n 1, 1) := by decide +kernel
theorem dX12_line_140 : decode cX12_line 140 = .ok (.iaload, 1) := by decide +kernel
theorem dX12_line_141 : decode cX12_line 141 = .ok (.aload_n 0, 1) := by decide +kernel
theorem dX12_line_142 : decode cX12_line 142 = .ok (.getfield 113, 3) := by decide +kernel
theorem dX12_line_145 : decode cX12_line 145 = .ok (.iload_n 1, 1) := by decide +kernel
theorem dX12_line_146 : decode cX12_line 146 = .ok (.iaload, 1) := by decide +kernel
theorem dX12_line_147 : decode cX12_line 147 = .ok (.isub, 1) := by decide +kernel
theorem dX12_line_148 : decode cX12_line 148 = .ok (.ireturn, 1) := by decide +kernel
theorem dX12_line_149 : decode cX12_line 149 = .ok (.aload_n 0, 1) := by decide +kernel
theorem dX12_line_150 : decode cX12_line 150 = .ok (.iload_n 1, 1) := by decide +kernel
theorem dX12_line_151 : decode cX12_line 151 = .ok (.invokevirtual 463, 3) := by decide +kernel
theorem dX12_line_154 : decode cX12_line 154 = .ok (.ireturn, 1) := by decide +kernel
theorem dX12_line_155 : decode cX12_line 155 = .ok (.aload_n 0, 1) := by decide +kernel
theorem dX12_line_156 : decode cX12_line 156 = .ok (.getfield 131, 3) := by decide +kernel
theorem dX12_line_159 : decode cX12_line 159 = .ok (.iload_n 1, 1) := by decide +kernel
theorem dX12_line_160 : decode cX12_line 160 = .ok (.iaload, 1) := by decide +kernel
theorem dX12_line_161 : decode cX12_line 161 = .ok (.ireturn, 1) := by decide +kernel
theorem dX12_line_162 : decode cX12_line 162 = .ok (.iconst (-1), 1) := by decide +kernel
theorem dX12_line_163 : decode cX12_line 163 = .ok (.ireturn, 1) := by decide +kernel
theorem dX12_aheadOf_0 : decode cX12_aheadOf 0 = .ok (.iconst 0, 1) := by decide +kernel
theorem dX12_aheadOf_1 : decode cX12_aheadOf 1 = .ok (.istore_n 2, 1) := by decide +kernel
theorem dX12_aheadOf_2 : decode cX12_aheadOf 2 = .ok (.iconst 0, 1) := by decide +kernel
theorem dX12_aheadOf_3 : decode cX12_aheadOf 3 = .ok (.istore_n 3, 1) := by decide +kernel
theorem dX12_aheadOf_4 : decode cX12_aheadOf 4 = .ok (.iload_n 3, 1) := by decide +kernel
theorem dX12_aheadOf_5 : decode cX12_aheadOf 5 = .ok (.bipush 8, 2) := by decide +kernel
theorem dX12_aheadOf_7 : decode cX12_aheadOf 7 = .ok (.if_icmp .ge 31, 3) := by decide +kernel
theorem dX12_aheadOf_10 : decode cX12_aheadOf 10 = .ok (.iload_n 2, 1) := by decide +kernel
theorem dX12_aheadOf_11 : decode cX12_aheadOf 11 = .ok (.aload_n 0, 1) := by decide +kernel
theorem dX12_aheadOf_12 : decode cX12_aheadOf 12 = .ok (.getfield 189, 3) := by decide +kernel
theorem dX12_aheadOf_15 : decode cX12_aheadOf 15 = .ok (.bipush 8, 2) := by decide +kernel
theorem dX12_aheadOf_17 : decode cX12_aheadOf 17 = .ok (.iload_n 1, 1) := by decide +kernel
theorem dX12_aheadOf_18 : decode cX12_aheadOf 18 = .ok (.imul, 1) := by decide +kernel
theorem dX12_aheadOf_19 : decode cX12_aheadOf 19 = .ok (.iload_n 3, 1) := by decide +kernel
theorem dX12_aheadOf_20 : decode cX12_aheadOf 20 = .ok (.iadd, 1) := by decide +kernel
theorem dX12_aheadOf_21 : decode cX12_aheadOf 21 = .ok (.baload, 1) := by decide +kernel
theorem dX12_aheadOf_22 : decode cX12_aheadOf 22 = .ok (.ifCond .eq 7, 3) := by decide +kernel
theorem dX12_aheadOf_25 : decode cX12_aheadOf 25 = .ok (.iconst 1, 1) := by decide +kernel
theorem dX12_aheadOf_26 : decode cX12_aheadOf 26 = .ok (.goto 4, 3) := by decide +kernel
theorem dX12_aheadOf_29 : decode cX12_aheadOf 29 = .ok (.iconst 0, 1) := by decide +kernel
theorem dX12_aheadOf_30 : decode cX12_aheadOf 30 = .ok (.iadd, 1) := by decide +kernel
theorem dX12_aheadOf_31 : decode cX12_aheadOf 31 = .ok (.istore_n 2, 1) := by decide +kernel
theorem dX12_aheadOf_32 : decode cX12_aheadOf 32 = .ok (.iinc 3 1, 3) := by decide +kernel
theorem dX12_aheadOf_35 : decode cX12_aheadOf 35 = .ok (.goto (-31), 3) := by decide +kernel
theorem dX12_aheadOf_38 : decode cX12_aheadOf 38 = .ok (.iload_n 2, 1) := by decide +kernel
theorem dX12_aheadOf_39 : decode cX12_aheadOf 39 = .ok (.ireturn, 1) := by decide +kernel
theorem dX12_reset_0 : decode cX12_reset 0 = .ok (.aload_n 0, 1) := by decide +kernel
theorem dX12_reset_1 : decode cX12_reset 1 = .ok (.iload_n 1, 1) := by decide +kernel
theorem dX12_reset_2 : decode cX12_reset 2 = .ok (.invokevirtual 460, 3) := by decide +kernel
theorem dX12_reset_5 : decode cX12_reset 5 = .ok (.ifCond .ne 5, 3) := by decide +kernel
theorem dX12_reset_8 : decode cX12_reset 8 = .ok (.iconst (-1), 1) := by decide +kernel
theorem dX12_reset_9 : decode cX12_reset 9 = .ok (.ireturn, 1) := by decide +kernel
theorem dX12_reset_10 : decode cX12_reset 10 = .ok (.aload_n 0, 1) := by decide +kernel
theorem dX12_reset_11 : decode cX12_reset 11 = .ok (.getfield 107, 3) := by decide +kernel
theorem dX12_reset_14 : decode cX12_reset 14 = .ok (.iload_n 1, 1) := by decide +kernel
theorem dX12_reset_15 : decode cX12_reset 15 = .ok (.iaload, 1) := by decide +kernel
theorem dX12_reset_16 : decode cX12_reset 16 = .ok (.iconst 2, 1) := by decide +kernel
theorem dX12_reset_17 : decode cX12_reset 17 = .ok (.if_icmp .eq 5, 3) := by decide +kernel
theorem dX12_reset_20 : decode cX12_reset 20 = .ok (.iconst 0, 1) := by decide +kernel
theorem dX12_reset_21 : decode cX12_reset 21 = .ok (.ireturn, 1) := by decide +kernel
theorem dX12_reset_22 : decode cX12_reset 22 = .ok (.aload_n 0, 1) := by decide +kernel
theorem dX12_reset_23 : decode cX12_reset 23 = .ok (.iload_n 1, 1) := by decide +kernel
theorem dX12_reset_24 : decode cX12_reset 24 = .ok (.iconst 0, 1) := by decide +kernel
theorem dX12_reset_25 : decode cX12_reset 25 = .ok (.invokevirtual 444, 3) := by decide +kernel
theorem dX12_reset_28 : decode cX12_reset 28 = .ok (.iconst 1, 1) := by decide +kernel
theorem dX12_reset_29 : decode cX12_reset 29 = .ok (.ireturn, 1) := by decide +kernel
theorem dX12_quit_0 : decode cX12_quit 0 = .ok (.aload_n 0, 1) := by decide +kernel
theorem dX12_quit_1 : decode cX12_quit 1 = .ok (.iload_n 1, 1) := by decide +kernel
theorem dX12_quit_2 : decode cX12_quit 2 = .ok (.invokevirtual 460, 3) := by decide +kernel
theorem dX12_quit_5 : decode cX12_quit 5 = .ok (.ifCond .ne 5, 3) := by decide +kernel
theorem dX12_quit_8 : decode cX12_quit 8 = .ok (.iconst (-1), 1) := by decide +kernel
theorem dX12_quit_9 : decode cX12_quit 9 = .ok (.ireturn, 1) := by decide +kernel
theorem dX12_quit_10 : decode cX12_quit 10 = .ok (.aload_n 0, 1) := by decide +kernel
theorem dX12_quit_11 : decode cX12_quit 11 = .ok (.getfield 107, 3) := by decide +kernel
theorem dX12_quit_14 : decode cX12_quit 14 = .ok (.iload_n 1, 1) := by decide +kernel
theorem dX12_quit_15 : decode cX12_quit 15 = .ok (.iaload, 1) := by decide +kernel
theorem dX12_quit_16 : decode cX12_quit 16 = .ok (.iconst 2, 1) := by decide +kernel
theorem dX12_quit_17 : decode cX12_quit 17 = .ok (.if_icmp .eq 5, 3) := by decide +kernel
theorem dX12_quit_20 : decode cX12_quit 20 = .ok (.iconst 0, 1) := by decide +kernel
theorem dX12_quit_21 : decode cX12_quit 21 = .ok (.ireturn, 1) := by decide +kernel
theorem dX12_quit_22 : decode cX12_quit 22 = .ok (.aload_n 0, 1) := by decide +kernel
theorem dX12_quit_23 : decode cX12_quit 23 = .ok (.getfield 168, 3) := by decide +kernel
theorem dX12_quit_26 : decode cX12_quit 26 = .ok (.iload_n 1, 1) := by decide +kernel
theorem dX12_quit_27 : decode cX12_quit 27 = .ok (.iconst 0, 1) := by decide +kernel
theorem dX12_quit_28 : decode cX12_quit 28 = .ok (.iastore, 1) := by decide +kernel
theorem dX12_quit_29 : decode cX12_quit 29 = .ok (.aload_n 0, 1) := by decide +kernel
theorem dX12_quit_30 : decode cX12_quit 30 = .ok (.iload_n 1, 1) := by decide +kernel
theorem dX12_quit_31 : decode cX12_quit 31 = .ok (.iconst 4, 1) := by decide +kernel
theorem dX12_quit_32 : decode cX12_quit 32 = .ok (.invokevirtual 403, 3) := by decide +kernel
theorem dX12_quit_35 : decode cX12_quit 35 = .ok (.aload_n 0, 1) := by decide +kernel
theorem dX12_quit_36 : decode cX12_quit 36 = .ok (.iload_n 1, 1) := by decide +kernel
theorem dX12_quit_37 : decode cX12_quit 37 = .ok (.invokevirtual 391, 3) := by decide +kernel
theorem dX12_quit_40 : decode cX12_quit 40 = .ok (.iconst 1, 1) := by decide +kernel
theorem dX12_quit_41 : decode cX12_quit 41 = .ok (.ireturn, 1) := by decide +kernel
theorem dX12_isEnd_0 : decode cX12_isEnd 0 = .ok (.iload_n 1, 1) := by decide +kernel
theorem dX12_isEnd_1 : decode cX12_isEnd 1 = .ok (.ifCond .lt 15, 3) := by decide +kernel
theorem dX12_isEnd_4 : decode cX12_isEnd 4 = .ok (.iload_n 1, 1) := by decide +kernel
theorem dX12_isEnd_5 : decode cX12_isEnd 5 = .ok (.aload_n 0, 1) := by decide +kernel
theorem dX12_isEnd_6 : decode cX12_isEnd 6 = .ok (.getfield 260, 3) := by decide +kernel
theorem dX12_isEnd_9 : decode cX12_isEnd 9 = .ok (.if_icmp .ge 7, 3) := by decide +kernel
theorem dX12_isEnd_12 : decode cX12_isEnd 12 = .ok (.iconst 1, 1) := by decide +kernel
theorem dX12_isEnd_13 : decode cX12_isEnd 13 = .ok (.goto 4, 3) := by decide +kernel
theorem dX12_isEnd_16 : decode cX12_isEnd 16 = .ok (.iconst 0, 1) := by decide +kernel
theorem dX12_isEnd_17 : decode cX12_isEnd 17 = .ok (.ireturn, 1) := by decide +kernel
theorem dX12_openCalls_0 : decode cX12_openCalls 0 = .ok (.iconst 0, 1) := by decide +kernel
theorem dX12_openCalls_1 : decode cX12_openCalls 1 = .ok (.istore_n 2, 1) := by decide +kernel
theorem dX12_openCalls_2 : decode cX12_openCalls 2 = .ok (.bipush 40, 2) := by decide +kernel
theorem dX12_openCalls_4 : decode cX12_openCalls 4 = .ok (.iload_n 1, 1) := by decide +kernel
theorem dX12_openCalls_5 : decode cX12_openCalls 5 = .ok (.imul, 1) := by decide +kernel
theorem dX12_openCalls_6 : decode cX12_openCalls 6 = .ok (.istore_n 3, 1) := by decide +kernel
theorem dX12_openCalls_7 : decode cX12_openCalls 7 = .ok (.iload_n 3, 1) := by decide +kernel
theorem dX12_openCalls_8 : decode cX12_openCalls 8 = .ok (.bipush 40, 2) := by decide +kernel
theorem dX12_openCalls_10 : decode cX12_openCalls 10 = .ok (.iload_n 1, 1) := by decide +kernel
theorem dX12_openCalls_11 : decode cX12_openCalls 11 = .ok (.imul, 1) := by decide +kernel
theorem dX12_openCalls_12 : decode cX12_openCalls 12 = .ok (.bipush 40, 2) := by decide +kernel
theorem dX12_openCalls_14 : decode cX12_openCalls 14 = .ok (.iadd, 1) := by decide +kernel
theorem dX12_openCalls_15 : decode cX12_openCalls 15 = .ok (.if_icmp .ge 26, 3) := by decide +kernel
theorem dX12_openCalls_18 : decode cX12_openCalls 18 = .ok (.iload_n 2, 1) := by decide +kernel
theorem dX12_openCalls_19 : decode cX12_openCalls 19 = .ok (.aload_n 0, 1) := by decide +kernel
theorem dX12_openCalls_20 : decode cX12_openCalls 20 = .ok (.getfield 192, 3) := by decide +kernel
theorem dX12_openCalls_23 : decode cX12_openCalls 23 = .ok (.iload_n 3, 1) := by decide +kernel
theorem dX12_openCalls_24 : decode cX12_openCalls 24 = .ok (.iaload, 1) := by decide +kernel
theorem dX12_openCalls_25 : decode cX12_openCalls 25 = .ok (.ifCond .eq 7, 3) := by decide +kernel
theorem dX12_openCalls_28 : decode cX12_openCalls 28 = .ok (.iconst 1, 1) := by decide +kernel
theorem dX12_openCalls_29 : decode cX12_openCalls 29 = .ok (.goto 4, 3) := by decide +kernel
theorem dX12_openCalls_32 : decode cX12_openCalls 32 = .ok (.iconst 0, 1) := by decide +kernel
theorem dX12_openCalls_33 : decode cX12_openCalls 33 = .ok (.iadd, 1) := by decide +kernel
theorem dX12_openCalls_34 : decode cX12_openCalls 34 = .ok (.istore_n 2, 1) := by decide +kernel
theorem dX12_openCalls_35 : decode cX12_openCalls 35 = .ok (.iinc 3 1, 3) := by decide +kernel
theorem dX12_openCalls_38 : decode cX12_openCalls 38 = .ok (.goto (-31), 3) := by decide +kernel
theorem dX12_openCalls_41 : decode cX12_openCalls 41 = .ok (.iload_n 2, 1) := by decide +kernel
theorem dX12_openCalls_42 : decode cX12_openCalls 42 = .ok (.ireturn, 1) := by decide +kernel
theorem dX12_ratesOf_0 : decode cX12_ratesOf 0 = .ok (.iconst 0, 1) := by decide +kernel
theorem dX12_ratesOf_1 : decode cX12_ratesOf 1 = .ok (.istore_n 2, 1) := by decide +kernel
theorem dX12_ratesOf_2 : decode cX12_ratesOf 2 = .ok (.bipush 40, 2) := by decide +kernel
theorem dX12_ratesOf_4 : decode cX12_ratesOf 4 = .ok (.iload_n 1, 1) := by decide +kernel
theorem dX12_ratesOf_5 : decode cX12_ratesOf 5 = .ok (.imul, 1) := by decide +kernel
theorem dX12_ratesOf_6 : decode cX12_ratesOf 6 = .ok (.istore_n 3, 1) := by decide +kernel
theorem dX12_ratesOf_7 : decode cX12_ratesOf 7 = .ok (.iload_n 3, 1) := by decide +kernel
theorem dX12_ratesOf_8 : decode cX12_ratesOf 8 = .ok (.bipush 40, 2) := by decide +kernel
theorem dX12_ratesOf_10 : decode cX12_ratesOf 10 = .ok (.iload_n 1, 1) := by decide +kernel
theorem dX12_ratesOf_11 : decode cX12_ratesOf 11 = .ok (.imul, 1) := by decide +kernel
theorem dX12_ratesOf_12 : decode cX12_ratesOf 12 = .ok (.bipush 40, 2) := by decide +kernel
theorem dX12_ratesOf_14 : decode cX12_ratesOf 14 = .ok (.iadd, 1) := by decide +kernel
theorem dX12_ratesOf_15 : decode cX12_ratesOf 15 = .ok (.if_icmp .ge 31, 3) := by decide +kernel
theorem dX12_ratesOf_18 : decode cX12_ratesOf 18 = .ok (.iload_n 2, 1) := by decide +kernel
theorem dX12_ratesOf_19 : decode cX12_ratesOf 19 = .ok (.aload_n 0, 1) := by decide +kernel
theorem dX12_ratesOf_20 : decode cX12_ratesOf 20 = .ok (.getfield 192, 3) := by decide +kernel
theorem dX12_ratesOf_23 : decode cX12_ratesOf 23 = .ok (.iload_n 3, 1) := by decide +kernel
theorem dX12_ratesOf_24 : decode cX12_ratesOf 24 = .ok (.iaload, 1) := by decide +kernel
theorem dX12_ratesOf_25 : decode cX12_ratesOf 25 = .ok (.ifCond .eq 12, 3) := by decide +kernel
theorem dX12_ratesOf_28 : decode cX12_ratesOf 28 = .ok (.aload_n 0, 1) := by decide +kernel
theorem dX12_ratesOf_29 : decode cX12_ratesOf 29 = .ok (.getfield 204, 3) := by decide +kernel
theorem dX12_ratesOf_32 : decode cX12_ratesOf 32 = .ok (.iload_n 3, 1) := by decide +kernel
theorem dX12_ratesOf_33 : decode cX12_ratesOf 33 = .ok (.iaload, 1) := by decide +kernel
theorem dX12_ratesOf_34 : decode cX12_ratesOf 34 = .ok (.goto 4, 3) := by decide +kernel
theorem dX12_ratesOf_37 : decode cX12_ratesOf 37 = .ok (.iconst 0, 1) := by decide +kernel
theorem dX12_ratesOf_38 : decode cX12_ratesOf 38 = .ok (.iadd, 1) := by decide +kernel
theorem dX12_ratesOf_39 : decode cX12_ratesOf 39 = .ok (.istore_n 2, 1) := by decide +kernel
theorem dX12_ratesOf_40 : decode cX12_ratesOf 40 = .ok (.iinc 3 1, 3) := by decide +kernel
theorem dX12_ratesOf_43 : decode cX12_ratesOf 43 = .ok (.goto (-36), 3) := by decide +kernel
theorem dX12_ratesOf_46 : decode cX12_ratesOf 46 = .ok (.iload_n 2, 1) := by decide +kernel
theorem dX12_ratesOf_47 : decode cX12_ratesOf 47 = .ok (.ireturn, 1) := by decide +kernel
theorem dX12_callAt_0 : decode cX12_callAt 0 = .ok (.bipush 40, 2) := by decide +kernel
theorem dX12_callAt_2 : decode cX12_callAt 2 = .ok (.iload_n 1, 1) := by decide +kernel
theorem dX12_callAt_3 : decode cX12_callAt 3 = .ok (.imul, 1) := by decide +kernel
theorem dX12_callAt_4 : decode cX12_callAt 4 = .ok (.istore 4, 2) := by decide +kernel
theorem dX12_callAt_6 : decode cX12_callAt 6 = .ok (.iload 4, 2) := by decide +kernel
theorem dX12_callAt_8 : decode cX12_callAt 8 = .ok (.bipush 40, 2) := by decide +kernel
theorem dX12_callAt_10 : decode cX12_callAt 10 = .ok (.iload_n 1, 1) := by decide +kernel
theorem dX12_callAt_11 : decode cX12_callAt 11 = .ok (.imul, 1) := by decide +kernel
theorem dX12_callAt_12 : decode cX12_callAt 12 = .ok (.bipush 40, 2) := by decide +kernel
theorem dX12_callAt_14 : decode cX12_callAt 14 = .ok (.iadd, 1) := by decide +kernel
theorem dX12_callAt_15 : decode cX12_callAt 15 = .ok (.if_icmp .ge 44, 3) := by decide +kernel
theorem dX12_callAt_18 : decode cX12_callAt 18 = .ok (.aload_n 0, 1) := by decide +kernel
theorem dX12_callAt_19 : decode cX12_callAt 19 = .ok (.getfield 192, 3) := by decide +kernel
theorem dX12_callAt_22 : decode cX12_callAt 22 = .ok (.iload 4, 2) := by decide +kernel
theorem dX12_callAt_24 : decode cX12_callAt 24 = .ok (.iaload, 1) := by decide +kernel
theorem dX12_callAt_25 : decode cX12_callAt 25 = .ok (.ifCond .eq 28, 3) := by decide +kernel
theorem dX12_callAt_28 : decode cX12_callAt 28 = .ok (.aload_n 0, 1) := by decide +kernel
theorem dX12_callAt_29 : decode cX12_callAt 29 = .ok (.getfield 198, 3) := by decide +kernel
theorem dX12_callAt_32 : decode cX12_callAt 32 = .ok (.iload 4, 2) := by decide +kernel
theorem dX12_callAt_34 : decode cX12_callAt 34 = .ok (.baload, 1) := by decide +kernel
theorem dX12_callAt_35 : decode cX12_callAt 35 = .ok (.iload_n 2, 1) := by decide +kernel
theorem dX12_callAt_36 : decode cX12_callAt 36 = .ok (.if_icmp .ne 17, 3) := by decide +kernel
theorem dX12_callAt_39 : decode cX12_callAt 39 = .ok (.aload_n 0, 1) := by decide +kernel
theorem dX12_callAt_40 : decode cX12_callAt 40 = .ok (.getfield 195, 3) := by decide +kernel
theorem dX12_callAt_43 : decode cX12_callAt 43 = .ok (.iload 4, 2) := by decide +kernel
theorem dX12_callAt_45 : decode cX12_callAt 45 = .ok (.iaload, 1) := by decide +kernel
theorem dX12_callAt_46 : decode cX12_callAt 46 = .ok (.iload_n 3, 1) := by decide +kernel
theorem dX12_callAt_47 : decode cX12_callAt 47 = .ok (.if_icmp .ne 6, 3) := by decide +kernel
theorem dX12_callAt_50 : decode cX12_callAt 50 = .ok (.iload 4, 2) := by decide +kernel
theorem dX12_callAt_52 : decode cX12_callAt 52 = .ok (.ireturn, 1) := by decide +kernel
theorem dX12_callAt_53 : decode cX12_callAt 53 = .ok (.iinc 4 1, 3) := by decide +kernel
theorem dX12_callAt_56 : decode cX12_callAt 56 = .ok (.goto (-50), 3) := by decide +kernel
theorem dX12_callAt_59 : decode cX12_callAt 59 = .ok (.bipush (-2), 2) := by decide +kernel
theorem dX12_callAt_61 : decode cX12_callAt 61 = .ok (.ireturn, 1) := by decide +kernel
theorem dX12_channelAt_0 : decode cX12_channelAt 0 = .ok (.bipush 40, 2) := by decide +kernel
theorem dX12_channelAt_2 : decode cX12_channelAt 2 = .ok (.iload_n 1, 1) := by decide +kernel
theorem dX12_channelAt_3 : decode cX12_channelAt 3 = .ok (.imul, 1) := by decide +kernel
theorem dX12_channelAt_4 : decode cX12_channelAt 4 = .ok (.istore_n 3, 1) := by decide +kernel
theorem dX12_channelAt_5 : decode cX12_channelAt 5 = .ok (.iload_n 3, 1) := by decide +kernel
theorem dX12_channelAt_6 : decode cX12_channelAt 6 = .ok (.bipush 40, 2) := by decide +kernel
theorem dX12_channelAt_8 : decode cX12_channelAt 8 = .ok (.iload_n 1, 1) := by decide +kernel
theorem dX12_channelAt_9 : decode cX12_channelAt 9 = .ok (.imul, 1) := by decide +kernel
theorem dX12_channelAt_10 : decode cX12_channelAt 10 = .ok (.bipush 40, 2) := by decide +kernel
theorem dX12_channelAt_12 : decode cX12_channelAt 12 = .ok (.iadd, 1) := by decide +kernel
theorem dX12_channelAt_13 : decode cX12_channelAt 13 = .ok (.if_icmp .ge 30, 3) := by decide +kernel
theorem dX12_channelAt_16 : decode cX12_channelAt 16 = .ok (.aload_n 0, 1) := by decide +kernel
theorem dX12_channelAt_17 : decode cX12_channelAt 17 = .ok (.getfield 192, 3) := by decide +kernel
theorem dX12_channelAt_20 : decode cX12_channelAt 20 = .ok (.iload_n 3, 1) := by decide +kernel
theorem dX12_channelAt_21 : decode cX12_channelAt 21 = .ok (.iaload, 1) := by decide +kernel
theorem dX12_channelAt_22 : decode cX12_channelAt 22 = .ok (.ifCond .eq 15, 3) := by decide +kernel
theorem dX12_channelAt_25 : decode cX12_channelAt 25 = .ok (.aload_n 0, 1) := by decide +kernel
theorem dX12_channelAt_26 : decode cX12_channelAt 26 = .ok (.getfield 201, 3) := by decide +kernel
theorem dX12_channelAt_29 : decode cX12_channelAt 29 = .ok (.iload_n 3, 1) := by decide +kernel
theorem dX12_channelAt_30 : decode cX12_channelAt 30 = .ok (.iaload, 1) := by decide +kernel
theorem dX12_channelAt_31 : decode cX12_channelAt 31 = .ok (.iload_n 2, 1) := by decide +kernel
theorem dX12_channelAt_32 : decode cX12_channelAt 32 = .ok (.if_icmp .ne 5, 3) := by decide +kernel
theorem dX12_channelAt_35 : decode cX12_channelAt 35 = .ok (.iload_n 3, 1) := by decide +kernel
theorem dX12_channelAt_36 : decode cX12_channelAt 36 = .ok (.ireturn, 1) := by decide +kernel
theorem dX12_channelAt_37 : decode cX12_channelAt 37 = .ok (.iinc 3 1, 3) := by decide +kernel
theorem dX12_channelAt_40 : decode cX12_channelAt 40 = .ok (.goto (-35), 3) := by decide +kernel
theorem dX12_channelAt_43 : decode cX12_channelAt 43 = .ok (.bipush (-2), 2) := by decide +kernel
theorem dX12_channelAt_45 : decode cX12_channelAt 45 = .ok (.ireturn, 1) := by decide +kernel
theorem dX12_activeAt_0 : decode cX12_activeAt 0 = .ok (.bipush 40, 2) := by decide +kernel
theorem dX12_activeAt_2 : decode cX12_activeAt 2 = .ok (.iload_n 1, 1) := by decide +kernel
theorem dX12_activeAt_3 : decode cX12_activeAt 3 = .ok (.imul, 1) := by decide +kernel
theorem dX12_activeAt_4 : decode cX12_activeAt 4 = .ok (.istore_n 3, 1) := by decide +kernel
theorem dX12_activeAt_5 : decode cX12_activeAt 5 = .ok (.iload_n 3, 1) := by decide +kernel
theorem dX12_activeAt_6 : decode cX12_activeAt 6 = .ok (.bipush 40, 2) := by decide +kernel
theorem dX12_activeAt_8 : decode cX12_activeAt 8 = .ok (.iload_n 1, 1) := by decide +kernel
theorem dX12_activeAt_9 : decode cX12_activeAt 9 = .ok (.imul, 1) := by decide +kernel
theorem dX12_activeAt_10 : decode cX12_activeAt 10 = .ok (.bipush 40, 2) := by decide +kernel
theorem dX12_activeAt_12 : decode cX12_activeAt 12 = .ok (.iadd, 1) := by decide +kernel
theorem dX12_activeAt_13 : decode cX12_activeAt 13 = .ok (.if_icmp .ge 32, 3) := by decide +kernel
theorem dX12_activeAt_16 : decode cX12_activeAt 16 = .ok (.aload_n 0, 1) := by decide +kernel
theorem dX12_activeAt_17 : decode cX12_activeAt 17 = .ok (.getfield 192, 3) := by decide +kernel
theorem dX12_activeAt_20 : decode cX12_activeAt 20 = .ok (.iload_n 3, 1) := by decide +kernel
theorem dX12_activeAt_21 : decode cX12_activeAt 21 = .ok (.iaload, 1) := by decide +kernel
theorem dX12_activeAt_22 : decode cX12_activeAt 22 = .ok (.bipush 10, 2) := by decide +kernel
theorem dX12_activeAt_24 : decode cX12_activeAt 24 = .ok (.if_icmp .ne 15, 3) := by decide +kernel
theorem dX12_activeAt_27 : decode cX12_activeAt 27 = .ok (.aload_n 0, 1) := by decide +kernel
theorem dX12_activeAt_28 : decode cX12_activeAt 28 = .ok (.getfield 201, 3) := by decide +kernel
theorem dX12_activeAt_31 : decode cX12_activeAt 31 = .ok (.iload_n 3, 1) := by decide +kernel
theorem dX12_activeAt_32 : decode cX12_activeAt 32 = .ok (.iaload, 1) := by decide +kernel
theorem dX12_activeAt_33 : decode cX12_activeAt 33 = .ok (.iload_n 2, 1) := by decide +kernel
theorem dX12_activeAt_34 : decode cX12_activeAt 34 = .ok (.if_icmp .ne 5, 3) := by decide +kernel
theorem dX12_activeAt_37 : decode cX12_activeAt 37 = .ok (.iload_n 3, 1) := by decide +kernel
theorem dX12_activeAt_38 : decode cX12_activeAt 38 = .ok (.ireturn, 1) := by decide +kernel
theorem dX12_activeAt_39 : decode cX12_activeAt 39 = .ok (.iinc 3 1, 3) := by decide +kernel
theorem dX12_activeAt_42 : decode cX12_activeAt 42 = .ok (.goto (-37), 3) := by decide +kernel
theorem dX12_activeAt_45 : decode cX12_activeAt 45 = .ok (.bipush (-2), 2) := by decide +kernel
theorem dX12_activeAt_47 : decode cX12_activeAt 47 = .ok (.ireturn, 1) := by decide +kernel
theorem dX12_freeChannel_0 : decode cX12_freeChannel 0 = .ok (.bipush 32, 2) := by decide +kernel
theorem dX12_freeChannel_2 : decode cX12_freeChannel 2 = .ok (.istore_n 2, 1) := by decide +kernel
theorem dX12_freeChannel_3 : decode cX12_freeChannel 3 = .ok (.aload_n 0, 1) := by decide +kernel
theorem dX12_freeChannel_4 : decode cX12_freeChannel 4 = .ok (.iload_n 1, 1) := by decide +kernel
theorem dX12_freeChannel_5 : decode cX12_freeChannel 5 = .ok (.iload_n 2, 1) := by decide +kernel
theorem dX12_freeChannel_6 : decode cX12_freeChannel 6 = .ok (.invokevirtual 366, 3) := by decide +kernel
theorem dX12_freeChannel_9 : decode cX12_freeChannel 9 = .ok (.ifCond .lt 9, 3) := by decide +kernel
theorem dX12_freeChannel_12 : decode cX12_freeChannel 12 = .ok (.iinc 2 1, 3) := by decide +kernel
theorem dX12_freeChannel_15 : decode cX12_freeChannel 15 = .ok (.goto (-12), 3) := by decide +kernel
theorem dX12_freeChannel_18 : decode cX12_freeChannel 18 = .ok (.iload_n 2, 1) := by decide +kernel
theorem dX12_freeChannel_19 : decode cX12_freeChannel 19 = .ok (.ireturn, 1) := by decide +kernel
theorem dX12_newCall_0 : decode cX12_newCall 0 = .ok (.bipush 40, 2) := by decide +kernel
theorem dX12_newCall_2 : decode cX12_newCall 2 = .ok (.iload_n 1, 1) := by decide +kernel
theorem dX12_newCall_3 : decode cX12_newCall 3 = .ok (.imul, 1) := by decide +kernel
theorem dX12_newCall_4 : decode cX12_newCall 4 = .ok (.aload_n 0, 1) := by decide +kernel
theorem dX12_newCall_5 : decode cX12_newCall 5 = .ok (.getfield 225, 3) := by decide +kernel
theorem dX12_newCall_8 : decode cX12_newCall 8 = .ok (.iload_n 1, 1) := by decide +kernel
theorem dX12_newCall_9 : decode cX12_newCall 9 = .ok (.iaload, 1) := by decide +kernel
theorem dX12_newCall_10 : decode cX12_newCall 10 = .ok (.iadd, 1) := by decide +kernel
theorem dX12_newCall_11 : decode cX12_newCall 11 = .ok (.istore 5, 2) := by decide +kernel
theorem dX12_newCall_13 : decode cX12_newCall 13 = .ok (.iload_n 1, 1) := by decide +kernel
theorem dX12_newCall_14 : decode cX12_newCall 14 = .ok (.aload_n 0, 1) := by decide +kernel
theorem dX12_newCall_15 : decode cX12_newCall 15 = .ok (.getfield 260, 3) := by decide +kernel
theorem dX12_newCall_18 : decode cX12_newCall 18 = .ok (.if_icmp .lt 25, 3) := by decide +kernel
theorem dX12_newCall_21 : decode cX12_newCall 21 = .ok (.bipush 40, 2) := by decide +kernel
theorem dX12_newCall_23 : decode cX12_newCall 23 = .ok (.iload_n 1, 1) := by decide +kernel
theorem dX12_newCall_24 : decode cX12_newCall 24 = .ok (.imul, 1) := by decide +kernel
theorem dX12_newCall_25 : decode cX12_newCall 25 = .ok (.istore 5, 2) := by decide +kernel
theorem dX12_newCall_27 : decode cX12_newCall 27 = .ok (.aload_n 0, 1) := by decide +kernel
theorem dX12_newCall_28 : decode cX12_newCall 28 = .ok (.getfield 192, 3) := by decide +kernel
theorem dX12_newCall_31 : decode cX12_newCall 31 = .ok (.iload 5, 2) := by decide +kernel
theorem dX12_newCall_33 : decode cX12_newCall 33 = .ok (.iaload, 1) := by decide +kernel
theorem dX12_newCall_34 : decode cX12_newCall 34 = .ok (.ifCond .eq 19, 3) := by decide +kernel
theorem dX12_newCall_37 : decode cX12_newCall 37 = .ok (.iinc 5 1, 3) := by decide +kernel
theorem dX12_newCall_40 : decode cX12_newCall 40 = .ok (.goto (-13), 3) := by decide +kernel
theorem dX12_newCall_43 : decode cX12_newCall 43 = .ok (.aload_n 0, 1) := by decide +kernel
theorem dX12_newCall_44 : decode cX12_newCall 44 = .ok (.getfield 225, 3) := by decide +kernel
theorem dX12_newCall_47 : decode cX12_newCall 47 = .ok (.iload_n 1, 1) := by decide +kernel
theorem dX12_newCall_48 : decode cX12_newCall 48 = .ok (.dup2, 1) := by decide +kernel
theorem dX12_newCall_49 : decode cX12_newCall 49 = .ok (.iaload, 1) := by decide +kernel
theorem dX12_newCall_50 : decode cX12_newCall 50 = .ok (.iconst 1, 1) := by decide +kernel
theorem dX12_newCall_51 : decode cX12_newCall 51 = .ok (.iadd, 1) := by decide +kernel
theorem dX12_newCall_52 : decode cX12_newCall 52 = .ok (.iastore, 1) := by decide +kernel
theorem dX12_newCall_53 : decode cX12_newCall 53 = .ok (.aload_n 0, 1) := by decide +kernel
theorem dX12_newCall_54 : decode cX12_newCall 54 = .ok (.getfield 192, 3) := by decide +kernel
theorem dX12_newCall_57 : decode cX12_newCall 57 = .ok (.iload 5, 2) := by decide +kernel
theorem dX12_newCall_59 : decode cX12_newCall 59 = .ok (.iload_n 2, 1) := by decide +kernel
theorem dX12_newCall_60 : decode cX12_newCall 60 = .ok (.iastore, 1) := by decide +kernel
theorem dX12_newCall_61 : decode cX12_newCall 61 = .ok (.aload_n 0, 1) := by decide +kernel
theorem dX12_newCall_62 : decode cX12_newCall 62 = .ok (.getfield 195, 3) := by decide +kernel
theorem dX12_newCall_65 : decode cX12_newCall 65 = .ok (.iload 5, 2) := by decide +kernel
theorem dX12_newCall_67 : decode cX12_newCall 67 = .ok (.iload 4, 2) := by decide +kernel
theorem dX12_newCall_69 : decode cX12_newCall 69 = .ok (.iastore, 1) := by decide +kernel
theorem dX12_newCall_70 : decode cX12_newCall 70 = .ok (.aload_n 0, 1) := by decide +kernel
theorem dX12_newCall_71 : decode cX12_newCall 71 = .ok (.getfield 198, 3) := by decide +kernel
theorem dX12_newCall_74 : decode cX12_newCall 74 = .ok (.iload 5, 2) := by decide +kernel
theorem dX12_newCall_76 : decode cX12_newCall 76 = .ok (.iload_n 3, 1) := by decide +kernel
theorem dX12_newCall_77 : decode cX12_newCall 77 = .ok (.bastore, 1) := by decide +kernel
theorem dX12_newCall_78 : decode cX12_newCall 78 = .ok (.aload_n 0, 1) := by decide +kernel
theorem dX12_newCall_79 : decode cX12_newCall 79 = .ok (.getfield 201, 3) := by decide +kernel
theorem dX12_newCall_82 : decode cX12_newCall 82 = .ok (.iload 5, 2) := by decide +kernel
theorem dX12_newCall_84 : decode cX12_newCall 84 = .ok (.bipush (-2), 2) := by decide +kernel
theorem dX12_newCall_86 : decode cX12_newCall 86 = .ok (.iastore, 1) := by decide +kernel
theorem dX12_newCall_87 : decode cX12_newCall 87 = .ok (.aload_n 0, 1) := by decide +kernel
theorem dX12_newCall_88 : decode cX12_newCall 88 = .ok (.getfield 210, 3) := by decide +kernel
theorem dX12_newCall_91 : decode cX12_newCall 91 = .ok (.iload 5, 2) := by decide +kernel
theorem dX12_newCall_93 : decode cX12_newCall 93 = .ok (.iconst 0, 1) := by decide +kernel
theorem dX12_newCall_94 : decode cX12_newCall 94 = .ok (.iastore, 1) := by decide +kernel
theorem dX12_newCall_95 : decode cX12_newCall 95 = .ok (.aload_n 0, 1) := by decide +kernel
theorem dX12_newCall_96 : decode cX12_newCall 96 = .ok (.getfield 213, 3) := by decide +kernel
theorem dX12_newCall_99 : decode cX12_newCall 99 = .ok (.iload 5, 2) := by decide +kernel
theorem dX12_newCall_101 : decode cX12_newCall 101 = .ok (.aload_n 0, 1) := by decide +kernel
theorem dX12_newCall_102 : decode cX12_newCall 102 = .ok (.getfield 378, 3) := by decide +kernel
theorem dX12_newCall_105 : decode cX12_newCall 105 = .ok (.iastore, 1) := by decide +kernel
theorem dX12_newCall_106 : decode cX12_newCall 106 = .ok (.aload_n 0, 1) := by decide +kernel
theorem dX12_newCall_107 : decode cX12_newCall 107 = .ok (.getfield 216, 3) := by decide +kernel
theorem dX12_newCall_110 : decode cX12_newCall 110 = .ok (.iload 5, 2) := by decide +kernel
theorem dX12_newCall_112 : decode cX12_newCall 112 = .ok (.iconst 0, 1) := by decide +kernel
theorem dX12_newCall_113 : decode cX12_newCall 113 = .ok (.bastore, 1) := by decide +kernel
theorem dX12_newCall_114 : decode cX12_newCall 114 = .ok (.aload_n 0, 1) := by decide +kernel
theorem dX12_newCall_115 : decode cX12_newCall 115 = .ok (.getfield 219, 3) := by decide +kernel
theorem dX12_newCall_118 : decode cX12_newCall 118 = .ok (.iload 5, 2) := by decide +kernel
theorem dX12_newCall_120 : decode cX12_newCall 120 = .ok (.bipush (-2), 2) := by decide +kernel
theorem dX12_newCall_122 : decode cX12_newCall 122 = .ok (.iastore, 1) := by decide +kernel
theorem dX12_newCall_123 : decode cX12_newCall 123 = .ok (.aload_n 0, 1) := by decide +kernel
theorem dX12_newCall_124 : decode cX12_newCall 124 = .ok (.getfield 222, 3) := by decide +kernel
theorem dX12_newCall_127 : decode cX12_newCall 127 = .ok (.iload 5, 2) := by decide +kernel
theorem dX12_newCall_129 : decode cX12_newCall 129 = .ok (.aload_n 0, 1) := by decide +kernel
theorem dX12_newCall_130 : decode cX12_newCall 130 = .ok (.getfield 466, 3) := by decide +kernel
theorem dX12_newCall_133 : decode cX12_newCall 133 = .ok (.iastore, 1) := by decide +kernel
theorem dX12_newCall_134 : decode cX12_newCall 134 = .ok (.aload_n 0, 1) := by decide +kernel
theorem dX12_newCall_135 : decode cX12_newCall 135 = .ok (.dup, 1) := by decide +kernel
theorem dX12_newCall_136 : decode cX12_newCall 136 = .ok (.getfield 466, 3) := by decide +kernel
theorem dX12_newCall_139 : decode cX12_newCall 139 = .ok (.iconst 1, 1) := by decide +kernel
theorem dX12_newCall_140 : decode cX12_newCall 140 = .ok (.iadd, 1) := by decide +kernel
theorem dX12_newCall_141 : decode cX12_newCall 141 = .ok (.putfield 466, 3) := by decide +kernel
theorem dX12_newCall_144 : decode cX12_newCall 144 = .ok (.iload_n 1, 1) := by decide +kernel
theorem dX12_newCall_145 : decode cX12_newCall 145 = .ok (.aload_n 0, 1) := by decide +kernel
theorem dX12_newCall_146 : decode cX12_newCall 146 = .ok (.getfield 260, 3) := by decide +kernel
theorem dX12_newCall_149 : decode cX12_newCall 149 = .ok (.if_icmp .ge 27, 3) := by decide +kernel
theorem dX12_newCall_152 : decode cX12_newCall 152 = .ok (.aload_n 0, 1) := by decide +kernel
theorem dX12_newCall_153 : decode cX12_newCall 153 = .ok (.getfield 244, 3) := by decide +kernel
theorem dX12_newCall_156 : decode cX12_newCall 156 = .ok (.iload 5, 2) := by decide +kernel
theorem dX12_newCall_158 : decode cX12_newCall 158 = .ok (.iconst 0, 1) := by decide +kernel
theorem dX12_newCall_159 : decode cX12_newCall 159 = .ok (.iastore, 1) := by decide +kernel
theorem dX12_newCall_160 : decode cX12_newCall 160 = .ok (.aload_n 0, 1) := by decide +kernel
theorem dX12_newCall_161 : decode cX12_newCall 161 = .ok (.getfield 247, 3) := by decide +kernel
theorem dX12_newCall_164 : decode cX12_newCall 164 = .ok (.iload 5, 2) := by decide +kernel
theorem dX12_newCall_166 : decode cX12_newCall 166 = .ok (.iconst 0, 1) := by decide +kernel
theorem dX12_newCall_167 : decode cX12_newCall 167 = .ok (.iastore, 1) := by decide +kernel
theorem dX12_newCall_168 : decode cX12_newCall 168 = .ok (.aload_n 0, 1) := by decide +kernel
theorem dX12_newCall_169 : decode cX12_newCall 169 = .ok (.getfield 254, 3) := by decide +kernel
theorem dX12_newCall_172 : decode cX12_newCall 172 = .ok (.iload 5, 2) := by decide +kernel
theorem dX12_newCall_174 : decode cX12_newCall 174 = .ok (.iconst 0, 1) := by decide +kernel
theorem dX12_newCall_175 : decode cX12_newCall 175 = .ok (.iastore, 1) := by decide +kernel
theorem dX12_newCall_176 : decode cX12_newCall 176 = .ok (.iload 5, 2) := by decide +kernel
theorem dX12_newCall_178 : decode cX12_newCall 178 = .ok (.ireturn, 1) := by decide +kernel
theorem dX12_joinedWith_0 : decode cX12_joinedWith 0 = .ok (.aload_n 0, 1) := by decide +kernel
theorem dX12_joinedWith_1 : decode cX12_joinedWith 1 = .ok (.getfield 219, 3) := by decide +kernel
theorem dX12_joinedWith_4 : decode cX12_joinedWith 4 = .ok (.iload_n 1, 1) := by decide +kernel
theorem dX12_joinedWith_5 : decode cX12_joinedWith 5 = .ok (.iaload, 1) := by decide +kernel
theorem dX12_joinedWith_6 : decode cX12_joinedWith 6 = .ok (.istore_n 2, 1) := by decide +kernel
theorem dX12_joinedWith_7 : decode cX12_joinedWith 7 = .ok (.iload_n 2, 1) := by decide +kernel
theorem dX12_joinedWith_8 : decode cX12_joinedWith 8 = .ok (.ifCond .lt 29, 3) := by decide +kernel
theorem dX12_joinedWith_11 : decode cX12_joinedWith 11 = .ok (.aload_n 0, 1) := by decide +kernel
theorem dX12_joinedWith_12 : decode cX12_joinedWith 12 = .ok (.getfield 192, 3) := by decide +kernel
theorem dX12_joinedWith_15 : decode cX12_joinedWith 15 = .ok (.iload_n 1, 1) := by decide +kernel
theorem dX12_joinedWith_16 : decode cX12_joinedWith 16 = .ok (.iaload, 1) := by decide +kernel
theorem dX12_joinedWith_17 : decode cX12_joinedWith 17 = .ok (.bipush 10, 2) := by decide +kernel
theorem dX12_joinedWith_19 : decode cX12_joinedWith 19 = .ok (.if_icmp .ne 18, 3) := by decide +kernel
theorem dX12_joinedWith_22 : decode cX12_joinedWith 22 = .ok (.aload_n 0, 1) := by decide +kernel
theorem dX12_joinedWith_23 : decode cX12_joinedWith 23 = .ok (.getfield 192, 3) := by decide +kernel
theorem dX12_joinedWith_26 : decode cX12_joinedWith 26 = .ok (.iload_n 2, 1) := by decide +kernel
theorem dX12_joinedWith_27 : decode cX12_joinedWith 27 = .ok (.iaload, 1) := by decide +kernel
theorem dX12_joinedWith_28 : decode cX12_joinedWith 28 = .ok (.bipush 10, 2) := by decide +kernel
theorem dX12_joinedWith_30 : decode cX12_joinedWith 30 = .ok (.if_icmp .ne 7, 3) := by decide +kernel
theorem dX12_joinedWith_33 : decode cX12_joinedWith 33 = .ok (.iload_n 2, 1) := by decide +kernel
theorem dX12_joinedWith_34 : decode cX12_joinedWith 34 = .ok (.goto 5, 3) := by decide +kernel
theorem dX12_joinedWith_37 : decode cX12_joinedWith 37 = .ok (.bipush (-2), 2) := by decide +kernel
theorem dX12_joinedWith_39 : decode cX12_joinedWith 39 = .ok (.ireturn, 1) := by decide +kernel
theorem dX12_textByte_0 : decode cX12_textByte 0 = .ok (.aload_n 0, 1) := by decide +kernel
theorem dX12_textByte_1 : decode cX12_textByte 1 = .ok (.getfield 257, 3) := by decide +kernel
theorem dX12_textByte_4 : decode cX12_textByte 4 = .ok (.aload_n 0, 1) := by decide +kernel
theorem dX12_textByte_5 : decode cX12_textByte 5 = .ok (.getfield 469, 3) := by decide +kernel
theorem dX12_textByte_8 : decode cX12_textByte 8 = .ok (.iload_n 1, 1) := by decide +kernel
theorem dX12_textByte_9 : decode cX12_textByte 9 = .ok (.iastore, 1) := by decide +kernel
theorem dX12_textByte_10 : decode cX12_textByte 10 = .ok (.aload_n 0, 1) := by decide +kernel
theorem dX12_textByte_11 : decode cX12_textByte 11 = .ok (.dup, 1) := by decide +kernel
theorem dX12_textByte_12 : decode cX12_textByte 12 = .ok (.getfield 469, 3) := by decide +kernel
theorem dX12_textByte_15 : decode cX12_textByte 15 = .ok (.iconst 1, 1) := by decide +kernel
theorem dX12_textByte_16 : decode cX12_textByte 16 = .ok (.iadd, 1) := by decide +kernel
theorem dX12_textByte_17 : decode cX12_textByte 17 = .ok (.putfield 469, 3) := by decide +kernel
theorem dX12_textByte_20 : decode cX12_textByte 20 = .ok (.return_, 1) := by decide +kernel
theorem dX12_beginText_0 : decode cX12_beginText 0 = .ok (.aload_n 0, 1) := by decide +kernel
theorem dX12_beginText_1 : decode cX12_beginText 1 = .ok (.iconst 0, 1) := by decide +kernel
theorem dX12_beginText_2 : decode cX12_beginText 2 = .ok (.putfield 469, 3) := by decide +kernel
theorem dX12_beginText_5 : decode cX12_beginText 5 = .ok (.aload_n 0, 1) := by decide +kernel
theorem dX12_beginText_6 : decode cX12_beginText 6 = .ok (.bipush 9, 2) := by decide +kernel
theorem dX12_beginText_8 : decode cX12_beginText 8 = .ok (.invokevirtual 472, 3) := by decide +kernel
theorem dX12_beginText_11 : decode cX12_beginText 11 = .ok (.aload_n 0, 1) := by decide +kernel
theorem dX12_beginText_12 : decode cX12_beginText 12 = .ok (.iconst 3, 1) := by decide +kernel
theorem dX12_beginText_13 : decode cX12_beginText 13 = .ok (.invokevirtual 472, 3) := by decide +kernel
theorem dX12_beginText_16 : decode cX12_beginText 16 = .ok (.aload_n 0, 1) := by decide +kernel
theorem dX12_beginText_17 : decode cX12_beginText 17 = .ok (.iload_n 1, 1) := by decide +kernel
theorem dX12_beginText_18 : decode cX12_beginText 18 = .ok (.ifCond .eq 7, 3) := by decide +kernel
theorem dX12_beginText_21 : decode cX12_beginText 21 = .ok (.iconst 0, 1) := by decide +kernel
theorem dX12_beginText_22 : decode cX12_beginText 22 = .ok (.goto 6, 3) := by decide +kernel
theorem dX12_beginText_25 : decode cX12_beginText 25 = .ok (.sipush 128, 3) := by decide +kernel
theorem dX12_beginText_28 : decode cX12_beginText 28 = .ok (.iload_n 2, 1) := by decide +kernel
theorem dX12_beginText_29 : decode cX12_beginText 29 = .ok (.bipush 16, 2) := by decide +kernel
theorem dX12_beginText_31 : decode cX12_beginText 31 = .ok (.ishr, 1) := by decide +kernel
theorem dX12_beginText_32 : decode cX12_beginText 32 = .ok (.ior, 1) := by decide +kernel
theorem dX12_beginText_33 : decode cX12_beginText 33 = .ok (.invokevirtual 472, 3) := by decide +kernel
theorem dX12_beginText_36 : decode cX12_beginText 36 = .ok (.aload_n 0, 1) := by decide +kernel
theorem dX12_beginText_37 : decode cX12_beginText 37 = .ok (.iload_n 2, 1) := by decide +kernel
theorem dX12_beginText_38 : decode cX12_beginText 38 = .ok (.bipush 8, 2) := by decide +kernel
theorem dX12_beginText_40 : decode cX12_beginText 40 = .ok (.ishr, 1) := by decide +kernel
theorem dX12_beginText_41 : decode cX12_beginText 41 = .ok (.sipush 255, 3) := by decide +kernel
theorem dX12_beginText_44 : decode cX12_beginText 44 = .ok (.iand, 1) := by decide +kernel
theorem dX12_beginText_45 : decode cX12_beginText 45 = .ok (.invokevirtual 472, 3) := by decide +kernel
theorem dX12_beginText_48 : decode cX12_beginText 48 = .ok (.aload_n 0, 1) := by decide +kernel
theorem dX12_beginText_49 : decode cX12_beginText 49 = .ok (.iload_n 2, 1) := by decide +kernel
theorem dX12_beginText_50 : decode cX12_beginText 50 = .ok (.sipush 255, 3) := by decide +kernel
theorem dX12_beginText_53 : decode cX12_beginText 53 = .ok (.iand, 1) := by decide +kernel
theorem dX12_beginText_54 : decode cX12_beginText 54 = .ok (.invokevirtual 472, 3) := by decide +kernel
theorem dX12_beginText_57 : decode cX12_beginText 57 = .ok (.aload_n 0, 1) := by decide +kernel
theorem dX12_beginText_58 : decode cX12_beginText 58 = .ok (.iload_n 3, 1) := by decide +kernel
theorem dX12_beginText_59 : decode cX12_beginText 59 = .ok (.invokevirtual 472, 3) := by decide +kernel
theorem dX12_beginText_62 : decode cX12_beginText 62 = .ok (.aload_n 0, 1) := by decide +kernel
theorem dX12_beginText_63 : decode cX12_beginText 63 = .ok (.sipush 128, 3) := by decide +kernel
theorem dX12_beginText_66 : decode cX12_beginText 66 = .ok (.invokevirtual 472, 3) := by decide +kernel
theorem dX12_beginText_69 : decode cX12_beginText 69 = .ok (.aload_n 0, 1) := by decide +kernel
theorem dX12_beginText_70 : decode cX12_beginText 70 = .ok (.iload 4, 2) := by decide +kernel
theorem dX12_beginText_72 : decode cX12_beginText 72 = .ok (.bipush 8, 2) := by decide +kernel
theorem dX12_beginText_74 : decode cX12_beginText 74 = .ok (.ishr, 1) := by decide +kernel
theorem dX12_beginText_75 : decode cX12_beginText 75 = .ok (.invokevirtual 472, 3) := by decide +kernel
theorem dX12_beginText_78 : decode cX12_beginText 78 = .ok (.aload_n 0, 1) := by decide +kernel
theorem dX12_beginText_79 : decode cX12_beginText 79 = .ok (.iload 4, 2) := by decide +kernel
theorem dX12_beginText_81 : decode cX12_beginText 81 = .ok (.sipush 255, 3) := by decide +kernel
theorem dX12_beginText_84 : decode cX12_beginText 84 = .ok (.iand, 1) := by decide +kernel
theorem dX12_beginText_85 : decode cX12_beginText 85 = .ok (.invokevirtual 472, 3) := by decide +kernel
theorem dX12_beginText_88 : decode cX12_beginText 88 = .ok (.return_, 1) := by decide +kernel
theorem dX12_element_0 : decode cX12_element 0 = .ok (.aload_n 0, 1) := by decide +kernel
theorem dX12_element_1 : decode cX12_element 1 = .ok (.iload_n 1, 1) := by decide +kernel
theorem dX12_element_2 : decode cX12_element 2 = .ok (.invokevirtual 472, 3) := by decide +kernel
theorem dX12_element_5 : decode cX12_element 5 = .ok (.aload_n 0, 1) := by decide +kernel
theorem dX12_element_6 : decode cX12_element 6 = .ok (.sipush 128, 3) := by decide +kernel
theorem dX12_element_9 : decode cX12_element 9 = .ok (.invokevirtual 472, 3) := by decide +kernel
theorem dX12_element_12 : decode cX12_element 12 = .ok (.aload_n 0, 1) := by decide +kernel
theorem dX12_element_13 : decode cX12_element 13 = .ok (.iconst 0, 1) := by decide +kernel
theorem dX12_element_14 : decode cX12_element 14 = .ok (.invokevirtual 472, 3) := by decide +kernel
theorem dX12_element_17 : decode cX12_element 17 = .ok (.aload_n 0, 1) := by decide +kernel
theorem dX12_element_18 : decode cX12_element 18 = .ok (.iload_n 2, 1) := by decide +kernel
theorem dX12_element_19 : decode cX12_element 19 = .ok (.invokevirtual 472, 3) := by decide +kernel
theorem dX12_element_22 : decode cX12_element 22 = .ok (.iload_n 2, 1) := by decide +kernel
theorem dX12_element_23 : decode cX12_element 23 = .ok (.iconst 2, 1) := by decide +kernel
theorem dX12_element_24 : decode cX12_element 24 = .ok (.if_icmp .ne 15, 3) := by decide +kernel
theorem dX12_element_27 : decode cX12_element 27 = .ok (.aload_n 0, 1) := by decide +kernel
theorem dX12_element_28 : decode cX12_element 28 = .ok (.iload_n 3, 1) := by decide +kernel
theorem dX12_element_29 : decode cX12_element 29 = .ok (.bipush 8, 2) := by decide +kernel
theorem dX12_element_31 : decode cX12_element 31 = .ok (.ishr, 1) := by decide +kernel
theorem dX12_element_32 : decode cX12_element 32 = .ok (.sipush 255, 3) := by decide +kernel
theorem dX12_element_35 : decode cX12_element 35 = .ok (.iand, 1) := by decide +kernel
theorem dX12_element_36 : decode cX12_element 36 = .ok (.invokevirtual 472, 3) := by decide +kernel
theorem dX12_element_39 : decode cX12_element 39 = .ok (.aload_n 0, 1) := by decide +kernel
theorem dX12_element_40 : decode cX12_element 40 = .ok (.iload_n 3, 1) := by decide +kernel
theorem dX12_element_41 : decode cX12_element 41 = .ok (.sipush 255, 3) := by decide +kernel
theorem dX12_element_44 : decode cX12_element 44 = .ok (.iand, 1) := by decide +kernel
theorem dX12_element_45 : decode cX12_element 45 = .ok (.invokevirtual 472, 3) := by decide +kernel
theorem dX12_element_48 : decode cX12_element 48 = .ok (.return_, 1) := by decide +kernel
theorem dX12_sendText_0 : decode cX12_sendText 0 = .ok (.aload_n 0, 1) := by decide +kernel
theorem dX12_sendText_1 : decode cX12_sendText 1 = .ok (.getfield 168, 3) := by decide +kernel
theorem dX12_sendText_4 : decode cX12_sendText 4 = .ok (.iload_n 1, 1) := by decide +kernel
theorem dX12_sendText_5 : decode cX12_sendText 5 = .ok (.iaload, 1) := by decide +kernel
theorem dX12_sendText_6 : decode cX12_sendText 6 = .ok (.bipush 10, 2) := by decide +kernel
theorem dX12_sendText_8 : decode cX12_sendText 8 = .ok (.if_icmp .ne 4, 3) := by decide +kernel
theorem dX12_sendText_11 : decode cX12_sendText 11 = .ok (.return_, 1) := by decide +kernel
theorem dX12_sendText_12 : decode cX12_sendText 12 = .ok (.aload_n 0, 1) := by decide +kernel
theorem dX12_sendText_13 : decode cX12_sendText 13 = .ok (.getfield 165, 3) := by decide +kernel
theorem dX12_sendText_16 : decode cX12_sendText 16 = .ok (.bipush 10, 2) := by decide +kernel
theorem dX12_sendText_18 : decode cX12_sendText 18 = .ok (.iload_n 1, 1) := by decide +kernel
theorem dX12_sendText_19 : decode cX12_sendText 19 = .ok (.imul, 1) := by decide +kernel
theorem dX12_sendText_20 : decode cX12_sendText 20 = .ok (.aload_n 0, 1) := by decide +kernel
theorem dX12_sendText_21 : decode cX12_sendText 21 = .ok (.getfield 168, 3) := by decide +kernel
theorem dX12_sendText_24 : decode cX12_sendText 24 = .ok (.iload_n 1, 1) := by decide +kernel
theorem dX12_sendText_25 : decode cX12_sendText 25 = .ok (.iaload, 1) := by decide +kernel
theorem dX12_sendText_26 : decode cX12_sendText 26 = .ok (.iadd, 1) := by decide +kernel
theorem dX12_sendText_27 : decode cX12_sendText 27 = .ok (.aload_n 0, 1) := by decide +kernel
theorem dX12_sendText_28 : decode cX12_sendText 28 = .ok (.getfield 469, 3) := by decide +kernel
theorem dX12_sendText_31 : decode cX12_sendText 31 = .ok (.iastore, 1) := by decide +kernel
theorem dX12_sendText_32 : decode cX12_sendText 32 = .ok (.iconst 0, 1) := by decide +kernel
theorem dX12_sendText_33 : decode cX12_sendText 33 = .ok (.istore_n 2, 1) := by decide +kernel
theorem dX12_sendText_34 : decode cX12_sendText 34 = .ok (.iload_n 2, 1) := by decide +kernel
theorem dX12_sendText_35 : decode cX12_sendText 35 = .ok (.aload_n 0, 1) := by decide +kernel
theorem dX12_sendText_36 : decode cX12_sendText 36 = .ok (.getfield 469, 3) := by decide +kernel
theorem dX12_sendText_39 : decode cX12_sendText 39 = .ok (.if_icmp .ge 37, 3) := by decide +kernel
theorem dX12_sendText_42 : decode cX12_sendText 42 = .ok (.aload_n 0, 1) := by decide +kernel
theorem dX12_sendText_43 : decode cX12_sendText 43 = .ok (.getfield 162, 3) := by decide +kernel
theorem dX12_sendText_46 : decode cX12_sendText 46 = .ok (.sipush 600, 3) := by decide +kernel
theorem dX12_sendText_49 : decode cX12_sendText 49 = .ok (.iload_n 1, 1) := by decide +kernel
theorem dX12_sendText_50 : decode cX12_sendText 50 = .ok (.imul, 1) := by decide +kernel
theorem dX12_sendText_51 : decode cX12_sendText 51 = .ok (.bipush 60, 2) := by decide +kernel
theorem dX12_sendText_53 : decode cX12_sendText 53 = .ok (.aload_n 0, 1) := by decide +kernel
theorem dX12_sendText_54 : decode cX12_sendText 54 = .ok (.getfield 168, 3) := by decide +kernel
theorem dX12_sendText_57 : decode cX12_sendText 57 = .ok (.iload_n 1, 1) := by decide +kernel
theorem dX12_sendText_58 : decode cX12_sendText 58 = .ok (.iaload, 1) := by decide +kernel
theorem dX12_sendText_59 : decode cX12_sendText 59 = .ok (.imul, 1) := by decide +kernel
theorem dX12_sendText_60 : decode cX12_sendText 60 = .ok (.iadd, 1) := by decide +kernel
theorem dX12_sendText_61 : decode cX12_sendText 61 = .ok (.iload_n 2, 1) := by decide +kernel
theorem dX12_sendText_62 : decode cX12_sendText 62 = .ok (.iadd, 1) := by decide +kernel
theorem dX12_sendText_63 : decode cX12_sendText 63 = .ok (.aload_n 0, 1) := by decide +kernel
theorem dX12_sendText_64 : decode cX12_sendText 64 = .ok (.getfield 257, 3) := by decide +kernel
theorem dX12_sendText_67 : decode cX12_sendText 67 = .ok (.iload_n 2, 1) := by decide +kernel
theorem dX12_sendText_68 : decode cX12_sendText 68 = .ok (.iaload, 1) := by decide +kernel
theorem dX12_sendText_69 : decode cX12_sendText 69 = .ok (.iastore, 1) := by decide +kernel
theorem dX12_sendText_70 : decode cX12_sendText 70 = .ok (.iinc 2 1, 3) := by decide +kernel
theorem dX12_sendText_73 : decode cX12_sendText 73 = .ok (.goto (-39), 3) := by decide +kernel
theorem dX12_sendText_76 : decode cX12_sendText 76 = .ok (.aload_n 0, 1) := by decide +kernel
theorem dX12_sendText_77 : decode cX12_sendText 77 = .ok (.getfield 168, 3) := by decide +kernel
theorem dX12_sendText_80 : decode cX12_sendText 80 = .ok (.iload_n 1, 1) := by decide +kernel
theorem dX12_sendText_81 : decode cX12_sendText 81 = .ok (.dup2, 1) := by decide +kernel
theorem dX12_sendText_82 : decode cX12_sendText 82 = .ok (.iaload, 1) := by decide +kernel
theorem dX12_sendText_83 : decode cX12_sendText 83 = .ok (.iconst 1, 1) := by decide +kernel
theorem dX12_sendText_84 : decode cX12_sendText 84 = .ok (.iadd, 1) := by decide +kernel
theorem dX12_sendText_85 : decode cX12_sendText 85 = .ok (.iastore, 1) := by decide +kernel
theorem dX12_sendText_86 : decode cX12_sendText 86 = .ok (.return_, 1) := by decide +kernel
theorem dX12_plain_0 : decode cX12_plain 0 = .ok (.aload_n 0, 1) := by decide +kernel
theorem dX12_plain_1 : decode cX12_plain 1 = .ok (.aload_n 0, 1) := by decide +kernel
theorem dX12_plain_2 : decode cX12_plain 2 = .ok (.getfield 198, 3) := by decide +kernel
theorem dX12_plain_5 : decode cX12_plain 5 = .ok (.iload_n 1, 1) := by decide +kernel
theorem dX12_plain_6 : decode cX12_plain 6 = .ok (.baload, 1) := by decide +kernel
theorem dX12_plain_7 : decode cX12_plain 7 = .ok (.aload_n 0, 1) := by decide +kernel
theorem dX12_plain_8 : decode cX12_plain 8 = .ok (.getfield 195, 3) := by decide +kernel
theorem dX12_plain_11 : decode cX12_plain 11 = .ok (.iload_n 1, 1) := by decide +kernel
theorem dX12_plain_12 : decode cX12_plain 12 = .ok (.iaload, 1) := by decide +kernel
theorem dX12_plain_13 : decode cX12_plain 13 = .ok (.iload_n 2, 1) := by decide +kernel
theorem dX12_plain_14 : decode cX12_plain 14 = .ok (.iconst 0, 1) := by decide +kernel
theorem dX12_plain_15 : decode cX12_plain 15 = .ok (.invokevirtual 475, 3) := by decide +kernel
theorem dX12_plain_18 : decode cX12_plain 18 = .ok (.aload_n 0, 1) := by decide +kernel
theorem dX12_plain_19 : decode cX12_plain 19 = .ok (.iload_n 1, 1) := by decide +kernel
theorem dX12_plain_20 : decode cX12_plain 20 = .ok (.bipush 40, 2) := by decide +kernel
theorem dX12_plain_22 : decode cX12_plain 22 = .ok (.idiv, 1) := by decide +kernel
theorem dX12_plain_23 : decode cX12_plain 23 = .ok (.invokevirtual 479, 3) := by decide +kernel
theorem dX12_plain_26 : decode cX12_plain 26 = .ok (.return_, 1) := by decide +kernel
theorem dX12_withCause_0 : decode cX12_withCause 0 = .ok (.aload_n 0, 1) := by decide +kernel
theorem dX12_withCause_1 : decode cX12_withCause 1 = .ok (.iload_n 2, 1) := by decide +kernel
theorem dX12_withCause_2 : decode cX12_withCause 2 = .ok (.iload_n 3, 1) := by decide +kernel
theorem dX12_withCause_3 : decode cX12_withCause 3 = .ok (.iload 4, 2) := by decide +kernel
theorem dX12_withCause_5 : decode cX12_withCause 5 = .ok (.iconst 5, 1) := by decide +kernel
theorem dX12_withCause_6 : decode cX12_withCause 6 = .ok (.invokevirtual 475, 3) := by decide +kernel
theorem dX12_withCause_9 : decode cX12_withCause 9 = .ok (.aload_n 0, 1) := by decide +kernel
theorem dX12_withCause_10 : decode cX12_withCause 10 = .ok (.bipush 8, 2) := by decide +kernel
theorem dX12_withCause_12 : decode cX12_withCause 12 = .ok (.iconst 1, 1) := by decide +kernel
theorem dX12_withCause_13 : decode cX12_withCause 13 = .ok (.iload 5, 2) := by decide +kernel
theorem dX12_withCause_15 : decode cX12_withCause 15 = .ok (.invokevirtual 482, 3) := by decide +kernel
theorem dX12_withCause_18 : decode cX12_withCause 18 = .ok (.aload_n 0, 1) := by decide +kernel
theorem dX12_withCause_19 : decode cX12_withCause 19 = .ok (.iload_n 1, 1) := by decide +kernel
theorem dX12_withCause_20 : decode cX12_withCause 20 = .ok (.invokevirtual 479, 3) := by decide +kernel
theorem dX12_withCause_23 : decode cX12_withCause 23 = .ok (.return_, 1) := by decide +kernel
theorem dX12_sendSetup_0 : decode cX12_sendSetup 0 = .ok (.iload_n 1, 1) := by decide +kernel
theorem dX12_sendSetup_1 : decode cX12_sendSetup 1 = .ok (.bipush 40, 2) := by decide +kernel
theorem dX12_sendSetup_3 : decode cX12_sendSetup 3 = .ok (.idiv, 1) := by decide +kernel
theorem dX12_sendSetup_4 : decode cX12_sendSetup 4 = .ok (.istore_n 2, 1) := by decide +kernel
theorem dX12_sendSetup_5 : decode cX12_sendSetup 5 = .ok (.iload_n 2, 1) := by decide +kernel
theorem dX12_sendSetup_6 : decode cX12_sendSetup 6 = .ok (.aload_n 0, 1) := by decide +kernel
theorem dX12_sendSetup_7 : decode cX12_sendSetup 7 = .ok (.getfield 260, 3) := by decide +kernel
theorem dX12_sendSetup_10 : decode cX12_sendSetup 10 = .ok (.if_icmp .lt 7, 3) := by decide +kernel
theorem dX12_sendSetup_13 : decode cX12_sendSetup 13 = .ok (.iconst 1, 1) := by decide +kernel
theorem dX12_sendSetup_14 : decode cX12_sendSetup 14 = .ok (.goto 4, 3) := by decide +kernel
theorem dX12_sendSetup_17 : decode cX12_sendSetup 17 = .ok (.iconst 0, 1) := by decide +kernel
theorem dX12_sendSetup_18 : decode cX12_sendSetup 18 = .ok (.istore_n 3, 1) := by decide +kernel
theorem dX12_sendSetup_19 : decode cX12_sendSetup 19 = .ok (.aload_n 0, 1) := by decide +kernel
theorem dX12_sendSetup_20 : decode cX12_sendSetup 20 = .ok (.iconst 1, 1) := by decide +kernel
theorem dX12_sendSetup_21 : decode cX12_sendSetup 21 = .ok (.aload_n 0, 1) := by decide +kernel
theorem dX12_sendSetup_22 : decode cX12_sendSetup 22 = .ok (.getfield 195, 3) := by decide +kernel
theorem dX12_sendSetup_25 : decode cX12_sendSetup 25 = .ok (.iload_n 1, 1) := by decide +kernel
theorem dX12_sendSetup_26 : decode cX12_sendSetup 26 = .ok (.iaload, 1) := by decide +kernel
theorem dX12_sendSetup_27 : decode cX12_sendSetup 27 = .ok (.iconst 5, 1) := by decide +kernel
theorem dX12_sendSetup_28 : decode cX12_sendSetup 28 = .ok (.iload_n 3, 1) := by decide +kernel
theorem dX12_sendSetup_29 : decode cX12_sendSetup 29 = .ok (.ifCond .eq 8, 3) := by decide +kernel
theorem dX12_sendSetup_32 : decode cX12_sendSetup 32 = .ok (.bipush 21, 2) := by decide +kernel
theorem dX12_sendSetup_34 : decode cX12_sendSetup 34 = .ok (.goto 5, 3) := by decide +kernel
theorem dX12_sendSetup_37 : decode cX12_sendSetup 37 = .ok (.bipush 10, 2) := by decide +kernel
theorem dX12_sendSetup_39 : decode cX12_sendSetup 39 = .ok (.invokevirtual 475, 3) := by decide +kernel
theorem dX12_sendSetup_42 : decode cX12_sendSetup 42 = .ok (.aload_n 0, 1) := by decide +kernel
theorem dX12_sendSetup_43 : decode cX12_sendSetup 43 = .ok (.bipush 112, 2) := by decide +kernel
theorem dX12_sendSetup_45 : decode cX12_sendSetup 45 = .ok (.iconst 1, 1) := by decide +kernel
theorem dX12_sendSetup_46 : decode cX12_sendSetup 46 = .ok (.iload_n 3, 1) := by decide +kernel
theorem dX12_sendSetup_47 : decode cX12_sendSetup 47 = .ok (.ifCond .eq 12, 3) := by decide +kernel
theorem dX12_sendSetup_50 : decode cX12_sendSetup 50 = .ok (.iload_n 2, 1) := by decide +kernel
theorem dX12_sendSetup_51 : decode cX12_sendSetup 51 = .ok (.aload_n 0, 1) := by decide +kernel
theorem dX12_sendSetup_52 : decode cX12_sendSetup 52 = .ok (.getfield 260, 3) := by decide +kernel
theorem dX12_sendSetup_55 : decode cX12_sendSetup 55 = .ok (.isub, 1) := by decide +kernel
theorem dX12_sendSetup_56 : decode cX12_sendSetup 56 = .ok (.goto 9, 3) := by decide +kernel
theorem dX12_sendSetup_59 : decode cX12_sendSetup 59 = .ok (.aload_n 0, 1) := by decide +kernel
theorem dX12_sendSetup_60 : decode cX12_sendSetup 60 = .ok (.getfield 207, 3) := by decide +kernel
theorem dX12_sendSetup_63 : decode cX12_sendSetup 63 = .ok (.iload_n 1, 1) := by decide +kernel
theorem dX12_sendSetup_64 : decode cX12_sendSetup 64 = .ok (.iaload, 1) := by decide +kernel
theorem dX12_sendSetup_65 : decode cX12_sendSetup 65 = .ok (.invokevirtual 482, 3) := by decide +kernel
theorem dX12_sendSetup_68 : decode cX12_sendSetup 68 = .ok (.aload_n 0, 1) := by decide +kernel
theorem dX12_sendSetup_69 : decode cX12_sendSetup 69 = .ok (.bipush 89, 2) := by decide +kernel
theorem dX12_sendSetup_71 : decode cX12_sendSetup 71 = .ok (.iconst 1, 1) := by decide +kernel
theorem dX12_sendSetup_72 : decode cX12_sendSetup 72 = .ok (.aload_n 0, 1) := by decide +kernel
theorem dX12_sendSetup_73 : decode cX12_sendSetup 73 = .ok (.getfield 204, 3) := by decide +kernel
theorem dX12_sendSetup_76 : decode cX12_sendSetup 76 = .ok (.iload_n 1, 1) := by decide +kernel
theorem dX12_sendSetup_77 : decode cX12_sendSetup 77 = .ok (.iaload, 1) := by decide +kernel
theorem dX12_sendSetup_78 : decode cX12_sendSetup 78 = .ok (.invokevirtual 482, 3) := by decide +kernel
theorem dX12_sendSetup_81 : decode cX12_sendSetup 81 = .ok (.iload_n 3, 1) := by decide +kernel
theorem dX12_sendSetup_82 : decode cX12_sendSetup 82 = .ok (.ifCond .eq 29, 3) := by decide +kernel
theorem dX12_sendSetup_85 : decode cX12_sendSetup 85 = .ok (.aload_n 0, 1) := by decide +kernel
theorem dX12_sendSetup_86 : decode cX12_sendSetup 86 = .ok (.bipush 108, 2) := by decide +kernel
theorem dX12_sendSetup_88 : decode cX12_sendSetup 88 = .ok (.iconst 1, 1) := by decide +kernel
theorem dX12_sendSetup_89 : decode cX12_sendSetup 89 = .ok (.aload_n 0, 1) := by decide +kernel
theorem dX12_sendSetup_90 : decode cX12_sendSetup 90 = .ok (.getfield 207, 3) := by decide +kernel
theorem dX12_sendSetup_93 : decode cX12_sendSetup 93 = .ok (.iload_n 1, 1) := by decide +kernel
theorem dX12_sendSetup_94 : decode cX12_sendSetup 94 = .ok (.iaload, 1) := by decide +kernel
theorem dX12_sendSetup_95 : decode cX12_sendSetup 95 = .ok (.invokevirtual 482, 3) := by decide +kernel
theorem dX12_sendSetup_98 : decode cX12_sendSetup 98 = .ok (.aload_n 0, 1) := by decide +kernel
theorem dX12_sendSetup_99 : decode cX12_sendSetup 99 = .ok (.bipush 90, 2) := by decide +kernel
theorem dX12_sendSetup_101 : decode cX12_sendSetup 101 = .ok (.iconst 2, 1) := by decide +kernel
theorem dX12_sendSetup_102 : decode cX12_sendSetup 102 = .ok (.aload_n 0, 1) := by decide +kernel
theorem dX12_sendSetup_103 : decode cX12_sendSetup 103 = .ok (.getfield 201, 3) := by decide +kernel
theorem dX12_sendSetup_106 : decode cX12_sendSetup 106 = .ok (.iload_n 1, 1) := by decide +kernel
theorem dX12_sendSetup_107 : decode cX12_sendSetup 107 = .ok (.iaload, 1) := by decide +kernel
theorem dX12_sendSetup_108 : decode cX12_sendSetup 108 = .ok (.invokevirtual 482, 3) := by decide +kernel
theorem dX12_sendSetup_111 : decode cX12_sendSetup 111 = .ok (.aload_n 0, 1) := by decide +kernel
theorem dX12_sendSetup_112 : decode cX12_sendSetup 112 = .ok (.iload_n 2, 1) := by decide +kernel
theorem dX12_sendSetup_113 : decode cX12_sendSetup 113 = .ok (.invokevirtual 479, 3) := by decide +kernel
theorem dX12_sendSetup_116 : decode cX12_sendSetup 116 = .ok (.return_, 1) := by decide +kernel
theorem dX12_dropFrames_0 : decode cX12_dropFrames 0 = .ok (.iload_n 1, 1) := by decide +kernel
theorem dX12_dropFrames_1 : decode cX12_dropFrames 1 = .ok (.bipush 40, 2) := by decide +kernel
theorem dX12_dropFrames_3 : decode cX12_dropFrames 3 = .ok (.aload_n 0, 1) := by decide +kernel
theorem dX12_dropFrames_4 : decode cX12_dropFrames 4 = .ok (.getfield 260, 3) := by decide +kernel
theorem dX12_dropFrames_7 : decode cX12_dropFrames 7 = .ok (.imul, 1) := by decide +kernel
theorem dX12_dropFrames_8 : decode cX12_dropFrames 8 = .ok (.if_icmp .ge 24, 3) := by decide +kernel
theorem dX12_dropFrames_11 : decode cX12_dropFrames 11 = .ok (.aload_n 0, 1) := by decide +kernel
theorem dX12_dropFrames_12 : decode cX12_dropFrames 12 = .ok (.getfield 244, 3) := by decide +kernel
theorem dX12_dropFrames_15 : decode cX12_dropFrames 15 = .ok (.iload_n 1, 1) := by decide +kernel
theorem dX12_dropFrames_16 : decode cX12_dropFrames 16 = .ok (.iconst 0, 1) := by decide +kernel
theorem dX12_dropFrames_17 : decode cX12_dropFrames 17 = .ok (.iastore, 1) := by decide +kernel
theorem dX12_dropFrames_18 : decode cX12_dropFrames 18 = .ok (.aload_n 0, 1) := by decide +kernel
theorem dX12_dropFrames_19 : decode cX12_dropFrames 19 = .ok (.getfield 247, 3) := by decide +kernel
theorem dX12_dropFrames_22 : decode cX12_dropFrames 22 = .ok (.iload_n 1, 1) := by decide +kernel
theorem dX12_dropFrames_23 : decode cX12_dropFrames 23 = .ok (.iconst 0, 1) := by decide +kernel
theorem dX12_dropFrames_24 : decode cX12_dropFrames 24 = .ok (.iastore, 1) := by decide +kernel
theorem dX12_dropFrames_25 : decode cX12_dropFrames 25 = .ok (.aload_n 0, 1) := by decide +kernel
theorem dX12_dropFrames_26 : decode cX12_dropFrames 26 = .ok (.getfield 254, 3) := by decide +kernel
theorem dX12_dropFrames_29 : decode cX12_dropFrames 29 = .ok (.iload_n 1, 1) := by decide +kernel
theorem dX12_dropFrames_30 : decode cX12_dropFrames 30 = .ok (.iconst 0, 1) := by decide +kernel
theorem dX12_dropFrames_31 : decode cX12_dropFrames 31 = .ok (.iastore, 1) := by decide +kernel
theorem dX12_dropFrames_32 : decode cX12_dropFrames 32 = .ok (.return_, 1) := by decide +kernel
theorem dX12_over_0 : decode cX12_over 0 = .ok (.aload_n 0, 1) := by decide +kernel
theorem dX12_over_1 : decode cX12_over 1 = .ok (.getfield 192, 3) := by decide +kernel
theorem dX12_over_4 : decode cX12_over 4 = .ok (.iload_n 1, 1) := by decide +kernel
theorem dX12_over_5 : decode cX12_over 5 = .ok (.iconst 0, 1) := by decide +kernel
theorem dX12_over_6 : decode cX12_over 6 = .ok (.iastore, 1) := by decide +kernel
theorem dX12_over_7 : decode cX12_over 7 = .ok (.aload_n 0, 1) := by decide +kernel
theorem dX12_over_8 : decode cX12_over 8 = .ok (.getfield 210, 3) := by decide +kernel
theorem dX12_over_11 : decode cX12_over 11 = .ok (.iload_n 1, 1) := by decide +kernel
theorem dX12_over_12 : decode cX12_over 12 = .ok (.iload_n 2, 1) := by decide +kernel
theorem dX12_over_13 : decode cX12_over 13 = .ok (.iastore, 1) := by decide +kernel
theorem dX12_over_14 : decode cX12_over 14 = .ok (.aload_n 0, 1) := by decide +kernel
theorem dX12_over_15 : decode cX12_over 15 = .ok (.iload_n 1, 1) := by decide +kernel
theorem dX12_over_16 : decode cX12_over 16 = .ok (.invokevirtual 485, 3) := by decide +kernel
theorem dX12_over_19 : decode cX12_over 19 = .ok (.return_, 1) := by decide +kernel
theorem dX12_release_0 : decode cX12_release 0 = .ok (.aload_n 0, 1) := by decide +kernel
theorem dX12_release_1 : decode cX12_release 1 = .ok (.getfield 192, 3) := by decide +kernel
theorem dX12_release_4 : decode cX12_release 4 = .ok (.iload_n 1, 1) := by decide +kernel
theorem dX12_release_5 : decode cX12_release 5 = .ok (.bipush 11, 2) := by decide +kernel
theorem dX12_release_7 : decode cX12_release 7 = .ok (.iastore, 1) := by decide +kernel
theorem dX12_release_8 : decode cX12_release 8 = .ok (.aload_n 0, 1) := by decide +kernel
theorem dX12_release_9 : decode cX12_release 9 = .ok (.getfield 210, 3) := by decide +kernel
theorem dX12_release_12 : decode cX12_release 12 = .ok (.iload_n 1, 1) := by decide +kernel
theorem dX12_release_13 : decode cX12_release 13 = .ok (.iload_n 2, 1) := by decide +kernel
theorem dX12_release_14 : decode cX12_release 14 = .ok (.iastore, 1) := by decide +kernel
theorem dX12_release_15 : decode cX12_release 15 = .ok (.aload_n 0, 1) := by decide +kernel
theorem dX12_release_16 : decode cX12_release 16 = .ok (.getfield 213, 3) := by decide +kernel
theorem dX12_release_19 : decode cX12_release 19 = .ok (.iload_n 1, 1) := by decide +kernel
theorem dX12_release_20 : decode cX12_release 20 = .ok (.aload_n 0, 1) := by decide +kernel
theorem dX12_release_21 : decode cX12_release 21 = .ok (.getfield 378, 3) := by decide +kernel
theorem dX12_release_24 : decode cX12_release 24 = .ok (.iastore, 1) := by decide +kernel
theorem dX12_release_25 : decode cX12_release 25 = .ok (.aload_n 0, 1) := by decide +kernel
theorem dX12_release_26 : decode cX12_release 26 = .ok (.getfield 216, 3) := by decide +kernel
theorem dX12_release_29 : decode cX12_release 29 = .ok (.iload_n 1, 1) := by decide +kernel
theorem dX12_release_30 : decode cX12_release 30 = .ok (.iconst 0, 1) := by decide +kernel
theorem dX12_release_31 : decode cX12_release 31 = .ok (.bastore, 1) := by decide +kernel
theorem dX12_release_32 : decode cX12_release 32 = .ok (.aload_n 0, 1) := by decide +kernel
theorem dX12_release_33 : decode cX12_release 33 = .ok (.iload_n 1, 1) := by decide +kernel
theorem dX12_release_34 : decode cX12_release 34 = .ok (.invokevirtual 485, 3) := by decide +kernel
theorem dX12_release_37 : decode cX12_release 37 = .ok (.aload_n 0, 1) := by decide +kernel
theorem dX12_release_38 : decode cX12_release 38 = .ok (.iload_n 1, 1) := by decide +kernel
theorem dX12_release_39 : decode cX12_release 39 = .ok (.bipush 40, 2) := by decide +kernel
theorem dX12_release_41 : decode cX12_release 41 = .ok (.idiv, 1) := by decide +kernel
theorem dX12_release_42 : decode cX12_release 42 = .ok (.aload_n 0, 1) := by decide +kernel
theorem dX12_release_43 : decode cX12_release 43 = .ok (.getfield 198, 3) := by decide +kernel
theorem dX12_release_46 : decode cX12_release 46 = .ok (.iload_n 1, 1) := by decide +kernel
theorem dX12_release_47 : decode cX12_release 47 = .ok (.baload, 1) := by decide +kernel
theorem dX12_release_48 : decode cX12_release 48 = .ok (.aload_n 0, 1) := by decide +kernel
theorem dX12_release_49 : decode cX12_release 49 = .ok (.getfield 195, 3) := by decide +kernel
theorem dX12_release_52 : decode cX12_release 52 = .ok (.iload_n 1, 1) := by decide +kernel
theorem dX12_release_53 : decode cX12_release 53 = .ok (.iaload, 1) := by decide +kernel
theorem dX12_release_54 : decode cX12_release 54 = .ok (.bipush 77, 2) := by decide +kernel
theorem dX12_release_56 : decode cX12_release 56 = .ok (.iload_n 2, 1) := by decide +kernel
theorem dX12_release_57 : decode cX12_release 57 = .ok (.invokevirtual 488, 3) := by decide +kernel
theorem dX12_release_60 : decode cX12_release 60 = .ok (.return_, 1) := by decide +kernel
theorem dX12_releaseOther_0 : decode cX12_releaseOther 0 = .ok (.aload_n 0, 1) := by decide +kernel
theorem dX12_releaseOther_1 : decode cX12_releaseOther 1 = .ok (.getfield 219, 3) := by decide +kernel
theorem dX12_releaseOther_4 : decode cX12_releaseOther 4 = .ok (.iload_n 1, 1) := by decide +kernel
theorem dX12_releaseOther_5 : decode cX12_releaseOther 5 = .ok (.iaload, 1) := by decide +kernel
theorem dX12_releaseOther_6 : decode cX12_releaseOther 6 = .ok (.istore_n 3, 1) := by decide +kernel
theorem dX12_releaseOther_7 : decode cX12_releaseOther 7 = .ok (.iload_n 3, 1) := by decide +kernel
theorem dX12_releaseOther_8 : decode cX12_releaseOther 8 = .ok (.ifCond .ge 4, 3) := by decide +kernel
theorem dX12_releaseOther_11 : decode cX12_releaseOther 11 = .ok (.return_, 1) := by decide +kernel
theorem dX12_releaseOther_12 : decode cX12_releaseOther 12 = .ok (.aload_n 0, 1) := by decide +kernel
theorem dX12_releaseOther_13 : decode cX12_releaseOther 13 = .ok (.getfield 219, 3) := by decide +kernel
theorem dX12_releaseOther_16 : decode cX12_releaseOther 16 = .ok (.iload_n 1, 1) := by decide +kernel
theorem dX12_releaseOther_17 : decode cX12_releaseOther 17 = .ok (.bipush (-2), 2) := by decide +kernel
theorem dX12_releaseOther_19 : decode cX12_releaseOther 19 = .ok (.iastore, 1) := by decide +kernel
theorem dX12_releaseOther_20 : decode cX12_releaseOther 20 = .ok (.aload_n 0, 1) := by decide +kernel
theorem dX12_releaseOther_21 : decode cX12_releaseOther 21 = .ok (.getfield 219, 3) := by decide +kernel
theorem dX12_releaseOther_24 : decode cX12_releaseOther 24 = .ok (.iload_n 3, 1) := by decide +kernel
theorem dX12_releaseOther_25 : decode cX12_releaseOther 25 = .ok (.bipush (-2), 2) := by decide +kernel
theorem dX12_releaseOther_27 : decode cX12_releaseOther 27 = .ok (.iastore, 1) := by decide +kernel
theorem dX12_releaseOther_28 : decode cX12_releaseOther 28 = .ok (.aload_n 0, 1) := by decide +kernel
theorem dX12_releaseOther_29 : decode cX12_releaseOther 29 = .ok (.getfield 192, 3) := by decide +kernel
theorem dX12_releaseOther_32 : decode cX12_releaseOther 32 = .ok (.iload_n 3, 1) := by decide +kernel
theorem dX12_releaseOther_33 : decode cX12_releaseOther 33 = .ok (.iaload, 1) := by decide +kernel
theorem dX12_releaseOther_34 : decode cX12_releaseOther 34 = .ok (.ifCond .eq 20, 3) := by decide +kernel
theorem dX12_releaseOther_37 : decode cX12_releaseOther 37 = .ok (.aload_n 0, 1) := by decide +kernel
theorem dX12_releaseOther_38 : decode cX12_releaseOther 38 = .ok (.getfield 192, 3) := by decide +kernel
theorem dX12_releaseOther_41 : decode cX12_releaseOther 41 = .ok (.iload_n 3, 1) := by decide +kernel
theorem dX12_releaseOther_42 : decode cX12_releaseOther 42 = .ok (.iaload, 1) := by decide +kernel
theorem dX12_releaseOther_43 : decode cX12_releaseOther 43 = .ok (.bipush 11, 2) := by decide +kernel
theorem dX12_releaseOther_45 : decode cX12_releaseOther 45 = .ok (.if_icmp .eq 9, 3) := by decide +kernel
theorem dX12_releaseOther_48 : decode cX12_releaseOther 48 = .ok (.aload_n 0, 1) := by decide +kernel
theorem dX12_releaseOther_49 : decode cX12_releaseOther 49 = .ok (.iload_n 3, 1) := by decide +kernel
theorem dX12_releaseOther_50 : decode cX12_releaseOther 50 = .ok (.iload_n 2, 1) := by decide +kernel
theorem dX12_releaseOther_51 : decode cX12_releaseOther 51 = .ok (.invokevirtual 492, 3) := by decide +kernel
theorem dX12_releaseOther_54 : decode cX12_releaseOther 54 = .ok (.return_, 1) := by decide +kernel
theorem dX12_nextCall_0 : decode cX12_nextCall 0 = .ok (.bipush (-2), 2) := by decide +kernel
theorem dX12_nextCall_2 : decode cX12_nextCall 2 = .ok (.istore_n 3, 1) := by decide +kernel
theorem dX12_nextCall_3 : decode cX12_nextCall 3 = .ok (.bipush 40, 2) := by decide +kernel
theorem dX12_nextCall_5 : decode cX12_nextCall 5 = .ok (.iload_n 1, 1) := by decide +kernel
theorem dX12_nextCall_6 : decode cX12_nextCall 6 = .ok (.imul, 1) := by decide +kernel
theorem dX12_nextCall_7 : decode cX12_nextCall 7 = .ok (.istore 4, 2) := by decide +kernel
theorem dX12_nextCall_9 : decode cX12_nextCall 9 = .ok (.iload 4, 2) := by decide +kernel
theorem dX12_nextCall_11 : decode cX12_nextCall 11 = .ok (.bipush 40, 2) := by decide +kernel
theorem dX12_nextCall_13 : decode cX12_nextCall 13 = .ok (.iload_n 1, 1) := by decide +kernel
theorem dX12_nextCall_14 : decode cX12_nextCall 14 = .ok (.imul, 1) := by decide +kernel
theorem dX12_nextCall_15 : decode cX12_nextCall 15 = .ok (.bipush 40, 2) := by decide +kernel
theorem dX12_nextCall_17 : decode cX12_nextCall 17 = .ok (.iadd, 1) := by decide +kernel
theorem dX12_nextCall_18 : decode cX12_nextCall 18 = .ok (.if_icmp .ge 69, 3) := by decide +kernel
theorem dX12_nextCall_21 : decode cX12_nextCall 21 = .ok (.aload_n 0, 1) := by decide +kernel
theorem dX12_nextCall_22 : decode cX12_nextCall 22 = .ok (.getfield 192, 3) := by decide +kernel
theorem dX12_nextCall_25 : decode cX12_nextCall 25 = .ok (.iload 4, 2) := by decide +kernel
theorem dX12_nextCall_27 : decode cX12_nextCall 27 = .ok (.iaload, 1) := by decide +kernel
theorem dX12_nextCall_28 : decode cX12_nextCall 28 = .ok (.ifCond .eq 18, 3) := by decide +kernel
theorem dX12_nextCall_31 : decode cX12_nextCall 31 = .ok (.aload_n 0, 1) := by decide +kernel
theorem dX12_nextCall_32 : decode cX12_nextCall 32 = .ok (.getfield 222, 3) := by decide +kernel
theorem dX12_nextCall_35 : decode cX12_nextCall 35 = .ok (.iload 4, 2) := by decide +kernel
theorem dX12_nextCall_37 : decode cX12_nextCall 37 = .ok (.iaload, 1) := by decide +kernel
theorem dX12_nextCall_38 : decode cX12_nextCall 38 = .ok (.iload_n 2, 1) := by decide +kernel
theorem dX12_nextCall_39 : decode cX12_nextCall 39 = .ok (.if_icmp .le 7, 3) := by decide +kernel
theorem dX12_nextCall_42 : decode cX12_nextCall 42 = .ok (.iconst 1, 1) := by decide +kernel
theorem dX12_nextCall_43 : decode cX12_nextCall 43 = .ok (.goto 4, 3) := by decide +kernel
theorem dX12_nextCall_46 : decode cX12_nextCall 46 = .ok (.iconst 0, 1) := by decide +kernel
theorem dX12_nextCall_47 : decode cX12_nextCall 47 = .ok (.istore 5, 2) := by decide +kernel
theorem dX12_nextCall_49 : decode cX12_nextCall 49 = .ok (.iload 5, 2) := by decide +kernel
theorem dX12_nextCall_51 : decode cX12_nextCall 51 = .ok (.ifCond .eq 28, 3) := by decide +kernel
theorem dX12_nextCall_54 : decode cX12_nextCall 54 = .ok (.iload_n 3, 1) := by decide +kernel
theorem dX12_nextCall_55 : decode cX12_nextCall 55 = .ok (.ifCond .lt 19, 3) := by decide +kernel
theorem dX12_nextCall_58 : decode cX12_nextCall 58 = .ok (.aload_n 0, 1) := by decide +kernel
theorem dX12_nextCall_59 : decode cX12_nextCall 59 = .ok (.getfield 222, 3) := by decide +kernel
theorem dX12_nextCall_62 : decode cX12_nextCall 62 = .ok (.iload 4, 2) := by decide +kernel
theorem dX12_nextCall_64 : decode cX12_nextCall 64 = .ok (.iaload, 1) := by decide +kernel
theorem dX12_nextCall_65 : decode cX12_nextCall 65 = .ok (.aload_n 0, 1) := by decide +kernel
theorem dX12_nextCall_66 : decode cX12_nextCall 66 = .ok (.getfield 222, 3) := by decide +kernel
theorem dX12_nextCall_69 : decode cX12_nextCall 69 = .ok (.iload_n 3, 1) := by decide +kernel
theorem dX12_nextCall_70 : decode cX12_nextCall 70 = .ok (.iaload, 1) := by decide +kernel
theorem dX12_nextCall_71 : decode cX12_nextCall 71 = .ok (.if_icmp .ge 8, 3) := by decide +kernel
theorem dX12_nextCall_74 : decode cX12_nextCall 74 = .ok (.iload 4, 2) := by decide +kernel
theorem dX12_nextCall_76 : decode cX12_nextCall 76 = .ok (.goto 4, 3) := by decide +kernel
theorem dX12_nextCall_79 : decode cX12_nextCall 79 = .ok (.iload_n 3, 1) := by decide +kernel
theorem dX12_nextCall_80 : decode cX12_nextCall 80 = .ok (.istore_n 3, 1) := by decide +kernel
theorem dX12_nextCall_81 : decode cX12_nextCall 81 = .ok (.iinc 4 1, 3) := by decide +kernel
theorem dX12_nextCall_84 : decode cX12_nextCall 84 = .ok (.goto (-75), 3) := by decide +kernel
theorem dX12_nextCall_87 : decode cX12_nextCall 87 = .ok (.iload_n 3, 1) := by decide +kernel
theorem dX12_nextCall_88 : decode cX12_nextCall 88 = .ok (.ireturn, 1) := by decide +kernel
theorem dX12_cutCalls_0 : decode cX12_cutCalls 0 = .ok (.aload_n 0, 1) := by decide +kernel
theorem dX12_cutCalls_1 : decode cX12_cutCalls 1 = .ok (.iload_n 1, 1) := by decide +kernel
theorem dX12_cutCalls_2 : decode cX12_cutCalls 2 = .ok (.iconst (-1), 1) := by decide +kernel
theorem dX12_cutCalls_3 : decode cX12_cutCalls 3 = .ok (.invokevirtual 495, 3) := by decide +kernel
theorem dX12_cutCalls_6 : decode cX12_cutCalls 6 = .ok (.istore_n 2, 1) := by decide +kernel
theorem dX12_cutCalls_7 : decode cX12_cutCalls 7 = .ok (.iload_n 2, 1) := by decide +kernel
theorem dX12_cutCalls_8 : decode cX12_cutCalls 8 = .ok (.ifCond .lt 34, 3) := by decide +kernel
theorem dX12_cutCalls_11 : decode cX12_cutCalls 11 = .ok (.aload_n 0, 1) := by decide +kernel
theorem dX12_cutCalls_12 : decode cX12_cutCalls 12 = .ok (.getfield 222, 3) := by decide +kernel
theorem dX12_cutCalls_15 : decode cX12_cutCalls 15 = .ok (.iload_n 2, 1) := by decide +kernel
theorem dX12_cutCalls_16 : decode cX12_cutCalls 16 = .ok (.iaload, 1) := by decide +kernel
theorem dX12_cutCalls_17 : decode cX12_cutCalls 17 = .ok (.istore_n 3, 1) := by decide +kernel
theorem dX12_cutCalls_18 : decode cX12_cutCalls 18 = .ok (.aload_n 0, 1) := by decide +kernel
theorem dX12_cutCalls_19 : decode cX12_cutCalls 19 = .ok (.iload_n 2, 1) := by decide +kernel
theorem dX12_cutCalls_20 : decode cX12_cutCalls 20 = .ok (.bipush 41, 2) := by decide +kernel
theorem dX12_cutCalls_22 : decode cX12_cutCalls 22 = .ok (.invokevirtual 498, 3) := by decide +kernel
theorem dX12_cutCalls_25 : decode cX12_cutCalls 25 = .ok (.aload_n 0, 1) := by decide +kernel
theorem dX12_cutCalls_26 : decode cX12_cutCalls 26 = .ok (.iload_n 2, 1) := by decide +kernel
theorem dX12_cutCalls_27 : decode cX12_cutCalls 27 = .ok (.bipush 41, 2) := by decide +kernel
theorem dX12_cutCalls_29 : decode cX12_cutCalls 29 = .ok (.invokevirtual 501, 3) := by decide +kernel
theorem dX12_cutCalls_32 : decode cX12_cutCalls 32 = .ok (.aload_n 0, 1) := by decide +kernel
theorem dX12_cutCalls_33 : decode cX12_cutCalls 33 = .ok (.iload_n 1, 1) := by decide +kernel
theorem dX12_cutCalls_34 : decode cX12_cutCalls 34 = .ok (.iload_n 3, 1) := by decide +kernel
theorem dX12_cutCalls_35 : decode cX12_cutCalls 35 = .ok (.invokevirtual 495, 3) := by decide +kernel
theorem dX12_cutCalls_38 : decode cX12_cutCalls 38 = .ok (.istore_n 2, 1) := by decide +kernel
theorem dX12_cutCalls_39 : decode cX12_cutCalls 39 = .ok (.goto (-32), 3) := by decide +kernel
theorem dX12_cutCalls_42 : decode cX12_cutCalls 42 = .ok (.return_, 1) := by decide +kernel
theorem dX12_callTimers_0 : decode cX12_callTimers 0 = .ok (.aload_n 0, 1) := by decide +kernel
theorem dX12_callTimers_1 : decode cX12_callTimers 1 = .ok (.iload_n 1, 1) := by decide +kernel
theorem dX12_callTimers_2 : decode cX12_callTimers 2 = .ok (.iconst (-1), 1) := by decide +kernel
theorem dX12_callTimers_3 : decode cX12_callTimers 3 = .ok (.invokevirtual 495, 3) := by decide +kernel
theorem dX12_callTimers_6 : decode cX12_callTimers 6 = .ok (.istore_n 2, 1) := by decide +kernel
theorem dX12_callTimers_7 : decode cX12_callTimers 7 = .ok (.iload_n 2, 1) := by decide +kernel
theorem dX12_callTimers_8 : decode cX12_callTimers 8 = .ok (.ifCond .lt 36, 3) := by decide +kernel
theorem dX12_callTimers_11 : decode cX12_callTimers 11 = .ok (.aload_n 0, 1) := by decide +kernel
theorem dX12_callTimers_12 : decode cX12_callTimers 12 = .ok (.getfield 222, 3) := by decide +kernel
theorem dX12_callTimers_15 : decode cX12_callTimers 15 = .ok (.iload_n 2, 1) := by decide +kernel
theorem dX12_callTimers_16 : decode cX12_callTimers 16 = .ok (.iaload, 1) := by decide +kernel
theorem dX12_callTimers_17 : decode cX12_callTimers 17 = .ok (.istore_n 3, 1) := by decide +kernel
theorem dX12_callTimers_18 : decode cX12_callTimers 18 = .ok (.aload_n 0, 1) := by decide +kernel
theorem dX12_callTimers_19 : decode cX12_callTimers 19 = .ok (.iload_n 2, 1) := by decide +kernel
theorem dX12_callTimers_20 : decode cX12_callTimers 20 = .ok (.aload_n 0, 1) := by decide +kernel
theorem dX12_callTimers_21 : decode cX12_callTimers 21 = .ok (.getfield 378, 3) := by decide +kernel
theorem dX12_callTimers_24 : decode cX12_callTimers 24 = .ok (.aload_n 0, 1) := by decide +kernel
theorem dX12_callTimers_25 : decode cX12_callTimers 25 = .ok (.getfield 213, 3) := by decide +kernel
theorem dX12_callTimers_28 : decode cX12_callTimers 28 = .ok (.iload_n 2, 1) := by decide +kernel
theorem dX12_callTimers_29 : decode cX12_callTimers 29 = .ok (.iaload, 1) := by decide +kernel
theorem dX12_callTimers_30 : decode cX12_callTimers 30 = .ok (.isub, 1) := by decide +kernel
theorem dX12_callTimers_31 : decode cX12_callTimers 31 = .ok (.invokevirtual 504, 3) := by decide +kernel
theorem dX12_callTimers_34 : decode cX12_callTimers 34 = .ok (.aload_n 0, 1) := by decide +kernel
theorem dX12_callTimers_35 : decode cX12_callTimers 35 = .ok (.iload_n 1, 1) := by decide +kernel
theorem dX12_callTimers_36 : decode cX12_callTimers 36 = .ok (.iload_n 3, 1) := by decide +kernel
theorem dX12_callTimers_37 : decode cX12_callTimers 37 = .ok (.invokevirtual 495, 3) := by decide +kernel
theorem dX12_callTimers_40 : decode cX12_callTimers 40 = .ok (.istore_n 2, 1) := by decide +kernel
theorem dX12_callTimers_41 : decode cX12_callTimers 41 = .ok (.goto (-34), 3) := by decide +kernel
theorem dX12_callTimers_44 : decode cX12_callTimers 44 = .ok (.return_, 1) := by decide +kernel
theorem dX12_callTimer_0 : decode cX12_callTimer 0 = .ok (.iload_n 1, 1) := by decide +kernel
theorem dX12_callTimer_1 : decode cX12_callTimer 1 = .ok (.bipush 40, 2) := by decide +kernel
theorem dX12_callTimer_3 : decode cX12_callTimer 3 = .ok (.aload_n 0, 1) := by decide +kernel
theorem dX12_callTimer_4 : decode cX12_callTimer 4 = .ok (.getfield 260, 3) := by decide +kernel
theorem dX12_callTimer_7 : decode cX12_callTimer 7 = .ok (.imul, 1) := by decide +kernel
theorem dX12_callTimer_8 : decode cX12_callTimer 8 = .ok (.if_icmp .lt 7, 3) := by decide +kernel
theorem dX12_callTimer_11 : decode cX12_callTimer 11 = .ok (.iconst 1, 1) := by decide +kernel
theorem dX12_callTimer_12 : decode cX12_callTimer 12 = .ok (.goto 4, 3) := by decide +kernel
theorem dX12_callTimer_15 : decode cX12_callTimer 15 = .ok (.iconst 0, 1) := by decide +kernel
theorem dX12_callTimer_16 : decode cX12_callTimer 16 = .ok (.istore_n 3, 1) := by decide +kernel
theorem dX12_callTimer_17 : decode cX12_callTimer 17 = .ok (.aload_n 0, 1) := by decide +kernel
theorem dX12_callTimer_18 : decode cX12_callTimer 18 = .ok (.getfield 192, 3) := by decide +kernel
theorem dX12_callTimer_21 : decode cX12_callTimer 21 = .ok (.iload_n 1, 1) := by decide +kernel
theorem dX12_callTimer_22 : decode cX12_callTimer 22 = .ok (.iaload, 1) := by decide +kernel
theorem dX12_callTimer_23 : decode cX12_callTimer 23 = .ok (.tableswitch 246 1 11 #[57, 246, 66, 246, 246, 86, 246, 124, 140, 246, 163], 57) := by decide +kernel
theorem dX12_callTimer_80 : decode cX12_callTimer 80 = .ok (.aload_n 0, 1) := by decide +kernel
theorem dX12_callTimer_81 : decode cX12_callTimer 81 = .ok (.iload_n 1, 1) := by decide +kernel
theorem dX12_callTimer_82 : decode cX12_callTimer 82 = .ok (.iload_n 2, 1) := by decide +kernel
theorem dX12_callTimer_83 : decode cX12_callTimer 83 = .ok (.invokevirtual 507, 3) := by decide +kernel
theorem dX12_callTimer_86 : decode cX12_callTimer 86 = .ok (.goto 183, 3) := by decide +kernel
theorem dX12_callTimer_89 : decode cX12_callTimer 89 = .ok (.iload_n 3, 1) := by decide +kernel
theorem dX12_callTimer_90 : decode cX12_callTimer 90 = .ok (.ifCond .ne 179, 3) := by decide +kernel
theorem dX12_callTimer_93 : decode cX12_callTimer 93 = .ok (.iload_n 2, 1) := by decide +kernel
theorem dX12_callTimer_94 : decode cX12_callTimer 94 = .ok (.bipush 40, 2) := by decide +kernel
theorem dX12_callTimer_96 : decode cX12_callTimer 96 = .ok (.if_icmp .lt 173, 3) := by decide +kernel
theorem dX12_callTimer_99 : decode cX12_callTimer 99 = .ok (.aload_n 0, 1) := by decide +kernel
theorem dX12_callTimer_100 : decode cX12_callTimer 100 = .ok (.iload_n 1, 1) := by decide +kernel
theorem dX12_callTimer_101 : decode cX12_callTimer 101 = .ok (.bipush 102, 2) := by decide +kernel
theorem dX12_callTimer_103 : decode cX12_callTimer 103 = .ok (.invokevirtual 492, 3) := by decide +kernel
theorem dX12_callTimer_106 : decode cX12_callTimer 106 = .ok (.goto 163, 3) := by decide +kernel
theorem dX12_callTimer_109 : decode cX12_callTimer 109 = .ok (.iload_n 3, 1) := by decide +kernel
theorem dX12_callTimer_110 : decode cX12_callTimer 110 = .ok (.ifCond .eq 12, 3) := by decide +kernel
theorem dX12_callTimer_113 : decode cX12_callTimer 113 = .ok (.aload_n 0, 1) := by decide +kernel
theorem dX12_callTimer_114 : decode cX12_callTimer 114 = .ok (.iload_n 1, 1) := by decide +kernel
theorem dX12_callTimer_115 : decode cX12_callTimer 115 = .ok (.iload_n 2, 1) := by decide +kernel
theorem dX12_callTimer_116 : decode cX12_callTimer 116 = .ok (.invokevirtual 507, 3) := by decide +kernel
theorem dX12_callTimer_119 : decode cX12_callTimer 119 = .ok (.goto 150, 3) := by decide +kernel
theorem dX12_callTimer_122 : decode cX12_callTimer 122 = .ok (.iload_n 2, 1) := by decide +kernel
theorem dX12_callTimer_123 : decode cX12_callTimer 123 = .ok (.aload_n 0, 1) := by decide +kernel
theorem dX12_callTimer_124 : decode cX12_callTimer 124 = .ok (.getfield 210, 3) := by decide +kernel
theorem dX12_callTimer_127 : decode cX12_callTimer 127 = .ok (.iload_n 1, 1) := by decide +kernel
theorem dX12_callTimer_128 : decode cX12_callTimer 128 = .ok (.iaload, 1) := by decide +kernel
theorem dX12_callTimer_129 : decode cX12_callTimer 129 = .ok (.if_icmp .lt 140, 3) := by decide +kernel
theorem dX12_callTimer_132 : decode cX12_callTimer 132 = .ok (.aload_n 0, 1) := by decide +kernel
theorem dX12_callTimer_133 : decode cX12_callTimer 133 = .ok (.getfield 210, 3) := by decide +kernel
theorem dX12_callTimer_136 : decode cX12_callTimer 136 = .ok (.iload_n 1, 1) := by decide +kernel
theorem dX12_callTimer_137 : decode cX12_callTimer 137 = .ok (.iconst 0, 1) := by decide +kernel
theorem dX12_callTimer_138 : decode cX12_callTimer 138 = .ok (.iastore, 1) := by decide +kernel
theorem dX12_callTimer_139 : decode cX12_callTimer 139 = .ok (.aload_n 0, 1) := by decide +kernel
theorem dX12_callTimer_140 : decode cX12_callTimer 140 = .ok (.iload_n 1, 1) := by decide +kernel
theorem dX12_callTimer_141 : decode cX12_callTimer 141 = .ok (.invokevirtual 510, 3) := by decide +kernel
theorem dX12_callTimer_144 : decode cX12_callTimer 144 = .ok (.goto 125, 3) := by decide +kernel
theorem dX12_callTimer_147 : decode cX12_callTimer 147 = .ok (.iload_n 2, 1) := by decide +kernel
theorem dX12_callTimer_148 : decode cX12_callTimer 148 = .ok (.bipush 10, 2) := by decide +kernel
theorem dX12_callTimer_150 : decode cX12_callTimer 150 = .ok (.if_icmp .lt 119, 3) := by decide +kernel
theorem dX12_callTimer_153 : decode cX12_callTimer 153 = .ok (.aload_n 0, 1) := by decide +kernel
theorem dX12_callTimer_154 : decode cX12_callTimer 154 = .ok (.iload_n 1, 1) := by decide +kernel
theorem dX12_callTimer_155 : decode cX12_callTimer 155 = .ok (.bipush 102, 2) := by decide +kernel
theorem dX12_callTimer_157 : decode cX12_callTimer 157 = .ok (.invokevirtual 492, 3) := by decide +kernel
theorem dX12_callTimer_160 : decode cX12_callTimer 160 = .ok (.goto 109, 3) := by decide +kernel
theorem dX12_callTimer_163 : decode cX12_callTimer 163 = .ok (.iload_n 2, 1) := by decide +kernel
theorem dX12_callTimer_164 : decode cX12_callTimer 164 = .ok (.bipush 40, 2) := by decide +kernel
theorem dX12_callTimer_166 : decode cX12_callTimer 166 = .ok (.if_icmp .lt 103, 3) := by decide +kernel
theorem dX12_callTimer_169 : decode cX12_callTimer 169 = .ok (.aload_n 0, 1) := by decide +kernel
theorem dX12_callTimer_170 : decode cX12_callTimer 170 = .ok (.iload_n 1, 1) := by decide +kernel
theorem dX12_callTimer_171 : decode cX12_callTimer 171 = .ok (.bipush 102, 2) := by decide +kernel
theorem dX12_callTimer_173 : decode cX12_callTimer 173 = .ok (.invokevirtual 492, 3) := by decide +kernel
theorem dX12_callTimer_176 : decode cX12_callTimer 176 = .ok (.aload_n 0, 1) := by decide +kernel
theorem dX12_callTimer_177 : decode cX12_callTimer 177 = .ok (.iload_n 1, 1) := by decide +kernel
theorem dX12_callTimer_178 : decode cX12_callTimer 178 = .ok (.bipush 102, 2) := by decide +kernel
theorem dX12_callTimer_180 : decode cX12_callTimer 180 = .ok (.invokevirtual 501, 3) := by decide +kernel
theorem dX12_callTimer_183 : decode cX12_callTimer 183 = .ok (.goto 86, 3) := by decide +kernel
theorem dX12_callTimer_186 : decode cX12_callTimer 186 = .ok (.iload_n 2, 1) := by decide +kernel
theorem dX12_callTimer_187 : decode cX12_callTimer 187 = .ok (.bipush 10, 2) := by decide +kernel
theorem dX12_callTimer_189 : decode cX12_callTimer 189 = .ok (.if_icmp .lt 26, 3) := by decide +kernel
theorem dX12_callTimer_192 : decode cX12_callTimer 192 = .ok (.aload_n 0, 1) := by decide +kernel
theorem dX12_callTimer_193 : decode cX12_callTimer 193 = .ok (.getfield 216, 3) := by decide +kernel
theorem dX12_callTimer_196 : decode cX12_callTimer 196 = .ok (.iload_n 1, 1) := by decide +kernel
theorem dX12_callTimer_197 : decode cX12_callTimer 197 = .ok (.baload, 1) := by decide +kernel
theorem dX12_callTimer_198 : decode cX12_callTimer 198 = .ok (.ifCond .eq 17, 3) := by decide +kernel
theorem dX12_callTimer_201 : decode cX12_callTimer 201 = .ok (.aload_n 0, 1) := by decide +kernel
theorem dX12_callTimer_202 : decode cX12_callTimer 202 = .ok (.iload_n 1, 1) := by decide +kernel
theorem dX12_callTimer_203 : decode cX12_callTimer 203 = .ok (.aload_n 0, 1) := by decide +kernel
theorem dX12_callTimer_204 : decode cX12_callTimer 204 = .ok (.getfield 210, 3) := by decide +kernel
theorem dX12_callTimer_207 : decode cX12_callTimer 207 = .ok (.iload_n 1, 1) := by decide +kernel
theorem dX12_callTimer_208 : decode cX12_callTimer 208 = .ok (.iaload, 1) := by decide +kernel
theorem dX12_callTimer_209 : decode cX12_callTimer 209 = .ok (.invokevirtual 498, 3) := by decide +kernel
theorem dX12_callTimer_212 : decode cX12_callTimer 212 = .ok (.goto 57, 3) := by decide +kernel
theorem dX12_callTimer_215 : decode cX12_callTimer 215 = .ok (.iload_n 2, 1) := by decide +kernel
theorem dX12_callTimer_216 : decode cX12_callTimer 216 = .ok (.bipush 10, 2) := by decide +kernel
theorem dX12_callTimer_218 : decode cX12_callTimer 218 = .ok (.if_icmp .lt 51, 3) := by decide +kernel
theorem dX12_callTimer_221 : decode cX12_callTimer 221 = .ok (.aload_n 0, 1) := by decide +kernel
theorem dX12_callTimer_222 : decode cX12_callTimer 222 = .ok (.getfield 216, 3) := by decide +kernel
theorem dX12_callTimer_225 : decode cX12_callTimer 225 = .ok (.iload_n 1, 1) := by decide +kernel
theorem dX12_callTimer_226 : decode cX12_callTimer 226 = .ok (.iconst 1, 1) := by decide +kernel
theorem dX12_callTimer_227 : decode cX12_callTimer 227 = .ok (.bastore, 1) := by decide +kernel
theorem dX12_callTimer_228 : decode cX12_callTimer 228 = .ok (.aload_n 0, 1) := by decide +kernel
theorem dX12_callTimer_229 : decode cX12_callTimer 229 = .ok (.getfield 213, 3) := by decide +kernel
theorem dX12_callTimer_232 : decode cX12_callTimer 232 = .ok (.iload_n 1, 1) := by decide +kernel
theorem dX12_callTimer_233 : decode cX12_callTimer 233 = .ok (.aload_n 0, 1) := by decide +kernel
theorem dX12_callTimer_234 : decode cX12_callTimer 234 = .ok (.getfield 378, 3) := by decide +kernel
theorem dX12_callTimer_237 : decode cX12_callTimer 237 = .ok (.iastore, 1) := by decide +kernel
theorem dX12_callTimer_238 : decode cX12_callTimer 238 = .ok (.aload_n 0, 1) := by decide +kernel
theorem dX12_callTimer_239 : decode cX12_callTimer 239 = .ok (.iload_n 1, 1) := by decide +kernel
theorem dX12_callTimer_240 : decode cX12_callTimer 240 = .ok (.bipush 40, 2) := by decide +kernel
theorem dX12_callTimer_242 : decode cX12_callTimer 242 = .ok (.idiv, 1) := by decide +kernel
theorem dX12_callTimer_243 : decode cX12_callTimer 243 = .ok (.aload_n 0, 1) := by decide +kernel
theorem dX12_callTimer_244 : decode cX12_callTimer 244 = .ok (.getfield 198, 3) := by decide +kernel
theorem dX12_callTimer_247 : decode cX12_callTimer 247 = .ok (.iload_n 1, 1) := by decide +kernel
theorem dX12_callTimer_248 : decode cX12_callTimer 248 = .ok (.baload, 1) := by decide +kernel
theorem dX12_callTimer_249 : decode cX12_callTimer 249 = .ok (.aload_n 0, 1) := by decide +kernel
theorem dX12_callTimer_250 : decode cX12_callTimer 250 = .ok (.getfield 195, 3) := by decide +kernel
theorem dX12_callTimer_253 : decode cX12_callTimer 253 = .ok (.iload_n 1, 1) := by decide +kernel
theorem dX12_callTimer_254 : decode cX12_callTimer 254 = .ok (.iaload, 1) := by decide +kernel
theorem dX12_callTimer_255 : decode cX12_callTimer 255 = .ok (.bipush 77, 2) := by decide +kernel
theorem dX12_callTimer_257 : decode cX12_callTimer 257 = .ok (.aload_n 0, 1) := by decide +kernel
theorem dX12_callTimer_258 : decode cX12_callTimer 258 = .ok (.getfield 210, 3) := by decide +kernel
theorem dX12_callTimer_261 : decode cX12_callTimer 261 = .ok (.iload_n 1, 1) := by decide +kernel
theorem dX12_callTimer_262 : decode cX12_callTimer 262 = .ok (.iaload, 1) := by decide +kernel
theorem dX12_callTimer_263 : decode cX12_callTimer 263 = .ok (.invokevirtual 488, 3) := by decide +kernel
theorem dX12_callTimer_266 : decode cX12_callTimer 266 = .ok (.goto 3, 3) := by decide +kernel
theorem dX12_callTimer_269 : decode cX12_callTimer 269 = .ok (.return_, 1) := by decide +kernel
theorem dX12_repeatSetup_0 : decode cX12_repeatSetup 0 = .ok (.iload_n 2, 1) := by decide +kernel
theorem dX12_repeatSetup_1 : decode cX12_repeatSetup 1 = .ok (.bipush 8, 2) := by decide +kernel
theorem dX12_repeatSetup_3 : decode cX12_repeatSetup 3 = .ok (.if_icmp .ge 4, 3) := by decide +kernel
theorem dX12_repeatSetup_6 : decode cX12_repeatSetup 6 = .ok (.return_, 1) := by decide +kernel
theorem dX12_repeatSetup_7 : decode cX12_repeatSetup 7 = .ok (.aload_n 0, 1) := by decide +kernel
theorem dX12_repeatSetup_8 : decode cX12_repeatSetup 8 = .ok (.getfield 216, 3) := by decide +kernel
theorem dX12_repeatSetup_11 : decode cX12_repeatSetup 11 = .ok (.iload_n 1, 1) := by decide +kernel
theorem dX12_repeatSetup_12 : decode cX12_repeatSetup 12 = .ok (.baload, 1) := by decide +kernel
theorem dX12_repeatSetup_13 : decode cX12_repeatSetup 13 = .ok (.ifCond .eq 20, 3) := by decide +kernel
theorem dX12_repeatSetup_16 : decode cX12_repeatSetup 16 = .ok (.aload_n 0, 1) := by decide +kernel
theorem dX12_repeatSetup_17 : decode cX12_repeatSetup 17 = .ok (.iload_n 1, 1) := by decide +kernel
theorem dX12_repeatSetup_18 : decode cX12_repeatSetup 18 = .ok (.bipush 102, 2) := by decide +kernel
theorem dX12_repeatSetup_20 : decode cX12_repeatSetup 20 = .ok (.invokevirtual 498, 3) := by decide +kernel
theorem dX12_repeatSetup_23 : decode cX12_repeatSetup 23 = .ok (.aload_n 0, 1) := by decide +kernel
theorem dX12_repeatSetup_24 : decode cX12_repeatSetup 24 = .ok (.iload_n 1, 1) := by decide +kernel
theorem dX12_repeatSetup_25 : decode cX12_repeatSetup 25 = .ok (.bipush 102, 2) := by decide +kernel
theorem dX12_repeatSetup_27 : decode cX12_repeatSetup 27 = .ok (.invokevirtual 501, 3) := by decide +kernel
theorem dX12_repeatSetup_30 : decode cX12_repeatSetup 30 = .ok (.goto 25, 3) := by decide +kernel
theorem dX12_repeatSetup_33 : decode cX12_repeatSetup 33 = .ok (.aload_n 0, 1) := by decide +kernel
theorem dX12_repeatSetup_34 : decode cX12_repeatSetup 34 = .ok (.getfield 216, 3) := by decide +kernel
theorem dX12_repeatSetup_37 : decode cX12_repeatSetup 37 = .ok (.iload_n 1, 1) := by decide +kernel
theorem dX12_repeatSetup_38 : decode cX12_repeatSetup 38 = .ok (.iconst 1, 1) := by decide +kernel
theorem dX12_repeatSetup_39 : decode cX12_repeatSetup 39 = .ok (.bastore, 1) := by decide +kernel
theorem dX12_repeatSetup_40 : decode cX12_repeatSetup 40 = .ok (.aload_n 0, 1) := by decide +kernel
theorem dX12_repeatSetup_41 : decode cX12_repeatSetup 41 = .ok (.getfield 213, 3) := by decide +kernel
theorem dX12_repeatSetup_44 : decode cX12_repeatSetup 44 = .ok (.iload_n 1, 1) := by decide +kernel
theorem dX12_repeatSetup_45 : decode cX12_repeatSetup 45 = .ok (.aload_n 0, 1) := by decide +kernel
theorem dX12_repeatSetup_46 : decode cX12_repeatSetup 46 = .ok (.getfield 378, 3) := by decide +kernel
theorem dX12_repeatSetup_49 : decode cX12_repeatSetup 49 = .ok (.iastore, 1) := by decide +kernel
theorem dX12_repeatSetup_50 : decode cX12_repeatSetup 50 = .ok (.aload_n 0, 1) := by decide +kernel
theorem dX12_repeatSetup_51 : decode cX12_repeatSetup 51 = .ok (.iload_n 1, 1) := by decide +kernel
theorem dX12_repeatSetup_52 : decode cX12_repeatSetup 52 = .ok (.invokevirtual 513, 3) := by decide +kernel
theorem dX12_repeatSetup_55 : decode cX12_repeatSetup 55 = .ok (.return_, 1) := by decide +kernel
theorem dX12_answer_0 : decode cX12_answer 0 = .ok (.aload_n 0, 1) := by decide +kernel
theorem dX12_answer_1 : decode cX12_answer 1 = .ok (.getfield 192, 3) := by decide +kernel
theorem dX12_answer_4 : decode cX12_answer 4 = .ok (.iload_n 1, 1) := by decide +kernel
theorem dX12_answer_5 : decode cX12_answer 5 = .ok (.bipush 8, 2) := by decide +kernel
theorem dX12_answer_7 : decode cX12_answer 7 = .ok (.iastore, 1) := by decide +kernel
theorem dX12_answer_8 : decode cX12_answer 8 = .ok (.aload_n 0, 1) := by decide +kernel
theorem dX12_answer_9 : decode cX12_answer 9 = .ok (.getfield 213, 3) := by decide +kernel
theorem dX12_answer_12 : decode cX12_answer 12 = .ok (.iload_n 1, 1) := by decide +kernel
theorem dX12_answer_13 : decode cX12_answer 13 = .ok (.aload_n 0, 1) := by decide +kernel
theorem dX12_answer_14 : decode cX12_answer 14 = .ok (.getfield 378, 3) := by decide +kernel
theorem dX12_answer_17 : decode cX12_answer 17 = .ok (.iastore, 1) := by decide +kernel
theorem dX12_answer_18 : decode cX12_answer 18 = .ok (.aload_n 0, 1) := by decide +kernel
theorem dX12_answer_19 : decode cX12_answer 19 = .ok (.iload_n 1, 1) := by decide +kernel
