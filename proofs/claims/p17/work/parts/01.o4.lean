theorem dX12_answer_20 : decode cX12_answer 20 = .ok (.bipush 7, 2) := by decide +kernel
theorem dX12_answer_22 : decode cX12_answer 22 = .ok (.invokevirtual 516, 3) := by decide +kernel
theorem dX12_answer_25 : decode cX12_answer 25 = .ok (.return_, 1) := by decide +kernel
theorem dX12_found_0 : decode cX12_found 0 = .ok (.bipush 9, 2) := by decide +kernel
theorem dX12_found_2 : decode cX12_found 2 = .ok (.istore_n 3, 1) := by decide +kernel
theorem dX12_found_3 : decode cX12_found 3 = .ok (.iload_n 3, 1) := by decide +kernel
theorem dX12_found_4 : decode cX12_found 4 = .ok (.iconst 4, 1) := by decide +kernel
theorem dX12_found_5 : decode cX12_found 5 = .ok (.iadd, 1) := by decide +kernel
theorem dX12_found_6 : decode cX12_found 6 = .ok (.iload_n 2, 1) := by decide +kernel
theorem dX12_found_7 : decode cX12_found 7 = .ok (.if_icmp .gt 93, 3) := by decide +kernel
theorem dX12_found_10 : decode cX12_found 10 = .ok (.aload_n 0, 1) := by decide +kernel
theorem dX12_found_11 : decode cX12_found 11 = .ok (.getfield 89, 3) := by decide +kernel
theorem dX12_found_14 : decode cX12_found 14 = .ok (.iload_n 3, 1) := by decide +kernel
theorem dX12_found_15 : decode cX12_found 15 = .ok (.iconst 2, 1) := by decide +kernel
theorem dX12_found_16 : decode cX12_found 16 = .ok (.iadd, 1) := by decide +kernel
theorem dX12_found_17 : decode cX12_found 17 = .ok (.iaload, 1) := by decide +kernel
theorem dX12_found_18 : decode cX12_found 18 = .ok (.bipush 8, 2) := by decide +kernel
theorem dX12_found_20 : decode cX12_found 20 = .ok (.ishl, 1) := by decide +kernel
theorem dX12_found_21 : decode cX12_found 21 = .ok (.aload_n 0, 1) := by decide +kernel
theorem dX12_found_22 : decode cX12_found 22 = .ok (.getfield 89, 3) := by decide +kernel
theorem dX12_found_25 : decode cX12_found 25 = .ok (.iload_n 3, 1) := by decide +kernel
theorem dX12_found_26 : decode cX12_found 26 = .ok (.iconst 3, 1) := by decide +kernel
theorem dX12_found_27 : decode cX12_found 27 = .ok (.iadd, 1) := by decide +kernel
theorem dX12_found_28 : decode cX12_found 28 = .ok (.iaload, 1) := by decide +kernel
theorem dX12_found_29 : decode cX12_found 29 = .ok (.ior, 1) := by decide +kernel
theorem dX12_found_30 : decode cX12_found 30 = .ok (.istore 4, 2) := by decide +kernel
theorem dX12_found_32 : decode cX12_found 32 = .ok (.aload_n 0, 1) := by decide +kernel
theorem dX12_found_33 : decode cX12_found 33 = .ok (.getfield 89, 3) := by decide +kernel
theorem dX12_found_36 : decode cX12_found 36 = .ok (.iload_n 3, 1) := by decide +kernel
theorem dX12_found_37 : decode cX12_found 37 = .ok (.iaload, 1) := by decide +kernel
theorem dX12_found_38 : decode cX12_found 38 = .ok (.iload_n 1, 1) := by decide +kernel
theorem dX12_found_39 : decode cX12_found 39 = .ok (.if_icmp .ne 51, 3) := by decide +kernel
theorem dX12_found_42 : decode cX12_found 42 = .ok (.iload_n 3, 1) := by decide +kernel
theorem dX12_found_43 : decode cX12_found 43 = .ok (.iconst 4, 1) := by decide +kernel
theorem dX12_found_44 : decode cX12_found 44 = .ok (.iadd, 1) := by decide +kernel
theorem dX12_found_45 : decode cX12_found 45 = .ok (.iload 4, 2) := by decide +kernel
theorem dX12_found_47 : decode cX12_found 47 = .ok (.iadd, 1) := by decide +kernel
theorem dX12_found_48 : decode cX12_found 48 = .ok (.iload_n 2, 1) := by decide +kernel
theorem dX12_found_49 : decode cX12_found 49 = .ok (.if_icmp .gt 41, 3) := by decide +kernel
theorem dX12_found_52 : decode cX12_found 52 = .ok (.iload 4, 2) := by decide +kernel
theorem dX12_found_54 : decode cX12_found 54 = .ok (.iconst 2, 1) := by decide +kernel
theorem dX12_found_55 : decode cX12_found 55 = .ok (.if_icmp .ne 26, 3) := by decide +kernel
theorem dX12_found_58 : decode cX12_found 58 = .ok (.aload_n 0, 1) := by decide +kernel
theorem dX12_found_59 : decode cX12_found 59 = .ok (.getfield 89, 3) := by decide +kernel
theorem dX12_found_62 : decode cX12_found 62 = .ok (.iload_n 3, 1) := by decide +kernel
theorem dX12_found_63 : decode cX12_found 63 = .ok (.iconst 4, 1) := by decide +kernel
theorem dX12_found_64 : decode cX12_found 64 = .ok (.iadd, 1) := by decide +kernel
theorem dX12_found_65 : decode cX12_found 65 = .ok (.iaload, 1) := by decide +kernel
theorem dX12_found_66 : decode cX12_found 66 = .ok (.bipush 8, 2) := by decide +kernel
theorem dX12_found_68 : decode cX12_found 68 = .ok (.ishl, 1) := by decide +kernel
theorem dX12_found_69 : decode cX12_found 69 = .ok (.aload_n 0, 1) := by decide +kernel
theorem dX12_found_70 : decode cX12_found 70 = .ok (.getfield 89, 3) := by decide +kernel
theorem dX12_found_73 : decode cX12_found 73 = .ok (.iload_n 3, 1) := by decide +kernel
theorem dX12_found_74 : decode cX12_found 74 = .ok (.iconst 5, 1) := by decide +kernel
theorem dX12_found_75 : decode cX12_found 75 = .ok (.iadd, 1) := by decide +kernel
theorem dX12_found_76 : decode cX12_found 76 = .ok (.iaload, 1) := by decide +kernel
theorem dX12_found_77 : decode cX12_found 77 = .ok (.ior, 1) := by decide +kernel
theorem dX12_found_78 : decode cX12_found 78 = .ok (.goto 11, 3) := by decide +kernel
theorem dX12_found_81 : decode cX12_found 81 = .ok (.aload_n 0, 1) := by decide +kernel
theorem dX12_found_82 : decode cX12_found 82 = .ok (.getfield 89, 3) := by decide +kernel
theorem dX12_found_85 : decode cX12_found 85 = .ok (.iload_n 3, 1) := by decide +kernel
theorem dX12_found_86 : decode cX12_found 86 = .ok (.iconst 4, 1) := by decide +kernel
theorem dX12_found_87 : decode cX12_found 87 = .ok (.iadd, 1) := by decide +kernel
theorem dX12_found_88 : decode cX12_found 88 = .ok (.iaload, 1) := by decide +kernel
theorem dX12_found_89 : decode cX12_found 89 = .ok (.ireturn, 1) := by decide +kernel
theorem dX12_found_90 : decode cX12_found 90 = .ok (.iload_n 3, 1) := by decide +kernel
theorem dX12_found_91 : decode cX12_found 91 = .ok (.iconst 4, 1) := by decide +kernel
theorem dX12_found_92 : decode cX12_found 92 = .ok (.iload 4, 2) := by decide +kernel
theorem dX12_found_94 : decode cX12_found 94 = .ok (.iadd, 1) := by decide +kernel
theorem dX12_found_95 : decode cX12_found 95 = .ok (.iadd, 1) := by decide +kernel
theorem dX12_found_96 : decode cX12_found 96 = .ok (.istore_n 3, 1) := by decide +kernel
theorem dX12_found_97 : decode cX12_found 97 = .ok (.goto (-94), 3) := by decide +kernel
theorem dX12_found_100 : decode cX12_found 100 = .ok (.bipush (-2), 2) := by decide +kernel
theorem dX12_found_102 : decode cX12_found 102 = .ok (.ireturn, 1) := by decide +kernel
theorem dX12_elementAt_0 : decode cX12_elementAt 0 = .ok (.iload_n 1, 1) := by decide +kernel
theorem dX12_elementAt_1 : decode cX12_elementAt 1 = .ok (.ifCond .le 65, 3) := by decide +kernel
theorem dX12_elementAt_4 : decode cX12_elementAt 4 = .ok (.iload_n 1, 1) := by decide +kernel
theorem dX12_elementAt_5 : decode cX12_elementAt 5 = .ok (.iconst 4, 1) := by decide +kernel
theorem dX12_elementAt_6 : decode cX12_elementAt 6 = .ok (.iadd, 1) := by decide +kernel
theorem dX12_elementAt_7 : decode cX12_elementAt 7 = .ok (.iload 4, 2) := by decide +kernel
theorem dX12_elementAt_9 : decode cX12_elementAt 9 = .ok (.iadd, 1) := by decide +kernel
theorem dX12_elementAt_10 : decode cX12_elementAt 10 = .ok (.iload_n 2, 1) := by decide +kernel
theorem dX12_elementAt_11 : decode cX12_elementAt 11 = .ok (.if_icmp .gt 55, 3) := by decide +kernel
theorem dX12_elementAt_14 : decode cX12_elementAt 14 = .ok (.aload_n 0, 1) := by decide +kernel
theorem dX12_elementAt_15 : decode cX12_elementAt 15 = .ok (.getfield 89, 3) := by decide +kernel
theorem dX12_elementAt_18 : decode cX12_elementAt 18 = .ok (.iload_n 1, 1) := by decide +kernel
theorem dX12_elementAt_19 : decode cX12_elementAt 19 = .ok (.iaload, 1) := by decide +kernel
theorem dX12_elementAt_20 : decode cX12_elementAt 20 = .ok (.iload_n 3, 1) := by decide +kernel
theorem dX12_elementAt_21 : decode cX12_elementAt 21 = .ok (.if_icmp .ne 45, 3) := by decide +kernel
theorem dX12_elementAt_24 : decode cX12_elementAt 24 = .ok (.aload_n 0, 1) := by decide +kernel
theorem dX12_elementAt_25 : decode cX12_elementAt 25 = .ok (.getfield 89, 3) := by decide +kernel
theorem dX12_elementAt_28 : decode cX12_elementAt 28 = .ok (.iload_n 1, 1) := by decide +kernel
theorem dX12_elementAt_29 : decode cX12_elementAt 29 = .ok (.iconst 1, 1) := by decide +kernel
theorem dX12_elementAt_30 : decode cX12_elementAt 30 = .ok (.iadd, 1) := by decide +kernel
theorem dX12_elementAt_31 : decode cX12_elementAt 31 = .ok (.iaload, 1) := by decide +kernel
theorem dX12_elementAt_32 : decode cX12_elementAt 32 = .ok (.sipush 128, 3) := by decide +kernel
theorem dX12_elementAt_35 : decode cX12_elementAt 35 = .ok (.if_icmp .ne 31, 3) := by decide +kernel
theorem dX12_elementAt_38 : decode cX12_elementAt 38 = .ok (.aload_n 0, 1) := by decide +kernel
theorem dX12_elementAt_39 : decode cX12_elementAt 39 = .ok (.getfield 89, 3) := by decide +kernel
theorem dX12_elementAt_42 : decode cX12_elementAt 42 = .ok (.iload_n 1, 1) := by decide +kernel
theorem dX12_elementAt_43 : decode cX12_elementAt 43 = .ok (.iconst 2, 1) := by decide +kernel
theorem dX12_elementAt_44 : decode cX12_elementAt 44 = .ok (.iadd, 1) := by decide +kernel
theorem dX12_elementAt_45 : decode cX12_elementAt 45 = .ok (.iaload, 1) := by decide +kernel
theorem dX12_elementAt_46 : decode cX12_elementAt 46 = .ok (.ifCond .ne 20, 3) := by decide +kernel
theorem dX12_elementAt_49 : decode cX12_elementAt 49 = .ok (.aload_n 0, 1) := by decide +kernel
theorem dX12_elementAt_50 : decode cX12_elementAt 50 = .ok (.getfield 89, 3) := by decide +kernel
theorem dX12_elementAt_53 : decode cX12_elementAt 53 = .ok (.iload_n 1, 1) := by decide +kernel
theorem dX12_elementAt_54 : decode cX12_elementAt 54 = .ok (.iconst 3, 1) := by decide +kernel
theorem dX12_elementAt_55 : decode cX12_elementAt 55 = .ok (.iadd, 1) := by decide +kernel
theorem dX12_elementAt_56 : decode cX12_elementAt 56 = .ok (.iaload, 1) := by decide +kernel
theorem dX12_elementAt_57 : decode cX12_elementAt 57 = .ok (.iload 4, 2) := by decide +kernel
theorem dX12_elementAt_59 : decode cX12_elementAt 59 = .ok (.if_icmp .ne 7, 3) := by decide +kernel
theorem dX12_elementAt_62 : decode cX12_elementAt 62 = .ok (.iconst 1, 1) := by decide +kernel
theorem dX12_elementAt_63 : decode cX12_elementAt 63 = .ok (.goto 4, 3) := by decide +kernel
theorem dX12_elementAt_66 : decode cX12_elementAt 66 = .ok (.iconst 0, 1) := by decide +kernel
theorem dX12_elementAt_67 : decode cX12_elementAt 67 = .ok (.istore 5, 2) := by decide +kernel
theorem dX12_elementAt_69 : decode cX12_elementAt 69 = .ok (.iload 5, 2) := by decide +kernel
theorem dX12_elementAt_71 : decode cX12_elementAt 71 = .ok (.ifCond .eq 12, 3) := by decide +kernel
theorem dX12_elementAt_74 : decode cX12_elementAt 74 = .ok (.iload_n 1, 1) := by decide +kernel
theorem dX12_elementAt_75 : decode cX12_elementAt 75 = .ok (.iconst 4, 1) := by decide +kernel
theorem dX12_elementAt_76 : decode cX12_elementAt 76 = .ok (.iadd, 1) := by decide +kernel
theorem dX12_elementAt_77 : decode cX12_elementAt 77 = .ok (.iload 4, 2) := by decide +kernel
theorem dX12_elementAt_79 : decode cX12_elementAt 79 = .ok (.iadd, 1) := by decide +kernel
theorem dX12_elementAt_80 : decode cX12_elementAt 80 = .ok (.goto 4, 3) := by decide +kernel
theorem dX12_elementAt_83 : decode cX12_elementAt 83 = .ok (.iconst 0, 1) := by decide +kernel
theorem dX12_elementAt_84 : decode cX12_elementAt 84 = .ok (.ireturn, 1) := by decide +kernel
theorem dX12_isFormed_0 : decode cX12_isFormed 0 = .ok (.iload_n 1, 1) := by decide +kernel
theorem dX12_isFormed_1 : decode cX12_isFormed 1 = .ok (.bipush 9, 2) := by decide +kernel
theorem dX12_isFormed_3 : decode cX12_isFormed 3 = .ok (.if_icmp .lt 62, 3) := by decide +kernel
theorem dX12_isFormed_6 : decode cX12_isFormed 6 = .ok (.aload_n 0, 1) := by decide +kernel
theorem dX12_isFormed_7 : decode cX12_isFormed 7 = .ok (.getfield 89, 3) := by decide +kernel
theorem dX12_isFormed_10 : decode cX12_isFormed 10 = .ok (.iconst 0, 1) := by decide +kernel
theorem dX12_isFormed_11 : decode cX12_isFormed 11 = .ok (.iaload, 1) := by decide +kernel
theorem dX12_isFormed_12 : decode cX12_isFormed 12 = .ok (.bipush 9, 2) := by decide +kernel
theorem dX12_isFormed_14 : decode cX12_isFormed 14 = .ok (.if_icmp .ne 51, 3) := by decide +kernel
theorem dX12_isFormed_17 : decode cX12_isFormed 17 = .ok (.aload_n 0, 1) := by decide +kernel
theorem dX12_isFormed_18 : decode cX12_isFormed 18 = .ok (.getfield 89, 3) := by decide +kernel
theorem dX12_isFormed_21 : decode cX12_isFormed 21 = .ok (.iconst 1, 1) := by decide +kernel
theorem dX12_isFormed_22 : decode cX12_isFormed 22 = .ok (.iaload, 1) := by decide +kernel
theorem dX12_isFormed_23 : decode cX12_isFormed 23 = .ok (.iconst 3, 1) := by decide +kernel
theorem dX12_isFormed_24 : decode cX12_isFormed 24 = .ok (.if_icmp .ne 41, 3) := by decide +kernel
theorem dX12_isFormed_27 : decode cX12_isFormed 27 = .ok (.aload_n 0, 1) := by decide +kernel
theorem dX12_isFormed_28 : decode cX12_isFormed 28 = .ok (.getfield 89, 3) := by decide +kernel
theorem dX12_isFormed_31 : decode cX12_isFormed 31 = .ok (.bipush 6, 2) := by decide +kernel
theorem dX12_isFormed_33 : decode cX12_isFormed 33 = .ok (.iaload, 1) := by decide +kernel
theorem dX12_isFormed_34 : decode cX12_isFormed 34 = .ok (.sipush 128, 3) := by decide +kernel
theorem dX12_isFormed_37 : decode cX12_isFormed 37 = .ok (.if_icmp .ne 28, 3) := by decide +kernel
theorem dX12_isFormed_40 : decode cX12_isFormed 40 = .ok (.aload_n 0, 1) := by decide +kernel
theorem dX12_isFormed_41 : decode cX12_isFormed 41 = .ok (.getfield 89, 3) := by decide +kernel
theorem dX12_isFormed_44 : decode cX12_isFormed 44 = .ok (.bipush 7, 2) := by decide +kernel
theorem dX12_isFormed_46 : decode cX12_isFormed 46 = .ok (.iaload, 1) := by decide +kernel
theorem dX12_isFormed_47 : decode cX12_isFormed 47 = .ok (.bipush 8, 2) := by decide +kernel
theorem dX12_isFormed_49 : decode cX12_isFormed 49 = .ok (.ishl, 1) := by decide +kernel
theorem dX12_isFormed_50 : decode cX12_isFormed 50 = .ok (.aload_n 0, 1) := by decide +kernel
theorem dX12_isFormed_51 : decode cX12_isFormed 51 = .ok (.getfield 89, 3) := by decide +kernel
theorem dX12_isFormed_54 : decode cX12_isFormed 54 = .ok (.bipush 8, 2) := by decide +kernel
theorem dX12_isFormed_56 : decode cX12_isFormed 56 = .ok (.iaload, 1) := by decide +kernel
theorem dX12_isFormed_57 : decode cX12_isFormed 57 = .ok (.ior, 1) := by decide +kernel
theorem dX12_isFormed_58 : decode cX12_isFormed 58 = .ok (.iload_n 1, 1) := by decide +kernel
theorem dX12_isFormed_59 : decode cX12_isFormed 59 = .ok (.bipush 9, 2) := by decide +kernel
theorem dX12_isFormed_61 : decode cX12_isFormed 61 = .ok (.isub, 1) := by decide +kernel
theorem dX12_isFormed_62 : decode cX12_isFormed 62 = .ok (.if_icmp .eq 5, 3) := by decide +kernel
theorem dX12_isFormed_65 : decode cX12_isFormed 65 = .ok (.iconst 0, 1) := by decide +kernel
theorem dX12_isFormed_66 : decode cX12_isFormed 66 = .ok (.ireturn, 1) := by decide +kernel
theorem dX12_isFormed_67 : decode cX12_isFormed 67 = .ok (.bipush 9, 2) := by decide +kernel
theorem dX12_isFormed_69 : decode cX12_isFormed 69 = .ok (.istore_n 3, 1) := by decide +kernel
theorem dX12_isFormed_70 : decode cX12_isFormed 70 = .ok (.aload_n 0, 1) := by decide +kernel
theorem dX12_isFormed_71 : decode cX12_isFormed 71 = .ok (.getfield 89, 3) := by decide +kernel
theorem dX12_isFormed_74 : decode cX12_isFormed 74 = .ok (.iconst 5, 1) := by decide +kernel
theorem dX12_isFormed_75 : decode cX12_isFormed 75 = .ok (.iaload, 1) := by decide +kernel
theorem dX12_isFormed_76 : decode cX12_isFormed 76 = .ok (.lookupswitch 156 #[(2, 119), (5, 60), (7, 153), (15, 153), (77, 140), (90, 140)], 60) := by decide +kernel
theorem dX12_isFormed_136 : decode cX12_isFormed 136 = .ok (.aload_n 0, 1) := by decide +kernel
theorem dX12_isFormed_137 : decode cX12_isFormed 137 = .ok (.iload_n 3, 1) := by decide +kernel
theorem dX12_isFormed_138 : decode cX12_isFormed 138 = .ok (.iload_n 1, 1) := by decide +kernel
theorem dX12_isFormed_139 : decode cX12_isFormed 139 = .ok (.bipush 112, 2) := by decide +kernel
theorem dX12_isFormed_141 : decode cX12_isFormed 141 = .ok (.iconst 1, 1) := by decide +kernel
theorem dX12_isFormed_142 : decode cX12_isFormed 142 = .ok (.invokevirtual 519, 3) := by decide +kernel
theorem dX12_isFormed_145 : decode cX12_isFormed 145 = .ok (.istore_n 3, 1) := by decide +kernel
theorem dX12_isFormed_146 : decode cX12_isFormed 146 = .ok (.aload_n 0, 1) := by decide +kernel
theorem dX12_isFormed_147 : decode cX12_isFormed 147 = .ok (.iload_n 3, 1) := by decide +kernel
theorem dX12_isFormed_148 : decode cX12_isFormed 148 = .ok (.iload_n 1, 1) := by decide +kernel
theorem dX12_isFormed_149 : decode cX12_isFormed 149 = .ok (.bipush 89, 2) := by decide +kernel
theorem dX12_isFormed_151 : decode cX12_isFormed 151 = .ok (.iconst 1, 1) := by decide +kernel
theorem dX12_isFormed_152 : decode cX12_isFormed 152 = .ok (.invokevirtual 519, 3) := by decide +kernel
theorem dX12_isFormed_155 : decode cX12_isFormed 155 = .ok (.istore_n 3, 1) := by decide +kernel
theorem dX12_isFormed_156 : decode cX12_isFormed 156 = .ok (.iload_n 2, 1) := by decide +kernel
theorem dX12_isFormed_157 : decode cX12_isFormed 157 = .ok (.ifCond .eq 15, 3) := by decide +kernel
theorem dX12_isFormed_160 : decode cX12_isFormed 160 = .ok (.aload_n 0, 1) := by decide +kernel
theorem dX12_isFormed_161 : decode cX12_isFormed 161 = .ok (.iload_n 3, 1) := by decide +kernel
theorem dX12_isFormed_162 : decode cX12_isFormed 162 = .ok (.iload_n 1, 1) := by decide +kernel
theorem dX12_isFormed_163 : decode cX12_isFormed 163 = .ok (.bipush 108, 2) := by decide +kernel
theorem dX12_isFormed_165 : decode cX12_isFormed 165 = .ok (.iconst 1, 1) := by decide +kernel
theorem dX12_isFormed_166 : decode cX12_isFormed 166 = .ok (.invokevirtual 519, 3) := by decide +kernel
theorem dX12_isFormed_169 : decode cX12_isFormed 169 = .ok (.goto 4, 3) := by decide +kernel
theorem dX12_isFormed_172 : decode cX12_isFormed 172 = .ok (.iload_n 3, 1) := by decide +kernel
theorem dX12_isFormed_173 : decode cX12_isFormed 173 = .ok (.istore_n 3, 1) := by decide +kernel
theorem dX12_isFormed_174 : decode cX12_isFormed 174 = .ok (.iload_n 2, 1) := by decide +kernel
theorem dX12_isFormed_175 : decode cX12_isFormed 175 = .ok (.ifCond .eq 15, 3) := by decide +kernel
theorem dX12_isFormed_178 : decode cX12_isFormed 178 = .ok (.aload_n 0, 1) := by decide +kernel
theorem dX12_isFormed_179 : decode cX12_isFormed 179 = .ok (.iload_n 3, 1) := by decide +kernel
theorem dX12_isFormed_180 : decode cX12_isFormed 180 = .ok (.iload_n 1, 1) := by decide +kernel
theorem dX12_isFormed_181 : decode cX12_isFormed 181 = .ok (.bipush 90, 2) := by decide +kernel
theorem dX12_isFormed_183 : decode cX12_isFormed 183 = .ok (.iconst 2, 1) := by decide +kernel
theorem dX12_isFormed_184 : decode cX12_isFormed 184 = .ok (.invokevirtual 519, 3) := by decide +kernel
theorem dX12_isFormed_187 : decode cX12_isFormed 187 = .ok (.goto 4, 3) := by decide +kernel
theorem dX12_isFormed_190 : decode cX12_isFormed 190 = .ok (.iload_n 3, 1) := by decide +kernel
theorem dX12_isFormed_191 : decode cX12_isFormed 191 = .ok (.istore_n 3, 1) := by decide +kernel
theorem dX12_isFormed_192 : decode cX12_isFormed 192 = .ok (.goto 42, 3) := by decide +kernel
theorem dX12_isFormed_195 : decode cX12_isFormed 195 = .ok (.iload_n 2, 1) := by decide +kernel
theorem dX12_isFormed_196 : decode cX12_isFormed 196 = .ok (.ifCond .eq 15, 3) := by decide +kernel
theorem dX12_isFormed_199 : decode cX12_isFormed 199 = .ok (.aload_n 0, 1) := by decide +kernel
theorem dX12_isFormed_200 : decode cX12_isFormed 200 = .ok (.iload_n 3, 1) := by decide +kernel
theorem dX12_isFormed_201 : decode cX12_isFormed 201 = .ok (.iload_n 1, 1) := by decide +kernel
theorem dX12_isFormed_202 : decode cX12_isFormed 202 = .ok (.bipush 90, 2) := by decide +kernel
theorem dX12_isFormed_204 : decode cX12_isFormed 204 = .ok (.iconst 2, 1) := by decide +kernel
theorem dX12_isFormed_205 : decode cX12_isFormed 205 = .ok (.invokevirtual 519, 3) := by decide +kernel
theorem dX12_isFormed_208 : decode cX12_isFormed 208 = .ok (.goto 4, 3) := by decide +kernel
theorem dX12_isFormed_211 : decode cX12_isFormed 211 = .ok (.iload_n 3, 1) := by decide +kernel
theorem dX12_isFormed_212 : decode cX12_isFormed 212 = .ok (.istore_n 3, 1) := by decide +kernel
theorem dX12_isFormed_213 : decode cX12_isFormed 213 = .ok (.goto 21, 3) := by decide +kernel
theorem dX12_isFormed_216 : decode cX12_isFormed 216 = .ok (.aload_n 0, 1) := by decide +kernel
theorem dX12_isFormed_217 : decode cX12_isFormed 217 = .ok (.iload_n 3, 1) := by decide +kernel
theorem dX12_isFormed_218 : decode cX12_isFormed 218 = .ok (.iload_n 1, 1) := by decide +kernel
theorem dX12_isFormed_219 : decode cX12_isFormed 219 = .ok (.bipush 8, 2) := by decide +kernel
theorem dX12_isFormed_221 : decode cX12_isFormed 221 = .ok (.iconst 1, 1) := by decide +kernel
theorem dX12_isFormed_222 : decode cX12_isFormed 222 = .ok (.invokevirtual 519, 3) := by decide +kernel
theorem dX12_isFormed_225 : decode cX12_isFormed 225 = .ok (.istore_n 3, 1) := by decide +kernel
theorem dX12_isFormed_226 : decode cX12_isFormed 226 = .ok (.goto 8, 3) := by decide +kernel
theorem dX12_isFormed_229 : decode cX12_isFormed 229 = .ok (.goto 5, 3) := by decide +kernel
theorem dX12_isFormed_232 : decode cX12_isFormed 232 = .ok (.iconst 0, 1) := by decide +kernel
theorem dX12_isFormed_233 : decode cX12_isFormed 233 = .ok (.istore_n 3, 1) := by decide +kernel
theorem dX12_isFormed_234 : decode cX12_isFormed 234 = .ok (.iload_n 3, 1) := by decide +kernel
theorem dX12_isFormed_235 : decode cX12_isFormed 235 = .ok (.iload_n 1, 1) := by decide +kernel
theorem dX12_isFormed_236 : decode cX12_isFormed 236 = .ok (.if_icmp .ne 7, 3) := by decide +kernel
theorem dX12_isFormed_239 : decode cX12_isFormed 239 = .ok (.iconst 1, 1) := by decide +kernel
theorem dX12_isFormed_240 : decode cX12_isFormed 240 = .ok (.goto 4, 3) := by decide +kernel
theorem dX12_isFormed_243 : decode cX12_isFormed 243 = .ok (.iconst 0, 1) := by decide +kernel
theorem dX12_isFormed_244 : decode cX12_isFormed 244 = .ok (.ireturn, 1) := by decide +kernel
theorem dX12_message_0 : decode cX12_message 0 = .ok (.aload_n 0, 1) := by decide +kernel
theorem dX12_message_1 : decode cX12_message 1 = .ok (.iload_n 2, 1) := by decide +kernel
theorem dX12_message_2 : decode cX12_message 2 = .ok (.iload_n 1, 1) := by decide +kernel
theorem dX12_message_3 : decode cX12_message 3 = .ok (.aload_n 0, 1) := by decide +kernel
theorem dX12_message_4 : decode cX12_message 4 = .ok (.getfield 260, 3) := by decide +kernel
theorem dX12_message_7 : decode cX12_message 7 = .ok (.if_icmp .ge 7, 3) := by decide +kernel
theorem dX12_message_10 : decode cX12_message 10 = .ok (.iconst 1, 1) := by decide +kernel
theorem dX12_message_11 : decode cX12_message 11 = .ok (.goto 4, 3) := by decide +kernel
theorem dX12_message_14 : decode cX12_message 14 = .ok (.iconst 0, 1) := by decide +kernel
theorem dX12_message_15 : decode cX12_message 15 = .ok (.invokevirtual 523, 3) := by decide +kernel
theorem dX12_message_18 : decode cX12_message 18 = .ok (.ifCond .ne 4, 3) := by decide +kernel
theorem dX12_message_21 : decode cX12_message 21 = .ok (.return_, 1) := by decide +kernel
theorem dX12_message_22 : decode cX12_message 22 = .ok (.aload_n 0, 1) := by decide +kernel
theorem dX12_message_23 : decode cX12_message 23 = .ok (.getfield 89, 3) := by decide +kernel
theorem dX12_message_26 : decode cX12_message 26 = .ok (.iconst 2, 1) := by decide +kernel
theorem dX12_message_27 : decode cX12_message 27 = .ok (.iaload, 1) := by decide +kernel
theorem dX12_message_28 : decode cX12_message 28 = .ok (.sipush 128, 3) := by decide +kernel
theorem dX12_message_31 : decode cX12_message 31 = .ok (.if_icmp .lt 7, 3) := by decide +kernel
theorem dX12_message_34 : decode cX12_message 34 = .ok (.iconst 1, 1) := by decide +kernel
theorem dX12_message_35 : decode cX12_message 35 = .ok (.goto 4, 3) := by decide +kernel
theorem dX12_message_38 : decode cX12_message 38 = .ok (.iconst 0, 1) := by decide +kernel
theorem dX12_message_39 : decode cX12_message 39 = .ok (.istore_n 3, 1) := by decide +kernel
theorem dX12_message_40 : decode cX12_message 40 = .ok (.aload_n 0, 1) := by decide +kernel
theorem dX12_message_41 : decode cX12_message 41 = .ok (.getfield 89, 3) := by decide +kernel
theorem dX12_message_44 : decode cX12_message 44 = .ok (.iconst 2, 1) := by decide +kernel
theorem dX12_message_45 : decode cX12_message 45 = .ok (.iaload, 1) := by decide +kernel
theorem dX12_message_46 : decode cX12_message 46 = .ok (.bipush 127, 2) := by decide +kernel
theorem dX12_message_48 : decode cX12_message 48 = .ok (.iand, 1) := by decide +kernel
theorem dX12_message_49 : decode cX12_message 49 = .ok (.bipush 16, 2) := by decide +kernel
theorem dX12_message_51 : decode cX12_message 51 = .ok (.ishl, 1) := by decide +kernel
theorem dX12_message_52 : decode cX12_message 52 = .ok (.aload_n 0, 1) := by decide +kernel
theorem dX12_message_53 : decode cX12_message 53 = .ok (.getfield 89, 3) := by decide +kernel
theorem dX12_message_56 : decode cX12_message 56 = .ok (.iconst 3, 1) := by decide +kernel
theorem dX12_message_57 : decode cX12_message 57 = .ok (.iaload, 1) := by decide +kernel
theorem dX12_message_58 : decode cX12_message 58 = .ok (.bipush 8, 2) := by decide +kernel
theorem dX12_message_60 : decode cX12_message 60 = .ok (.ishl, 1) := by decide +kernel
theorem dX12_message_61 : decode cX12_message 61 = .ok (.ior, 1) := by decide +kernel
theorem dX12_message_62 : decode cX12_message 62 = .ok (.aload_n 0, 1) := by decide +kernel
theorem dX12_message_63 : decode cX12_message 63 = .ok (.getfield 89, 3) := by decide +kernel
theorem dX12_message_66 : decode cX12_message 66 = .ok (.iconst 4, 1) := by decide +kernel
theorem dX12_message_67 : decode cX12_message 67 = .ok (.iaload, 1) := by decide +kernel
theorem dX12_message_68 : decode cX12_message 68 = .ok (.ior, 1) := by decide +kernel
theorem dX12_message_69 : decode cX12_message 69 = .ok (.istore 4, 2) := by decide +kernel
theorem dX12_message_71 : decode cX12_message 71 = .ok (.aload_n 0, 1) := by decide +kernel
theorem dX12_message_72 : decode cX12_message 72 = .ok (.getfield 89, 3) := by decide +kernel
theorem dX12_message_75 : decode cX12_message 75 = .ok (.iconst 5, 1) := by decide +kernel
theorem dX12_message_76 : decode cX12_message 76 = .ok (.iaload, 1) := by decide +kernel
theorem dX12_message_77 : decode cX12_message 77 = .ok (.istore 5, 2) := by decide +kernel
theorem dX12_message_79 : decode cX12_message 79 = .ok (.aload_n 0, 1) := by decide +kernel
theorem dX12_message_80 : decode cX12_message 80 = .ok (.bipush 8, 2) := by decide +kernel
theorem dX12_message_82 : decode cX12_message 82 = .ok (.iload_n 2, 1) := by decide +kernel
theorem dX12_message_83 : decode cX12_message 83 = .ok (.invokevirtual 527, 3) := by decide +kernel
theorem dX12_message_86 : decode cX12_message 86 = .ok (.istore 6, 2) := by decide +kernel
theorem dX12_message_88 : decode cX12_message 88 = .ok (.aload_n 0, 1) := by decide +kernel
theorem dX12_message_89 : decode cX12_message 89 = .ok (.iload_n 1, 1) := by decide +kernel
theorem dX12_message_90 : decode cX12_message 90 = .ok (.iload_n 3, 1) := by decide +kernel
theorem dX12_message_91 : decode cX12_message 91 = .ok (.iload 4, 2) := by decide +kernel
theorem dX12_message_93 : decode cX12_message 93 = .ok (.invokevirtual 530, 3) := by decide +kernel
theorem dX12_message_96 : decode cX12_message 96 = .ok (.istore 7, 2) := by decide +kernel
theorem dX12_message_98 : decode cX12_message 98 = .ok (.iload 7, 2) := by decide +kernel
theorem dX12_message_100 : decode cX12_message 100 = .ok (.ifCond .ge 96, 3) := by decide +kernel
theorem dX12_message_103 : decode cX12_message 103 = .ok (.iload 5, 2) := by decide +kernel
theorem dX12_message_105 : decode cX12_message 105 = .ok (.bipush 77, 2) := by decide +kernel
theorem dX12_message_107 : decode cX12_message 107 = .ok (.if_icmp .ne 18, 3) := by decide +kernel
theorem dX12_message_110 : decode cX12_message 110 = .ok (.aload_n 0, 1) := by decide +kernel
theorem dX12_message_111 : decode cX12_message 111 = .ok (.iload_n 1, 1) := by decide +kernel
theorem dX12_message_112 : decode cX12_message 112 = .ok (.iload_n 3, 1) := by decide +kernel
theorem dX12_message_113 : decode cX12_message 113 = .ok (.iload 4, 2) := by decide +kernel
theorem dX12_message_115 : decode cX12_message 115 = .ok (.bipush 90, 2) := by decide +kernel
theorem dX12_message_117 : decode cX12_message 117 = .ok (.bipush 81, 2) := by decide +kernel
theorem dX12_message_119 : decode cX12_message 119 = .ok (.invokevirtual 488, 3) := by decide +kernel
theorem dX12_message_122 : decode cX12_message 122 = .ok (.goto 73, 3) := by decide +kernel
theorem dX12_message_125 : decode cX12_message 125 = .ok (.iload 5, 2) := by decide +kernel
theorem dX12_message_127 : decode cX12_message 127 = .ok (.iconst 5, 1) := by decide +kernel
theorem dX12_message_128 : decode cX12_message 128 = .ok (.if_icmp .ne 67, 3) := by decide +kernel
theorem dX12_message_131 : decode cX12_message 131 = .ok (.iload_n 3, 1) := by decide +kernel
theorem dX12_message_132 : decode cX12_message 132 = .ok (.ifCond .ne 63, 3) := by decide +kernel
theorem dX12_message_135 : decode cX12_message 135 = .ok (.iload_n 1, 1) := by decide +kernel
theorem dX12_message_136 : decode cX12_message 136 = .ok (.aload_n 0, 1) := by decide +kernel
theorem dX12_message_137 : decode cX12_message 137 = .ok (.getfield 260, 3) := by decide +kernel
theorem dX12_message_140 : decode cX12_message 140 = .ok (.if_icmp .ge 34, 3) := by decide +kernel
theorem dX12_message_143 : decode cX12_message 143 = .ok (.aload_n 0, 1) := by decide +kernel
theorem dX12_message_144 : decode cX12_message 144 = .ok (.iload_n 1, 1) := by decide +kernel
theorem dX12_message_145 : decode cX12_message 145 = .ok (.iload 4, 2) := by decide +kernel
theorem dX12_message_147 : decode cX12_message 147 = .ok (.aload_n 0, 1) := by decide +kernel
theorem dX12_message_148 : decode cX12_message 148 = .ok (.bipush 89, 2) := by decide +kernel
theorem dX12_message_150 : decode cX12_message 150 = .ok (.iload_n 2, 1) := by decide +kernel
theorem dX12_message_151 : decode cX12_message 151 = .ok (.invokevirtual 527, 3) := by decide +kernel
theorem dX12_message_154 : decode cX12_message 154 = .ok (.aload_n 0, 1) := by decide +kernel
theorem dX12_message_155 : decode cX12_message 155 = .ok (.bipush 108, 2) := by decide +kernel
theorem dX12_message_157 : decode cX12_message 157 = .ok (.iload_n 2, 1) := by decide +kernel
theorem dX12_message_158 : decode cX12_message 158 = .ok (.invokevirtual 527, 3) := by decide +kernel
theorem dX12_message_161 : decode cX12_message 161 = .ok (.aload_n 0, 1) := by decide +kernel
theorem dX12_message_162 : decode cX12_message 162 = .ok (.bipush 90, 2) := by decide +kernel
theorem dX12_message_164 : decode cX12_message 164 = .ok (.iload_n 2, 1) := by decide +kernel
theorem dX12_message_165 : decode cX12_message 165 = .ok (.invokevirtual 527, 3) := by decide +kernel
theorem dX12_message_168 : decode cX12_message 168 = .ok (.invokevirtual 534, 3) := by decide +kernel
theorem dX12_message_171 : decode cX12_message 171 = .ok (.goto 24, 3) := by decide +kernel
theorem dX12_message_174 : decode cX12_message 174 = .ok (.aload_n 0, 1) := by decide +kernel
theorem dX12_message_175 : decode cX12_message 175 = .ok (.iload_n 1, 1) := by decide +kernel
theorem dX12_message_176 : decode cX12_message 176 = .ok (.iload 4, 2) := by decide +kernel
theorem dX12_message_178 : decode cX12_message 178 = .ok (.aload_n 0, 1) := by decide +kernel
theorem dX12_message_179 : decode cX12_message 179 = .ok (.bipush 112, 2) := by decide +kernel
theorem dX12_message_181 : decode cX12_message 181 = .ok (.iload_n 2, 1) := by decide +kernel
theorem dX12_message_182 : decode cX12_message 182 = .ok (.invokevirtual 527, 3) := by decide +kernel
theorem dX12_message_185 : decode cX12_message 185 = .ok (.aload_n 0, 1) := by decide +kernel
theorem dX12_message_186 : decode cX12_message 186 = .ok (.bipush 89, 2) := by decide +kernel
theorem dX12_message_188 : decode cX12_message 188 = .ok (.iload_n 2, 1) := by decide +kernel
theorem dX12_message_189 : decode cX12_message 189 = .ok (.invokevirtual 527, 3) := by decide +kernel
theorem dX12_message_192 : decode cX12_message 192 = .ok (.invokevirtual 537, 3) := by decide +kernel
theorem dX12_message_195 : decode cX12_message 195 = .ok (.return_, 1) := by decide +kernel
theorem dX12_message_196 : decode cX12_message 196 = .ok (.iload 5, 2) := by decide +kernel
theorem dX12_message_198 : decode cX12_message 198 = .ok (.bipush 77, 2) := by decide +kernel
theorem dX12_message_200 : decode cX12_message 200 = .ok (.if_icmp .ne 56, 3) := by decide +kernel
theorem dX12_message_203 : decode cX12_message 203 = .ok (.aload_n 0, 1) := by decide +kernel
theorem dX12_message_204 : decode cX12_message 204 = .ok (.iload_n 1, 1) := by decide +kernel
theorem dX12_message_205 : decode cX12_message 205 = .ok (.iload_n 3, 1) := by decide +kernel
theorem dX12_message_206 : decode cX12_message 206 = .ok (.iload 4, 2) := by decide +kernel
theorem dX12_message_208 : decode cX12_message 208 = .ok (.bipush 90, 2) := by decide +kernel
theorem dX12_message_210 : decode cX12_message 210 = .ok (.iload 6, 2) := by decide +kernel
theorem dX12_message_212 : decode cX12_message 212 = .ok (.invokevirtual 488, 3) := by decide +kernel
theorem dX12_message_215 : decode cX12_message 215 = .ok (.aload_n 0, 1) := by decide +kernel
theorem dX12_message_216 : decode cX12_message 216 = .ok (.iload 7, 2) := by decide +kernel
theorem dX12_message_218 : decode cX12_message 218 = .ok (.aload_n 0, 1) := by decide +kernel
theorem dX12_message_219 : decode cX12_message 219 = .ok (.getfield 192, 3) := by decide +kernel
theorem dX12_message_222 : decode cX12_message 222 = .ok (.iload 7, 2) := by decide +kernel
theorem dX12_message_224 : decode cX12_message 224 = .ok (.iaload, 1) := by decide +kernel
theorem dX12_message_225 : decode cX12_message 225 = .ok (.bipush 11, 2) := by decide +kernel
theorem dX12_message_227 : decode cX12_message 227 = .ok (.if_icmp .ne 13, 3) := by decide +kernel
theorem dX12_message_230 : decode cX12_message 230 = .ok (.aload_n 0, 1) := by decide +kernel
theorem dX12_message_231 : decode cX12_message 231 = .ok (.getfield 210, 3) := by decide +kernel
theorem dX12_message_234 : decode cX12_message 234 = .ok (.iload 7, 2) := by decide +kernel
theorem dX12_message_236 : decode cX12_message 236 = .ok (.iaload, 1) := by decide +kernel
theorem dX12_message_237 : decode cX12_message 237 = .ok (.goto 5, 3) := by decide +kernel
theorem dX12_message_240 : decode cX12_message 240 = .ok (.iload 6, 2) := by decide +kernel
theorem dX12_message_242 : decode cX12_message 242 = .ok (.invokevirtual 498, 3) := by decide +kernel
theorem dX12_message_245 : decode cX12_message 245 = .ok (.aload_n 0, 1) := by decide +kernel
theorem dX12_message_246 : decode cX12_message 246 = .ok (.iload 7, 2) := by decide +kernel
theorem dX12_message_248 : decode cX12_message 248 = .ok (.iload 6, 2) := by decide +kernel
theorem dX12_message_250 : decode cX12_message 250 = .ok (.invokevirtual 501, 3) := by decide +kernel
theorem dX12_message_253 : decode cX12_message 253 = .ok (.goto 85, 3) := by decide +kernel
theorem dX12_message_256 : decode cX12_message 256 = .ok (.iload 5, 2) := by decide +kernel
theorem dX12_message_258 : decode cX12_message 258 = .ok (.bipush 90, 2) := by decide +kernel
theorem dX12_message_260 : decode cX12_message 260 = .ok (.if_icmp .ne 44, 3) := by decide +kernel
theorem dX12_message_263 : decode cX12_message 263 = .ok (.aload_n 0, 1) := by decide +kernel
theorem dX12_message_264 : decode cX12_message 264 = .ok (.iload 7, 2) := by decide +kernel
theorem dX12_message_266 : decode cX12_message 266 = .ok (.aload_n 0, 1) := by decide +kernel
theorem dX12_message_267 : decode cX12_message 267 = .ok (.getfield 192, 3) := by decide +kernel
theorem dX12_message_270 : decode cX12_message 270 = .ok (.iload 7, 2) := by decide +kernel
theorem dX12_message_272 : decode cX12_message 272 = .ok (.iaload, 1) := by decide +kernel
theorem dX12_message_273 : decode cX12_message 273 = .ok (.bipush 11, 2) := by decide +kernel
theorem dX12_message_275 : decode cX12_message 275 = .ok (.if_icmp .ne 13, 3) := by decide +kernel
theorem dX12_message_278 : decode cX12_message 278 = .ok (.aload_n 0, 1) := by decide +kernel
theorem dX12_message_279 : decode cX12_message 279 = .ok (.getfield 210, 3) := by decide +kernel
theorem dX12_message_282 : decode cX12_message 282 = .ok (.iload 7, 2) := by decide +kernel
theorem dX12_message_284 : decode cX12_message 284 = .ok (.iaload, 1) := by decide +kernel
theorem dX12_message_285 : decode cX12_message 285 = .ok (.goto 5, 3) := by decide +kernel
theorem dX12_message_288 : decode cX12_message 288 = .ok (.iload 6, 2) := by decide +kernel
theorem dX12_message_290 : decode cX12_message 290 = .ok (.invokevirtual 498, 3) := by decide +kernel
theorem dX12_message_293 : decode cX12_message 293 = .ok (.aload_n 0, 1) := by decide +kernel
theorem dX12_message_294 : decode cX12_message 294 = .ok (.iload 7, 2) := by decide +kernel
theorem dX12_message_296 : decode cX12_message 296 = .ok (.iload 6, 2) := by decide +kernel
theorem dX12_message_298 : decode cX12_message 298 = .ok (.invokevirtual 501, 3) := by decide +kernel
theorem dX12_message_301 : decode cX12_message 301 = .ok (.goto 37, 3) := by decide +kernel
theorem dX12_message_304 : decode cX12_message 304 = .ok (.iload_n 1, 1) := by decide +kernel
theorem dX12_message_305 : decode cX12_message 305 = .ok (.aload_n 0, 1) := by decide +kernel
theorem dX12_message_306 : decode cX12_message 306 = .ok (.getfield 260, 3) := by decide +kernel
theorem dX12_message_309 : decode cX12_message 309 = .ok (.if_icmp .ge 21, 3) := by decide +kernel
theorem dX12_message_312 : decode cX12_message 312 = .ok (.aload_n 0, 1) := by decide +kernel
theorem dX12_message_313 : decode cX12_message 313 = .ok (.iload 7, 2) := by decide +kernel
theorem dX12_message_315 : decode cX12_message 315 = .ok (.iload 5, 2) := by decide +kernel
theorem dX12_message_317 : decode cX12_message 317 = .ok (.aload_n 0, 1) := by decide +kernel
theorem dX12_message_318 : decode cX12_message 318 = .ok (.bipush 90, 2) := by decide +kernel
theorem dX12_message_320 : decode cX12_message 320 = .ok (.iload_n 2, 1) := by decide +kernel
theorem dX12_message_321 : decode cX12_message 321 = .ok (.invokevirtual 527, 3) := by decide +kernel
theorem dX12_message_324 : decode cX12_message 324 = .ok (.invokevirtual 540, 3) := by decide +kernel
theorem dX12_message_327 : decode cX12_message 327 = .ok (.goto 11, 3) := by decide +kernel
theorem dX12_message_330 : decode cX12_message 330 = .ok (.aload_n 0, 1) := by decide +kernel
theorem dX12_message_331 : decode cX12_message 331 = .ok (.iload 7, 2) := by decide +kernel
theorem dX12_message_333 : decode cX12_message 333 = .ok (.iload 5, 2) := by decide +kernel
theorem dX12_message_335 : decode cX12_message 335 = .ok (.invokevirtual 543, 3) := by decide +kernel
theorem dX12_message_338 : decode cX12_message 338 = .ok (.return_, 1) := by decide +kernel
theorem dX12_setupAtEnd_0 : decode cX12_setupAtEnd 0 = .ok (.aload_n 0, 1) := by decide +kernel
theorem dX12_setupAtEnd_1 : decode cX12_setupAtEnd 1 = .ok (.iload_n 1, 1) := by decide +kernel
theorem dX12_setupAtEnd_2 : decode cX12_setupAtEnd 2 = .ok (.invokevirtual 546, 3) := by decide +kernel
theorem dX12_setupAtEnd_5 : decode cX12_setupAtEnd 5 = .ok (.bipush 8, 2) := by decide +kernel
theorem dX12_setupAtEnd_7 : decode cX12_setupAtEnd 7 = .ok (.if_icmp .eq 14, 3) := by decide +kernel
theorem dX12_setupAtEnd_10 : decode cX12_setupAtEnd 10 = .ok (.aload_n 0, 1) := by decide +kernel
theorem dX12_setupAtEnd_11 : decode cX12_setupAtEnd 11 = .ok (.getfield 225, 3) := by decide +kernel
theorem dX12_setupAtEnd_14 : decode cX12_setupAtEnd 14 = .ok (.iload_n 1, 1) := by decide +kernel
theorem dX12_setupAtEnd_15 : decode cX12_setupAtEnd 15 = .ok (.iaload, 1) := by decide +kernel
theorem dX12_setupAtEnd_16 : decode cX12_setupAtEnd 16 = .ok (.bipush 40, 2) := by decide +kernel
theorem dX12_setupAtEnd_18 : decode cX12_setupAtEnd 18 = .ok (.if_icmp .ne 15, 3) := by decide +kernel
theorem dX12_setupAtEnd_21 : decode cX12_setupAtEnd 21 = .ok (.aload_n 0, 1) := by decide +kernel
theorem dX12_setupAtEnd_22 : decode cX12_setupAtEnd 22 = .ok (.iload_n 1, 1) := by decide +kernel
theorem dX12_setupAtEnd_23 : decode cX12_setupAtEnd 23 = .ok (.iconst 0, 1) := by decide +kernel
theorem dX12_setupAtEnd_24 : decode cX12_setupAtEnd 24 = .ok (.iload_n 2, 1) := by decide +kernel
theorem dX12_setupAtEnd_25 : decode cX12_setupAtEnd 25 = .ok (.bipush 90, 2) := by decide +kernel
theorem dX12_setupAtEnd_27 : decode cX12_setupAtEnd 27 = .ok (.bipush 47, 2) := by decide +kernel
theorem dX12_setupAtEnd_29 : decode cX12_setupAtEnd 29 = .ok (.invokevirtual 488, 3) := by decide +kernel
theorem dX12_setupAtEnd_32 : decode cX12_setupAtEnd 32 = .ok (.return_, 1) := by decide +kernel
theorem dX12_setupAtEnd_33 : decode cX12_setupAtEnd 33 = .ok (.aload_n 0, 1) := by decide +kernel
theorem dX12_setupAtEnd_34 : decode cX12_setupAtEnd 34 = .ok (.iload_n 1, 1) := by decide +kernel
theorem dX12_setupAtEnd_35 : decode cX12_setupAtEnd 35 = .ok (.bipush 6, 2) := by decide +kernel
theorem dX12_setupAtEnd_37 : decode cX12_setupAtEnd 37 = .ok (.iconst 0, 1) := by decide +kernel
theorem dX12_setupAtEnd_38 : decode cX12_setupAtEnd 38 = .ok (.iload_n 2, 1) := by decide +kernel
theorem dX12_setupAtEnd_39 : decode cX12_setupAtEnd 39 = .ok (.invokevirtual 549, 3) := by decide +kernel
theorem dX12_setupAtEnd_42 : decode cX12_setupAtEnd 42 = .ok (.istore 6, 2) := by decide +kernel
theorem dX12_setupAtEnd_44 : decode cX12_setupAtEnd 44 = .ok (.aload_n 0, 1) := by decide +kernel
theorem dX12_setupAtEnd_45 : decode cX12_setupAtEnd 45 = .ok (.getfield 204, 3) := by decide +kernel
theorem dX12_setupAtEnd_48 : decode cX12_setupAtEnd 48 = .ok (.iload 6, 2) := by decide +kernel
theorem dX12_setupAtEnd_50 : decode cX12_setupAtEnd 50 = .ok (.iload_n 3, 1) := by decide +kernel
theorem dX12_setupAtEnd_51 : decode cX12_setupAtEnd 51 = .ok (.iastore, 1) := by decide +kernel
theorem dX12_setupAtEnd_52 : decode cX12_setupAtEnd 52 = .ok (.aload_n 0, 1) := by decide +kernel
theorem dX12_setupAtEnd_53 : decode cX12_setupAtEnd 53 = .ok (.getfield 207, 3) := by decide +kernel
theorem dX12_setupAtEnd_56 : decode cX12_setupAtEnd 56 = .ok (.iload 6, 2) := by decide +kernel
theorem dX12_setupAtEnd_58 : decode cX12_setupAtEnd 58 = .ok (.iload 4, 2) := by decide +kernel
theorem dX12_setupAtEnd_60 : decode cX12_setupAtEnd 60 = .ok (.iastore, 1) := by decide +kernel
theorem dX12_setupAtEnd_61 : decode cX12_setupAtEnd 61 = .ok (.aload_n 0, 1) := by decide +kernel
theorem dX12_setupAtEnd_62 : decode cX12_setupAtEnd 62 = .ok (.getfield 201, 3) := by decide +kernel
theorem dX12_setupAtEnd_65 : decode cX12_setupAtEnd 65 = .ok (.iload 6, 2) := by decide +kernel
theorem dX12_setupAtEnd_67 : decode cX12_setupAtEnd 67 = .ok (.iload 5, 2) := by decide +kernel
theorem dX12_setupAtEnd_69 : decode cX12_setupAtEnd 69 = .ok (.iastore, 1) := by decide +kernel
theorem dX12_setupAtEnd_70 : decode cX12_setupAtEnd 70 = .ok (.aload_n 0, 1) := by decide +kernel
theorem dX12_setupAtEnd_71 : decode cX12_setupAtEnd 71 = .ok (.getfield 231, 3) := by decide +kernel
theorem dX12_setupAtEnd_74 : decode cX12_setupAtEnd 74 = .ok (.iload_n 1, 1) := by decide +kernel
theorem dX12_setupAtEnd_75 : decode cX12_setupAtEnd 75 = .ok (.iaload, 1) := by decide +kernel
theorem dX12_setupAtEnd_76 : decode cX12_setupAtEnd 76 = .ok (.ifCond .ne 12, 3) := by decide +kernel
theorem dX12_setupAtEnd_79 : decode cX12_setupAtEnd 79 = .ok (.aload_n 0, 1) := by decide +kernel
theorem dX12_setupAtEnd_80 : decode cX12_setupAtEnd 80 = .ok (.iload 6, 2) := by decide +kernel
theorem dX12_setupAtEnd_82 : decode cX12_setupAtEnd 82 = .ok (.invokevirtual 510, 3) := by decide +kernel
theorem dX12_setupAtEnd_85 : decode cX12_setupAtEnd 85 = .ok (.goto 55, 3) := by decide +kernel
theorem dX12_setupAtEnd_88 : decode cX12_setupAtEnd 88 = .ok (.aload_n 0, 1) := by decide +kernel
theorem dX12_setupAtEnd_89 : decode cX12_setupAtEnd 89 = .ok (.getfield 231, 3) := by decide +kernel
theorem dX12_setupAtEnd_92 : decode cX12_setupAtEnd 92 = .ok (.iload_n 1, 1) := by decide +kernel
theorem dX12_setupAtEnd_93 : decode cX12_setupAtEnd 93 = .ok (.iaload, 1) := by decide +kernel
theorem dX12_setupAtEnd_94 : decode cX12_setupAtEnd 94 = .ok (.iconst 1, 1) := by decide +kernel
theorem dX12_setupAtEnd_95 : decode cX12_setupAtEnd 95 = .ok (.if_icmp .ne 26, 3) := by decide +kernel
theorem dX12_setupAtEnd_98 : decode cX12_setupAtEnd 98 = .ok (.aload_n 0, 1) := by decide +kernel
theorem dX12_setupAtEnd_99 : decode cX12_setupAtEnd 99 = .ok (.getfield 210, 3) := by decide +kernel
theorem dX12_setupAtEnd_102 : decode cX12_setupAtEnd 102 = .ok (.iload 6, 2) := by decide +kernel
theorem dX12_setupAtEnd_104 : decode cX12_setupAtEnd 104 = .ok (.aload_n 0, 1) := by decide +kernel
theorem dX12_setupAtEnd_105 : decode cX12_setupAtEnd 105 = .ok (.getfield 234, 3) := by decide +kernel
theorem dX12_setupAtEnd_108 : decode cX12_setupAtEnd 108 = .ok (.iload_n 1, 1) := by decide +kernel
theorem dX12_setupAtEnd_109 : decode cX12_setupAtEnd 109 = .ok (.iaload, 1) := by decide +kernel
theorem dX12_setupAtEnd_110 : decode cX12_setupAtEnd 110 = .ok (.iastore, 1) := by decide +kernel
theorem dX12_setupAtEnd_111 : decode cX12_setupAtEnd 111 = .ok (.aload_n 0, 1) := by decide +kernel
theorem dX12_setupAtEnd_112 : decode cX12_setupAtEnd 112 = .ok (.iload 6, 2) := by decide +kernel
theorem dX12_setupAtEnd_114 : decode cX12_setupAtEnd 114 = .ok (.iconst 2, 1) := by decide +kernel
theorem dX12_setupAtEnd_115 : decode cX12_setupAtEnd 115 = .ok (.invokevirtual 516, 3) := by decide +kernel
theorem dX12_setupAtEnd_118 : decode cX12_setupAtEnd 118 = .ok (.goto 22, 3) := by decide +kernel
theorem dX12_setupAtEnd_121 : decode cX12_setupAtEnd 121 = .ok (.aload_n 0, 1) := by decide +kernel
theorem dX12_setupAtEnd_122 : decode cX12_setupAtEnd 122 = .ok (.iload_n 1, 1) := by decide +kernel
theorem dX12_setupAtEnd_123 : decode cX12_setupAtEnd 123 = .ok (.iconst 0, 1) := by decide +kernel
theorem dX12_setupAtEnd_124 : decode cX12_setupAtEnd 124 = .ok (.iload_n 2, 1) := by decide +kernel
theorem dX12_setupAtEnd_125 : decode cX12_setupAtEnd 125 = .ok (.bipush 90, 2) := by decide +kernel
theorem dX12_setupAtEnd_127 : decode cX12_setupAtEnd 127 = .ok (.bipush 17, 2) := by decide +kernel
theorem dX12_setupAtEnd_129 : decode cX12_setupAtEnd 129 = .ok (.invokevirtual 488, 3) := by decide +kernel
theorem dX12_setupAtEnd_132 : decode cX12_setupAtEnd 132 = .ok (.aload_n 0, 1) := by decide +kernel
theorem dX12_setupAtEnd_133 : decode cX12_setupAtEnd 133 = .ok (.iload 6, 2) := by decide +kernel
theorem dX12_setupAtEnd_135 : decode cX12_setupAtEnd 135 = .ok (.bipush 17, 2) := by decide +kernel
theorem dX12_setupAtEnd_137 : decode cX12_setupAtEnd 137 = .ok (.invokevirtual 498, 3) := by decide +kernel
theorem dX12_setupAtEnd_140 : decode cX12_setupAtEnd 140 = .ok (.return_, 1) := by decide +kernel
theorem dX12_endMessage_0 : decode cX12_endMessage 0 = .ok (.aload_n 0, 1) := by decide +kernel
theorem dX12_endMessage_1 : decode cX12_endMessage 1 = .ok (.getfield 192, 3) := by decide +kernel
theorem dX12_endMessage_4 : decode cX12_endMessage 4 = .ok (.iload_n 1, 1) := by decide +kernel
theorem dX12_endMessage_5 : decode cX12_endMessage 5 = .ok (.iaload, 1) := by decide +kernel
theorem dX12_endMessage_6 : decode cX12_endMessage 6 = .ok (.istore 4, 2) := by decide +kernel
theorem dX12_endMessage_8 : decode cX12_endMessage 8 = .ok (.iload_n 2, 1) := by decide +kernel
theorem dX12_endMessage_9 : decode cX12_endMessage 9 = .ok (.iconst 2, 1) := by decide +kernel
theorem dX12_endMessage_10 : decode cX12_endMessage 10 = .ok (.if_icmp .ne 36, 3) := by decide +kernel
theorem dX12_endMessage_13 : decode cX12_endMessage 13 = .ok (.iload 4, 2) := by decide +kernel
theorem dX12_endMessage_15 : decode cX12_endMessage 15 = .ok (.iconst 1, 1) := by decide +kernel
theorem dX12_endMessage_16 : decode cX12_endMessage 16 = .ok (.if_icmp .ne 30, 3) := by decide +kernel
theorem dX12_endMessage_19 : decode cX12_endMessage 19 = .ok (.aload_n 0, 1) := by decide +kernel
theorem dX12_endMessage_20 : decode cX12_endMessage 20 = .ok (.getfield 192, 3) := by decide +kernel
theorem dX12_endMessage_23 : decode cX12_endMessage 23 = .ok (.iload_n 1, 1) := by decide +kernel
theorem dX12_endMessage_24 : decode cX12_endMessage 24 = .ok (.iconst 3, 1) := by decide +kernel
theorem dX12_endMessage_25 : decode cX12_endMessage 25 = .ok (.iastore, 1) := by decide +kernel
theorem dX12_endMessage_26 : decode cX12_endMessage 26 = .ok (.aload_n 0, 1) := by decide +kernel
theorem dX12_endMessage_27 : decode cX12_endMessage 27 = .ok (.getfield 201, 3) := by decide +kernel
theorem dX12_endMessage_30 : decode cX12_endMessage 30 = .ok (.iload_n 1, 1) := by decide +kernel
theorem dX12_endMessage_31 : decode cX12_endMessage 31 = .ok (.iload_n 3, 1) := by decide +kernel
theorem dX12_endMessage_32 : decode cX12_endMessage 32 = .ok (.iastore, 1) := by decide +kernel
theorem dX12_endMessage_33 : decode cX12_endMessage 33 = .ok (.aload_n 0, 1) := by decide +kernel
theorem dX12_endMessage_34 : decode cX12_endMessage 34 = .ok (.getfield 213, 3) := by decide +kernel
theorem dX12_endMessage_37 : decode cX12_endMessage 37 = .ok (.iload_n 1, 1) := by decide +kernel
theorem dX12_endMessage_38 : decode cX12_endMessage 38 = .ok (.aload_n 0, 1) := by decide +kernel
theorem dX12_endMessage_39 : decode cX12_endMessage 39 = .ok (.getfield 378, 3) := by decide +kernel
theorem dX12_endMessage_42 : decode cX12_endMessage 42 = .ok (.iastore, 1) := by decide +kernel
theorem dX12_endMessage_43 : decode cX12_endMessage 43 = .ok (.goto 76, 3) := by decide +kernel
theorem dX12_endMessage_46 : decode cX12_endMessage 46 = .ok (.iload_n 2, 1) := by decide +kernel
theorem dX12_endMessage_47 : decode cX12_endMessage 47 = .ok (.bipush 7, 2) := by decide +kernel
theorem dX12_endMessage_49 : decode cX12_endMessage 49 = .ok (.if_icmp .ne 19, 3) := by decide +kernel
theorem dX12_endMessage_52 : decode cX12_endMessage 52 = .ok (.iload 4, 2) := by decide +kernel
theorem dX12_endMessage_54 : decode cX12_endMessage 54 = .ok (.iconst 1, 1) := by decide +kernel
theorem dX12_endMessage_55 : decode cX12_endMessage 55 = .ok (.if_icmp .ne 13, 3) := by decide +kernel
theorem dX12_endMessage_58 : decode cX12_endMessage 58 = .ok (.aload_n 0, 1) := by decide +kernel
theorem dX12_endMessage_59 : decode cX12_endMessage 59 = .ok (.iload_n 1, 1) := by decide +kernel
theorem dX12_endMessage_60 : decode cX12_endMessage 60 = .ok (.bipush 96, 2) := by decide +kernel
theorem dX12_endMessage_62 : decode cX12_endMessage 62 = .ok (.invokevirtual 492, 3) := by decide +kernel
theorem dX12_endMessage_65 : decode cX12_endMessage 65 = .ok (.goto 54, 3) := by decide +kernel
theorem dX12_endMessage_68 : decode cX12_endMessage 68 = .ok (.iload_n 2, 1) := by decide +kernel
theorem dX12_endMessage_69 : decode cX12_endMessage 69 = .ok (.bipush 7, 2) := by decide +kernel
theorem dX12_endMessage_71 : decode cX12_endMessage 71 = .ok (.if_icmp .ne 27, 3) := by decide +kernel
theorem dX12_endMessage_74 : decode cX12_endMessage 74 = .ok (.iload 4, 2) := by decide +kernel
theorem dX12_endMessage_76 : decode cX12_endMessage 76 = .ok (.iconst 3, 1) := by decide +kernel
theorem dX12_endMessage_77 : decode cX12_endMessage 77 = .ok (.if_icmp .ne 21, 3) := by decide +kernel
theorem dX12_endMessage_80 : decode cX12_endMessage 80 = .ok (.aload_n 0, 1) := by decide +kernel
theorem dX12_endMessage_81 : decode cX12_endMessage 81 = .ok (.getfield 192, 3) := by decide +kernel
theorem dX12_endMessage_84 : decode cX12_endMessage 84 = .ok (.iload_n 1, 1) := by decide +kernel
theorem dX12_endMessage_85 : decode cX12_endMessage 85 = .ok (.bipush 10, 2) := by decide +kernel
theorem dX12_endMessage_87 : decode cX12_endMessage 87 = .ok (.iastore, 1) := by decide +kernel
theorem dX12_endMessage_88 : decode cX12_endMessage 88 = .ok (.aload_n 0, 1) := by decide +kernel
theorem dX12_endMessage_89 : decode cX12_endMessage 89 = .ok (.iload_n 1, 1) := by decide +kernel
theorem dX12_endMessage_90 : decode cX12_endMessage 90 = .ok (.bipush 15, 2) := by decide +kernel
theorem dX12_endMessage_92 : decode cX12_endMessage 92 = .ok (.invokevirtual 516, 3) := by decide +kernel
theorem dX12_endMessage_95 : decode cX12_endMessage 95 = .ok (.goto 24, 3) := by decide +kernel
theorem dX12_endMessage_98 : decode cX12_endMessage 98 = .ok (.iload_n 2, 1) := by decide +kernel
theorem dX12_endMessage_99 : decode cX12_endMessage 99 = .ok (.bipush 15, 2) := by decide +kernel
theorem dX12_endMessage_101 : decode cX12_endMessage 101 = .ok (.if_icmp .ne 18, 3) := by decide +kernel
theorem dX12_endMessage_104 : decode cX12_endMessage 104 = .ok (.iload 4, 2) := by decide +kernel
theorem dX12_endMessage_106 : decode cX12_endMessage 106 = .ok (.bipush 8, 2) := by decide +kernel
theorem dX12_endMessage_108 : decode cX12_endMessage 108 = .ok (.if_icmp .ne 11, 3) := by decide +kernel
theorem dX12_endMessage_111 : decode cX12_endMessage 111 = .ok (.aload_n 0, 1) := by decide +kernel
theorem dX12_endMessage_112 : decode cX12_endMessage 112 = .ok (.getfield 192, 3) := by decide +kernel
theorem dX12_endMessage_115 : decode cX12_endMessage 115 = .ok (.iload_n 1, 1) := by decide +kernel
theorem dX12_endMessage_116 : decode cX12_endMessage 116 = .ok (.bipush 10, 2) := by decide +kernel
theorem dX12_endMessage_118 : decode cX12_endMessage 118 = .ok (.iastore, 1) := by decide +kernel
theorem dX12_endMessage_119 : decode cX12_endMessage 119 = .ok (.return_, 1) := by decide +kernel
theorem dX12_setupAtSwitch_0 : decode cX12_setupAtSwitch 0 = .ok (.iload_n 1, 1) := by decide +kernel
theorem dX12_setupAtSwitch_1 : decode cX12_setupAtSwitch 1 = .ok (.aload_n 0, 1) := by decide +kernel
theorem dX12_setupAtSwitch_2 : decode cX12_setupAtSwitch 2 = .ok (.getfield 260, 3) := by decide +kernel
theorem dX12_setupAtSwitch_5 : decode cX12_setupAtSwitch 5 = .ok (.isub, 1) := by decide +kernel
theorem dX12_setupAtSwitch_6 : decode cX12_setupAtSwitch 6 = .ok (.istore 5, 2) := by decide +kernel
theorem dX12_setupAtSwitch_8 : decode cX12_setupAtSwitch 8 = .ok (.iload_n 3, 1) := by decide +kernel
theorem dX12_setupAtSwitch_9 : decode cX12_setupAtSwitch 9 = .ok (.ifCond .lt 17, 3) := by decide +kernel
theorem dX12_setupAtSwitch_12 : decode cX12_setupAtSwitch 12 = .ok (.iload_n 3, 1) := by decide +kernel
theorem dX12_setupAtSwitch_13 : decode cX12_setupAtSwitch 13 = .ok (.aload_n 0, 1) := by decide +kernel
theorem dX12_setupAtSwitch_14 : decode cX12_setupAtSwitch 14 = .ok (.getfield 260, 3) := by decide +kernel
theorem dX12_setupAtSwitch_17 : decode cX12_setupAtSwitch 17 = .ok (.if_icmp .ge 9, 3) := by decide +kernel
theorem dX12_setupAtSwitch_20 : decode cX12_setupAtSwitch 20 = .ok (.iload_n 3, 1) := by decide +kernel
theorem dX12_setupAtSwitch_21 : decode cX12_setupAtSwitch 21 = .ok (.iload 5, 2) := by decide +kernel
theorem dX12_setupAtSwitch_23 : decode cX12_setupAtSwitch 23 = .ok (.if_icmp .ne 7, 3) := by decide +kernel
theorem dX12_setupAtSwitch_26 : decode cX12_setupAtSwitch 26 = .ok (.iconst 1, 1) := by decide +kernel
theorem dX12_setupAtSwitch_27 : decode cX12_setupAtSwitch 27 = .ok (.goto 4, 3) := by decide +kernel
theorem dX12_setupAtSwitch_30 : decode cX12_setupAtSwitch 30 = .ok (.iconst 0, 1) := by decide +kernel
theorem dX12_setupAtSwitch_31 : decode cX12_setupAtSwitch 31 = .ok (.istore 6, 2) := by decide +kernel
theorem dX12_setupAtSwitch_33 : decode cX12_setupAtSwitch 33 = .ok (.iload 6, 2) := by decide +kernel
theorem dX12_setupAtSwitch_35 : decode cX12_setupAtSwitch 35 = .ok (.ifCond .eq 7, 3) := by decide +kernel
theorem dX12_setupAtSwitch_38 : decode cX12_setupAtSwitch 38 = .ok (.iload_n 1, 1) := by decide +kernel
theorem dX12_setupAtSwitch_39 : decode cX12_setupAtSwitch 39 = .ok (.goto 9, 3) := by decide +kernel
theorem dX12_setupAtSwitch_42 : decode cX12_setupAtSwitch 42 = .ok (.aload_n 0, 1) := by decide +kernel
theorem dX12_setupAtSwitch_43 : decode cX12_setupAtSwitch 43 = .ok (.getfield 260, 3) := by decide +kernel
theorem dX12_setupAtSwitch_46 : decode cX12_setupAtSwitch 46 = .ok (.iload_n 3, 1) := by decide +kernel
theorem dX12_setupAtSwitch_47 : decode cX12_setupAtSwitch 47 = .ok (.iadd, 1) := by decide +kernel
theorem dX12_setupAtSwitch_48 : decode cX12_setupAtSwitch 48 = .ok (.istore 7, 2) := by decide +kernel
theorem dX12_setupAtSwitch_50 : decode cX12_setupAtSwitch 50 = .ok (.iload 6, 2) := by decide +kernel
theorem dX12_setupAtSwitch_52 : decode cX12_setupAtSwitch 52 = .ok (.ifCond .eq 7, 3) := by decide +kernel
theorem dX12_setupAtSwitch_55 : decode cX12_setupAtSwitch 55 = .ok (.iconst 1, 1) := by decide +kernel
theorem dX12_setupAtSwitch_56 : decode cX12_setupAtSwitch 56 = .ok (.goto 77, 3) := by decide +kernel
theorem dX12_setupAtSwitch_59 : decode cX12_setupAtSwitch 59 = .ok (.iload 4, 2) := by decide +kernel
theorem dX12_setupAtSwitch_61 : decode cX12_setupAtSwitch 61 = .ok (.iconst 1, 1) := by decide +kernel
theorem dX12_setupAtSwitch_62 : decode cX12_setupAtSwitch 62 = .ok (.if_icmp .lt 9, 3) := by decide +kernel
theorem dX12_setupAtSwitch_65 : decode cX12_setupAtSwitch 65 = .ok (.iload 4, 2) := by decide +kernel
theorem dX12_setupAtSwitch_67 : decode cX12_setupAtSwitch 67 = .ok (.iconst 3, 1) := by decide +kernel
theorem dX12_setupAtSwitch_68 : decode cX12_setupAtSwitch 68 = .ok (.if_icmp .le 8, 3) := by decide +kernel
theorem dX12_setupAtSwitch_71 : decode cX12_setupAtSwitch 71 = .ok (.bipush 96, 2) := by decide +kernel
theorem dX12_setupAtSwitch_73 : decode cX12_setupAtSwitch 73 = .ok (.goto 60, 3) := by decide +kernel
theorem dX12_setupAtSwitch_76 : decode cX12_setupAtSwitch 76 = .ok (.aload_n 0, 1) := by decide +kernel
theorem dX12_setupAtSwitch_77 : decode cX12_setupAtSwitch 77 = .ok (.iload_n 1, 1) := by decide +kernel
theorem dX12_setupAtSwitch_78 : decode cX12_setupAtSwitch 78 = .ok (.invokevirtual 546, 3) := by decide +kernel
theorem dX12_setupAtSwitch_81 : decode cX12_setupAtSwitch 81 = .ok (.bipush 8, 2) := by decide +kernel
theorem dX12_setupAtSwitch_83 : decode cX12_setupAtSwitch 83 = .ok (.if_icmp .eq 14, 3) := by decide +kernel
theorem dX12_setupAtSwitch_86 : decode cX12_setupAtSwitch 86 = .ok (.aload_n 0, 1) := by decide +kernel
theorem dX12_setupAtSwitch_87 : decode cX12_setupAtSwitch 87 = .ok (.iload 7, 2) := by decide +kernel
theorem dX12_setupAtSwitch_89 : decode cX12_setupAtSwitch 89 = .ok (.invokevirtual 546, 3) := by decide +kernel
theorem dX12_setupAtSwitch_92 : decode cX12_setupAtSwitch 92 = .ok (.bipush 8, 2) := by decide +kernel
theorem dX12_setupAtSwitch_94 : decode cX12_setupAtSwitch 94 = .ok (.if_icmp .ne 8, 3) := by decide +kernel
theorem dX12_setupAtSwitch_97 : decode cX12_setupAtSwitch 97 = .ok (.bipush 47, 2) := by decide +kernel
theorem dX12_setupAtSwitch_99 : decode cX12_setupAtSwitch 99 = .ok (.goto 34, 3) := by decide +kernel
theorem dX12_setupAtSwitch_102 : decode cX12_setupAtSwitch 102 = .ok (.aload_n 0, 1) := by decide +kernel
theorem dX12_setupAtSwitch_103 : decode cX12_setupAtSwitch 103 = .ok (.iload_n 1, 1) := by decide +kernel
theorem dX12_setupAtSwitch_104 : decode cX12_setupAtSwitch 104 = .ok (.invokevirtual 553, 3) := by decide +kernel
theorem dX12_setupAtSwitch_107 : decode cX12_setupAtSwitch 107 = .ok (.iload 4, 2) := by decide +kernel
theorem dX12_setupAtSwitch_109 : decode cX12_setupAtSwitch 109 = .ok (.iadd, 1) := by decide +kernel
theorem dX12_setupAtSwitch_110 : decode cX12_setupAtSwitch 110 = .ok (.iconst 3, 1) := by decide +kernel
theorem dX12_setupAtSwitch_111 : decode cX12_setupAtSwitch 111 = .ok (.if_icmp .gt 16, 3) := by decide +kernel
theorem dX12_setupAtSwitch_114 : decode cX12_setupAtSwitch 114 = .ok (.aload_n 0, 1) := by decide +kernel
theorem dX12_setupAtSwitch_115 : decode cX12_setupAtSwitch 115 = .ok (.iload 7, 2) := by decide +kernel
theorem dX12_setupAtSwitch_117 : decode cX12_setupAtSwitch 117 = .ok (.invokevirtual 553, 3) := by decide +kernel
theorem dX12_setupAtSwitch_120 : decode cX12_setupAtSwitch 120 = .ok (.iload 4, 2) := by decide +kernel
theorem dX12_setupAtSwitch_122 : decode cX12_setupAtSwitch 122 = .ok (.iadd, 1) := by decide +kernel
theorem dX12_setupAtSwitch_123 : decode cX12_setupAtSwitch 123 = .ok (.iconst 3, 1) := by decide +kernel
theorem dX12_setupAtSwitch_124 : decode cX12_setupAtSwitch 124 = .ok (.if_icmp .le 8, 3) := by decide +kernel
theorem dX12_setupAtSwitch_127 : decode cX12_setupAtSwitch 127 = .ok (.bipush 37, 2) := by decide +kernel
theorem dX12_setupAtSwitch_129 : decode cX12_setupAtSwitch 129 = .ok (.goto 4, 3) := by decide +kernel
theorem dX12_setupAtSwitch_132 : decode cX12_setupAtSwitch 132 = .ok (.iconst 0, 1) := by decide +kernel
theorem dX12_setupAtSwitch_133 : decode cX12_setupAtSwitch 133 = .ok (.istore 8, 2) := by decide +kernel
theorem dX12_setupAtSwitch_135 : decode cX12_setupAtSwitch 135 = .ok (.iload 8, 2) := by decide +kernel
theorem dX12_setupAtSwitch_137 : decode cX12_setupAtSwitch 137 = .ok (.ifCond .le 15, 3) := by decide +kernel
theorem dX12_setupAtSwitch_140 : decode cX12_setupAtSwitch 140 = .ok (.aload_n 0, 1) := by decide +kernel
theorem dX12_setupAtSwitch_141 : decode cX12_setupAtSwitch 141 = .ok (.iload_n 1, 1) := by decide +kernel
theorem dX12_setupAtSwitch_142 : decode cX12_setupAtSwitch 142 = .ok (.iconst 0, 1) := by decide +kernel
theorem dX12_setupAtSwitch_143 : decode cX12_setupAtSwitch 143 = .ok (.iload_n 2, 1) := by decide +kernel
theorem dX12_setupAtSwitch_144 : decode cX12_setupAtSwitch 144 = .ok (.bipush 90, 2) := by decide +kernel
theorem dX12_setupAtSwitch_146 : decode cX12_setupAtSwitch 146 = .ok (.iload 8, 2) := by decide +kernel
theorem dX12_setupAtSwitch_148 : decode cX12_setupAtSwitch 148 = .ok (.invokevirtual 488, 3) := by decide +kernel
theorem dX12_setupAtSwitch_151 : decode cX12_setupAtSwitch 151 = .ok (.return_, 1) := by decide +kernel
theorem dX12_setupAtSwitch_152 : decode cX12_setupAtSwitch 152 = .ok (.aload_n 0, 1) := by decide +kernel
theorem dX12_setupAtSwitch_153 : decode cX12_setupAtSwitch 153 = .ok (.iload_n 1, 1) := by decide +kernel
theorem dX12_setupAtSwitch_154 : decode cX12_setupAtSwitch 154 = .ok (.invokevirtual 556, 3) := by decide +kernel
theorem dX12_setupAtSwitch_157 : decode cX12_setupAtSwitch 157 = .ok (.istore 9, 2) := by decide +kernel
theorem dX12_setupAtSwitch_159 : decode cX12_setupAtSwitch 159 = .ok (.aload_n 0, 1) := by decide +kernel
theorem dX12_setupAtSwitch_160 : decode cX12_setupAtSwitch 160 = .ok (.iload 7, 2) := by decide +kernel
theorem dX12_setupAtSwitch_162 : decode cX12_setupAtSwitch 162 = .ok (.invokevirtual 556, 3) := by decide +kernel
theorem dX12_setupAtSwitch_165 : decode cX12_setupAtSwitch 165 = .ok (.istore 10, 2) := by decide +kernel
theorem dX12_setupAtSwitch_167 : decode cX12_setupAtSwitch 167 = .ok (.aload_n 0, 1) := by decide +kernel
theorem dX12_setupAtSwitch_168 : decode cX12_setupAtSwitch 168 = .ok (.iload_n 1, 1) := by decide +kernel
theorem dX12_setupAtSwitch_169 : decode cX12_setupAtSwitch 169 = .ok (.iconst 3, 1) := by decide +kernel
theorem dX12_setupAtSwitch_170 : decode cX12_setupAtSwitch 170 = .ok (.iconst 0, 1) := by decide +kernel
theorem dX12_setupAtSwitch_171 : decode cX12_setupAtSwitch 171 = .ok (.iload_n 2, 1) := by decide +kernel
theorem dX12_setupAtSwitch_172 : decode cX12_setupAtSwitch 172 = .ok (.invokevirtual 549, 3) := by decide +kernel
theorem dX12_setupAtSwitch_175 : decode cX12_setupAtSwitch 175 = .ok (.istore 11, 2) := by decide +kernel
theorem dX12_setupAtSwitch_177 : decode cX12_setupAtSwitch 177 = .ok (.aload_n 0, 1) := by decide +kernel
theorem dX12_setupAtSwitch_178 : decode cX12_setupAtSwitch 178 = .ok (.getfield 228, 3) := by decide +kernel
theorem dX12_setupAtSwitch_181 : decode cX12_setupAtSwitch 181 = .ok (.iload 7, 2) := by decide +kernel
theorem dX12_setupAtSwitch_183 : decode cX12_setupAtSwitch 183 = .ok (.dup2, 1) := by decide +kernel
theorem dX12_setupAtSwitch_184 : decode cX12_setupAtSwitch 184 = .ok (.iaload, 1) := by decide +kernel
theorem dX12_setupAtSwitch_185 : decode cX12_setupAtSwitch 185 = .ok (.iconst 1, 1) := by decide +kernel
theorem dX12_setupAtSwitch_186 : decode cX12_setupAtSwitch 186 = .ok (.iadd, 1) := by decide +kernel
theorem dX12_setupAtSwitch_187 : decode cX12_setupAtSwitch 187 = .ok (.iastore, 1) := by decide +kernel
theorem dX12_setupAtSwitch_188 : decode cX12_setupAtSwitch 188 = .ok (.aload_n 0, 1) := by decide +kernel
theorem dX12_setupAtSwitch_189 : decode cX12_setupAtSwitch 189 = .ok (.iload 7, 2) := by decide +kernel
theorem dX12_setupAtSwitch_191 : decode cX12_setupAtSwitch 191 = .ok (.bipush 6, 2) := by decide +kernel
theorem dX12_setupAtSwitch_193 : decode cX12_setupAtSwitch 193 = .ok (.iconst 1, 1) := by decide +kernel
theorem dX12_setupAtSwitch_194 : decode cX12_setupAtSwitch 194 = .ok (.aload_n 0, 1) := by decide +kernel
theorem dX12_setupAtSwitch_195 : decode cX12_setupAtSwitch 195 = .ok (.getfield 228, 3) := by decide +kernel
theorem dX12_setupAtSwitch_198 : decode cX12_setupAtSwitch 198 = .ok (.iload 7, 2) := by decide +kernel
theorem dX12_setupAtSwitch_200 : decode cX12_setupAtSwitch 200 = .ok (.iaload, 1) := by decide +kernel
theorem dX12_setupAtSwitch_201 : decode cX12_setupAtSwitch 201 = .ok (.invokevirtual 549, 3) := by decide +kernel
theorem dX12_setupAtSwitch_204 : decode cX12_setupAtSwitch 204 = .ok (.istore 12, 2) := by decide +kernel
theorem dX12_setupAtSwitch_206 : decode cX12_setupAtSwitch 206 = .ok (.aload_n 0, 1) := by decide +kernel
theorem dX12_setupAtSwitch_207 : decode cX12_setupAtSwitch 207 = .ok (.getfield 204, 3) := by decide +kernel
theorem dX12_setupAtSwitch_210 : decode cX12_setupAtSwitch 210 = .ok (.iload 11, 2) := by decide +kernel
theorem dX12_setupAtSwitch_212 : decode cX12_setupAtSwitch 212 = .ok (.iload 4, 2) := by decide +kernel
theorem dX12_setupAtSwitch_214 : decode cX12_setupAtSwitch 214 = .ok (.iastore, 1) := by decide +kernel
theorem dX12_setupAtSwitch_215 : decode cX12_setupAtSwitch 215 = .ok (.aload_n 0, 1) := by decide +kernel
theorem dX12_setupAtSwitch_216 : decode cX12_setupAtSwitch 216 = .ok (.getfield 204, 3) := by decide +kernel
theorem dX12_setupAtSwitch_219 : decode cX12_setupAtSwitch 219 = .ok (.iload 12, 2) := by decide +kernel
theorem dX12_setupAtSwitch_221 : decode cX12_setupAtSwitch 221 = .ok (.iload 4, 2) := by decide +kernel
theorem dX12_setupAtSwitch_223 : decode cX12_setupAtSwitch 223 = .ok (.iastore, 1) := by decide +kernel
theorem dX12_setupAtSwitch_224 : decode cX12_setupAtSwitch 224 = .ok (.aload_n 0, 1) := by decide +kernel
theorem dX12_setupAtSwitch_225 : decode cX12_setupAtSwitch 225 = .ok (.getfield 207, 3) := by decide +kernel
theorem dX12_setupAtSwitch_228 : decode cX12_setupAtSwitch 228 = .ok (.iload 11, 2) := by decide +kernel
theorem dX12_setupAtSwitch_230 : decode cX12_setupAtSwitch 230 = .ok (.iload_n 3, 1) := by decide +kernel
theorem dX12_setupAtSwitch_231 : decode cX12_setupAtSwitch 231 = .ok (.iastore, 1) := by decide +kernel
theorem dX12_setupAtSwitch_232 : decode cX12_setupAtSwitch 232 = .ok (.aload_n 0, 1) := by decide +kernel
theorem dX12_setupAtSwitch_233 : decode cX12_setupAtSwitch 233 = .ok (.getfield 207, 3) := by decide +kernel
theorem dX12_setupAtSwitch_236 : decode cX12_setupAtSwitch 236 = .ok (.iload 12, 2) := by decide +kernel
theorem dX12_setupAtSwitch_238 : decode cX12_setupAtSwitch 238 = .ok (.iload 5, 2) := by decide +kernel
theorem dX12_setupAtSwitch_240 : decode cX12_setupAtSwitch 240 = .ok (.iastore, 1) := by decide +kernel
theorem dX12_setupAtSwitch_241 : decode cX12_setupAtSwitch 241 = .ok (.aload_n 0, 1) := by decide +kernel
theorem dX12_setupAtSwitch_242 : decode cX12_setupAtSwitch 242 = .ok (.getfield 201, 3) := by decide +kernel
theorem dX12_setupAtSwitch_245 : decode cX12_setupAtSwitch 245 = .ok (.iload 11, 2) := by decide +kernel
theorem dX12_setupAtSwitch_247 : decode cX12_setupAtSwitch 247 = .ok (.iload 9, 2) := by decide +kernel
theorem dX12_setupAtSwitch_249 : decode cX12_setupAtSwitch 249 = .ok (.iastore, 1) := by decide +kernel
theorem dX12_setupAtSwitch_250 : decode cX12_setupAtSwitch 250 = .ok (.aload_n 0, 1) := by decide +kernel
theorem dX12_setupAtSwitch_251 : decode cX12_setupAtSwitch 251 = .ok (.getfield 201, 3) := by decide +kernel
theorem dX12_setupAtSwitch_254 : decode cX12_setupAtSwitch 254 = .ok (.iload 12, 2) := by decide +kernel
theorem dX12_setupAtSwitch_256 : decode cX12_setupAtSwitch 256 = .ok (.iload 10, 2) := by decide +kernel
theorem dX12_setupAtSwitch_258 : decode cX12_setupAtSwitch 258 = .ok (.iastore, 1) := by decide +kernel
theorem dX12_setupAtSwitch_259 : decode cX12_setupAtSwitch 259 = .ok (.aload_n 0, 1) := by decide +kernel
theorem dX12_setupAtSwitch_260 : decode cX12_setupAtSwitch 260 = .ok (.getfield 219, 3) := by decide +kernel
theorem dX12_setupAtSwitch_263 : decode cX12_setupAtSwitch 263 = .ok (.iload 11, 2) := by decide +kernel
theorem dX12_setupAtSwitch_265 : decode cX12_setupAtSwitch 265 = .ok (.iload 12, 2) := by decide +kernel
theorem dX12_setupAtSwitch_267 : decode cX12_setupAtSwitch 267 = .ok (.iastore, 1) := by decide +kernel
theorem dX12_setupAtSwitch_268 : decode cX12_setupAtSwitch 268 = .ok (.aload_n 0, 1) := by decide +kernel
theorem dX12_setupAtSwitch_269 : decode cX12_setupAtSwitch 269 = .ok (.getfield 219, 3) := by decide +kernel
theorem dX12_setupAtSwitch_272 : decode cX12_setupAtSwitch 272 = .ok (.iload 12, 2) := by decide +kernel
theorem dX12_setupAtSwitch_274 : decode cX12_setupAtSwitch 274 = .ok (.iload 11, 2) := by decide +kernel
theorem dX12_setupAtSwitch_276 : decode cX12_setupAtSwitch 276 = .ok (.iastore, 1) := by decide +kernel
theorem dX12_setupAtSwitch_277 : decode cX12_setupAtSwitch 277 = .ok (.aload_n 0, 1) := by decide +kernel
theorem dX12_setupAtSwitch_278 : decode cX12_setupAtSwitch 278 = .ok (.iconst 0, 1) := by decide +kernel
theorem dX12_setupAtSwitch_279 : decode cX12_setupAtSwitch 279 = .ok (.iload_n 2, 1) := by decide +kernel
theorem dX12_setupAtSwitch_280 : decode cX12_setupAtSwitch 280 = .ok (.iconst 2, 1) := by decide +kernel
theorem dX12_setupAtSwitch_281 : decode cX12_setupAtSwitch 281 = .ok (.bipush 6, 2) := by decide +kernel
theorem dX12_setupAtSwitch_283 : decode cX12_setupAtSwitch 283 = .ok (.invokevirtual 475, 3) := by decide +kernel
theorem dX12_setupAtSwitch_286 : decode cX12_setupAtSwitch 286 = .ok (.aload_n 0, 1) := by decide +kernel
theorem dX12_setupAtSwitch_287 : decode cX12_setupAtSwitch 287 = .ok (.bipush 90, 2) := by decide +kernel
theorem dX12_setupAtSwitch_289 : decode cX12_setupAtSwitch 289 = .ok (.iconst 2, 1) := by decide +kernel
theorem dX12_setupAtSwitch_290 : decode cX12_setupAtSwitch 290 = .ok (.iload 9, 2) := by decide +kernel
theorem dX12_setupAtSwitch_292 : decode cX12_setupAtSwitch 292 = .ok (.invokevirtual 482, 3) := by decide +kernel
theorem dX12_setupAtSwitch_295 : decode cX12_setupAtSwitch 295 = .ok (.aload_n 0, 1) := by decide +kernel
theorem dX12_setupAtSwitch_296 : decode cX12_setupAtSwitch 296 = .ok (.iload_n 1, 1) := by decide +kernel
theorem dX12_setupAtSwitch_297 : decode cX12_setupAtSwitch 297 = .ok (.invokevirtual 479, 3) := by decide +kernel
theorem dX12_setupAtSwitch_300 : decode cX12_setupAtSwitch 300 = .ok (.aload_n 0, 1) := by decide +kernel
theorem dX12_setupAtSwitch_301 : decode cX12_setupAtSwitch 301 = .ok (.iload 12, 2) := by decide +kernel
theorem dX12_setupAtSwitch_303 : decode cX12_setupAtSwitch 303 = .ok (.invokevirtual 513, 3) := by decide +kernel
theorem dX12_setupAtSwitch_306 : decode cX12_setupAtSwitch 306 = .ok (.return_, 1) := by decide +kernel
theorem dX12_switchMessage_0 : decode cX12_switchMessage 0 = .ok (.aload_n 0, 1) := by decide +kernel
theorem dX12_switchMessage_1 : decode cX12_switchMessage 1 = .ok (.getfield 192, 3) := by decide +kernel
theorem dX12_switchMessage_4 : decode cX12_switchMessage 4 = .ok (.iload_n 1, 1) := by decide +kernel
theorem dX12_switchMessage_5 : decode cX12_switchMessage 5 = .ok (.iaload, 1) := by decide +kernel
theorem dX12_switchMessage_6 : decode cX12_switchMessage 6 = .ok (.istore_n 3, 1) := by decide +kernel
theorem dX12_switchMessage_7 : decode cX12_switchMessage 7 = .ok (.iload_n 2, 1) := by decide +kernel
theorem dX12_switchMessage_8 : decode cX12_switchMessage 8 = .ok (.iconst 2, 1) := by decide +kernel
theorem dX12_switchMessage_9 : decode cX12_switchMessage 9 = .ok (.if_icmp .ne 30, 3) := by decide +kernel
theorem dX12_switchMessage_12 : decode cX12_switchMessage 12 = .ok (.iload_n 3, 1) := by decide +kernel
theorem dX12_switchMessage_13 : decode cX12_switchMessage 13 = .ok (.bipush 6, 2) := by decide +kernel
theorem dX12_switchMessage_15 : decode cX12_switchMessage 15 = .ok (.if_icmp .ne 24, 3) := by decide +kernel
theorem dX12_switchMessage_18 : decode cX12_switchMessage 18 = .ok (.aload_n 0, 1) := by decide +kernel
theorem dX12_switchMessage_19 : decode cX12_switchMessage 19 = .ok (.getfield 192, 3) := by decide +kernel
theorem dX12_switchMessage_22 : decode cX12_switchMessage 22 = .ok (.iload_n 1, 1) := by decide +kernel
theorem dX12_switchMessage_23 : decode cX12_switchMessage 23 = .ok (.bipush 9, 2) := by decide +kernel
theorem dX12_switchMessage_25 : decode cX12_switchMessage 25 = .ok (.iastore, 1) := by decide +kernel
theorem dX12_switchMessage_26 : decode cX12_switchMessage 26 = .ok (.aload_n 0, 1) := by decide +kernel
theorem dX12_switchMessage_27 : decode cX12_switchMessage 27 = .ok (.getfield 213, 3) := by decide +kernel
theorem dX12_switchMessage_30 : decode cX12_switchMessage 30 = .ok (.iload_n 1, 1) := by decide +kernel
theorem dX12_switchMessage_31 : decode cX12_switchMessage 31 = .ok (.aload_n 0, 1) := by decide +kernel
theorem dX12_switchMessage_32 : decode cX12_switchMessage 32 = .ok (.getfield 378, 3) := by decide +kernel
theorem dX12_switchMessage_35 : decode cX12_switchMessage 35 = .ok (.iastore, 1) := by decide +kernel
theorem dX12_switchMessage_36 : decode cX12_switchMessage 36 = .ok (.goto 66, 3) := by decide +kernel
theorem dX12_switchMessage_39 : decode cX12_switchMessage 39 = .ok (.iload_n 2, 1) := by decide +kernel
theorem dX12_switchMessage_40 : decode cX12_switchMessage 40 = .ok (.bipush 7, 2) := by decide +kernel
theorem dX12_switchMessage_42 : decode cX12_switchMessage 42 = .ok (.if_icmp .ne 60, 3) := by decide +kernel
theorem dX12_switchMessage_45 : decode cX12_switchMessage 45 = .ok (.iload_n 3, 1) := by decide +kernel
theorem dX12_switchMessage_46 : decode cX12_switchMessage 46 = .ok (.bipush 6, 2) := by decide +kernel
theorem dX12_switchMessage_48 : decode cX12_switchMessage 48 = .ok (.if_icmp .eq 9, 3) := by decide +kernel
theorem dX12_switchMessage_51 : decode cX12_switchMessage 51 = .ok (.iload_n 3, 1) := by decide +kernel
theorem dX12_switchMessage_52 : decode cX12_switchMessage 52 = .ok (.bipush 9, 2) := by decide +kernel
theorem dX12_switchMessage_54 : decode cX12_switchMessage 54 = .ok (.if_icmp .ne 48, 3) := by decide +kernel
theorem dX12_switchMessage_57 : decode cX12_switchMessage 57 = .ok (.aload_n 0, 1) := by decide +kernel
theorem dX12_switchMessage_58 : decode cX12_switchMessage 58 = .ok (.getfield 219, 3) := by decide +kernel
theorem dX12_switchMessage_61 : decode cX12_switchMessage 61 = .ok (.iload_n 1, 1) := by decide +kernel
theorem dX12_switchMessage_62 : decode cX12_switchMessage 62 = .ok (.iaload, 1) := by decide +kernel
theorem dX12_switchMessage_63 : decode cX12_switchMessage 63 = .ok (.istore 4, 2) := by decide +kernel
theorem dX12_switchMessage_65 : decode cX12_switchMessage 65 = .ok (.aload_n 0, 1) := by decide +kernel
theorem dX12_switchMessage_66 : decode cX12_switchMessage 66 = .ok (.getfield 192, 3) := by decide +kernel
theorem dX12_switchMessage_69 : decode cX12_switchMessage 69 = .ok (.iload_n 1, 1) := by decide +kernel
theorem dX12_switchMessage_70 : decode cX12_switchMessage 70 = .ok (.bipush 10, 2) := by decide +kernel
theorem dX12_switchMessage_72 : decode cX12_switchMessage 72 = .ok (.iastore, 1) := by decide +kernel
theorem dX12_switchMessage_73 : decode cX12_switchMessage 73 = .ok (.aload_n 0, 1) := by decide +kernel
theorem dX12_switchMessage_74 : decode cX12_switchMessage 74 = .ok (.iload_n 1, 1) := by decide +kernel
theorem dX12_switchMessage_75 : decode cX12_switchMessage 75 = .ok (.bipush 15, 2) := by decide +kernel
theorem dX12_switchMessage_77 : decode cX12_switchMessage 77 = .ok (.invokevirtual 516, 3) := by decide +kernel
theorem dX12_switchMessage_80 : decode cX12_switchMessage 80 = .ok (.iload 4, 2) := by decide +kernel
theorem dX12_switchMessage_82 : decode cX12_switchMessage 82 = .ok (.ifCond .lt 20, 3) := by decide +kernel
theorem dX12_switchMessage_85 : decode cX12_switchMessage 85 = .ok (.aload_n 0, 1) := by decide +kernel
theorem dX12_switchMessage_86 : decode cX12_switchMessage 86 = .ok (.getfield 192, 3) := by decide +kernel
theorem dX12_switchMessage_89 : decode cX12_switchMessage 89 = .ok (.iload 4, 2) := by decide +kernel
theorem dX12_switchMessage_91 : decode cX12_switchMessage 91 = .ok (.bipush 10, 2) := by decide +kernel
theorem dX12_switchMessage_93 : decode cX12_switchMessage 93 = .ok (.iastore, 1) := by decide +kernel
theorem dX12_switchMessage_94 : decode cX12_switchMessage 94 = .ok (.aload_n 0, 1) := by decide +kernel
theorem dX12_switchMessage_95 : decode cX12_switchMessage 95 = .ok (.iload 4, 2) := by decide +kernel
theorem dX12_switchMessage_97 : decode cX12_switchMessage 97 = .ok (.bipush 7, 2) := by decide +kernel
theorem dX12_switchMessage_99 : decode cX12_switchMessage 99 = .ok (.invokevirtual 516, 3) := by decide +kernel
theorem dX12_switchMessage_102 : decode cX12_switchMessage 102 = .ok (.return_, 1) := by decide +kernel
theorem dX12_call_0 : decode cX12_call 0 = .ok (.aload_n 0, 1) := by decide +kernel
theorem dX12_call_1 : decode cX12_call 1 = .ok (.iload_n 1, 1) := by decide +kernel
theorem dX12_call_2 : decode cX12_call 2 = .ok (.invokevirtual 381, 3) := by decide +kernel
theorem dX12_call_5 : decode cX12_call 5 = .ok (.ifCond .eq 26, 3) := by decide +kernel
theorem dX12_call_8 : decode cX12_call 8 = .ok (.aload_n 0, 1) := by decide +kernel
theorem dX12_call_9 : decode cX12_call 9 = .ok (.iload_n 2, 1) := by decide +kernel
theorem dX12_call_10 : decode cX12_call 10 = .ok (.invokevirtual 381, 3) := by decide +kernel
theorem dX12_call_13 : decode cX12_call 13 = .ok (.ifCond .eq 18, 3) := by decide +kernel
theorem dX12_call_16 : decode cX12_call 16 = .ok (.iload_n 1, 1) := by decide +kernel
theorem dX12_call_17 : decode cX12_call 17 = .ok (.iload_n 2, 1) := by decide +kernel
theorem dX12_call_18 : decode cX12_call 18 = .ok (.if_icmp .eq 13, 3) := by decide +kernel
theorem dX12_call_21 : decode cX12_call 21 = .ok (.iload_n 3, 1) := by decide +kernel
theorem dX12_call_22 : decode cX12_call 22 = .ok (.iconst 1, 1) := by decide +kernel
theorem dX12_call_23 : decode cX12_call 23 = .ok (.if_icmp .lt 8, 3) := by decide +kernel
theorem dX12_call_26 : decode cX12_call 26 = .ok (.iload_n 3, 1) := by decide +kernel
theorem dX12_call_27 : decode cX12_call 27 = .ok (.iconst 5, 1) := by decide +kernel
theorem dX12_call_28 : decode cX12_call 28 = .ok (.if_icmp .le 5, 3) := by decide +kernel
theorem dX12_call_31 : decode cX12_call 31 = .ok (.iconst (-1), 1) := by decide +kernel
theorem dX12_call_32 : decode cX12_call 32 = .ok (.ireturn, 1) := by decide +kernel
theorem dX12_call_33 : decode cX12_call 33 = .ok (.aload_n 0, 1) := by decide +kernel
theorem dX12_call_34 : decode cX12_call 34 = .ok (.iload_n 1, 1) := by decide +kernel
theorem dX12_call_35 : decode cX12_call 35 = .ok (.invokevirtual 546, 3) := by decide +kernel
theorem dX12_call_38 : decode cX12_call 38 = .ok (.bipush 8, 2) := by decide +kernel
theorem dX12_call_40 : decode cX12_call 40 = .ok (.if_icmp .eq 25, 3) := by decide +kernel
theorem dX12_call_43 : decode cX12_call 43 = .ok (.aload_n 0, 1) := by decide +kernel
theorem dX12_call_44 : decode cX12_call 44 = .ok (.getfield 225, 3) := by decide +kernel
theorem dX12_call_47 : decode cX12_call 47 = .ok (.iload_n 1, 1) := by decide +kernel
theorem dX12_call_48 : decode cX12_call 48 = .ok (.iaload, 1) := by decide +kernel
theorem dX12_call_49 : decode cX12_call 49 = .ok (.bipush 40, 2) := by decide +kernel
theorem dX12_call_51 : decode cX12_call 51 = .ok (.if_icmp .eq 14, 3) := by decide +kernel
theorem dX12_call_54 : decode cX12_call 54 = .ok (.aload_n 0, 1) := by decide +kernel
theorem dX12_call_55 : decode cX12_call 55 = .ok (.getfield 168, 3) := by decide +kernel
theorem dX12_call_58 : decode cX12_call 58 = .ok (.iload_n 1, 1) := by decide +kernel
theorem dX12_call_59 : decode cX12_call 59 = .ok (.iaload, 1) := by decide +kernel
theorem dX12_call_60 : decode cX12_call 60 = .ok (.bipush 10, 2) := by decide +kernel
theorem dX12_call_62 : decode cX12_call 62 = .ok (.if_icmp .ne 6, 3) := by decide +kernel
theorem dX12_call_65 : decode cX12_call 65 = .ok (.bipush (-3), 2) := by decide +kernel
theorem dX12_call_67 : decode cX12_call 67 = .ok (.ireturn, 1) := by decide +kernel
theorem dX12_call_68 : decode cX12_call 68 = .ok (.aload_n 0, 1) := by decide +kernel
theorem dX12_call_69 : decode cX12_call 69 = .ok (.getfield 228, 3) := by decide +kernel
theorem dX12_call_72 : decode cX12_call 72 = .ok (.iload_n 1, 1) := by decide +kernel
theorem dX12_call_73 : decode cX12_call 73 = .ok (.dup2, 1) := by decide +kernel
theorem dX12_call_74 : decode cX12_call 74 = .ok (.iaload, 1) := by decide +kernel
theorem dX12_call_75 : decode cX12_call 75 = .ok (.iconst 1, 1) := by decide +kernel
theorem dX12_call_76 : decode cX12_call 76 = .ok (.iadd, 1) := by decide +kernel
theorem dX12_call_77 : decode cX12_call 77 = .ok (.iastore, 1) := by decide +kernel
theorem dX12_call_78 : decode cX12_call 78 = .ok (.aload_n 0, 1) := by decide +kernel
theorem dX12_call_79 : decode cX12_call 79 = .ok (.iload_n 1, 1) := by decide +kernel
theorem dX12_call_80 : decode cX12_call 80 = .ok (.iconst 1, 1) := by decide +kernel
theorem dX12_call_81 : decode cX12_call 81 = .ok (.iconst 1, 1) := by decide +kernel
theorem dX12_call_82 : decode cX12_call 82 = .ok (.aload_n 0, 1) := by decide +kernel
theorem dX12_call_83 : decode cX12_call 83 = .ok (.getfield 228, 3) := by decide +kernel
theorem dX12_call_86 : decode cX12_call 86 = .ok (.iload_n 1, 1) := by decide +kernel
theorem dX12_call_87 : decode cX12_call 87 = .ok (.iaload, 1) := by decide +kernel
theorem dX12_call_88 : decode cX12_call 88 = .ok (.invokevirtual 549, 3) := by decide +kernel
theorem dX12_call_91 : decode cX12_call 91 = .ok (.istore 4, 2) := by decide +kernel
theorem dX12_call_93 : decode cX12_call 93 = .ok (.aload_n 0, 1) := by decide +kernel
theorem dX12_call_94 : decode cX12_call 94 = .ok (.getfield 204, 3) := by decide +kernel
theorem dX12_call_97 : decode cX12_call 97 = .ok (.iload 4, 2) := by decide +kernel
theorem dX12_call_99 : decode cX12_call 99 = .ok (.iload_n 3, 1) := by decide +kernel
theorem dX12_call_100 : decode cX12_call 100 = .ok (.iastore, 1) := by decide +kernel
theorem dX12_call_101 : decode cX12_call 101 = .ok (.aload_n 0, 1) := by decide +kernel
theorem dX12_call_102 : decode cX12_call 102 = .ok (.getfield 207, 3) := by decide +kernel
theorem dX12_call_105 : decode cX12_call 105 = .ok (.iload 4, 2) := by decide +kernel
theorem dX12_call_107 : decode cX12_call 107 = .ok (.iload_n 2, 1) := by decide +kernel
theorem dX12_call_108 : decode cX12_call 108 = .ok (.iastore, 1) := by decide +kernel
theorem dX12_call_109 : decode cX12_call 109 = .ok (.aload_n 0, 1) := by decide +kernel
theorem dX12_call_110 : decode cX12_call 110 = .ok (.iload 4, 2) := by decide +kernel
theorem dX12_call_112 : decode cX12_call 112 = .ok (.invokevirtual 513, 3) := by decide +kernel
theorem dX12_call_115 : decode cX12_call 115 = .ok (.iload 4, 2) := by decide +kernel
theorem dX12_call_117 : decode cX12_call 117 = .ok (.bipush 40, 2) := by decide +kernel
theorem dX12_call_119 : decode cX12_call 119 = .ok (.iload_n 1, 1) := by decide +kernel
theorem dX12_call_120 : decode cX12_call 120 = .ok (.imul, 1) := by decide +kernel
theorem dX12_call_121 : decode cX12_call 121 = .ok (.isub, 1) := by decide +kernel
theorem dX12_call_122 : decode cX12_call 122 = .ok (.ireturn, 1) := by decide +kernel
theorem dX12_isCall_0 : decode cX12_isCall 0 = .ok (.aload_n 0, 1) := by decide +kernel
theorem dX12_isCall_1 : decode cX12_isCall 1 = .ok (.iload_n 1, 1) := by decide +kernel
theorem dX12_isCall_2 : decode cX12_isCall 2 = .ok (.invokevirtual 381, 3) := by decide +kernel
theorem dX12_isCall_5 : decode cX12_isCall 5 = .ok (.ifCond .eq 33, 3) := by decide +kernel
theorem dX12_isCall_8 : decode cX12_isCall 8 = .ok (.iload_n 2, 1) := by decide +kernel
theorem dX12_isCall_9 : decode cX12_isCall 9 = .ok (.ifCond .lt 29, 3) := by decide +kernel
theorem dX12_isCall_12 : decode cX12_isCall 12 = .ok (.iload_n 2, 1) := by decide +kernel
theorem dX12_isCall_13 : decode cX12_isCall 13 = .ok (.aload_n 0, 1) := by decide +kernel
theorem dX12_isCall_14 : decode cX12_isCall 14 = .ok (.getfield 225, 3) := by decide +kernel
theorem dX12_isCall_17 : decode cX12_isCall 17 = .ok (.aload_n 0, 1) := by decide +kernel
theorem dX12_isCall_18 : decode cX12_isCall 18 = .ok (.iload_n 1, 1) := by decide +kernel
theorem dX12_isCall_19 : decode cX12_isCall 19 = .ok (.invokevirtual 381, 3) := by decide +kernel
theorem dX12_isCall_22 : decode cX12_isCall 22 = .ok (.ifCond .eq 7, 3) := by decide +kernel
theorem dX12_isCall_25 : decode cX12_isCall 25 = .ok (.iload_n 1, 1) := by decide +kernel
theorem dX12_isCall_26 : decode cX12_isCall 26 = .ok (.goto 4, 3) := by decide +kernel
theorem dX12_isCall_29 : decode cX12_isCall 29 = .ok (.iconst 0, 1) := by decide +kernel
theorem dX12_isCall_30 : decode cX12_isCall 30 = .ok (.iaload, 1) := by decide +kernel
theorem dX12_isCall_31 : decode cX12_isCall 31 = .ok (.if_icmp .ge 7, 3) := by decide +kernel
theorem dX12_isCall_34 : decode cX12_isCall 34 = .ok (.iconst 1, 1) := by decide +kernel
theorem dX12_isCall_35 : decode cX12_isCall 35 = .ok (.goto 4, 3) := by decide +kernel
theorem dX12_isCall_38 : decode cX12_isCall 38 = .ok (.iconst 0, 1) := by decide +kernel
theorem dX12_isCall_39 : decode cX12_isCall 39 = .ok (.ireturn, 1) := by decide +kernel
theorem dX12_hang_0 : decode cX12_hang 0 = .ok (.aload_n 0, 1) := by decide +kernel
theorem dX12_hang_1 : decode cX12_hang 1 = .ok (.iload_n 1, 1) := by decide +kernel
theorem dX12_hang_2 : decode cX12_hang 2 = .ok (.iload_n 2, 1) := by decide +kernel
theorem dX12_hang_3 : decode cX12_hang 3 = .ok (.invokevirtual 559, 3) := by decide +kernel
theorem dX12_hang_6 : decode cX12_hang 6 = .ok (.ifCond .ne 5, 3) := by decide +kernel
theorem dX12_hang_9 : decode cX12_hang 9 = .ok (.iconst (-1), 1) := by decide +kernel
theorem dX12_hang_10 : decode cX12_hang 10 = .ok (.ireturn, 1) := by decide +kernel
theorem dX12_hang_11 : decode cX12_hang 11 = .ok (.bipush 40, 2) := by decide +kernel
theorem dX12_hang_13 : decode cX12_hang 13 = .ok (.iload_n 1, 1) := by decide +kernel
theorem dX12_hang_14 : decode cX12_hang 14 = .ok (.imul, 1) := by decide +kernel
theorem dX12_hang_15 : decode cX12_hang 15 = .ok (.iload_n 2, 1) := by decide +kernel
theorem dX12_hang_16 : decode cX12_hang 16 = .ok (.iadd, 1) := by decide +kernel
theorem dX12_hang_17 : decode cX12_hang 17 = .ok (.istore_n 3, 1) := by decide +kernel
theorem dX12_hang_18 : decode cX12_hang 18 = .ok (.aload_n 0, 1) := by decide +kernel
theorem dX12_hang_19 : decode cX12_hang 19 = .ok (.getfield 192, 3) := by decide +kernel
theorem dX12_hang_22 : decode cX12_hang 22 = .ok (.iload_n 3, 1) := by decide +kernel
theorem dX12_hang_23 : decode cX12_hang 23 = .ok (.iaload, 1) := by decide +kernel
theorem dX12_hang_24 : decode cX12_hang 24 = .ok (.ifCond .eq 14, 3) := by decide +kernel
theorem dX12_hang_27 : decode cX12_hang 27 = .ok (.aload_n 0, 1) := by decide +kernel
theorem dX12_hang_28 : decode cX12_hang 28 = .ok (.getfield 192, 3) := by decide +kernel
theorem dX12_hang_31 : decode cX12_hang 31 = .ok (.iload_n 3, 1) := by decide +kernel
theorem dX12_hang_32 : decode cX12_hang 32 = .ok (.iaload, 1) := by decide +kernel
theorem dX12_hang_33 : decode cX12_hang 33 = .ok (.bipush 11, 2) := by decide +kernel
theorem dX12_hang_35 : decode cX12_hang 35 = .ok (.if_icmp .ne 5, 3) := by decide +kernel
theorem dX12_hang_38 : decode cX12_hang 38 = .ok (.iconst 0, 1) := by decide +kernel
theorem dX12_hang_39 : decode cX12_hang 39 = .ok (.ireturn, 1) := by decide +kernel
theorem dX12_hang_40 : decode cX12_hang 40 = .ok (.aload_n 0, 1) := by decide +kernel
theorem dX12_hang_41 : decode cX12_hang 41 = .ok (.iload_n 3, 1) := by decide +kernel
theorem dX12_hang_42 : decode cX12_hang 42 = .ok (.bipush 16, 2) := by decide +kernel
theorem dX12_hang_44 : decode cX12_hang 44 = .ok (.invokevirtual 492, 3) := by decide +kernel
theorem dX12_hang_47 : decode cX12_hang 47 = .ok (.iconst 1, 1) := by decide +kernel
theorem dX12_hang_48 : decode cX12_hang 48 = .ok (.ireturn, 1) := by decide +kernel
theorem dX12_policy_0 : decode cX12_policy 0 = .ok (.aload_n 0, 1) := by decide +kernel
theorem dX12_policy_1 : decode cX12_policy 1 = .ok (.iload_n 1, 1) := by decide +kernel
theorem dX12_policy_2 : decode cX12_policy 2 = .ok (.invokevirtual 381, 3) := by decide +kernel
theorem dX12_policy_5 : decode cX12_policy 5 = .ok (.ifCond .eq 23, 3) := by decide +kernel
theorem dX12_policy_8 : decode cX12_policy 8 = .ok (.iload_n 2, 1) := by decide +kernel
theorem dX12_policy_9 : decode cX12_policy 9 = .ok (.ifCond .lt 19, 3) := by decide +kernel
theorem dX12_policy_12 : decode cX12_policy 12 = .ok (.iload_n 2, 1) := by decide +kernel
theorem dX12_policy_13 : decode cX12_policy 13 = .ok (.iconst 2, 1) := by decide +kernel
theorem dX12_policy_14 : decode cX12_policy 14 = .ok (.if_icmp .gt 14, 3) := by decide +kernel
theorem dX12_policy_17 : decode cX12_policy 17 = .ok (.iload_n 3, 1) := by decide +kernel
theorem dX12_policy_18 : decode cX12_policy 18 = .ok (.iconst 1, 1) := by decide +kernel
theorem dX12_policy_19 : decode cX12_policy 19 = .ok (.if_icmp .lt 9, 3) := by decide +kernel
theorem dX12_policy_22 : decode cX12_policy 22 = .ok (.iload_n 3, 1) := by decide +kernel
theorem dX12_policy_23 : decode cX12_policy 23 = .ok (.bipush 30, 2) := by decide +kernel
theorem dX12_policy_25 : decode cX12_policy 25 = .ok (.if_icmp .le 5, 3) := by decide +kernel
theorem dX12_policy_28 : decode cX12_policy 28 = .ok (.iconst (-1), 1) := by decide +kernel
theorem dX12_policy_29 : decode cX12_policy 29 = .ok (.ireturn, 1) := by decide +kernel
theorem dX12_policy_30 : decode cX12_policy 30 = .ok (.aload_n 0, 1) := by decide +kernel
theorem dX12_policy_31 : decode cX12_policy 31 = .ok (.getfield 231, 3) := by decide +kernel
theorem dX12_policy_34 : decode cX12_policy 34 = .ok (.iload_n 1, 1) := by decide +kernel
theorem dX12_policy_35 : decode cX12_policy 35 = .ok (.iload_n 2, 1) := by decide +kernel
theorem dX12_policy_36 : decode cX12_policy 36 = .ok (.iastore, 1) := by decide +kernel
theorem dX12_policy_37 : decode cX12_policy 37 = .ok (.aload_n 0, 1) := by decide +kernel
theorem dX12_policy_38 : decode cX12_policy 38 = .ok (.getfield 234, 3) := by decide +kernel
theorem dX12_policy_41 : decode cX12_policy 41 = .ok (.iload_n 1, 1) := by decide +kernel
theorem dX12_policy_42 : decode cX12_policy 42 = .ok (.iload_n 3, 1) := by decide +kernel
theorem dX12_policy_43 : decode cX12_policy 43 = .ok (.iastore, 1) := by decide +kernel
theorem dX12_policy_44 : decode cX12_policy 44 = .ok (.iconst 1, 1) := by decide +kernel
theorem dX12_policy_45 : decode cX12_policy 45 = .ok (.ireturn, 1) := by decide +kernel
theorem dX12_send_0 : decode cX12_send 0 = .ok (.aload_n 0, 1) := by decide +kernel
theorem dX12_send_1 : decode cX12_send 1 = .ok (.iload_n 1, 1) := by decide +kernel
theorem dX12_send_2 : decode cX12_send 2 = .ok (.iload_n 2, 1) := by decide +kernel
theorem dX12_send_3 : decode cX12_send 3 = .ok (.invokevirtual 559, 3) := by decide +kernel
theorem dX12_send_6 : decode cX12_send 6 = .ok (.ifCond .eq 10, 3) := by decide +kernel
theorem dX12_send_9 : decode cX12_send 9 = .ok (.aload_n 0, 1) := by decide +kernel
theorem dX12_send_10 : decode cX12_send 10 = .ok (.getfield 264, 3) := by decide +kernel
theorem dX12_send_13 : decode cX12_send 13 = .ok (.ifCond .ne 5, 3) := by decide +kernel
theorem dX12_send_16 : decode cX12_send 16 = .ok (.iconst (-1), 1) := by decide +kernel
theorem dX12_send_17 : decode cX12_send 17 = .ok (.ireturn, 1) := by decide +kernel
theorem dX12_send_18 : decode cX12_send 18 = .ok (.bipush 40, 2) := by decide +kernel
theorem dX12_send_20 : decode cX12_send 20 = .ok (.iload_n 1, 1) := by decide +kernel
theorem dX12_send_21 : decode cX12_send 21 = .ok (.imul, 1) := by decide +kernel
theorem dX12_send_22 : decode cX12_send 22 = .ok (.iload_n 2, 1) := by decide +kernel
theorem dX12_send_23 : decode cX12_send 23 = .ok (.iadd, 1) := by decide +kernel
theorem dX12_send_24 : decode cX12_send 24 = .ok (.istore_n 3, 1) := by decide +kernel
theorem dX12_send_25 : decode cX12_send 25 = .ok (.aload_n 0, 1) := by decide +kernel
theorem dX12_send_26 : decode cX12_send 26 = .ok (.getfield 192, 3) := by decide +kernel
theorem dX12_send_29 : decode cX12_send 29 = .ok (.iload_n 3, 1) := by decide +kernel
theorem dX12_send_30 : decode cX12_send 30 = .ok (.iaload, 1) := by decide +kernel
theorem dX12_send_31 : decode cX12_send 31 = .ok (.bipush 10, 2) := by decide +kernel
theorem dX12_send_33 : decode cX12_send 33 = .ok (.if_icmp .eq 6, 3) := by decide +kernel
theorem dX12_send_36 : decode cX12_send 36 = .ok (.bipush (-2), 2) := by decide +kernel
theorem dX12_send_38 : decode cX12_send 38 = .ok (.ireturn, 1) := by decide +kernel
theorem dX12_send_39 : decode cX12_send 39 = .ok (.aload_n 0, 1) := by decide +kernel
theorem dX12_send_40 : decode cX12_send 40 = .ok (.getfield 244, 3) := by decide +kernel
theorem dX12_send_43 : decode cX12_send 43 = .ok (.iload_n 3, 1) := by decide +kernel
theorem dX12_send_44 : decode cX12_send 44 = .ok (.iaload, 1) := by decide +kernel
theorem dX12_send_45 : decode cX12_send 45 = .ok (.iconst 4, 1) := by decide +kernel
theorem dX12_send_46 : decode cX12_send 46 = .ok (.if_icmp .ne 6, 3) := by decide +kernel
theorem dX12_send_49 : decode cX12_send 49 = .ok (.bipush (-3), 2) := by decide +kernel
theorem dX12_send_51 : decode cX12_send 51 = .ok (.ireturn, 1) := by decide +kernel
theorem dX12_send_52 : decode cX12_send 52 = .ok (.iconst 4, 1) := by decide +kernel
theorem dX12_send_53 : decode cX12_send 53 = .ok (.iload_n 3, 1) := by decide +kernel
theorem dX12_send_54 : decode cX12_send 54 = .ok (.imul, 1) := by decide +kernel
theorem dX12_send_55 : decode cX12_send 55 = .ok (.aload_n 0, 1) := by decide +kernel
theorem dX12_send_56 : decode cX12_send 56 = .ok (.getfield 244, 3) := by decide +kernel
theorem dX12_send_59 : decode cX12_send 59 = .ok (.iload_n 3, 1) := by decide +kernel
theorem dX12_send_60 : decode cX12_send 60 = .ok (.iaload, 1) := by decide +kernel
theorem dX12_send_61 : decode cX12_send 61 = .ok (.iadd, 1) := by decide +kernel
theorem dX12_send_62 : decode cX12_send 62 = .ok (.istore 4, 2) := by decide +kernel
theorem dX12_send_64 : decode cX12_send 64 = .ok (.aload_n 0, 1) := by decide +kernel
theorem dX12_send_65 : decode cX12_send 65 = .ok (.getfield 241, 3) := by decide +kernel
theorem dX12_send_68 : decode cX12_send 68 = .ok (.iload 4, 2) := by decide +kernel
theorem dX12_send_70 : decode cX12_send 70 = .ok (.aload_n 0, 1) := by decide +kernel
theorem dX12_send_71 : decode cX12_send 71 = .ok (.getfield 264, 3) := by decide +kernel
theorem dX12_send_74 : decode cX12_send 74 = .ok (.iastore, 1) := by decide +kernel
theorem dX12_send_75 : decode cX12_send 75 = .ok (.iconst 0, 1) := by decide +kernel
theorem dX12_send_76 : decode cX12_send 76 = .ok (.istore 5, 2) := by decide +kernel
theorem dX12_send_78 : decode cX12_send 78 = .ok (.iload 5, 2) := by decide +kernel
theorem dX12_send_80 : decode cX12_send 80 = .ok (.aload_n 0, 1) := by decide +kernel
theorem dX12_send_81 : decode cX12_send 81 = .ok (.getfield 264, 3) := by decide +kernel
theorem dX12_send_84 : decode cX12_send 84 = .ok (.if_icmp .ge 30, 3) := by decide +kernel
theorem dX12_send_87 : decode cX12_send 87 = .ok (.aload_n 0, 1) := by decide +kernel
theorem dX12_send_88 : decode cX12_send 88 = .ok (.getfield 238, 3) := by decide +kernel
theorem dX12_send_91 : decode cX12_send 91 = .ok (.sipush 200, 3) := by decide +kernel
theorem dX12_send_94 : decode cX12_send 94 = .ok (.iload 4, 2) := by decide +kernel
theorem dX12_send_96 : decode cX12_send 96 = .ok (.imul, 1) := by decide +kernel
theorem dX12_send_97 : decode cX12_send 97 = .ok (.iload 5, 2) := by decide +kernel
theorem dX12_send_99 : decode cX12_send 99 = .ok (.iadd, 1) := by decide +kernel
theorem dX12_send_100 : decode cX12_send 100 = .ok (.aload_n 0, 1) := by decide +kernel
theorem dX12_send_101 : decode cX12_send 101 = .ok (.getfield 7, 3) := by decide +kernel
theorem dX12_send_104 : decode cX12_send 104 = .ok (.iload 5, 2) := by decide +kernel
theorem dX12_send_106 : decode cX12_send 106 = .ok (.iaload, 1) := by decide +kernel
theorem dX12_send_107 : decode cX12_send 107 = .ok (.iastore, 1) := by decide +kernel
theorem dX12_send_108 : decode cX12_send 108 = .ok (.iinc 5 1, 3) := by decide +kernel
theorem dX12_send_111 : decode cX12_send 111 = .ok (.goto (-33), 3) := by decide +kernel
theorem dX12_send_114 : decode cX12_send 114 = .ok (.aload_n 0, 1) := by decide +kernel
theorem dX12_send_115 : decode cX12_send 115 = .ok (.iconst 0, 1) := by decide +kernel
theorem dX12_send_116 : decode cX12_send 116 = .ok (.putfield 264, 3) := by decide +kernel
theorem dX12_send_119 : decode cX12_send 119 = .ok (.aload_n 0, 1) := by decide +kernel
theorem dX12_send_120 : decode cX12_send 120 = .ok (.getfield 244, 3) := by decide +kernel
theorem dX12_send_123 : decode cX12_send 123 = .ok (.iload_n 3, 1) := by decide +kernel
theorem dX12_send_124 : decode cX12_send 124 = .ok (.dup2, 1) := by decide +kernel
theorem dX12_send_125 : decode cX12_send 125 = .ok (.iaload, 1) := by decide +kernel
theorem dX12_send_126 : decode cX12_send 126 = .ok (.iconst 1, 1) := by decide +kernel
theorem dX12_send_127 : decode cX12_send 127 = .ok (.iadd, 1) := by decide +kernel
theorem dX12_send_128 : decode cX12_send 128 = .ok (.iastore, 1) := by decide +kernel
theorem dX12_send_129 : decode cX12_send 129 = .ok (.aload_n 0, 1) := by decide +kernel
theorem dX12_send_130 : decode cX12_send 130 = .ok (.getfield 244, 3) := by decide +kernel
theorem dX12_send_133 : decode cX12_send 133 = .ok (.iload_n 3, 1) := by decide +kernel
theorem dX12_send_134 : decode cX12_send 134 = .ok (.iaload, 1) := by decide +kernel
theorem dX12_send_135 : decode cX12_send 135 = .ok (.ireturn, 1) := by decide +kernel
theorem dX12_about_0 : decode cX12_about 0 = .ok (.aload_n 0, 1) := by decide +kernel
theorem dX12_about_1 : decode cX12_about 1 = .ok (.iload_n 1, 1) := by decide +kernel
theorem dX12_about_2 : decode cX12_about 2 = .ok (.iload_n 2, 1) := by decide +kernel
theorem dX12_about_3 : decode cX12_about 3 = .ok (.invokevirtual 559, 3) := by decide +kernel
theorem dX12_about_6 : decode cX12_about 6 = .ok (.ifCond .eq 13, 3) := by decide +kernel
theorem dX12_about_9 : decode cX12_about 9 = .ok (.iload_n 3, 1) := by decide +kernel
theorem dX12_about_10 : decode cX12_about 10 = .ok (.ifCond .lt 9, 3) := by decide +kernel
theorem dX12_about_13 : decode cX12_about 13 = .ok (.iload_n 3, 1) := by decide +kernel
theorem dX12_about_14 : decode cX12_about 14 = .ok (.bipush 6, 2) := by decide +kernel
theorem dX12_about_16 : decode cX12_about 16 = .ok (.if_icmp .le 5, 3) := by decide +kernel
theorem dX12_about_19 : decode cX12_about 19 = .ok (.iconst (-1), 1) := by decide +kernel
theorem dX12_about_20 : decode cX12_about 20 = .ok (.ireturn, 1) := by decide +kernel
theorem dX12_about_21 : decode cX12_about 21 = .ok (.bipush 40, 2) := by decide +kernel
theorem dX12_about_23 : decode cX12_about 23 = .ok (.iload_n 1, 1) := by decide +kernel
theorem dX12_about_24 : decode cX12_about 24 = .ok (.imul, 1) := by decide +kernel
theorem dX12_about_25 : decode cX12_about 25 = .ok (.iload_n 2, 1) := by decide +kernel
theorem dX12_about_26 : decode cX12_about 26 = .ok (.iadd, 1) := by decide +kernel
theorem dX12_about_27 : decode cX12_about 27 = .ok (.istore 4, 2) := by decide +kernel
theorem dX12_about_29 : decode cX12_about 29 = .ok (.iload_n 3, 1) := by decide +kernel
theorem dX12_about_30 : decode cX12_about 30 = .ok (.tableswitch 120 0 5 #[38, 46, 72, 80, 88, 96], 38) := by decide +kernel
theorem dX12_about_68 : decode cX12_about 68 = .ok (.aload_n 0, 1) := by decide +kernel
theorem dX12_about_69 : decode cX12_about 69 = .ok (.getfield 192, 3) := by decide +kernel
theorem dX12_about_72 : decode cX12_about 72 = .ok (.iload 4, 2) := by decide +kernel
theorem dX12_about_74 : decode cX12_about 74 = .ok (.iaload, 1) := by decide +kernel
theorem dX12_about_75 : decode cX12_about 75 = .ok (.ireturn, 1) := by decide +kernel
theorem dX12_about_76 : decode cX12_about 76 = .ok (.aload_n 0, 1) := by decide +kernel
theorem dX12_about_77 : decode cX12_about 77 = .ok (.getfield 195, 3) := by decide +kernel
theorem dX12_about_80 : decode cX12_about 80 = .ok (.iload 4, 2) := by decide +kernel
theorem dX12_about_82 : decode cX12_about 82 = .ok (.iaload, 1) := by decide +kernel
theorem dX12_about_83 : decode cX12_about 83 = .ok (.aload_n 0, 1) := by decide +kernel
theorem dX12_about_84 : decode cX12_about 84 = .ok (.getfield 198, 3) := by decide +kernel
theorem dX12_about_87 : decode cX12_about 87 = .ok (.iload 4, 2) := by decide +kernel
theorem dX12_about_89 : decode cX12_about 89 = .ok (.baload, 1) := by decide +kernel
theorem dX12_about_90 : decode cX12_about 90 = .ok (.ifCond .eq 7, 3) := by decide +kernel
theorem dX12_about_93 : decode cX12_about 93 = .ok (.iconst 0, 1) := by decide +kernel
theorem dX12_about_94 : decode cX12_about 94 = .ok (.goto 6, 3) := by decide +kernel
theorem dX12_about_97 : decode cX12_about 97 = .ok (.sipush 1000, 3) := by decide +kernel
theorem dX12_about_100 : decode cX12_about 100 = .ok (.iadd, 1) := by decide +kernel
theorem dX12_about_101 : decode cX12_about 101 = .ok (.ireturn, 1) := by decide +kernel
theorem dX12_about_102 : decode cX12_about 102 = .ok (.aload_n 0, 1) := by decide +kernel
theorem dX12_about_103 : decode cX12_about 103 = .ok (.getfield 201, 3) := by decide +kernel
theorem dX12_about_106 : decode cX12_about 106 = .ok (.iload 4, 2) := by decide +kernel
theorem dX12_about_108 : decode cX12_about 108 = .ok (.iaload, 1) := by decide +kernel
theorem dX12_about_109 : decode cX12_about 109 = .ok (.ireturn, 1) := by decide +kernel
theorem dX12_about_110 : decode cX12_about 110 = .ok (.aload_n 0, 1) := by decide +kernel
theorem dX12_about_111 : decode cX12_about 111 = .ok (.getfield 204, 3) := by decide +kernel
theorem dX12_about_114 : decode cX12_about 114 = .ok (.iload 4, 2) := by decide +kernel
theorem dX12_about_116 : decode cX12_about 116 = .ok (.iaload, 1) := by decide +kernel
theorem dX12_about_117 : decode cX12_about 117 = .ok (.ireturn, 1) := by decide +kernel
theorem dX12_about_118 : decode cX12_about 118 = .ok (.aload_n 0, 1) := by decide +kernel
theorem dX12_about_119 : decode cX12_about 119 = .ok (.getfield 207, 3) := by decide +kernel
theorem dX12_about_122 : decode cX12_about 122 = .ok (.iload 4, 2) := by decide +kernel
theorem dX12_about_124 : decode cX12_about 124 = .ok (.iaload, 1) := by decide +kernel
theorem dX12_about_125 : decode cX12_about 125 = .ok (.ireturn, 1) := by decide +kernel
theorem dX12_about_126 : decode cX12_about 126 = .ok (.aload_n 0, 1) := by decide +kernel
theorem dX12_about_127 : decode cX12_about 127 = .ok (.getfield 192, 3) := by decide +kernel
theorem dX12_about_130 : decode cX12_about 130 = .ok (.iload 4, 2) := by decide +kernel
theorem dX12_about_132 : decode cX12_about 132 = .ok (.iaload, 1) := by decide +kernel
theorem dX12_about_133 : decode cX12_about 133 = .ok (.bipush 6, 2) := by decide +kernel
theorem dX12_about_135 : decode cX12_about 135 = .ok (.if_icmp .ne 7, 3) := by decide +kernel
theorem dX12_about_138 : decode cX12_about 138 = .ok (.iconst 0, 1) := by decide +kernel
theorem dX12_about_139 : decode cX12_about 139 = .ok (.goto 10, 3) := by decide +kernel
theorem dX12_about_142 : decode cX12_about 142 = .ok (.aload_n 0, 1) := by decide +kernel
theorem dX12_about_143 : decode cX12_about 143 = .ok (.getfield 210, 3) := by decide +kernel
theorem dX12_about_146 : decode cX12_about 146 = .ok (.iload 4, 2) := by decide +kernel
theorem dX12_about_148 : decode cX12_about 148 = .ok (.iaload, 1) := by decide +kernel
theorem dX12_about_149 : decode cX12_about 149 = .ok (.ireturn, 1) := by decide +kernel
theorem dX12_about_150 : decode cX12_about 150 = .ok (.aload_n 0, 1) := by decide +kernel
theorem dX12_about_151 : decode cX12_about 151 = .ok (.getfield 244, 3) := by decide +kernel
theorem dX12_about_154 : decode cX12_about 154 = .ok (.iload 4, 2) := by decide +kernel
theorem dX12_about_156 : decode cX12_about 156 = .ok (.iaload, 1) := by decide +kernel
theorem dX12_about_157 : decode cX12_about 157 = .ok (.ireturn, 1) := by decide +kernel
theorem dX12_calls_0 : decode cX12_calls 0 = .ok (.aload_n 0, 1) := by decide +kernel
theorem dX12_calls_1 : decode cX12_calls 1 = .ok (.iload_n 1, 1) := by decide +kernel
theorem dX12_calls_2 : decode cX12_calls 2 = .ok (.invokevirtual 381, 3) := by decide +kernel
theorem dX12_calls_5 : decode cX12_calls 5 = .ok (.ifCond .eq 12, 3) := by decide +kernel
theorem dX12_calls_8 : decode cX12_calls 8 = .ok (.aload_n 0, 1) := by decide +kernel
theorem dX12_calls_9 : decode cX12_calls 9 = .ok (.getfield 225, 3) := by decide +kernel
theorem dX12_calls_12 : decode cX12_calls 12 = .ok (.iload_n 1, 1) := by decide +kernel
theorem dX12_calls_13 : decode cX12_calls 13 = .ok (.iaload, 1) := by decide +kernel
theorem dX12_calls_14 : decode cX12_calls 14 = .ok (.goto 4, 3) := by decide +kernel
theorem dX12_calls_17 : decode cX12_calls 17 = .ok (.iconst (-1), 1) := by decide +kernel
theorem dX12_calls_18 : decode cX12_calls 18 = .ok (.ireturn, 1) := by decide +kernel
theorem dX12_link_0 : decode cX12_link 0 = .ok (.aload_n 0, 1) := by decide +kernel
theorem dX12_link_1 : decode cX12_link 1 = .ok (.iload_n 1, 1) := by decide +kernel
theorem dX12_link_2 : decode cX12_link 2 = .ok (.invokevirtual 381, 3) := by decide +kernel
theorem dX12_link_5 : decode cX12_link 5 = .ok (.ifCond .eq 12, 3) := by decide +kernel
theorem dX12_link_8 : decode cX12_link 8 = .ok (.iload_n 2, 1) := by decide +kernel
theorem dX12_link_9 : decode cX12_link 9 = .ok (.ifCond .lt 8, 3) := by decide +kernel
theorem dX12_link_12 : decode cX12_link 12 = .ok (.iload_n 2, 1) := by decide +kernel
theorem dX12_link_13 : decode cX12_link 13 = .ok (.iconst 3, 1) := by decide +kernel
theorem dX12_link_14 : decode cX12_link 14 = .ok (.if_icmp .le 5, 3) := by decide +kernel
theorem dX12_link_17 : decode cX12_link 17 = .ok (.iconst (-1), 1) := by decide +kernel
theorem dX12_link_18 : decode cX12_link 18 = .ok (.ireturn, 1) := by decide +kernel
theorem dX12_link_19 : decode cX12_link 19 = .ok (.aload_n 0, 1) := by decide +kernel
theorem dX12_link_20 : decode cX12_link 20 = .ok (.getfield 260, 3) := by decide +kernel
theorem dX12_link_23 : decode cX12_link 23 = .ok (.iload_n 1, 1) := by decide +kernel
theorem dX12_link_24 : decode cX12_link 24 = .ok (.iadd, 1) := by decide +kernel
theorem dX12_link_25 : decode cX12_link 25 = .ok (.istore 4, 2) := by decide +kernel
theorem dX12_link_27 : decode cX12_link 27 = .ok (.iload_n 2, 1) := by decide +kernel
theorem dX12_link_28 : decode cX12_link 28 = .ok (.iconst 2, 1) := by decide +kernel
theorem dX12_link_29 : decode cX12_link 29 = .ok (.if_icmp .ge 23, 3) := by decide +kernel
theorem dX12_link_32 : decode cX12_link 32 = .ok (.iload_n 2, 1) := by decide +kernel
theorem dX12_link_33 : decode cX12_link 33 = .ok (.ifCond .ne 12, 3) := by decide +kernel
theorem dX12_link_36 : decode cX12_link 36 = .ok (.aload_n 0, 1) := by decide +kernel
theorem dX12_link_37 : decode cX12_link 37 = .ok (.iload 4, 2) := by decide +kernel
theorem dX12_link_39 : decode cX12_link 39 = .ok (.invokevirtual 546, 3) := by decide +kernel
theorem dX12_link_42 : decode cX12_link 42 = .ok (.goto 9, 3) := by decide +kernel
theorem dX12_link_45 : decode cX12_link 45 = .ok (.aload_n 0, 1) := by decide +kernel
theorem dX12_link_46 : decode cX12_link 46 = .ok (.iload 4, 2) := by decide +kernel
theorem dX12_link_48 : decode cX12_link 48 = .ok (.invokevirtual 553, 3) := by decide +kernel
theorem dX12_link_51 : decode cX12_link 51 = .ok (.ireturn, 1) := by decide +kernel
theorem dX12_link_52 : decode cX12_link 52 = .ok (.iconst 0, 1) := by decide +kernel
theorem dX12_link_53 : decode cX12_link 53 = .ok (.istore 5, 2) := by decide +kernel
theorem dX12_link_55 : decode cX12_link 55 = .ok (.bipush (-2), 2) := by decide +kernel
theorem dX12_link_57 : decode cX12_link 57 = .ok (.istore 6, 2) := by decide +kernel
theorem dX12_link_59 : decode cX12_link 59 = .ok (.bipush 40, 2) := by decide +kernel
theorem dX12_link_61 : decode cX12_link 61 = .ok (.iload 4, 2) := by decide +kernel
theorem dX12_link_63 : decode cX12_link 63 = .ok (.imul, 1) := by decide +kernel
theorem dX12_link_64 : decode cX12_link 64 = .ok (.istore 7, 2) := by decide +kernel
theorem dX12_link_66 : decode cX12_link 66 = .ok (.iload 7, 2) := by decide +kernel
theorem dX12_link_68 : decode cX12_link 68 = .ok (.bipush 40, 2) := by decide +kernel
theorem dX12_link_70 : decode cX12_link 70 = .ok (.iload 4, 2) := by decide +kernel
theorem dX12_link_72 : decode cX12_link 72 = .ok (.imul, 1) := by decide +kernel
theorem dX12_link_73 : decode cX12_link 73 = .ok (.bipush 40, 2) := by decide +kernel
theorem dX12_link_75 : decode cX12_link 75 = .ok (.iadd, 1) := by decide +kernel
theorem dX12_link_76 : decode cX12_link 76 = .ok (.if_icmp .ge 82, 3) := by decide +kernel
theorem dX12_link_79 : decode cX12_link 79 = .ok (.aload_n 0, 1) := by decide +kernel
theorem dX12_link_80 : decode cX12_link 80 = .ok (.getfield 192, 3) := by decide +kernel
theorem dX12_link_83 : decode cX12_link 83 = .ok (.iload 7, 2) := by decide +kernel
theorem dX12_link_85 : decode cX12_link 85 = .ok (.iaload, 1) := by decide +kernel
theorem dX12_link_86 : decode cX12_link 86 = .ok (.bipush 10, 2) := by decide +kernel
theorem dX12_link_88 : decode cX12_link 88 = .ok (.if_icmp .ne 12, 3) := by decide +kernel
theorem dX12_link_91 : decode cX12_link 91 = .ok (.aload_n 0, 1) := by decide +kernel
theorem dX12_link_92 : decode cX12_link 92 = .ok (.iload 7, 2) := by decide +kernel
theorem dX12_link_94 : decode cX12_link 94 = .ok (.invokevirtual 369, 3) := by decide +kernel
theorem dX12_link_97 : decode cX12_link 97 = .ok (.goto 5, 3) := by decide +kernel
theorem dX12_link_100 : decode cX12_link 100 = .ok (.bipush (-2), 2) := by decide +kernel
theorem dX12_link_102 : decode cX12_link 102 = .ok (.istore 8, 2) := by decide +kernel
theorem dX12_link_104 : decode cX12_link 104 = .ok (.iload 8, 2) := by decide +kernel
theorem dX12_link_106 : decode cX12_link 106 = .ok (.ifCond .lt 46, 3) := by decide +kernel
theorem dX12_link_109 : decode cX12_link 109 = .ok (.iinc 5 1, 3) := by decide +kernel
theorem dX12_link_112 : decode cX12_link 112 = .ok (.aload_n 0, 1) := by decide +kernel
theorem dX12_link_113 : decode cX12_link 113 = .ok (.getfield 201, 3) := by decide +kernel
theorem dX12_link_116 : decode cX12_link 116 = .ok (.iload 7, 2) := by decide +kernel
theorem dX12_link_118 : decode cX12_link 118 = .ok (.iaload, 1) := by decide +kernel
theorem dX12_link_119 : decode cX12_link 119 = .ok (.iload_n 3, 1) := by decide +kernel
theorem dX12_link_120 : decode cX12_link 120 = .ok (.if_icmp .ne 28, 3) := by decide +kernel
theorem dX12_link_123 : decode cX12_link 123 = .ok (.sipush 1000, 3) := by decide +kernel
theorem dX12_link_126 : decode cX12_link 126 = .ok (.iload 8, 2) := by decide +kernel
theorem dX12_link_128 : decode cX12_link 128 = .ok (.bipush 40, 2) := by decide +kernel
theorem dX12_link_130 : decode cX12_link 130 = .ok (.idiv, 1) := by decide +kernel
theorem dX12_link_131 : decode cX12_link 131 = .ok (.aload_n 0, 1) := by decide +kernel
theorem dX12_link_132 : decode cX12_link 132 = .ok (.getfield 260, 3) := by decide +kernel
theorem dX12_link_135 : decode cX12_link 135 = .ok (.isub, 1) := by decide +kernel
theorem dX12_link_136 : decode cX12_link 136 = .ok (.imul, 1) := by decide +kernel
theorem dX12_link_137 : decode cX12_link 137 = .ok (.aload_n 0, 1) := by decide +kernel
theorem dX12_link_138 : decode cX12_link 138 = .ok (.getfield 201, 3) := by decide +kernel
theorem dX12_link_141 : decode cX12_link 141 = .ok (.iload 8, 2) := by decide +kernel
theorem dX12_link_143 : decode cX12_link 143 = .ok (.iaload, 1) := by decide +kernel
theorem dX12_link_144 : decode cX12_link 144 = .ok (.iadd, 1) := by decide +kernel
theorem dX12_link_145 : decode cX12_link 145 = .ok (.goto 5, 3) := by decide +kernel
theorem dX12_link_148 : decode cX12_link 148 = .ok (.iload 6, 2) := by decide +kernel
theorem dX12_link_150 : decode cX12_link 150 = .ok (.istore 6, 2) := by decide +kernel
theorem dX12_link_152 : decode cX12_link 152 = .ok (.iinc 7 1, 3) := by decide +kernel
theorem dX12_link_155 : decode cX12_link 155 = .ok (.goto (-89), 3) := by decide +kernel
theorem dX12_link_158 : decode cX12_link 158 = .ok (.iload_n 2, 1) := by decide +kernel
theorem dX12_link_159 : decode cX12_link 159 = .ok (.iconst 2, 1) := by decide +kernel
theorem dX12_link_160 : decode cX12_link 160 = .ok (.if_icmp .ne 8, 3) := by decide +kernel
theorem dX12_link_163 : decode cX12_link 163 = .ok (.iload 5, 2) := by decide +kernel
theorem dX12_link_165 : decode cX12_link 165 = .ok (.goto 5, 3) := by decide +kernel
theorem dX12_link_168 : decode cX12_link 168 = .ok (.iload 6, 2) := by decide +kernel
theorem dX12_link_170 : decode cX12_link 170 = .ok (.ireturn, 1) := by decide +kernel
theorem dX12_direction_0 : decode cX12_direction 0 = .ok (.aload_n 0, 1) := by decide +kernel
theorem dX12_direction_1 : decode cX12_direction 1 = .ok (.iload_n 1, 1) := by decide +kernel
theorem dX12_direction_2 : decode cX12_direction 2 = .ok (.invokevirtual 319, 3) := by decide +kernel
theorem dX12_direction_5 : decode cX12_direction 5 = .ok (.ifCond .ne 5, 3) := by decide +kernel
theorem dX12_direction_8 : decode cX12_direction 8 = .ok (.iconst (-1), 1) := by decide +kernel
theorem dX12_direction_9 : decode cX12_direction 9 = .ok (.ireturn, 1) := by decide +kernel
theorem dX12_direction_10 : decode cX12_direction 10 = .ok (.iload_n 2, 1) := by decide +kernel
theorem dX12_direction_11 : decode cX12_direction 11 = .ok (.tableswitch 129 0 9 #[53, 60, 67, 74, 81, 88, 95, 102, 109, 118], 53) := by decide +kernel
theorem dX12_direction_64 : decode cX12_direction 64 = .ok (.aload_n 0, 1) := by decide +kernel
theorem dX12_direction_65 : decode cX12_direction 65 = .ok (.getfield 53, 3) := by decide +kernel
theorem dX12_direction_68 : decode cX12_direction 68 = .ok (.iload_n 1, 1) := by decide +kernel
theorem dX12_direction_69 : decode cX12_direction 69 = .ok (.iaload, 1) := by decide +kernel
theorem dX12_direction_70 : decode cX12_direction 70 = .ok (.ireturn, 1) := by decide +kernel
theorem dX12_direction_71 : decode cX12_direction 71 = .ok (.aload_n 0, 1) := by decide +kernel
theorem dX12_direction_72 : decode cX12_direction 72 = .ok (.getfield 62, 3) := by decide +kernel
theorem dX12_direction_75 : decode cX12_direction 75 = .ok (.iload_n 1, 1) := by decide +kernel
theorem dX12_direction_76 : decode cX12_direction 76 = .ok (.iaload, 1) := by decide +kernel
theorem dX12_direction_77 : decode cX12_direction 77 = .ok (.ireturn, 1) := by decide +kernel
theorem dX12_direction_78 : decode cX12_direction 78 = .ok (.aload_n 0, 1) := by decide +kernel
theorem dX12_direction_79 : decode cX12_direction 79 = .ok (.getfield 59, 3) := by decide +kernel
theorem dX12_direction_82 : decode cX12_direction 82 = .ok (.iload_n 1, 1) := by decide +kernel
theorem dX12_direction_83 : decode cX12_direction 83 = .ok (.iaload, 1) := by decide +kernel
theorem dX12_direction_84 : decode cX12_direction 84 = .ok (.ireturn, 1) := by decide +kernel
theorem dX12_direction_85 : decode cX12_direction 85 = .ok (.aload_n 0, 1) := by decide +kernel
theorem dX12_direction_86 : decode cX12_direction 86 = .ok (.getfield 71, 3) := by decide +kernel
theorem dX12_direction_89 : decode cX12_direction 89 = .ok (.iload_n 1, 1) := by decide +kernel
theorem dX12_direction_90 : decode cX12_direction 90 = .ok (.iaload, 1) := by decide +kernel
theorem dX12_direction_91 : decode cX12_direction 91 = .ok (.ireturn, 1) := by decide +kernel
theorem dX12_direction_92 : decode cX12_direction 92 = .ok (.aload_n 0, 1) := by decide +kernel
theorem dX12_direction_93 : decode cX12_direction 93 = .ok (.getfield 74, 3) := by decide +kernel
theorem dX12_direction_96 : decode cX12_direction 96 = .ok (.iload_n 1, 1) := by decide +kernel
theorem dX12_direction_97 : decode cX12_direction 97 = .ok (.iaload, 1) := by decide +kernel
theorem dX12_direction_98 : decode cX12_direction 98 = .ok (.ireturn, 1) := by decide +kernel
theorem dX12_direction_99 : decode cX12_direction 99 = .ok (.aload_n 0, 1) := by decide +kernel
theorem dX12_direction_100 : decode cX12_direction 100 = .ok (.getfield 77, 3) := by decide +kernel
theorem dX12_direction_103 : decode cX12_direction 103 = .ok (.iload_n 1, 1) := by decide +kernel
theorem dX12_direction_104 : decode cX12_direction 104 = .ok (.iaload, 1) := by decide +kernel
theorem dX12_direction_105 : decode cX12_direction 105 = .ok (.ireturn, 1) := by decide +kernel
theorem dX12_direction_106 : decode cX12_direction 106 = .ok (.aload_n 0, 1) := by decide +kernel
theorem dX12_direction_107 : decode cX12_direction 107 = .ok (.getfield 80, 3) := by decide +kernel
theorem dX12_direction_110 : decode cX12_direction 110 = .ok (.iload_n 1, 1) := by decide +kernel
theorem dX12_direction_111 : decode cX12_direction 111 = .ok (.iaload, 1) := by decide +kernel
theorem dX12_direction_112 : decode cX12_direction 112 = .ok (.ireturn, 1) := by decide +kernel
theorem dX12_direction_113 : decode cX12_direction 113 = .ok (.aload_n 0, 1) := by decide +kernel
theorem dX12_direction_114 : decode cX12_direction 114 = .ok (.getfield 23, 3) := by decide +kernel
theorem dX12_direction_117 : decode cX12_direction 117 = .ok (.iload_n 1, 1) := by decide +kernel
theorem dX12_direction_118 : decode cX12_direction 118 = .ok (.iaload, 1) := by decide +kernel
theorem dX12_direction_119 : decode cX12_direction 119 = .ok (.ireturn, 1) := by decide +kernel
theorem dX12_direction_120 : decode cX12_direction 120 = .ok (.aload_n 0, 1) := by decide +kernel
theorem dX12_direction_121 : decode cX12_direction 121 = .ok (.getfield 20, 3) := by decide +kernel
theorem dX12_direction_124 : decode cX12_direction 124 = .ok (.iconst 2, 1) := by decide +kernel
theorem dX12_direction_125 : decode cX12_direction 125 = .ok (.iload_n 1, 1) := by decide +kernel
theorem dX12_direction_126 : decode cX12_direction 126 = .ok (.imul, 1) := by decide +kernel
theorem dX12_direction_127 : decode cX12_direction 127 = .ok (.iaload, 1) := by decide +kernel
theorem dX12_direction_128 : decode cX12_direction 128 = .ok (.ireturn, 1) := by decide +kernel
theorem dX12_direction_129 : decode cX12_direction 129 = .ok (.aload_n 0, 1) := by decide +kernel
theorem dX12_direction_130 : decode cX12_direction 130 = .ok (.getfield 20, 3) := by decide +kernel
theorem dX12_direction_133 : decode cX12_direction 133 = .ok (.iconst 2, 1) := by decide +kernel
theorem dX12_direction_134 : decode cX12_direction 134 = .ok (.iload_n 1, 1) := by decide +kernel
theorem dX12_direction_135 : decode cX12_direction 135 = .ok (.imul, 1) := by decide +kernel
theorem dX12_direction_136 : decode cX12_direction 136 = .ok (.iconst 1, 1) := by decide +kernel
theorem dX12_direction_137 : decode cX12_direction 137 = .ok (.iadd, 1) := by decide +kernel
theorem dX12_direction_138 : decode cX12_direction 138 = .ok (.iaload, 1) := by decide +kernel
theorem dX12_direction_139 : decode cX12_direction 139 = .ok (.ireturn, 1) := by decide +kernel
theorem dX12_direction_140 : decode cX12_direction 140 = .ok (.iconst (-1), 1) := by decide +kernel
theorem dX12_direction_141 : decode cX12_direction 141 = .ok (.ireturn, 1) := by decide +kernel
theorem dX12_count_0 : decode cX12_count 0 = .ok (.iload_n 1, 1) := by decide +kernel
theorem dX12_count_1 : decode cX12_count 1 = .ok (.ifCond .ne 10, 3) := by decide +kernel
theorem dX12_count_4 : decode cX12_count 4 = .ok (.aload_n 0, 1) := by decide +kernel
theorem dX12_count_5 : decode cX12_count 5 = .ok (.getfield 260, 3) := by decide +kernel
theorem dX12_count_8 : decode cX12_count 8 = .ok (.goto 40, 3) := by decide +kernel
theorem dX12_count_11 : decode cX12_count 11 = .ok (.iload_n 1, 1) := by decide +kernel
theorem dX12_count_12 : decode cX12_count 12 = .ok (.iconst 1, 1) := by decide +kernel
theorem dX12_count_13 : decode cX12_count 13 = .ok (.if_icmp .ne 10, 3) := by decide +kernel
theorem dX12_count_16 : decode cX12_count 16 = .ok (.aload_n 0, 1) := by decide +kernel
theorem dX12_count_17 : decode cX12_count 17 = .ok (.getfield 378, 3) := by decide +kernel
theorem dX12_count_20 : decode cX12_count 20 = .ok (.goto 28, 3) := by decide +kernel
theorem dX12_count_23 : decode cX12_count 23 = .ok (.iload_n 1, 1) := by decide +kernel
theorem dX12_count_24 : decode cX12_count 24 = .ok (.iconst 2, 1) := by decide +kernel
theorem dX12_count_25 : decode cX12_count 25 = .ok (.if_icmp .ne 10, 3) := by decide +kernel
theorem dX12_count_28 : decode cX12_count 28 = .ok (.aload_n 0, 1) := by decide +kernel
theorem dX12_count_29 : decode cX12_count 29 = .ok (.getfield 323, 3) := by decide +kernel
theorem dX12_count_32 : decode cX12_count 32 = .ok (.goto 16, 3) := by decide +kernel
theorem dX12_count_35 : decode cX12_count 35 = .ok (.iload_n 1, 1) := by decide +kernel
theorem dX12_count_36 : decode cX12_count 36 = .ok (.iconst 3, 1) := by decide +kernel
theorem dX12_count_37 : decode cX12_count 37 = .ok (.if_icmp .ne 10, 3) := by decide +kernel
theorem dX12_count_40 : decode cX12_count 40 = .ok (.aload_n 0, 1) := by decide +kernel
theorem dX12_count_41 : decode cX12_count 41 = .ok (.getfield 326, 3) := by decide +kernel
theorem dX12_count_44 : decode cX12_count 44 = .ok (.goto 4, 3) := by decide +kernel
theorem dX12_count_47 : decode cX12_count 47 = .ok (.iconst (-1), 1) := by decide +kernel
theorem dX12_count_48 : decode cX12_count 48 = .ok (.ireturn, 1) := by decide +kernel
theorem dX12_sendCells_0 : decode cX12_sendCells 0 = .ok (.iconst 0, 1) := by decide +kernel
theorem dX12_sendCells_1 : decode cX12_sendCells 1 = .ok (.istore_n 3, 1) := by decide +kernel
theorem dX12_sendCells_2 : decode cX12_sendCells 2 = .ok (.iload_n 3, 1) := by decide +kernel
theorem dX12_sendCells_3 : decode cX12_sendCells 3 = .ok (.aload_n 0, 1) := by decide +kernel
theorem dX12_sendCells_4 : decode cX12_sendCells 4 = .ok (.getfield 204, 3) := by decide +kernel
theorem dX12_sendCells_7 : decode cX12_sendCells 7 = .ok (.iload_n 1, 1) := by decide +kernel
theorem dX12_sendCells_8 : decode cX12_sendCells 8 = .ok (.iaload, 1) := by decide +kernel
theorem dX12_sendCells_9 : decode cX12_sendCells 9 = .ok (.if_icmp .ge 154, 3) := by decide +kernel
theorem dX12_sendCells_12 : decode cX12_sendCells 12 = .ok (.aload_n 0, 1) := by decide +kernel
theorem dX12_sendCells_13 : decode cX12_sendCells 13 = .ok (.getfield 244, 3) := by decide +kernel
theorem dX12_sendCells_16 : decode cX12_sendCells 16 = .ok (.iload_n 1, 1) := by decide +kernel
theorem dX12_sendCells_17 : decode cX12_sendCells 17 = .ok (.iaload, 1) := by decide +kernel
theorem dX12_sendCells_18 : decode cX12_sendCells 18 = .ok (.ifCond .le 145, 3) := by decide +kernel
theorem dX12_sendCells_21 : decode cX12_sendCells 21 = .ok (.iconst 4, 1) := by decide +kernel
theorem dX12_sendCells_22 : decode cX12_sendCells 22 = .ok (.iload_n 1, 1) := by decide +kernel
theorem dX12_sendCells_23 : decode cX12_sendCells 23 = .ok (.imul, 1) := by decide +kernel
theorem dX12_sendCells_24 : decode cX12_sendCells 24 = .ok (.istore 4, 2) := by decide +kernel
theorem dX12_sendCells_26 : decode cX12_sendCells 26 = .ok (.aload_n 0, 1) := by decide +kernel
theorem dX12_sendCells_27 : decode cX12_sendCells 27 = .ok (.aload_n 0, 1) := by decide +kernel
theorem dX12_sendCells_28 : decode cX12_sendCells 28 = .ok (.getfield 241, 3) := by decide +kernel
theorem dX12_sendCells_31 : decode cX12_sendCells 31 = .ok (.iload 4, 2) := by decide +kernel
theorem dX12_sendCells_33 : decode cX12_sendCells 33 = .ok (.iaload, 1) := by decide +kernel
theorem dX12_sendCells_34 : decode cX12_sendCells 34 = .ok (.putfield 279, 3) := by decide +kernel
theorem dX12_sendCells_37 : decode cX12_sendCells 37 = .ok (.iconst 0, 1) := by decide +kernel
theorem dX12_sendCells_38 : decode cX12_sendCells 38 = .ok (.istore 5, 2) := by decide +kernel
theorem dX12_sendCells_40 : decode cX12_sendCells 40 = .ok (.iload 5, 2) := by decide +kernel
theorem dX12_sendCells_42 : decode cX12_sendCells 42 = .ok (.aload_n 0, 1) := by decide +kernel
theorem dX12_sendCells_43 : decode cX12_sendCells 43 = .ok (.getfield 279, 3) := by decide +kernel
theorem dX12_sendCells_46 : decode cX12_sendCells 46 = .ok (.if_icmp .ge 30, 3) := by decide +kernel
theorem dX12_sendCells_49 : decode cX12_sendCells 49 = .ok (.aload_n 0, 1) := by decide +kernel
theorem dX12_sendCells_50 : decode cX12_sendCells 50 = .ok (.getfield 29, 3) := by decide +kernel
theorem dX12_sendCells_53 : decode cX12_sendCells 53 = .ok (.iload 5, 2) := by decide +kernel
theorem dX12_sendCells_55 : decode cX12_sendCells 55 = .ok (.aload_n 0, 1) := by decide +kernel
theorem dX12_sendCells_56 : decode cX12_sendCells 56 = .ok (.getfield 238, 3) := by decide +kernel
theorem dX12_sendCells_59 : decode cX12_sendCells 59 = .ok (.sipush 200, 3) := by decide +kernel
theorem dX12_sendCells_62 : decode cX12_sendCells 62 = .ok (.iload 4, 2) := by decide +kernel
theorem dX12_sendCells_64 : decode cX12_sendCells 64 = .ok (.imul, 1) := by decide +kernel
theorem dX12_sendCells_65 : decode cX12_sendCells 65 = .ok (.iload 5, 2) := by decide +kernel
theorem dX12_sendCells_67 : decode cX12_sendCells 67 = .ok (.iadd, 1) := by decide +kernel
theorem dX12_sendCells_68 : decode cX12_sendCells 68 = .ok (.iaload, 1) := by decide +kernel
theorem dX12_sendCells_69 : decode cX12_sendCells 69 = .ok (.iastore, 1) := by decide +kernel
theorem dX12_sendCells_70 : decode cX12_sendCells 70 = .ok (.iinc 5 1, 3) := by decide +kernel
theorem dX12_sendCells_73 : decode cX12_sendCells 73 = .ok (.goto (-33), 3) := by decide +kernel
theorem dX12_sendCells_76 : decode cX12_sendCells 76 = .ok (.aload_n 0, 1) := by decide +kernel
theorem dX12_sendCells_77 : decode cX12_sendCells 77 = .ok (.invokevirtual 282, 3) := by decide +kernel
theorem dX12_sendCells_80 : decode cX12_sendCells 80 = .ok (.aload_n 0, 1) := by decide +kernel
theorem dX12_sendCells_81 : decode cX12_sendCells 81 = .ok (.getfield 279, 3) := by decide +kernel
theorem dX12_sendCells_84 : decode cX12_sendCells 84 = .ok (.invokestatic 285, 3) := by decide +kernel
theorem dX12_sendCells_87 : decode cX12_sendCells 87 = .ok (.istore 5, 2) := by decide +kernel
theorem dX12_sendCells_89 : decode cX12_sendCells 89 = .ok (.aload_n 0, 1) := by decide +kernel
theorem dX12_sendCells_90 : decode cX12_sendCells 90 = .ok (.aload_n 0, 1) := by decide +kernel
theorem dX12_sendCells_91 : decode cX12_sendCells 91 = .ok (.getfield 247, 3) := by decide +kernel
theorem dX12_sendCells_94 : decode cX12_sendCells 94 = .ok (.iload_n 1, 1) := by decide +kernel
theorem dX12_sendCells_95 : decode cX12_sendCells 95 = .ok (.iaload, 1) := by decide +kernel
theorem dX12_sendCells_96 : decode cX12_sendCells 96 = .ok (.aload_n 0, 1) := by decide +kernel
theorem dX12_sendCells_97 : decode cX12_sendCells 97 = .ok (.getfield 201, 3) := by decide +kernel
theorem dX12_sendCells_100 : decode cX12_sendCells 100 = .ok (.iload_n 1, 1) := by decide +kernel
theorem dX12_sendCells_101 : decode cX12_sendCells 101 = .ok (.iaload, 1) := by decide +kernel
theorem dX12_sendCells_102 : decode cX12_sendCells 102 = .ok (.aload_n 0, 1) := by decide +kernel
theorem dX12_sendCells_103 : decode cX12_sendCells 103 = .ok (.getfield 247, 3) := by decide +kernel
theorem dX12_sendCells_106 : decode cX12_sendCells 106 = .ok (.iload_n 1, 1) := by decide +kernel
theorem dX12_sendCells_107 : decode cX12_sendCells 107 = .ok (.iaload, 1) := by decide +kernel
theorem dX12_sendCells_108 : decode cX12_sendCells 108 = .ok (.iload 5, 2) := by decide +kernel
theorem dX12_sendCells_110 : decode cX12_sendCells 110 = .ok (.iconst 1, 1) := by decide +kernel
theorem dX12_sendCells_111 : decode cX12_sendCells 111 = .ok (.isub, 1) := by decide +kernel
theorem dX12_sendCells_112 : decode cX12_sendCells 112 = .ok (.if_icmp .ne 7, 3) := by decide +kernel
theorem dX12_sendCells_115 : decode cX12_sendCells 115 = .ok (.iconst 1, 1) := by decide +kernel
theorem dX12_sendCells_116 : decode cX12_sendCells 116 = .ok (.goto 4, 3) := by decide +kernel
theorem dX12_sendCells_119 : decode cX12_sendCells 119 = .ok (.iconst 0, 1) := by decide +kernel
theorem dX12_sendCells_120 : decode cX12_sendCells 120 = .ok (.invokevirtual 305, 3) := by decide +kernel
theorem dX12_sendCells_123 : decode cX12_sendCells 123 = .ok (.aload_n 0, 1) := by decide +kernel
theorem dX12_sendCells_124 : decode cX12_sendCells 124 = .ok (.iconst 2, 1) := by decide +kernel
theorem dX12_sendCells_125 : decode cX12_sendCells 125 = .ok (.iload_n 2, 1) := by decide +kernel
theorem dX12_sendCells_126 : decode cX12_sendCells 126 = .ok (.imul, 1) := by decide +kernel
theorem dX12_sendCells_127 : decode cX12_sendCells 127 = .ok (.iconst 1, 1) := by decide +kernel
theorem dX12_sendCells_128 : decode cX12_sendCells 128 = .ok (.invokevirtual 309, 3) := by decide +kernel
theorem dX12_sendCells_131 : decode cX12_sendCells 131 = .ok (.aload_n 0, 1) := by decide +kernel
theorem dX12_sendCells_132 : decode cX12_sendCells 132 = .ok (.getfield 247, 3) := by decide +kernel
theorem dX12_sendCells_135 : decode cX12_sendCells 135 = .ok (.iload_n 1, 1) := by decide +kernel
theorem dX12_sendCells_136 : decode cX12_sendCells 136 = .ok (.dup2, 1) := by decide +kernel
theorem dX12_sendCells_137 : decode cX12_sendCells 137 = .ok (.iaload, 1) := by decide +kernel
theorem dX12_sendCells_138 : decode cX12_sendCells 138 = .ok (.iconst 1, 1) := by decide +kernel
theorem dX12_sendCells_139 : decode cX12_sendCells 139 = .ok (.iadd, 1) := by decide +kernel
theorem dX12_sendCells_140 : decode cX12_sendCells 140 = .ok (.iastore, 1) := by decide +kernel
theorem dX12_sendCells_141 : decode cX12_sendCells 141 = .ok (.aload_n 0, 1) := by decide +kernel
theorem dX12_sendCells_142 : decode cX12_sendCells 142 = .ok (.getfield 247, 3) := by decide +kernel
theorem dX12_sendCells_145 : decode cX12_sendCells 145 = .ok (.iload_n 1, 1) := by decide +kernel
theorem dX12_sendCells_146 : decode cX12_sendCells 146 = .ok (.iaload, 1) := by decide +kernel
theorem dX12_sendCells_147 : decode cX12_sendCells 147 = .ok (.iload 5, 2) := by decide +kernel
theorem dX12_sendCells_149 : decode cX12_sendCells 149 = .ok (.if_icmp .ne 8, 3) := by decide +kernel
theorem dX12_sendCells_152 : decode cX12_sendCells 152 = .ok (.aload_n 0, 1) := by decide +kernel
theorem dX12_sendCells_153 : decode cX12_sendCells 153 = .ok (.iload_n 1, 1) := by decide +kernel
theorem dX12_sendCells_154 : decode cX12_sendCells 154 = .ok (.invokevirtual 562, 3) := by decide +kernel
theorem dX12_sendCells_157 : decode cX12_sendCells 157 = .ok (.iinc 3 1, 3) := by decide +kernel
theorem dX12_sendCells_160 : decode cX12_sendCells 160 = .ok (.goto (-158), 3) := by decide +kernel
theorem dX12_sendCells_163 : decode cX12_sendCells 163 = .ok (.return_, 1) := by decide +kernel
theorem dX12_dropFirst_0 : decode cX12_dropFirst 0 = .ok (.aload_n 0, 1) := by decide +kernel
theorem dX12_dropFirst_1 : decode cX12_dropFirst 1 = .ok (.getfield 247, 3) := by decide +kernel
theorem dX12_dropFirst_4 : decode cX12_dropFirst 4 = .ok (.iload_n 1, 1) := by decide +kernel
theorem dX12_dropFirst_5 : decode cX12_dropFirst 5 = .ok (.iconst 0, 1) := by decide +kernel
theorem dX12_dropFirst_6 : decode cX12_dropFirst 6 = .ok (.iastore, 1) := by decide +kernel
theorem dX12_dropFirst_7 : decode cX12_dropFirst 7 = .ok (.aload_n 0, 1) := by decide +kernel
theorem dX12_dropFirst_8 : decode cX12_dropFirst 8 = .ok (.getfield 244, 3) := by decide +kernel
theorem dX12_dropFirst_11 : decode cX12_dropFirst 11 = .ok (.iload_n 1, 1) := by decide +kernel
theorem dX12_dropFirst_12 : decode cX12_dropFirst 12 = .ok (.dup2, 1) := by decide +kernel
theorem dX12_dropFirst_13 : decode cX12_dropFirst 13 = .ok (.iaload, 1) := by decide +kernel
theorem dX12_dropFirst_14 : decode cX12_dropFirst 14 = .ok (.iconst 1, 1) := by decide +kernel
theorem dX12_dropFirst_15 : decode cX12_dropFirst 15 = .ok (.isub, 1) := by decide +kernel
theorem dX12_dropFirst_16 : decode cX12_dropFirst 16 = .ok (.iastore, 1) := by decide +kernel
theorem dX12_dropFirst_17 : decode cX12_dropFirst 17 = .ok (.iconst 0, 1) := by decide +kernel
theorem dX12_dropFirst_18 : decode cX12_dropFirst 18 = .ok (.istore_n 2, 1) := by decide +kernel
theorem dX12_dropFirst_19 : decode cX12_dropFirst 19 = .ok (.iload_n 2, 1) := by decide +kernel
theorem dX12_dropFirst_20 : decode cX12_dropFirst 20 = .ok (.aload_n 0, 1) := by decide +kernel
theorem dX12_dropFirst_21 : decode cX12_dropFirst 21 = .ok (.getfield 244, 3) := by decide +kernel
theorem dX12_dropFirst_24 : decode cX12_dropFirst 24 = .ok (.iload_n 1, 1) := by decide +kernel
theorem dX12_dropFirst_25 : decode cX12_dropFirst 25 = .ok (.iaload, 1) := by decide +kernel
theorem dX12_dropFirst_26 : decode cX12_dropFirst 26 = .ok (.if_icmp .ge 31, 3) := by decide +kernel
theorem dX12_dropFirst_29 : decode cX12_dropFirst 29 = .ok (.aload_n 0, 1) := by decide +kernel
theorem dX12_dropFirst_30 : decode cX12_dropFirst 30 = .ok (.getfield 241, 3) := by decide +kernel
theorem dX12_dropFirst_33 : decode cX12_dropFirst 33 = .ok (.iconst 4, 1) := by decide +kernel
theorem dX12_dropFirst_34 : decode cX12_dropFirst 34 = .ok (.iload_n 1, 1) := by decide +kernel
theorem dX12_dropFirst_35 : decode cX12_dropFirst 35 = .ok (.imul, 1) := by decide +kernel
theorem dX12_dropFirst_36 : decode cX12_dropFirst 36 = .ok (.iload_n 2, 1) := by decide +kernel
theorem dX12_dropFirst_37 : decode cX12_dropFirst 37 = .ok (.iadd, 1) := by decide +kernel
theorem dX12_dropFirst_38 : decode cX12_dropFirst 38 = .ok (.aload_n 0, 1) := by decide +kernel
theorem dX12_dropFirst_39 : decode cX12_dropFirst 39 = .ok (.getfield 241, 3) := by decide +kernel
theorem dX12_dropFirst_42 : decode cX12_dropFirst 42 = .ok (.iconst 4, 1) := by decide +kernel
theorem dX12_dropFirst_43 : decode cX12_dropFirst 43 = .ok (.iload_n 1, 1) := by decide +kernel
theorem dX12_dropFirst_44 : decode cX12_dropFirst 44 = .ok (.imul, 1) := by decide +kernel
theorem dX12_dropFirst_45 : decode cX12_dropFirst 45 = .ok (.iload_n 2, 1) := by decide +kernel
theorem dX12_dropFirst_46 : decode cX12_dropFirst 46 = .ok (.iadd, 1) := by decide +kernel
theorem dX12_dropFirst_47 : decode cX12_dropFirst 47 = .ok (.iconst 1, 1) := by decide +kernel
theorem dX12_dropFirst_48 : decode cX12_dropFirst 48 = .ok (.iadd, 1) := by decide +kernel
theorem dX12_dropFirst_49 : decode cX12_dropFirst 49 = .ok (.iaload, 1) := by decide +kernel
theorem dX12_dropFirst_50 : decode cX12_dropFirst 50 = .ok (.iastore, 1) := by decide +kernel
theorem dX12_dropFirst_51 : decode cX12_dropFirst 51 = .ok (.iinc 2 1, 3) := by decide +kernel
theorem dX12_dropFirst_54 : decode cX12_dropFirst 54 = .ok (.goto (-35), 3) := by decide +kernel
theorem dX12_dropFirst_57 : decode cX12_dropFirst 57 = .ok (.iconst 0, 1) := by decide +kernel
theorem dX12_dropFirst_58 : decode cX12_dropFirst 58 = .ok (.istore_n 2, 1) := by decide +kernel
theorem dX12_dropFirst_59 : decode cX12_dropFirst 59 = .ok (.iload_n 2, 1) := by decide +kernel
theorem dX12_dropFirst_60 : decode cX12_dropFirst 60 = .ok (.sipush 200, 3) := by decide +kernel
theorem dX12_dropFirst_63 : decode cX12_dropFirst 63 = .ok (.aload_n 0, 1) := by decide +kernel
theorem dX12_dropFirst_64 : decode cX12_dropFirst 64 = .ok (.getfield 244, 3) := by decide +kernel
theorem dX12_dropFirst_67 : decode cX12_dropFirst 67 = .ok (.iload_n 1, 1) := by decide +kernel
theorem dX12_dropFirst_68 : decode cX12_dropFirst 68 = .ok (.iaload, 1) := by decide +kernel
theorem dX12_dropFirst_69 : decode cX12_dropFirst 69 = .ok (.imul, 1) := by decide +kernel
theorem dX12_dropFirst_70 : decode cX12_dropFirst 70 = .ok (.if_icmp .ge 37, 3) := by decide +kernel
theorem dX12_dropFirst_73 : decode cX12_dropFirst 73 = .ok (.aload_n 0, 1) := by decide +kernel
theorem dX12_dropFirst_74 : decode cX12_dropFirst 74 = .ok (.getfield 238, 3) := by decide +kernel
theorem dX12_dropFirst_77 : decode cX12_dropFirst 77 = .ok (.sipush 800, 3) := by decide +kernel
theorem dX12_dropFirst_80 : decode cX12_dropFirst 80 = .ok (.iload_n 1, 1) := by decide +kernel
theorem dX12_dropFirst_81 : decode cX12_dropFirst 81 = .ok (.imul, 1) := by decide +kernel
theorem dX12_dropFirst_82 : decode cX12_dropFirst 82 = .ok (.iload_n 2, 1) := by decide +kernel
theorem dX12_dropFirst_83 : decode cX12_dropFirst 83 = .ok (.iadd, 1) := by decide +kernel
theorem dX12_dropFirst_84 : decode cX12_dropFirst 84 = .ok (.aload_n 0, 1) := by decide +kernel
theorem dX12_dropFirst_85 : decode cX12_dropFirst 85 = .ok (.getfield 238, 3) := by decide +kernel
theorem dX12_dropFirst_88 : decode cX12_dropFirst 88 = .ok (.sipush 800, 3) := by decide +kernel
theorem dX12_dropFirst_91 : decode cX12_dropFirst 91 = .ok (.iload_n 1, 1) := by decide +kernel
theorem dX12_dropFirst_92 : decode cX12_dropFirst 92 = .ok (.imul, 1) := by decide +kernel
theorem dX12_dropFirst_93 : decode cX12_dropFirst 93 = .ok (.iload_n 2, 1) := by decide +kernel
theorem dX12_dropFirst_94 : decode cX12_dropFirst 94 = .ok (.iadd, 1) := by decide +kernel
theorem dX12_dropFirst_95 : decode cX12_dropFirst 95 = .ok (.sipush 200, 3) := by decide +kernel
theorem dX12_dropFirst_98 : decode cX12_dropFirst 98 = .ok (.iadd, 1) := by decide +kernel
theorem dX12_dropFirst_99 : decode cX12_dropFirst 99 = .ok (.iaload, 1) := by decide +kernel
theorem dX12_dropFirst_100 : decode cX12_dropFirst 100 = .ok (.iastore, 1) := by decide +kernel
theorem dX12_dropFirst_101 : decode cX12_dropFirst 101 = .ok (.iinc 2 1, 3) := by decide +kernel
theorem dX12_dropFirst_104 : decode cX12_dropFirst 104 = .ok (.goto (-45), 3) := by decide +kernel
theorem dX12_dropFirst_107 : decode cX12_dropFirst 107 = .ok (.return_, 1) := by decide +kernel
theorem dX12_oneTick_0 : decode cX12_oneTick 0 = .ok (.aload_n 0, 1) := by decide +kernel
theorem dX12_oneTick_1 : decode cX12_oneTick 1 = .ok (.dup, 1) := by decide +kernel
theorem dX12_oneTick_2 : decode cX12_oneTick 2 = .ok (.getfield 378, 3) := by decide +kernel
theorem dX12_oneTick_5 : decode cX12_oneTick 5 = .ok (.iconst 1, 1) := by decide +kernel
theorem dX12_oneTick_6 : decode cX12_oneTick 6 = .ok (.iadd, 1) := by decide +kernel
theorem dX12_oneTick_7 : decode cX12_oneTick 7 = .ok (.putfield 378, 3) := by decide +kernel
theorem dX12_oneTick_10 : decode cX12_oneTick 10 = .ok (.iconst 0, 1) := by decide +kernel
theorem dX12_oneTick_11 : decode cX12_oneTick 11 = .ok (.istore_n 1, 1) := by decide +kernel
theorem dX12_oneTick_12 : decode cX12_oneTick 12 = .ok (.iload_n 1, 1) := by decide +kernel
theorem dX12_oneTick_13 : decode cX12_oneTick 13 = .ok (.iconst 2, 1) := by decide +kernel
theorem dX12_oneTick_14 : decode cX12_oneTick 14 = .ok (.aload_n 0, 1) := by decide +kernel
theorem dX12_oneTick_15 : decode cX12_oneTick 15 = .ok (.getfield 260, 3) := by decide +kernel
theorem dX12_oneTick_18 : decode cX12_oneTick 18 = .ok (.imul, 1) := by decide +kernel
theorem dX12_oneTick_19 : decode cX12_oneTick 19 = .ok (.if_icmp .ge 24, 3) := by decide +kernel
theorem dX12_oneTick_22 : decode cX12_oneTick 22 = .ok (.aload_n 0, 1) := by decide +kernel
theorem dX12_oneTick_23 : decode cX12_oneTick 23 = .ok (.iload_n 1, 1) := by decide +kernel
theorem dX12_oneTick_24 : decode cX12_oneTick 24 = .ok (.invokevirtual 565, 3) := by decide +kernel
theorem dX12_oneTick_27 : decode cX12_oneTick 27 = .ok (.aload_n 0, 1) := by decide +kernel
theorem dX12_oneTick_28 : decode cX12_oneTick 28 = .ok (.iload_n 1, 1) := by decide +kernel
theorem dX12_oneTick_29 : decode cX12_oneTick 29 = .ok (.invokevirtual 568, 3) := by decide +kernel
theorem dX12_oneTick_32 : decode cX12_oneTick 32 = .ok (.aload_n 0, 1) := by decide +kernel
theorem dX12_oneTick_33 : decode cX12_oneTick 33 = .ok (.iload_n 1, 1) := by decide +kernel
theorem dX12_oneTick_34 : decode cX12_oneTick 34 = .ok (.invokevirtual 571, 3) := by decide +kernel
theorem dX12_oneTick_37 : decode cX12_oneTick 37 = .ok (.iinc 1 1, 3) := by decide +kernel
theorem dX12_oneTick_40 : decode cX12_oneTick 40 = .ok (.goto (-28), 3) := by decide +kernel
theorem dX12_oneTick_43 : decode cX12_oneTick 43 = .ok (.iconst 0, 1) := by decide +kernel
theorem dX12_oneTick_44 : decode cX12_oneTick 44 = .ok (.istore_n 1, 1) := by decide +kernel
theorem dX12_oneTick_45 : decode cX12_oneTick 45 = .ok (.iload_n 1, 1) := by decide +kernel
theorem dX12_oneTick_46 : decode cX12_oneTick 46 = .ok (.aload_n 0, 1) := by decide +kernel
theorem dX12_oneTick_47 : decode cX12_oneTick 47 = .ok (.getfield 260, 3) := by decide +kernel
theorem dX12_oneTick_50 : decode cX12_oneTick 50 = .ok (.if_icmp .ge 48, 3) := by decide +kernel
theorem dX12_oneTick_53 : decode cX12_oneTick 53 = .ok (.bipush 40, 2) := by decide +kernel
theorem dX12_oneTick_55 : decode cX12_oneTick 55 = .ok (.iload_n 1, 1) := by decide +kernel
theorem dX12_oneTick_56 : decode cX12_oneTick 56 = .ok (.imul, 1) := by decide +kernel
theorem dX12_oneTick_57 : decode cX12_oneTick 57 = .ok (.istore_n 2, 1) := by decide +kernel
theorem dX12_oneTick_58 : decode cX12_oneTick 58 = .ok (.iload_n 2, 1) := by decide +kernel
theorem dX12_oneTick_59 : decode cX12_oneTick 59 = .ok (.bipush 40, 2) := by decide +kernel
theorem dX12_oneTick_61 : decode cX12_oneTick 61 = .ok (.iload_n 1, 1) := by decide +kernel
theorem dX12_oneTick_62 : decode cX12_oneTick 62 = .ok (.imul, 1) := by decide +kernel
theorem dX12_oneTick_63 : decode cX12_oneTick 63 = .ok (.bipush 40, 2) := by decide +kernel
theorem dX12_oneTick_65 : decode cX12_oneTick 65 = .ok (.iadd, 1) := by decide +kernel
theorem dX12_oneTick_66 : decode cX12_oneTick 66 = .ok (.if_icmp .ge 26, 3) := by decide +kernel
theorem dX12_oneTick_69 : decode cX12_oneTick 69 = .ok (.aload_n 0, 1) := by decide +kernel
theorem dX12_oneTick_70 : decode cX12_oneTick 70 = .ok (.getfield 192, 3) := by decide +kernel
theorem dX12_oneTick_73 : decode cX12_oneTick 73 = .ok (.iload_n 2, 1) := by decide +kernel
theorem dX12_oneTick_74 : decode cX12_oneTick 74 = .ok (.iaload, 1) := by decide +kernel
theorem dX12_oneTick_75 : decode cX12_oneTick 75 = .ok (.bipush 10, 2) := by decide +kernel
theorem dX12_oneTick_77 : decode cX12_oneTick 77 = .ok (.if_icmp .ne 9, 3) := by decide +kernel
theorem dX12_oneTick_80 : decode cX12_oneTick 80 = .ok (.aload_n 0, 1) := by decide +kernel
theorem dX12_oneTick_81 : decode cX12_oneTick 81 = .ok (.iload_n 2, 1) := by decide +kernel
theorem dX12_oneTick_82 : decode cX12_oneTick 82 = .ok (.iload_n 1, 1) := by decide +kernel
theorem dX12_oneTick_83 : decode cX12_oneTick 83 = .ok (.invokevirtual 574, 3) := by decide +kernel
theorem dX12_oneTick_86 : decode cX12_oneTick 86 = .ok (.iinc 2 1, 3) := by decide +kernel
theorem dX12_oneTick_89 : decode cX12_oneTick 89 = .ok (.goto (-31), 3) := by decide +kernel
theorem dX12_oneTick_92 : decode cX12_oneTick 92 = .ok (.iinc 1 1, 3) := by decide +kernel
theorem dX12_oneTick_95 : decode cX12_oneTick 95 = .ok (.goto (-50), 3) := by decide +kernel
theorem dX12_oneTick_98 : decode cX12_oneTick 98 = .ok (.iconst 0, 1) := by decide +kernel
theorem dX12_oneTick_99 : decode cX12_oneTick 99 = .ok (.istore_n 1, 1) := by decide +kernel
theorem dX12_oneTick_100 : decode cX12_oneTick 100 = .ok (.iload_n 1, 1) := by decide +kernel
theorem dX12_oneTick_101 : decode cX12_oneTick 101 = .ok (.iconst 2, 1) := by decide +kernel
theorem dX12_oneTick_102 : decode cX12_oneTick 102 = .ok (.aload_n 0, 1) := by decide +kernel
theorem dX12_oneTick_103 : decode cX12_oneTick 103 = .ok (.getfield 260, 3) := by decide +kernel
theorem dX12_oneTick_106 : decode cX12_oneTick 106 = .ok (.imul, 1) := by decide +kernel
theorem dX12_oneTick_107 : decode cX12_oneTick 107 = .ok (.if_icmp .ge 28, 3) := by decide +kernel
theorem dX12_oneTick_110 : decode cX12_oneTick 110 = .ok (.iconst 0, 1) := by decide +kernel
theorem dX12_oneTick_111 : decode cX12_oneTick 111 = .ok (.istore_n 2, 1) := by decide +kernel
theorem dX12_oneTick_112 : decode cX12_oneTick 112 = .ok (.iload_n 2, 1) := by decide +kernel
theorem dX12_oneTick_113 : decode cX12_oneTick 113 = .ok (.iconst 4, 1) := by decide +kernel
theorem dX12_oneTick_114 : decode cX12_oneTick 114 = .ok (.if_icmp .ge 15, 3) := by decide +kernel
theorem dX12_oneTick_117 : decode cX12_oneTick 117 = .ok (.aload_n 0, 1) := by decide +kernel
theorem dX12_oneTick_118 : decode cX12_oneTick 118 = .ok (.iload_n 1, 1) := by decide +kernel
theorem dX12_oneTick_119 : decode cX12_oneTick 119 = .ok (.iload_n 2, 1) := by decide +kernel
theorem dX12_oneTick_120 : decode cX12_oneTick 120 = .ok (.invokevirtual 577, 3) := by decide +kernel
theorem dX12_oneTick_123 : decode cX12_oneTick 123 = .ok (.iinc 2 1, 3) := by decide +kernel
theorem dX12_oneTick_126 : decode cX12_oneTick 126 = .ok (.goto (-14), 3) := by decide +kernel
theorem dX12_oneTick_129 : decode cX12_oneTick 129 = .ok (.iinc 1 1, 3) := by decide +kernel
theorem dX12_oneTick_132 : decode cX12_oneTick 132 = .ok (.goto (-32), 3) := by decide +kernel
theorem dX12_oneTick_135 : decode cX12_oneTick 135 = .ok (.iconst 0, 1) := by decide +kernel
theorem dX12_oneTick_136 : decode cX12_oneTick 136 = .ok (.istore_n 1, 1) := by decide +kernel
theorem dX12_oneTick_137 : decode cX12_oneTick 137 = .ok (.iload_n 1, 1) := by decide +kernel
theorem dX12_oneTick_138 : decode cX12_oneTick 138 = .ok (.iconst 2, 1) := by decide +kernel
theorem dX12_oneTick_139 : decode cX12_oneTick 139 = .ok (.aload_n 0, 1) := by decide +kernel
theorem dX12_oneTick_140 : decode cX12_oneTick 140 = .ok (.getfield 260, 3) := by decide +kernel
theorem dX12_oneTick_143 : decode cX12_oneTick 143 = .ok (.imul, 1) := by decide +kernel
theorem dX12_oneTick_144 : decode cX12_oneTick 144 = .ok (.if_icmp .ge 69, 3) := by decide +kernel
theorem dX12_oneTick_147 : decode cX12_oneTick 147 = .ok (.iconst 0, 1) := by decide +kernel
theorem dX12_oneTick_148 : decode cX12_oneTick 148 = .ok (.istore_n 2, 1) := by decide +kernel
theorem dX12_oneTick_149 : decode cX12_oneTick 149 = .ok (.iload_n 2, 1) := by decide +kernel
theorem dX12_oneTick_150 : decode cX12_oneTick 150 = .ok (.iconst 4, 1) := by decide +kernel
theorem dX12_oneTick_151 : decode cX12_oneTick 151 = .ok (.if_icmp .ge 56, 3) := by decide +kernel
theorem dX12_oneTick_154 : decode cX12_oneTick 154 = .ok (.bipush 53, 2) := by decide +kernel
theorem dX12_oneTick_156 : decode cX12_oneTick 156 = .ok (.iconst 4, 1) := by decide +kernel
theorem dX12_oneTick_157 : decode cX12_oneTick 157 = .ok (.iload_n 1, 1) := by decide +kernel
theorem dX12_oneTick_158 : decode cX12_oneTick 158 = .ok (.imul, 1) := by decide +kernel
theorem dX12_oneTick_159 : decode cX12_oneTick 159 = .ok (.iload_n 2, 1) := by decide +kernel
theorem dX12_oneTick_160 : decode cX12_oneTick 160 = .ok (.iadd, 1) := by decide +kernel
theorem dX12_oneTick_161 : decode cX12_oneTick 161 = .ok (.imul, 1) := by decide +kernel
theorem dX12_oneTick_162 : decode cX12_oneTick 162 = .ok (.istore_n 3, 1) := by decide +kernel
theorem dX12_oneTick_163 : decode cX12_oneTick 163 = .ok (.iconst 0, 1) := by decide +kernel
theorem dX12_oneTick_164 : decode cX12_oneTick 164 = .ok (.istore 4, 2) := by decide +kernel
theorem dX12_oneTick_166 : decode cX12_oneTick 166 = .ok (.iload 4, 2) := by decide +kernel
theorem dX12_oneTick_168 : decode cX12_oneTick 168 = .ok (.aload_n 0, 1) := by decide +kernel
theorem dX12_oneTick_169 : decode cX12_oneTick 169 = .ok (.getfield 50, 3) := by decide +kernel
theorem dX12_oneTick_172 : decode cX12_oneTick 172 = .ok (.iconst 4, 1) := by decide +kernel
theorem dX12_oneTick_173 : decode cX12_oneTick 173 = .ok (.iload_n 1, 1) := by decide +kernel
theorem dX12_oneTick_174 : decode cX12_oneTick 174 = .ok (.imul, 1) := by decide +kernel
theorem dX12_oneTick_175 : decode cX12_oneTick 175 = .ok (.iload_n 2, 1) := by decide +kernel
theorem dX12_oneTick_176 : decode cX12_oneTick 176 = .ok (.iadd, 1) := by decide +kernel
theorem dX12_oneTick_177 : decode cX12_oneTick 177 = .ok (.iaload, 1) := by decide +kernel
theorem dX12_oneTick_178 : decode cX12_oneTick 178 = .ok (.if_icmp .ge 23, 3) := by decide +kernel
theorem dX12_oneTick_181 : decode cX12_oneTick 181 = .ok (.aload_n 0, 1) := by decide +kernel
theorem dX12_oneTick_182 : decode cX12_oneTick 182 = .ok (.iload_n 1, 1) := by decide +kernel
theorem dX12_oneTick_183 : decode cX12_oneTick 183 = .ok (.aload_n 0, 1) := by decide +kernel
theorem dX12_oneTick_184 : decode cX12_oneTick 184 = .ok (.getfield 47, 3) := by decide +kernel
theorem dX12_oneTick_187 : decode cX12_oneTick 187 = .ok (.iload_n 3, 1) := by decide +kernel
theorem dX12_oneTick_188 : decode cX12_oneTick 188 = .ok (.iload 4, 2) := by decide +kernel
theorem dX12_oneTick_190 : decode cX12_oneTick 190 = .ok (.iadd, 1) := by decide +kernel
theorem dX12_oneTick_191 : decode cX12_oneTick 191 = .ok (.iaload, 1) := by decide +kernel
theorem dX12_oneTick_192 : decode cX12_oneTick 192 = .ok (.invokevirtual 580, 3) := by decide +kernel
theorem dX12_oneTick_195 : decode cX12_oneTick 195 = .ok (.iinc 4 1, 3) := by decide +kernel
theorem dX12_oneTick_198 : decode cX12_oneTick 198 = .ok (.goto (-32), 3) := by decide +kernel
theorem dX12_oneTick_201 : decode cX12_oneTick 201 = .ok (.iinc 2 1, 3) := by decide +kernel
theorem dX12_oneTick_204 : decode cX12_oneTick 204 = .ok (.goto (-55), 3) := by decide +kernel
theorem dX12_oneTick_207 : decode cX12_oneTick 207 = .ok (.iinc 1 1, 3) := by decide +kernel
theorem dX12_oneTick_210 : decode cX12_oneTick 210 = .ok (.goto (-73), 3) := by decide +kernel
theorem dX12_oneTick_213 : decode cX12_oneTick 213 = .ok (.return_, 1) := by decide +kernel
theorem dX12_tick_0 : decode cX12_tick 0 = .ok (.iload_n 1, 1) := by decide +kernel
theorem dX12_tick_1 : decode cX12_tick 1 = .ok (.iconst 1, 1) := by decide +kernel
theorem dX12_tick_2 : decode cX12_tick 2 = .ok (.if_icmp .lt 9, 3) := by decide +kernel
theorem dX12_tick_5 : decode cX12_tick 5 = .ok (.iload_n 1, 1) := by decide +kernel
theorem dX12_tick_6 : decode cX12_tick 6 = .ok (.bipush 50, 2) := by decide +kernel
theorem dX12_tick_8 : decode cX12_tick 8 = .ok (.if_icmp .le 5, 3) := by decide +kernel
theorem dX12_tick_11 : decode cX12_tick 11 = .ok (.iconst (-1), 1) := by decide +kernel
theorem dX12_tick_12 : decode cX12_tick 12 = .ok (.ireturn, 1) := by decide +kernel
theorem dX12_tick_13 : decode cX12_tick 13 = .ok (.iconst 0, 1) := by decide +kernel
theorem dX12_tick_14 : decode cX12_tick 14 = .ok (.istore_n 2, 1) := by decide +kernel
theorem dX12_tick_15 : decode cX12_tick 15 = .ok (.iload_n 2, 1) := by decide +kernel
theorem dX12_tick_16 : decode cX12_tick 16 = .ok (.iload_n 1, 1) := by decide +kernel
theorem dX12_tick_17 : decode cX12_tick 17 = .ok (.if_icmp .ge 13, 3) := by decide +kernel
theorem dX12_tick_20 : decode cX12_tick 20 = .ok (.aload_n 0, 1) := by decide +kernel
theorem dX12_tick_21 : decode cX12_tick 21 = .ok (.invokevirtual 583, 3) := by decide +kernel
theorem dX12_tick_24 : decode cX12_tick 24 = .ok (.iinc 2 1, 3) := by decide +kernel
theorem dX12_tick_27 : decode cX12_tick 27 = .ok (.goto (-12), 3) := by decide +kernel
theorem dX12_tick_30 : decode cX12_tick 30 = .ok (.aload_n 0, 1) := by decide +kernel
theorem dX12_tick_31 : decode cX12_tick 31 = .ok (.getfield 378, 3) := by decide +kernel
theorem dX12_tick_34 : decode cX12_tick 34 = .ok (.ireturn, 1) := by decide +kernel
