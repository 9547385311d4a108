theorem dX4_dataCame_35 : decode cX4_dataCame 35 = .ok (.iconst 0, 1) := by decide +kernel
theorem dX4_dataCame_36 : decode cX4_dataCame 36 = .ok (.aload_n 0, 1) := by decide +kernel
theorem dX4_dataCame_37 : decode cX4_dataCame 37 = .ok (.getfield 24, 3) := by decide +kernel
theorem dX4_dataCame_40 : decode cX4_dataCame 40 = .ok (.iload 7, 2) := by decide +kernel
theorem dX4_dataCame_42 : decode cX4_dataCame 42 = .ok (.sipush 200, 3) := by decide +kernel
theorem dX4_dataCame_45 : decode cX4_dataCame 45 = .ok (.imul, 1) := by decide +kernel
theorem dX4_dataCame_46 : decode cX4_dataCame 46 = .ok (.aload 5, 2) := by decide +kernel
theorem dX4_dataCame_48 : decode cX4_dataCame 48 = .ok (.getfield 171, 3) := by decide +kernel
theorem dX4_dataCame_51 : decode cX4_dataCame 51 = .ok (.invokestatic 174, 3) := by decide +kernel
theorem dX4_dataCame_54 : decode cX4_dataCame 54 = .ok (.aload_n 0, 1) := by decide +kernel
theorem dX4_dataCame_55 : decode cX4_dataCame 55 = .ok (.getfield 28, 3) := by decide +kernel
theorem dX4_dataCame_58 : decode cX4_dataCame 58 = .ok (.iload 7, 2) := by decide +kernel
theorem dX4_dataCame_60 : decode cX4_dataCame 60 = .ok (.aload 5, 2) := by decide +kernel
theorem dX4_dataCame_62 : decode cX4_dataCame 62 = .ok (.getfield 171, 3) := by decide +kernel
theorem dX4_dataCame_65 : decode cX4_dataCame 65 = .ok (.iastore, 1) := by decide +kernel
theorem dX4_dataCame_66 : decode cX4_dataCame 66 = .ok (.aload_n 0, 1) := by decide +kernel
theorem dX4_dataCame_67 : decode cX4_dataCame 67 = .ok (.getfield 31, 3) := by decide +kernel
theorem dX4_dataCame_70 : decode cX4_dataCame 70 = .ok (.iload 7, 2) := by decide +kernel
theorem dX4_dataCame_72 : decode cX4_dataCame 72 = .ok (.aload_n 1, 1) := by decide +kernel
theorem dX4_dataCame_73 : decode cX4_dataCame 73 = .ok (.getfield 44, 3) := by decide +kernel
theorem dX4_dataCame_76 : decode cX4_dataCame 76 = .ok (.iastore, 1) := by decide +kernel
theorem dX4_dataCame_77 : decode cX4_dataCame 77 = .ok (.aload_n 0, 1) := by decide +kernel
theorem dX4_dataCame_78 : decode cX4_dataCame 78 = .ok (.getfield 34, 3) := by decide +kernel
theorem dX4_dataCame_81 : decode cX4_dataCame 81 = .ok (.iload 7, 2) := by decide +kernel
theorem dX4_dataCame_83 : decode cX4_dataCame 83 = .ok (.iload 4, 2) := by decide +kernel
theorem dX4_dataCame_85 : decode cX4_dataCame 85 = .ok (.iastore, 1) := by decide +kernel
theorem dX4_dataCame_86 : decode cX4_dataCame 86 = .ok (.aload_n 0, 1) := by decide +kernel
theorem dX4_dataCame_87 : decode cX4_dataCame 87 = .ok (.dup, 1) := by decide +kernel
theorem dX4_dataCame_88 : decode cX4_dataCame 88 = .ok (.getfield 165, 3) := by decide +kernel
theorem dX4_dataCame_91 : decode cX4_dataCame 91 = .ok (.iconst 1, 1) := by decide +kernel
theorem dX4_dataCame_92 : decode cX4_dataCame 92 = .ok (.iadd, 1) := by decide +kernel
theorem dX4_dataCame_93 : decode cX4_dataCame 93 = .ok (.putfield 165, 3) := by decide +kernel
theorem dX4_dataCame_96 : decode cX4_dataCame 96 = .ok (.iload 6, 2) := by decide +kernel
theorem dX4_dataCame_98 : decode cX4_dataCame 98 = .ok (.ireturn, 1) := by decide +kernel
theorem dX4_placeOfFrame_0 : decode cX4_placeOfFrame 0 = .ok (.iload_n 1, 1) := by decide +kernel
theorem dX4_placeOfFrame_1 : decode cX4_placeOfFrame 1 = .ok (.ifCond .lt 17, 3) := by decide +kernel
theorem dX4_placeOfFrame_4 : decode cX4_placeOfFrame 4 = .ok (.iload_n 1, 1) := by decide +kernel
theorem dX4_placeOfFrame_5 : decode cX4_placeOfFrame 5 = .ok (.bipush 20, 2) := by decide +kernel
theorem dX4_placeOfFrame_7 : decode cX4_placeOfFrame 7 = .ok (.if_icmp .ge 11, 3) := by decide +kernel
theorem dX4_placeOfFrame_10 : decode cX4_placeOfFrame 10 = .ok (.iload_n 1, 1) := by decide +kernel
theorem dX4_placeOfFrame_11 : decode cX4_placeOfFrame 11 = .ok (.aload_n 0, 1) := by decide +kernel
theorem dX4_placeOfFrame_12 : decode cX4_placeOfFrame 12 = .ok (.getfield 165, 3) := by decide +kernel
theorem dX4_placeOfFrame_15 : decode cX4_placeOfFrame 15 = .ok (.if_icmp .lt 5, 3) := by decide +kernel
theorem dX4_placeOfFrame_18 : decode cX4_placeOfFrame 18 = .ok (.iconst (-1), 1) := by decide +kernel
theorem dX4_placeOfFrame_19 : decode cX4_placeOfFrame 19 = .ok (.ireturn, 1) := by decide +kernel
theorem dX4_placeOfFrame_20 : decode cX4_placeOfFrame 20 = .ok (.aload_n 0, 1) := by decide +kernel
theorem dX4_placeOfFrame_21 : decode cX4_placeOfFrame 21 = .ok (.getfield 165, 3) := by decide +kernel
theorem dX4_placeOfFrame_24 : decode cX4_placeOfFrame 24 = .ok (.iconst 1, 1) := by decide +kernel
theorem dX4_placeOfFrame_25 : decode cX4_placeOfFrame 25 = .ok (.isub, 1) := by decide +kernel
theorem dX4_placeOfFrame_26 : decode cX4_placeOfFrame 26 = .ok (.iload_n 1, 1) := by decide +kernel
theorem dX4_placeOfFrame_27 : decode cX4_placeOfFrame 27 = .ok (.isub, 1) := by decide +kernel
theorem dX4_placeOfFrame_28 : decode cX4_placeOfFrame 28 = .ok (.bipush 20, 2) := by decide +kernel
theorem dX4_placeOfFrame_30 : decode cX4_placeOfFrame 30 = .ok (.irem, 1) := by decide +kernel
theorem dX4_placeOfFrame_31 : decode cX4_placeOfFrame 31 = .ok (.ireturn, 1) := by decide +kernel
theorem dX5_init_0 : decode cX5_init 0 = .ok (.aload_n 0, 1) := by decide +kernel
theorem dX5_init_1 : decode cX5_init 1 = .ok (.invokespecial 3, 3) := by decide +kernel
theorem dX5_init_4 : decode cX5_init 4 = .ok (.aload_n 0, 1) := by decide +kernel
theorem dX5_init_5 : decode cX5_init 5 = .ok (.new 9, 3) := by decide +kernel
theorem dX5_init_8 : decode cX5_init 8 = .ok (.dup, 1) := by decide +kernel
theorem dX5_init_9 : decode cX5_init 9 = .ok (.bipush 10, 2) := by decide +kernel
theorem dX5_init_11 : decode cX5_init 11 = .ok (.invokespecial 13, 3) := by decide +kernel
theorem dX5_init_14 : decode cX5_init 14 = .ok (.putfield 16, 3) := by decide +kernel
theorem dX5_init_17 : decode cX5_init 17 = .ok (.aload_n 0, 1) := by decide +kernel
theorem dX5_init_18 : decode cX5_init 18 = .ok (.new 9, 3) := by decide +kernel
theorem dX5_init_21 : decode cX5_init 21 = .ok (.dup, 1) := by decide +kernel
theorem dX5_init_22 : decode cX5_init 22 = .ok (.bipush 8, 2) := by decide +kernel
theorem dX5_init_24 : decode cX5_init 24 = .ok (.invokespecial 13, 3) := by decide +kernel
theorem dX5_init_27 : decode cX5_init 27 = .ok (.putfield 20, 3) := by decide +kernel
theorem dX5_init_30 : decode cX5_init 30 = .ok (.aload_n 0, 1) := by decide +kernel
theorem dX5_init_31 : decode cX5_init 31 = .ok (.new 9, 3) := by decide +kernel
theorem dX5_init_34 : decode cX5_init 34 = .ok (.dup, 1) := by decide +kernel
theorem dX5_init_35 : decode cX5_init 35 = .ok (.bipush 8, 2) := by decide +kernel
theorem dX5_init_37 : decode cX5_init 37 = .ok (.invokespecial 13, 3) := by decide +kernel
theorem dX5_init_40 : decode cX5_init 40 = .ok (.putfield 23, 3) := by decide +kernel
theorem dX5_init_43 : decode cX5_init 43 = .ok (.aload_n 0, 1) := by decide +kernel
theorem dX5_init_44 : decode cX5_init 44 = .ok (.iconst 0, 1) := by decide +kernel
theorem dX5_init_45 : decode cX5_init 45 = .ok (.putfield 26, 3) := by decide +kernel
theorem dX5_init_48 : decode cX5_init 48 = .ok (.aload_n 0, 1) := by decide +kernel
theorem dX5_init_49 : decode cX5_init 49 = .ok (.aload_n 1, 1) := by decide +kernel
theorem dX5_init_50 : decode cX5_init 50 = .ok (.putfield 30, 3) := by decide +kernel
theorem dX5_init_53 : decode cX5_init 53 = .ok (.return_, 1) := by decide +kernel
theorem dX5_tell_0 : decode cX5_tell 0 = .ok (.iload_n 1, 1) := by decide +kernel
theorem dX5_tell_1 : decode cX5_tell 1 = .ok (.tableswitch 131 0 11 #[63, 68, 73, 78, 83, 88, 93, 98, 103, 111, 121, 126], 63) := by decide +kernel
theorem dX5_tell_64 : decode cX5_tell 64 = .ok (.aload_n 0, 1) := by decide +kernel
theorem dX5_tell_65 : decode cX5_tell 65 = .ok (.getfield 26, 3) := by decide +kernel
theorem dX5_tell_68 : decode cX5_tell 68 = .ok (.ireturn, 1) := by decide +kernel
theorem dX5_tell_69 : decode cX5_tell 69 = .ok (.aload_n 0, 1) := by decide +kernel
theorem dX5_tell_70 : decode cX5_tell 70 = .ok (.getfield 34, 3) := by decide +kernel
theorem dX5_tell_73 : decode cX5_tell 73 = .ok (.ireturn, 1) := by decide +kernel
theorem dX5_tell_74 : decode cX5_tell 74 = .ok (.aload_n 0, 1) := by decide +kernel
theorem dX5_tell_75 : decode cX5_tell 75 = .ok (.getfield 37, 3) := by decide +kernel
theorem dX5_tell_78 : decode cX5_tell 78 = .ok (.ireturn, 1) := by decide +kernel
theorem dX5_tell_79 : decode cX5_tell 79 = .ok (.aload_n 0, 1) := by decide +kernel
theorem dX5_tell_80 : decode cX5_tell 80 = .ok (.getfield 40, 3) := by decide +kernel
theorem dX5_tell_83 : decode cX5_tell 83 = .ok (.ireturn, 1) := by decide +kernel
theorem dX5_tell_84 : decode cX5_tell 84 = .ok (.aload_n 0, 1) := by decide +kernel
theorem dX5_tell_85 : decode cX5_tell 85 = .ok (.getfield 43, 3) := by decide +kernel
theorem dX5_tell_88 : decode cX5_tell 88 = .ok (.ireturn, 1) := by decide +kernel
theorem dX5_tell_89 : decode cX5_tell 89 = .ok (.aload_n 0, 1) := by decide +kernel
theorem dX5_tell_90 : decode cX5_tell 90 = .ok (.getfield 46, 3) := by decide +kernel
theorem dX5_tell_93 : decode cX5_tell 93 = .ok (.ireturn, 1) := by decide +kernel
theorem dX5_tell_94 : decode cX5_tell 94 = .ok (.aload_n 0, 1) := by decide +kernel
theorem dX5_tell_95 : decode cX5_tell 95 = .ok (.getfield 49, 3) := by decide +kernel
theorem dX5_tell_98 : decode cX5_tell 98 = .ok (.ireturn, 1) := by decide +kernel
theorem dX5_tell_99 : decode cX5_tell 99 = .ok (.aload_n 0, 1) := by decide +kernel
theorem dX5_tell_100 : decode cX5_tell 100 = .ok (.getfield 52, 3) := by decide +kernel
theorem dX5_tell_103 : decode cX5_tell 103 = .ok (.ireturn, 1) := by decide +kernel
theorem dX5_tell_104 : decode cX5_tell 104 = .ok (.aload_n 0, 1) := by decide +kernel
theorem dX5_tell_105 : decode cX5_tell 105 = .ok (.getfield 16, 3) := by decide +kernel
theorem dX5_tell_108 : decode cX5_tell 108 = .ok (.getfield 55, 3) := by decide +kernel
theorem dX5_tell_111 : decode cX5_tell 111 = .ok (.ireturn, 1) := by decide +kernel
theorem dX5_tell_112 : decode cX5_tell 112 = .ok (.aload_n 0, 1) := by decide +kernel
theorem dX5_tell_113 : decode cX5_tell 113 = .ok (.getfield 34, 3) := by decide +kernel
theorem dX5_tell_116 : decode cX5_tell 116 = .ok (.aload_n 0, 1) := by decide +kernel
theorem dX5_tell_117 : decode cX5_tell 117 = .ok (.getfield 37, 3) := by decide +kernel
theorem dX5_tell_120 : decode cX5_tell 120 = .ok (.isub, 1) := by decide +kernel
theorem dX5_tell_121 : decode cX5_tell 121 = .ok (.ireturn, 1) := by decide +kernel
theorem dX5_tell_122 : decode cX5_tell 122 = .ok (.aload_n 0, 1) := by decide +kernel
theorem dX5_tell_123 : decode cX5_tell 123 = .ok (.invokevirtual 58, 3) := by decide +kernel
theorem dX5_tell_126 : decode cX5_tell 126 = .ok (.ireturn, 1) := by decide +kernel
theorem dX5_tell_127 : decode cX5_tell 127 = .ok (.aload_n 0, 1) := by decide +kernel
theorem dX5_tell_128 : decode cX5_tell 128 = .ok (.getfield 62, 3) := by decide +kernel
theorem dX5_tell_131 : decode cX5_tell 131 = .ok (.ireturn, 1) := by decide +kernel
theorem dX5_tell_132 : decode cX5_tell 132 = .ok (.iconst (-1), 1) := by decide +kernel
theorem dX5_tell_133 : decode cX5_tell 133 = .ok (.ireturn, 1) := by decide +kernel
theorem dX5_cameAhead_0 : decode cX5_cameAhead 0 = .ok (.iconst 0, 1) := by decide +kernel
theorem dX5_cameAhead_1 : decode cX5_cameAhead 1 = .ok (.istore_n 1, 1) := by decide +kernel
theorem dX5_cameAhead_2 : decode cX5_cameAhead 2 = .ok (.iconst 0, 1) := by decide +kernel
theorem dX5_cameAhead_3 : decode cX5_cameAhead 3 = .ok (.istore_n 2, 1) := by decide +kernel
theorem dX5_cameAhead_4 : decode cX5_cameAhead 4 = .ok (.iload_n 2, 1) := by decide +kernel
theorem dX5_cameAhead_5 : decode cX5_cameAhead 5 = .ok (.bipush 8, 2) := by decide +kernel
theorem dX5_cameAhead_7 : decode cX5_cameAhead 7 = .ok (.if_icmp .ge 29, 3) := by decide +kernel
theorem dX5_cameAhead_10 : decode cX5_cameAhead 10 = .ok (.iload_n 1, 1) := by decide +kernel
theorem dX5_cameAhead_11 : decode cX5_cameAhead 11 = .ok (.aload_n 0, 1) := by decide +kernel
theorem dX5_cameAhead_12 : decode cX5_cameAhead 12 = .ok (.getfield 23, 3) := by decide +kernel
theorem dX5_cameAhead_15 : decode cX5_cameAhead 15 = .ok (.getfield 65, 3) := by decide +kernel
theorem dX5_cameAhead_18 : decode cX5_cameAhead 18 = .ok (.iload_n 2, 1) := by decide +kernel
theorem dX5_cameAhead_19 : decode cX5_cameAhead 19 = .ok (.iaload, 1) := by decide +kernel
theorem dX5_cameAhead_20 : decode cX5_cameAhead 20 = .ok (.ifCond .le 7, 3) := by decide +kernel
theorem dX5_cameAhead_23 : decode cX5_cameAhead 23 = .ok (.iconst 1, 1) := by decide +kernel
theorem dX5_cameAhead_24 : decode cX5_cameAhead 24 = .ok (.goto 4, 3) := by decide +kernel
theorem dX5_cameAhead_27 : decode cX5_cameAhead 27 = .ok (.iconst 0, 1) := by decide +kernel
theorem dX5_cameAhead_28 : decode cX5_cameAhead 28 = .ok (.iadd, 1) := by decide +kernel
theorem dX5_cameAhead_29 : decode cX5_cameAhead 29 = .ok (.istore_n 1, 1) := by decide +kernel
theorem dX5_cameAhead_30 : decode cX5_cameAhead 30 = .ok (.iinc 2 1, 3) := by decide +kernel
theorem dX5_cameAhead_33 : decode cX5_cameAhead 33 = .ok (.goto (-29), 3) := by decide +kernel
theorem dX5_cameAhead_36 : decode cX5_cameAhead 36 = .ok (.iload_n 1, 1) := by decide +kernel
theorem dX5_cameAhead_37 : decode cX5_cameAhead 37 = .ok (.ireturn, 1) := by decide +kernel
theorem dX5_anew_0 : decode cX5_anew 0 = .ok (.aload_n 0, 1) := by decide +kernel
theorem dX5_anew_1 : decode cX5_anew 1 = .ok (.iconst 0, 1) := by decide +kernel
theorem dX5_anew_2 : decode cX5_anew 2 = .ok (.putfield 34, 3) := by decide +kernel
theorem dX5_anew_5 : decode cX5_anew 5 = .ok (.aload_n 0, 1) := by decide +kernel
theorem dX5_anew_6 : decode cX5_anew 6 = .ok (.iconst 0, 1) := by decide +kernel
theorem dX5_anew_7 : decode cX5_anew 7 = .ok (.putfield 37, 3) := by decide +kernel
theorem dX5_anew_10 : decode cX5_anew 10 = .ok (.aload_n 0, 1) := by decide +kernel
theorem dX5_anew_11 : decode cX5_anew 11 = .ok (.iload_n 1, 1) := by decide +kernel
theorem dX5_anew_12 : decode cX5_anew 12 = .ok (.putfield 40, 3) := by decide +kernel
theorem dX5_anew_15 : decode cX5_anew 15 = .ok (.aload_n 0, 1) := by decide +kernel
theorem dX5_anew_16 : decode cX5_anew 16 = .ok (.iconst 0, 1) := by decide +kernel
theorem dX5_anew_17 : decode cX5_anew 17 = .ok (.putfield 43, 3) := by decide +kernel
theorem dX5_anew_20 : decode cX5_anew 20 = .ok (.aload_n 0, 1) := by decide +kernel
theorem dX5_anew_21 : decode cX5_anew 21 = .ok (.iconst 0, 1) := by decide +kernel
theorem dX5_anew_22 : decode cX5_anew 22 = .ok (.putfield 46, 3) := by decide +kernel
theorem dX5_anew_25 : decode cX5_anew 25 = .ok (.aload_n 0, 1) := by decide +kernel
theorem dX5_anew_26 : decode cX5_anew 26 = .ok (.iconst 0, 1) := by decide +kernel
theorem dX5_anew_27 : decode cX5_anew 27 = .ok (.putfield 49, 3) := by decide +kernel
theorem dX5_anew_30 : decode cX5_anew 30 = .ok (.aload_n 0, 1) := by decide +kernel
theorem dX5_anew_31 : decode cX5_anew 31 = .ok (.iconst 0, 1) := by decide +kernel
theorem dX5_anew_32 : decode cX5_anew 32 = .ok (.putfield 52, 3) := by decide +kernel
theorem dX5_anew_35 : decode cX5_anew 35 = .ok (.aload_n 0, 1) := by decide +kernel
theorem dX5_anew_36 : decode cX5_anew 36 = .ok (.iconst 0, 1) := by decide +kernel
theorem dX5_anew_37 : decode cX5_anew 37 = .ok (.putfield 69, 3) := by decide +kernel
theorem dX5_anew_40 : decode cX5_anew 40 = .ok (.aload_n 0, 1) := by decide +kernel
theorem dX5_anew_41 : decode cX5_anew 41 = .ok (.getfield 20, 3) := by decide +kernel
theorem dX5_anew_44 : decode cX5_anew 44 = .ok (.invokevirtual 72, 3) := by decide +kernel
theorem dX5_anew_47 : decode cX5_anew 47 = .ok (.aload_n 0, 1) := by decide +kernel
theorem dX5_anew_48 : decode cX5_anew 48 = .ok (.getfield 23, 3) := by decide +kernel
theorem dX5_anew_51 : decode cX5_anew 51 = .ok (.invokevirtual 72, 3) := by decide +kernel
theorem dX5_anew_54 : decode cX5_anew 54 = .ok (.return_, 1) := by decide +kernel
theorem dX5_becomeReady_0 : decode cX5_becomeReady 0 = .ok (.aload_n 0, 1) := by decide +kernel
theorem dX5_becomeReady_1 : decode cX5_becomeReady 1 = .ok (.bipush 8, 2) := by decide +kernel
theorem dX5_becomeReady_3 : decode cX5_becomeReady 3 = .ok (.invokevirtual 75, 3) := by decide +kernel
theorem dX5_becomeReady_6 : decode cX5_becomeReady 6 = .ok (.aload_n 0, 1) := by decide +kernel
theorem dX5_becomeReady_7 : decode cX5_becomeReady 7 = .ok (.iconst 2, 1) := by decide +kernel
theorem dX5_becomeReady_8 : decode cX5_becomeReady 8 = .ok (.putfield 26, 3) := by decide +kernel
theorem dX5_becomeReady_11 : decode cX5_becomeReady 11 = .ok (.aload_n 0, 1) := by decide +kernel
theorem dX5_becomeReady_12 : decode cX5_becomeReady 12 = .ok (.iload_n 1, 1) := by decide +kernel
theorem dX5_becomeReady_13 : decode cX5_becomeReady 13 = .ok (.putfield 78, 3) := by decide +kernel
theorem dX5_becomeReady_16 : decode cX5_becomeReady 16 = .ok (.aload_n 0, 1) := by decide +kernel
theorem dX5_becomeReady_17 : decode cX5_becomeReady 17 = .ok (.iload_n 1, 1) := by decide +kernel
theorem dX5_becomeReady_18 : decode cX5_becomeReady 18 = .ok (.putfield 81, 3) := by decide +kernel
theorem dX5_becomeReady_21 : decode cX5_becomeReady 21 = .ok (.return_, 1) := by decide +kernel
theorem dX5_cut_0 : decode cX5_cut 0 = .ok (.aload_n 0, 1) := by decide +kernel
theorem dX5_cut_1 : decode cX5_cut 1 = .ok (.iconst 0, 1) := by decide +kernel
theorem dX5_cut_2 : decode cX5_cut 2 = .ok (.putfield 26, 3) := by decide +kernel
theorem dX5_cut_5 : decode cX5_cut 5 = .ok (.aload_n 0, 1) := by decide +kernel
theorem dX5_cut_6 : decode cX5_cut 6 = .ok (.dup, 1) := by decide +kernel
theorem dX5_cut_7 : decode cX5_cut 7 = .ok (.getfield 62, 3) := by decide +kernel
theorem dX5_cut_10 : decode cX5_cut 10 = .ok (.iconst 1, 1) := by decide +kernel
theorem dX5_cut_11 : decode cX5_cut 11 = .ok (.iadd, 1) := by decide +kernel
theorem dX5_cut_12 : decode cX5_cut 12 = .ok (.putfield 62, 3) := by decide +kernel
theorem dX5_cut_15 : decode cX5_cut 15 = .ok (.aload_n 0, 1) := by decide +kernel
theorem dX5_cut_16 : decode cX5_cut 16 = .ok (.getfield 16, 3) := by decide +kernel
theorem dX5_cut_19 : decode cX5_cut 19 = .ok (.invokevirtual 72, 3) := by decide +kernel
theorem dX5_cut_22 : decode cX5_cut 22 = .ok (.aload_n 0, 1) := by decide +kernel
theorem dX5_cut_23 : decode cX5_cut 23 = .ok (.iconst 0, 1) := by decide +kernel
theorem dX5_cut_24 : decode cX5_cut 24 = .ok (.invokevirtual 75, 3) := by decide +kernel
theorem dX5_cut_27 : decode cX5_cut 27 = .ok (.return_, 1) := by decide +kernel
theorem dX5_ask_0 : decode cX5_ask 0 = .ok (.aload_n 0, 1) := by decide +kernel
theorem dX5_ask_1 : decode cX5_ask 1 = .ok (.iload_n 1, 1) := by decide +kernel
theorem dX5_ask_2 : decode cX5_ask 2 = .ok (.putfield 26, 3) := by decide +kernel
theorem dX5_ask_5 : decode cX5_ask 5 = .ok (.aload_n 0, 1) := by decide +kernel
theorem dX5_ask_6 : decode cX5_ask 6 = .ok (.iload_n 2, 1) := by decide +kernel
theorem dX5_ask_7 : decode cX5_ask 7 = .ok (.putfield 84, 3) := by decide +kernel
theorem dX5_ask_10 : decode cX5_ask 10 = .ok (.aload_n 0, 1) := by decide +kernel
theorem dX5_ask_11 : decode cX5_ask 11 = .ok (.iconst 0, 1) := by decide +kernel
theorem dX5_ask_12 : decode cX5_ask 12 = .ok (.putfield 87, 3) := by decide +kernel
theorem dX5_ask_15 : decode cX5_ask 15 = .ok (.iload_n 2, 1) := by decide +kernel
theorem dX5_ask_16 : decode cX5_ask 16 = .ok (.iconst 3, 1) := by decide +kernel
theorem dX5_ask_17 : decode cX5_ask 17 = .ok (.if_icmp .eq 13, 3) := by decide +kernel
theorem dX5_ask_20 : decode cX5_ask 20 = .ok (.aload_n 0, 1) := by decide +kernel
theorem dX5_ask_21 : decode cX5_ask 21 = .ok (.dup, 1) := by decide +kernel
theorem dX5_ask_22 : decode cX5_ask 22 = .ok (.getfield 90, 3) := by decide +kernel
theorem dX5_ask_25 : decode cX5_ask 25 = .ok (.iconst 1, 1) := by decide +kernel
theorem dX5_ask_26 : decode cX5_ask 26 = .ok (.iadd, 1) := by decide +kernel
theorem dX5_ask_27 : decode cX5_ask 27 = .ok (.putfield 90, 3) := by decide +kernel
theorem dX5_ask_30 : decode cX5_ask 30 = .ok (.aload_n 0, 1) := by decide +kernel
theorem dX5_ask_31 : decode cX5_ask 31 = .ok (.iload_n 3, 1) := by decide +kernel
theorem dX5_ask_32 : decode cX5_ask 32 = .ok (.invokevirtual 93, 3) := by decide +kernel
theorem dX5_ask_35 : decode cX5_ask 35 = .ok (.return_, 1) := by decide +kernel
theorem dX5_askAgain_0 : decode cX5_askAgain 0 = .ok (.aload_n 0, 1) := by decide +kernel
theorem dX5_askAgain_1 : decode cX5_askAgain 1 = .ok (.dup, 1) := by decide +kernel
theorem dX5_askAgain_2 : decode cX5_askAgain 2 = .ok (.getfield 87, 3) := by decide +kernel
theorem dX5_askAgain_5 : decode cX5_askAgain 5 = .ok (.iconst 1, 1) := by decide +kernel
theorem dX5_askAgain_6 : decode cX5_askAgain 6 = .ok (.iadd, 1) := by decide +kernel
theorem dX5_askAgain_7 : decode cX5_askAgain 7 = .ok (.putfield 87, 3) := by decide +kernel
theorem dX5_askAgain_10 : decode cX5_askAgain 10 = .ok (.aload_n 0, 1) := by decide +kernel
theorem dX5_askAgain_11 : decode cX5_askAgain 11 = .ok (.iload_n 1, 1) := by decide +kernel
theorem dX5_askAgain_12 : decode cX5_askAgain 12 = .ok (.putfield 78, 3) := by decide +kernel
theorem dX5_askAgain_15 : decode cX5_askAgain 15 = .ok (.aload_n 0, 1) := by decide +kernel
theorem dX5_askAgain_16 : decode cX5_askAgain 16 = .ok (.getfield 84, 3) := by decide +kernel
theorem dX5_askAgain_19 : decode cX5_askAgain 19 = .ok (.iconst 3, 1) := by decide +kernel
theorem dX5_askAgain_20 : decode cX5_askAgain 20 = .ok (.if_icmp .ne 15, 3) := by decide +kernel
theorem dX5_askAgain_23 : decode cX5_askAgain 23 = .ok (.aload_n 0, 1) := by decide +kernel
theorem dX5_askAgain_24 : decode cX5_askAgain 24 = .ok (.getfield 30, 3) := by decide +kernel
theorem dX5_askAgain_27 : decode cX5_askAgain 27 = .ok (.iconst 3, 1) := by decide +kernel
theorem dX5_askAgain_28 : decode cX5_askAgain 28 = .ok (.iconst 0, 1) := by decide +kernel
theorem dX5_askAgain_29 : decode cX5_askAgain 29 = .ok (.invokevirtual 96, 3) := by decide +kernel
theorem dX5_askAgain_32 : decode cX5_askAgain 32 = .ok (.goto 27, 3) := by decide +kernel
theorem dX5_askAgain_35 : decode cX5_askAgain 35 = .ok (.aload_n 0, 1) := by decide +kernel
theorem dX5_askAgain_36 : decode cX5_askAgain 36 = .ok (.getfield 30, 3) := by decide +kernel
theorem dX5_askAgain_39 : decode cX5_askAgain 39 = .ok (.bipush 8, 2) := by decide +kernel
theorem dX5_askAgain_41 : decode cX5_askAgain 41 = .ok (.invokevirtual 102, 3) := by decide +kernel
theorem dX5_askAgain_44 : decode cX5_askAgain 44 = .ok (.aload_n 0, 1) := by decide +kernel
theorem dX5_askAgain_45 : decode cX5_askAgain 45 = .ok (.getfield 30, 3) := by decide +kernel
theorem dX5_askAgain_48 : decode cX5_askAgain 48 = .ok (.aload_n 0, 1) := by decide +kernel
theorem dX5_askAgain_49 : decode cX5_askAgain 49 = .ok (.getfield 84, 3) := by decide +kernel
theorem dX5_askAgain_52 : decode cX5_askAgain 52 = .ok (.aload_n 0, 1) := by decide +kernel
theorem dX5_askAgain_53 : decode cX5_askAgain 53 = .ok (.getfield 90, 3) := by decide +kernel
theorem dX5_askAgain_56 : decode cX5_askAgain 56 = .ok (.invokevirtual 96, 3) := by decide +kernel
theorem dX5_askAgain_59 : decode cX5_askAgain 59 = .ok (.return_, 1) := by decide +kernel
theorem dX5_timers_0 : decode cX5_timers 0 = .ok (.aload_n 0, 1) := by decide +kernel
theorem dX5_timers_1 : decode cX5_timers 1 = .ok (.getfield 26, 3) := by decide +kernel
theorem dX5_timers_4 : decode cX5_timers 4 = .ok (.ifCond .ne 5, 3) := by decide +kernel
theorem dX5_timers_7 : decode cX5_timers 7 = .ok (.iconst 0, 1) := by decide +kernel
theorem dX5_timers_8 : decode cX5_timers 8 = .ok (.ireturn, 1) := by decide +kernel
theorem dX5_timers_9 : decode cX5_timers 9 = .ok (.iconst 0, 1) := by decide +kernel
theorem dX5_timers_10 : decode cX5_timers 10 = .ok (.istore_n 2, 1) := by decide +kernel
theorem dX5_timers_11 : decode cX5_timers 11 = .ok (.aload_n 0, 1) := by decide +kernel
theorem dX5_timers_12 : decode cX5_timers 12 = .ok (.getfield 26, 3) := by decide +kernel
theorem dX5_timers_15 : decode cX5_timers 15 = .ok (.iconst 2, 1) := by decide +kernel
theorem dX5_timers_16 : decode cX5_timers 16 = .ok (.if_icmp .eq 53, 3) := by decide +kernel
theorem dX5_timers_19 : decode cX5_timers 19 = .ok (.iload_n 1, 1) := by decide +kernel
theorem dX5_timers_20 : decode cX5_timers 20 = .ok (.aload_n 0, 1) := by decide +kernel
theorem dX5_timers_21 : decode cX5_timers 21 = .ok (.getfield 78, 3) := by decide +kernel
theorem dX5_timers_24 : decode cX5_timers 24 = .ok (.isub, 1) := by decide +kernel
theorem dX5_timers_25 : decode cX5_timers 25 = .ok (.iconst 5, 1) := by decide +kernel
theorem dX5_timers_26 : decode cX5_timers 26 = .ok (.if_icmp .lt 7, 3) := by decide +kernel
theorem dX5_timers_29 : decode cX5_timers 29 = .ok (.iconst 1, 1) := by decide +kernel
theorem dX5_timers_30 : decode cX5_timers 30 = .ok (.goto 4, 3) := by decide +kernel
theorem dX5_timers_33 : decode cX5_timers 33 = .ok (.iconst 0, 1) := by decide +kernel
theorem dX5_timers_34 : decode cX5_timers 34 = .ok (.istore_n 3, 1) := by decide +kernel
theorem dX5_timers_35 : decode cX5_timers 35 = .ok (.iload_n 3, 1) := by decide +kernel
theorem dX5_timers_36 : decode cX5_timers 36 = .ok (.ifCond .eq 15, 3) := by decide +kernel
theorem dX5_timers_39 : decode cX5_timers 39 = .ok (.aload_n 0, 1) := by decide +kernel
theorem dX5_timers_40 : decode cX5_timers 40 = .ok (.getfield 87, 3) := by decide +kernel
theorem dX5_timers_43 : decode cX5_timers 43 = .ok (.iconst 4, 1) := by decide +kernel
theorem dX5_timers_44 : decode cX5_timers 44 = .ok (.if_icmp .lt 7, 3) := by decide +kernel
theorem dX5_timers_47 : decode cX5_timers 47 = .ok (.iconst 1, 1) := by decide +kernel
theorem dX5_timers_48 : decode cX5_timers 48 = .ok (.goto 4, 3) := by decide +kernel
theorem dX5_timers_51 : decode cX5_timers 51 = .ok (.iconst 0, 1) := by decide +kernel
theorem dX5_timers_52 : decode cX5_timers 52 = .ok (.istore_n 2, 1) := by decide +kernel
theorem dX5_timers_53 : decode cX5_timers 53 = .ok (.iload_n 3, 1) := by decide +kernel
theorem dX5_timers_54 : decode cX5_timers 54 = .ok (.ifCond .eq 12, 3) := by decide +kernel
theorem dX5_timers_57 : decode cX5_timers 57 = .ok (.iload_n 2, 1) := by decide +kernel
theorem dX5_timers_58 : decode cX5_timers 58 = .ok (.ifCond .ne 8, 3) := by decide +kernel
theorem dX5_timers_61 : decode cX5_timers 61 = .ok (.aload_n 0, 1) := by decide +kernel
theorem dX5_timers_62 : decode cX5_timers 62 = .ok (.iload_n 1, 1) := by decide +kernel
theorem dX5_timers_63 : decode cX5_timers 63 = .ok (.invokevirtual 93, 3) := by decide +kernel
theorem dX5_timers_66 : decode cX5_timers 66 = .ok (.goto 50, 3) := by decide +kernel
theorem dX5_timers_69 : decode cX5_timers 69 = .ok (.iload_n 1, 1) := by decide +kernel
theorem dX5_timers_70 : decode cX5_timers 70 = .ok (.aload_n 0, 1) := by decide +kernel
theorem dX5_timers_71 : decode cX5_timers 71 = .ok (.getfield 81, 3) := by decide +kernel
theorem dX5_timers_74 : decode cX5_timers 74 = .ok (.isub, 1) := by decide +kernel
theorem dX5_timers_75 : decode cX5_timers 75 = .ok (.bipush 30, 2) := by decide +kernel
theorem dX5_timers_77 : decode cX5_timers 77 = .ok (.if_icmp .lt 8, 3) := by decide +kernel
theorem dX5_timers_80 : decode cX5_timers 80 = .ok (.iconst 1, 1) := by decide +kernel
theorem dX5_timers_81 : decode cX5_timers 81 = .ok (.istore_n 2, 1) := by decide +kernel
theorem dX5_timers_82 : decode cX5_timers 82 = .ok (.goto 34, 3) := by decide +kernel
theorem dX5_timers_85 : decode cX5_timers 85 = .ok (.iload_n 1, 1) := by decide +kernel
theorem dX5_timers_86 : decode cX5_timers 86 = .ok (.aload_n 0, 1) := by decide +kernel
theorem dX5_timers_87 : decode cX5_timers 87 = .ok (.getfield 78, 3) := by decide +kernel
theorem dX5_timers_90 : decode cX5_timers 90 = .ok (.isub, 1) := by decide +kernel
theorem dX5_timers_91 : decode cX5_timers 91 = .ok (.aload_n 0, 1) := by decide +kernel
theorem dX5_timers_92 : decode cX5_timers 92 = .ok (.getfield 34, 3) := by decide +kernel
theorem dX5_timers_95 : decode cX5_timers 95 = .ok (.aload_n 0, 1) := by decide +kernel
theorem dX5_timers_96 : decode cX5_timers 96 = .ok (.getfield 37, 3) := by decide +kernel
theorem dX5_timers_99 : decode cX5_timers 99 = .ok (.if_icmp .le 7, 3) := by decide +kernel
theorem dX5_timers_102 : decode cX5_timers 102 = .ok (.iconst 4, 1) := by decide +kernel
theorem dX5_timers_103 : decode cX5_timers 103 = .ok (.goto 5, 3) := by decide +kernel
theorem dX5_timers_106 : decode cX5_timers 106 = .ok (.bipush 20, 2) := by decide +kernel
theorem dX5_timers_108 : decode cX5_timers 108 = .ok (.if_icmp .lt 8, 3) := by decide +kernel
theorem dX5_timers_111 : decode cX5_timers 111 = .ok (.aload_n 0, 1) := by decide +kernel
theorem dX5_timers_112 : decode cX5_timers 112 = .ok (.iload_n 1, 1) := by decide +kernel
theorem dX5_timers_113 : decode cX5_timers 113 = .ok (.invokevirtual 105, 3) := by decide +kernel
theorem dX5_timers_116 : decode cX5_timers 116 = .ok (.iload_n 2, 1) := by decide +kernel
theorem dX5_timers_117 : decode cX5_timers 117 = .ok (.ifCond .eq 16, 3) := by decide +kernel
theorem dX5_timers_120 : decode cX5_timers 120 = .ok (.aload_n 0, 1) := by decide +kernel
theorem dX5_timers_121 : decode cX5_timers 121 = .ok (.getfield 30, 3) := by decide +kernel
theorem dX5_timers_124 : decode cX5_timers 124 = .ok (.iconst 3, 1) := by decide +kernel
theorem dX5_timers_125 : decode cX5_timers 125 = .ok (.iconst 1, 1) := by decide +kernel
theorem dX5_timers_126 : decode cX5_timers 126 = .ok (.invokevirtual 96, 3) := by decide +kernel
theorem dX5_timers_129 : decode cX5_timers 129 = .ok (.aload_n 0, 1) := by decide +kernel
theorem dX5_timers_130 : decode cX5_timers 130 = .ok (.invokevirtual 108, 3) := by decide +kernel
theorem dX5_timers_133 : decode cX5_timers 133 = .ok (.iload_n 2, 1) := by decide +kernel
theorem dX5_timers_134 : decode cX5_timers 134 = .ok (.ireturn, 1) := by decide +kernel
theorem dX5_poll_0 : decode cX5_poll 0 = .ok (.aload_n 0, 1) := by decide +kernel
theorem dX5_poll_1 : decode cX5_poll 1 = .ok (.dup, 1) := by decide +kernel
theorem dX5_poll_2 : decode cX5_poll 2 = .ok (.getfield 43, 3) := by decide +kernel
theorem dX5_poll_5 : decode cX5_poll 5 = .ok (.iconst 1, 1) := by decide +kernel
theorem dX5_poll_6 : decode cX5_poll 6 = .ok (.iadd, 1) := by decide +kernel
theorem dX5_poll_7 : decode cX5_poll 7 = .ok (.putfield 43, 3) := by decide +kernel
theorem dX5_poll_10 : decode cX5_poll 10 = .ok (.aload_n 0, 1) := by decide +kernel
theorem dX5_poll_11 : decode cX5_poll 11 = .ok (.iconst 0, 1) := by decide +kernel
theorem dX5_poll_12 : decode cX5_poll 12 = .ok (.putfield 69, 3) := by decide +kernel
theorem dX5_poll_15 : decode cX5_poll 15 = .ok (.aload_n 0, 1) := by decide +kernel
theorem dX5_poll_16 : decode cX5_poll 16 = .ok (.iload_n 1, 1) := by decide +kernel
theorem dX5_poll_17 : decode cX5_poll 17 = .ok (.putfield 78, 3) := by decide +kernel
theorem dX5_poll_20 : decode cX5_poll 20 = .ok (.aload_n 0, 1) := by decide +kernel
theorem dX5_poll_21 : decode cX5_poll 21 = .ok (.getfield 30, 3) := by decide +kernel
theorem dX5_poll_24 : decode cX5_poll 24 = .ok (.aload_n 0, 1) := by decide +kernel
theorem dX5_poll_25 : decode cX5_poll 25 = .ok (.getfield 43, 3) := by decide +kernel
theorem dX5_poll_28 : decode cX5_poll 28 = .ok (.invokevirtual 102, 3) := by decide +kernel
theorem dX5_poll_31 : decode cX5_poll 31 = .ok (.aload_n 0, 1) := by decide +kernel
theorem dX5_poll_32 : decode cX5_poll 32 = .ok (.getfield 30, 3) := by decide +kernel
theorem dX5_poll_35 : decode cX5_poll 35 = .ok (.bipush 10, 2) := by decide +kernel
theorem dX5_poll_37 : decode cX5_poll 37 = .ok (.aload_n 0, 1) := by decide +kernel
theorem dX5_poll_38 : decode cX5_poll 38 = .ok (.getfield 34, 3) := by decide +kernel
theorem dX5_poll_41 : decode cX5_poll 41 = .ok (.invokevirtual 96, 3) := by decide +kernel
theorem dX5_poll_44 : decode cX5_poll 44 = .ok (.return_, 1) := by decide +kernel
theorem dX5_turn_0 : decode cX5_turn 0 = .ok (.aload_n 0, 1) := by decide +kernel
theorem dX5_turn_1 : decode cX5_turn 1 = .ok (.getfield 26, 3) := by decide +kernel
theorem dX5_turn_4 : decode cX5_turn 4 = .ok (.ifCond .ne 20, 3) := by decide +kernel
theorem dX5_turn_7 : decode cX5_turn 7 = .ok (.aload_n 0, 1) := by decide +kernel
theorem dX5_turn_8 : decode cX5_turn 8 = .ok (.getfield 16, 3) := by decide +kernel
theorem dX5_turn_11 : decode cX5_turn 11 = .ok (.getfield 55, 3) := by decide +kernel
theorem dX5_turn_14 : decode cX5_turn 14 = .ok (.ifCond .le 10, 3) := by decide +kernel
theorem dX5_turn_17 : decode cX5_turn 17 = .ok (.aload_n 0, 1) := by decide +kernel
theorem dX5_turn_18 : decode cX5_turn 18 = .ok (.iconst 1, 1) := by decide +kernel
theorem dX5_turn_19 : decode cX5_turn 19 = .ok (.iconst 1, 1) := by decide +kernel
theorem dX5_turn_20 : decode cX5_turn 20 = .ok (.iload_n 1, 1) := by decide +kernel
theorem dX5_turn_21 : decode cX5_turn 21 = .ok (.invokevirtual 111, 3) := by decide +kernel
theorem dX5_turn_24 : decode cX5_turn 24 = .ok (.aload_n 0, 1) := by decide +kernel
theorem dX5_turn_25 : decode cX5_turn 25 = .ok (.getfield 26, 3) := by decide +kernel
theorem dX5_turn_28 : decode cX5_turn 28 = .ok (.iconst 2, 1) := by decide +kernel
theorem dX5_turn_29 : decode cX5_turn 29 = .ok (.if_icmp .eq 4, 3) := by decide +kernel
theorem dX5_turn_32 : decode cX5_turn 32 = .ok (.return_, 1) := by decide +kernel
theorem dX5_turn_33 : decode cX5_turn 33 = .ok (.aload_n 0, 1) := by decide +kernel
theorem dX5_turn_34 : decode cX5_turn 34 = .ok (.getfield 37, 3) := by decide +kernel
theorem dX5_turn_37 : decode cX5_turn 37 = .ok (.istore_n 2, 1) := by decide +kernel
theorem dX5_turn_38 : decode cX5_turn 38 = .ok (.iload_n 2, 1) := by decide +kernel
theorem dX5_turn_39 : decode cX5_turn 39 = .ok (.aload_n 0, 1) := by decide +kernel
theorem dX5_turn_40 : decode cX5_turn 40 = .ok (.getfield 34, 3) := by decide +kernel
theorem dX5_turn_43 : decode cX5_turn 43 = .ok (.if_icmp .ge 37, 3) := by decide +kernel
theorem dX5_turn_46 : decode cX5_turn 46 = .ok (.aload_n 0, 1) := by decide +kernel
theorem dX5_turn_47 : decode cX5_turn 47 = .ok (.getfield 20, 3) := by decide +kernel
theorem dX5_turn_50 : decode cX5_turn 50 = .ok (.getfield 115, 3) := by decide +kernel
theorem dX5_turn_53 : decode cX5_turn 53 = .ok (.iload_n 2, 1) := by decide +kernel
theorem dX5_turn_54 : decode cX5_turn 54 = .ok (.bipush 8, 2) := by decide +kernel
theorem dX5_turn_56 : decode cX5_turn 56 = .ok (.irem, 1) := by decide +kernel
theorem dX5_turn_57 : decode cX5_turn 57 = .ok (.baload, 1) := by decide +kernel
theorem dX5_turn_58 : decode cX5_turn 58 = .ok (.ifCond .eq 16, 3) := by decide +kernel
theorem dX5_turn_61 : decode cX5_turn 61 = .ok (.aload_n 0, 1) := by decide +kernel
theorem dX5_turn_62 : decode cX5_turn 62 = .ok (.iload_n 2, 1) := by decide +kernel
theorem dX5_turn_63 : decode cX5_turn 63 = .ok (.invokevirtual 119, 3) := by decide +kernel
theorem dX5_turn_66 : decode cX5_turn 66 = .ok (.ifCond .eq 8, 3) := by decide +kernel
theorem dX5_turn_69 : decode cX5_turn 69 = .ok (.aload_n 0, 1) := by decide +kernel
theorem dX5_turn_70 : decode cX5_turn 70 = .ok (.iload_n 1, 1) := by decide +kernel
theorem dX5_turn_71 : decode cX5_turn 71 = .ok (.invokevirtual 105, 3) := by decide +kernel
theorem dX5_turn_74 : decode cX5_turn 74 = .ok (.iinc 2 1, 3) := by decide +kernel
theorem dX5_turn_77 : decode cX5_turn 77 = .ok (.goto (-39), 3) := by decide +kernel
theorem dX5_turn_80 : decode cX5_turn 80 = .ok (.iconst 0, 1) := by decide +kernel
theorem dX5_turn_81 : decode cX5_turn 81 = .ok (.istore_n 2, 1) := by decide +kernel
theorem dX5_turn_82 : decode cX5_turn 82 = .ok (.iload_n 2, 1) := by decide +kernel
theorem dX5_turn_83 : decode cX5_turn 83 = .ok (.bipush 10, 2) := by decide +kernel
theorem dX5_turn_85 : decode cX5_turn 85 = .ok (.if_icmp .ge 121, 3) := by decide +kernel
theorem dX5_turn_88 : decode cX5_turn 88 = .ok (.aload_n 0, 1) := by decide +kernel
theorem dX5_turn_89 : decode cX5_turn 89 = .ok (.getfield 16, 3) := by decide +kernel
theorem dX5_turn_92 : decode cX5_turn 92 = .ok (.getfield 55, 3) := by decide +kernel
theorem dX5_turn_95 : decode cX5_turn 95 = .ok (.ifCond .le 111, 3) := by decide +kernel
theorem dX5_turn_98 : decode cX5_turn 98 = .ok (.aload_n 0, 1) := by decide +kernel
theorem dX5_turn_99 : decode cX5_turn 99 = .ok (.getfield 34, 3) := by decide +kernel
theorem dX5_turn_102 : decode cX5_turn 102 = .ok (.aload_n 0, 1) := by decide +kernel
theorem dX5_turn_103 : decode cX5_turn 103 = .ok (.getfield 40, 3) := by decide +kernel
theorem dX5_turn_106 : decode cX5_turn 106 = .ok (.if_icmp .ge 100, 3) := by decide +kernel
theorem dX5_turn_109 : decode cX5_turn 109 = .ok (.aload_n 0, 1) := by decide +kernel
theorem dX5_turn_110 : decode cX5_turn 110 = .ok (.getfield 34, 3) := by decide +kernel
theorem dX5_turn_113 : decode cX5_turn 113 = .ok (.aload_n 0, 1) := by decide +kernel
theorem dX5_turn_114 : decode cX5_turn 114 = .ok (.getfield 37, 3) := by decide +kernel
theorem dX5_turn_117 : decode cX5_turn 117 = .ok (.isub, 1) := by decide +kernel
theorem dX5_turn_118 : decode cX5_turn 118 = .ok (.bipush 8, 2) := by decide +kernel
theorem dX5_turn_120 : decode cX5_turn 120 = .ok (.if_icmp .ge 86, 3) := by decide +kernel
theorem dX5_turn_123 : decode cX5_turn 123 = .ok (.aload_n 0, 1) := by decide +kernel
theorem dX5_turn_124 : decode cX5_turn 124 = .ok (.getfield 16, 3) := by decide +kernel
theorem dX5_turn_127 : decode cX5_turn 127 = .ok (.getfield 123, 3) := by decide +kernel
theorem dX5_turn_130 : decode cX5_turn 130 = .ok (.istore_n 3, 1) := by decide +kernel
theorem dX5_turn_131 : decode cX5_turn 131 = .ok (.aload_n 0, 1) := by decide +kernel
theorem dX5_turn_132 : decode cX5_turn 132 = .ok (.getfield 20, 3) := by decide +kernel
theorem dX5_turn_135 : decode cX5_turn 135 = .ok (.aload_n 0, 1) := by decide +kernel
theorem dX5_turn_136 : decode cX5_turn 136 = .ok (.getfield 34, 3) := by decide +kernel
theorem dX5_turn_139 : decode cX5_turn 139 = .ok (.bipush 8, 2) := by decide +kernel
theorem dX5_turn_141 : decode cX5_turn 141 = .ok (.irem, 1) := by decide +kernel
theorem dX5_turn_142 : decode cX5_turn 142 = .ok (.aload_n 0, 1) := by decide +kernel
theorem dX5_turn_143 : decode cX5_turn 143 = .ok (.getfield 16, 3) := by decide +kernel
theorem dX5_turn_146 : decode cX5_turn 146 = .ok (.getfield 126, 3) := by decide +kernel
theorem dX5_turn_149 : decode cX5_turn 149 = .ok (.iload_n 3, 1) := by decide +kernel
theorem dX5_turn_150 : decode cX5_turn 150 = .ok (.bipush 60, 2) := by decide +kernel
theorem dX5_turn_152 : decode cX5_turn 152 = .ok (.imul, 1) := by decide +kernel
theorem dX5_turn_153 : decode cX5_turn 153 = .ok (.aload_n 0, 1) := by decide +kernel
theorem dX5_turn_154 : decode cX5_turn 154 = .ok (.getfield 16, 3) := by decide +kernel
theorem dX5_turn_157 : decode cX5_turn 157 = .ok (.getfield 65, 3) := by decide +kernel
theorem dX5_turn_160 : decode cX5_turn 160 = .ok (.iload_n 3, 1) := by decide +kernel
theorem dX5_turn_161 : decode cX5_turn 161 = .ok (.iaload, 1) := by decide +kernel
theorem dX5_turn_162 : decode cX5_turn 162 = .ok (.invokevirtual 129, 3) := by decide +kernel
theorem dX5_turn_165 : decode cX5_turn 165 = .ok (.aload_n 0, 1) := by decide +kernel
theorem dX5_turn_166 : decode cX5_turn 166 = .ok (.getfield 16, 3) := by decide +kernel
theorem dX5_turn_169 : decode cX5_turn 169 = .ok (.invokevirtual 133, 3) := by decide +kernel
theorem dX5_turn_172 : decode cX5_turn 172 = .ok (.aload_n 0, 1) := by decide +kernel
theorem dX5_turn_173 : decode cX5_turn 173 = .ok (.dup, 1) := by decide +kernel
theorem dX5_turn_174 : decode cX5_turn 174 = .ok (.getfield 34, 3) := by decide +kernel
theorem dX5_turn_177 : decode cX5_turn 177 = .ok (.iconst 1, 1) := by decide +kernel
theorem dX5_turn_178 : decode cX5_turn 178 = .ok (.iadd, 1) := by decide +kernel
theorem dX5_turn_179 : decode cX5_turn 179 = .ok (.putfield 34, 3) := by decide +kernel
theorem dX5_turn_182 : decode cX5_turn 182 = .ok (.aload_n 0, 1) := by decide +kernel
theorem dX5_turn_183 : decode cX5_turn 183 = .ok (.aload_n 0, 1) := by decide +kernel
theorem dX5_turn_184 : decode cX5_turn 184 = .ok (.getfield 34, 3) := by decide +kernel
theorem dX5_turn_187 : decode cX5_turn 187 = .ok (.iconst 1, 1) := by decide +kernel
theorem dX5_turn_188 : decode cX5_turn 188 = .ok (.isub, 1) := by decide +kernel
theorem dX5_turn_189 : decode cX5_turn 189 = .ok (.invokevirtual 119, 3) := by decide +kernel
theorem dX5_turn_192 : decode cX5_turn 192 = .ok (.ifCond .eq 8, 3) := by decide +kernel
theorem dX5_turn_195 : decode cX5_turn 195 = .ok (.aload_n 0, 1) := by decide +kernel
theorem dX5_turn_196 : decode cX5_turn 196 = .ok (.iload_n 1, 1) := by decide +kernel
theorem dX5_turn_197 : decode cX5_turn 197 = .ok (.invokevirtual 105, 3) := by decide +kernel
theorem dX5_turn_200 : decode cX5_turn 200 = .ok (.iinc 2 1, 3) := by decide +kernel
theorem dX5_turn_203 : decode cX5_turn 203 = .ok (.goto (-121), 3) := by decide +kernel
theorem dX5_turn_206 : decode cX5_turn 206 = .ok (.return_, 1) := by decide +kernel
theorem dX5_sendData_0 : decode cX5_sendData 0 = .ok (.iload_n 1, 1) := by decide +kernel
theorem dX5_sendData_1 : decode cX5_sendData 1 = .ok (.bipush 8, 2) := by decide +kernel
theorem dX5_sendData_3 : decode cX5_sendData 3 = .ok (.irem, 1) := by decide +kernel
theorem dX5_sendData_4 : decode cX5_sendData 4 = .ok (.istore_n 2, 1) := by decide +kernel
theorem dX5_sendData_5 : decode cX5_sendData 5 = .ok (.aload_n 0, 1) := by decide +kernel
theorem dX5_sendData_6 : decode cX5_sendData 6 = .ok (.getfield 20, 3) := by decide +kernel
theorem dX5_sendData_9 : decode cX5_sendData 9 = .ok (.getfield 136, 3) := by decide +kernel
theorem dX5_sendData_12 : decode cX5_sendData 12 = .ok (.iload_n 2, 1) := by decide +kernel
theorem dX5_sendData_13 : decode cX5_sendData 13 = .ok (.aload_n 0, 1) := by decide +kernel
theorem dX5_sendData_14 : decode cX5_sendData 14 = .ok (.getfield 43, 3) := by decide +kernel
theorem dX5_sendData_17 : decode cX5_sendData 17 = .ok (.iastore, 1) := by decide +kernel
theorem dX5_sendData_18 : decode cX5_sendData 18 = .ok (.aload_n 0, 1) := by decide +kernel
theorem dX5_sendData_19 : decode cX5_sendData 19 = .ok (.getfield 20, 3) := by decide +kernel
theorem dX5_sendData_22 : decode cX5_sendData 22 = .ok (.getfield 115, 3) := by decide +kernel
theorem dX5_sendData_25 : decode cX5_sendData 25 = .ok (.iload_n 2, 1) := by decide +kernel
theorem dX5_sendData_26 : decode cX5_sendData 26 = .ok (.iconst 0, 1) := by decide +kernel
theorem dX5_sendData_27 : decode cX5_sendData 27 = .ok (.bastore, 1) := by decide +kernel
theorem dX5_sendData_28 : decode cX5_sendData 28 = .ok (.aload_n 0, 1) := by decide +kernel
theorem dX5_sendData_29 : decode cX5_sendData 29 = .ok (.dup, 1) := by decide +kernel
theorem dX5_sendData_30 : decode cX5_sendData 30 = .ok (.getfield 69, 3) := by decide +kernel
theorem dX5_sendData_33 : decode cX5_sendData 33 = .ok (.iconst 1, 1) := by decide +kernel
theorem dX5_sendData_34 : decode cX5_sendData 34 = .ok (.iadd, 1) := by decide +kernel
theorem dX5_sendData_35 : decode cX5_sendData 35 = .ok (.putfield 69, 3) := by decide +kernel
theorem dX5_sendData_38 : decode cX5_sendData 38 = .ok (.aload_n 0, 1) := by decide +kernel
theorem dX5_sendData_39 : decode cX5_sendData 39 = .ok (.getfield 30, 3) := by decide +kernel
theorem dX5_sendData_42 : decode cX5_sendData 42 = .ok (.aload_n 0, 1) := by decide +kernel
theorem dX5_sendData_43 : decode cX5_sendData 43 = .ok (.getfield 20, 3) := by decide +kernel
theorem dX5_sendData_46 : decode cX5_sendData 46 = .ok (.getfield 126, 3) := by decide +kernel
theorem dX5_sendData_49 : decode cX5_sendData 49 = .ok (.iload_n 2, 1) := by decide +kernel
theorem dX5_sendData_50 : decode cX5_sendData 50 = .ok (.bipush 60, 2) := by decide +kernel
theorem dX5_sendData_52 : decode cX5_sendData 52 = .ok (.imul, 1) := by decide +kernel
theorem dX5_sendData_53 : decode cX5_sendData 53 = .ok (.aload_n 0, 1) := by decide +kernel
theorem dX5_sendData_54 : decode cX5_sendData 54 = .ok (.getfield 20, 3) := by decide +kernel
theorem dX5_sendData_57 : decode cX5_sendData 57 = .ok (.getfield 65, 3) := by decide +kernel
theorem dX5_sendData_60 : decode cX5_sendData 60 = .ok (.iload_n 2, 1) := by decide +kernel
theorem dX5_sendData_61 : decode cX5_sendData 61 = .ok (.iaload, 1) := by decide +kernel
theorem dX5_sendData_62 : decode cX5_sendData 62 = .ok (.invokevirtual 139, 3) := by decide +kernel
theorem dX5_sendData_65 : decode cX5_sendData 65 = .ok (.aload_n 0, 1) := by decide +kernel
theorem dX5_sendData_66 : decode cX5_sendData 66 = .ok (.getfield 30, 3) := by decide +kernel
theorem dX5_sendData_69 : decode cX5_sendData 69 = .ok (.bipush 8, 2) := by decide +kernel
theorem dX5_sendData_71 : decode cX5_sendData 71 = .ok (.iload_n 1, 1) := by decide +kernel
theorem dX5_sendData_72 : decode cX5_sendData 72 = .ok (.invokevirtual 96, 3) := by decide +kernel
theorem dX5_sendData_75 : decode cX5_sendData 75 = .ok (.aload_n 0, 1) := by decide +kernel
theorem dX5_sendData_76 : decode cX5_sendData 76 = .ok (.getfield 69, 3) := by decide +kernel
theorem dX5_sendData_79 : decode cX5_sendData 79 = .ok (.iconst 5, 1) := by decide +kernel
theorem dX5_sendData_80 : decode cX5_sendData 80 = .ok (.if_icmp .lt 7, 3) := by decide +kernel
theorem dX5_sendData_83 : decode cX5_sendData 83 = .ok (.iconst 1, 1) := by decide +kernel
theorem dX5_sendData_84 : decode cX5_sendData 84 = .ok (.goto 4, 3) := by decide +kernel
theorem dX5_sendData_87 : decode cX5_sendData 87 = .ok (.iconst 0, 1) := by decide +kernel
theorem dX5_sendData_88 : decode cX5_sendData 88 = .ok (.ireturn, 1) := by decide +kernel
theorem dX5_unitCame_0 : decode cX5_unitCame 0 = .ok (.aload_n 1, 1) := by decide +kernel
theorem dX5_unitCame_1 : decode cX5_unitCame 1 = .ok (.iload_n 2, 1) := by decide +kernel
theorem dX5_unitCame_2 : decode cX5_unitCame 2 = .ok (.invokestatic 143, 3) := by decide +kernel
theorem dX5_unitCame_5 : decode cX5_unitCame 5 = .ok (.ifCond .ne 5, 3) := by decide +kernel
theorem dX5_unitCame_8 : decode cX5_unitCame 8 = .ok (.iconst 0, 1) := by decide +kernel
theorem dX5_unitCame_9 : decode cX5_unitCame 9 = .ok (.ireturn, 1) := by decide +kernel
theorem dX5_unitCame_10 : decode cX5_unitCame 10 = .ok (.aload_n 1, 1) := by decide +kernel
theorem dX5_unitCame_11 : decode cX5_unitCame 11 = .ok (.iload_n 2, 1) := by decide +kernel
theorem dX5_unitCame_12 : decode cX5_unitCame 12 = .ok (.iconst 4, 1) := by decide +kernel
theorem dX5_unitCame_13 : decode cX5_unitCame 13 = .ok (.isub, 1) := by decide +kernel
theorem dX5_unitCame_14 : decode cX5_unitCame 14 = .ok (.invokestatic 147, 3) := by decide +kernel
theorem dX5_unitCame_17 : decode cX5_unitCame 17 = .ok (.istore 4, 2) := by decide +kernel
theorem dX5_unitCame_19 : decode cX5_unitCame 19 = .ok (.iload 4, 2) := by decide +kernel
theorem dX5_unitCame_21 : decode cX5_unitCame 21 = .ok (.bipush 24, 2) := by decide +kernel
theorem dX5_unitCame_23 : decode cX5_unitCame 23 = .ok (.iushr, 1) := by decide +kernel
theorem dX5_unitCame_24 : decode cX5_unitCame 24 = .ok (.istore 5, 2) := by decide +kernel
theorem dX5_unitCame_26 : decode cX5_unitCame 26 = .ok (.iload 4, 2) := by decide +kernel
theorem dX5_unitCame_28 : decode cX5_unitCame 28 = .ok (.ldc 151, 2) := by decide +kernel
theorem dX5_unitCame_30 : decode cX5_unitCame 30 = .ok (.iand, 1) := by decide +kernel
theorem dX5_unitCame_31 : decode cX5_unitCame 31 = .ok (.istore 6, 2) := by decide +kernel
theorem dX5_unitCame_33 : decode cX5_unitCame 33 = .ok (.iload 5, 2) := by decide +kernel
theorem dX5_unitCame_35 : decode cX5_unitCame 35 = .ok (.tableswitch 106 1 15 #[73, 97, 81, 97, 86, 97, 106, 106, 86, 106, 106, 106, 106, 106, 97], 73) := by decide +kernel
theorem dX5_unitCame_108 : decode cX5_unitCame 108 = .ok (.aload_n 0, 1) := by decide +kernel
theorem dX5_unitCame_109 : decode cX5_unitCame 109 = .ok (.iload 6, 2) := by decide +kernel
theorem dX5_unitCame_111 : decode cX5_unitCame 111 = .ok (.iload_n 3, 1) := by decide +kernel
theorem dX5_unitCame_112 : decode cX5_unitCame 112 = .ok (.invokevirtual 152, 3) := by decide +kernel
theorem dX5_unitCame_115 : decode cX5_unitCame 115 = .ok (.ireturn, 1) := by decide +kernel
theorem dX5_unitCame_116 : decode cX5_unitCame 116 = .ok (.aload_n 0, 1) := by decide +kernel
theorem dX5_unitCame_117 : decode cX5_unitCame 117 = .ok (.invokevirtual 156, 3) := by decide +kernel
theorem dX5_unitCame_120 : decode cX5_unitCame 120 = .ok (.ireturn, 1) := by decide +kernel
theorem dX5_unitCame_121 : decode cX5_unitCame 121 = .ok (.aload_n 0, 1) := by decide +kernel
theorem dX5_unitCame_122 : decode cX5_unitCame 122 = .ok (.iload 5, 2) := by decide +kernel
theorem dX5_unitCame_124 : decode cX5_unitCame 124 = .ok (.iload 6, 2) := by decide +kernel
theorem dX5_unitCame_126 : decode cX5_unitCame 126 = .ok (.iload_n 3, 1) := by decide +kernel
theorem dX5_unitCame_127 : decode cX5_unitCame 127 = .ok (.invokevirtual 159, 3) := by decide +kernel
theorem dX5_unitCame_130 : decode cX5_unitCame 130 = .ok (.iconst 0, 1) := by decide +kernel
theorem dX5_unitCame_131 : decode cX5_unitCame 131 = .ok (.ireturn, 1) := by decide +kernel
theorem dX5_unitCame_132 : decode cX5_unitCame 132 = .ok (.aload_n 0, 1) := by decide +kernel
theorem dX5_unitCame_133 : decode cX5_unitCame 133 = .ok (.iload 5, 2) := by decide +kernel
theorem dX5_unitCame_135 : decode cX5_unitCame 135 = .ok (.iload_n 3, 1) := by decide +kernel
theorem dX5_unitCame_136 : decode cX5_unitCame 136 = .ok (.invokevirtual 162, 3) := by decide +kernel
theorem dX5_unitCame_139 : decode cX5_unitCame 139 = .ok (.iconst 0, 1) := by decide +kernel
theorem dX5_unitCame_140 : decode cX5_unitCame 140 = .ok (.ireturn, 1) := by decide +kernel
theorem dX5_unitCame_141 : decode cX5_unitCame 141 = .ok (.aload_n 0, 1) := by decide +kernel
theorem dX5_unitCame_142 : decode cX5_unitCame 142 = .ok (.getfield 26, 3) := by decide +kernel
theorem dX5_unitCame_145 : decode cX5_unitCame 145 = .ok (.iconst 2, 1) := by decide +kernel
theorem dX5_unitCame_146 : decode cX5_unitCame 146 = .ok (.if_icmp .eq 5, 3) := by decide +kernel
theorem dX5_unitCame_149 : decode cX5_unitCame 149 = .ok (.iconst 0, 1) := by decide +kernel
theorem dX5_unitCame_150 : decode cX5_unitCame 150 = .ok (.ireturn, 1) := by decide +kernel
theorem dX5_unitCame_151 : decode cX5_unitCame 151 = .ok (.iload 5, 2) := by decide +kernel
theorem dX5_unitCame_153 : decode cX5_unitCame 153 = .ok (.tableswitch 79 8 11 #[31, 79, 43, 56], 31) := by decide +kernel
theorem dX5_unitCame_184 : decode cX5_unitCame 184 = .ok (.aload_n 0, 1) := by decide +kernel
theorem dX5_unitCame_185 : decode cX5_unitCame 185 = .ok (.aload_n 1, 1) := by decide +kernel
theorem dX5_unitCame_186 : decode cX5_unitCame 186 = .ok (.iload_n 2, 1) := by decide +kernel
theorem dX5_unitCame_187 : decode cX5_unitCame 187 = .ok (.iconst 4, 1) := by decide +kernel
theorem dX5_unitCame_188 : decode cX5_unitCame 188 = .ok (.isub, 1) := by decide +kernel
theorem dX5_unitCame_189 : decode cX5_unitCame 189 = .ok (.iload 6, 2) := by decide +kernel
theorem dX5_unitCame_191 : decode cX5_unitCame 191 = .ok (.invokevirtual 165, 3) := by decide +kernel
theorem dX5_unitCame_194 : decode cX5_unitCame 194 = .ok (.iconst 0, 1) := by decide +kernel
theorem dX5_unitCame_195 : decode cX5_unitCame 195 = .ok (.ireturn, 1) := by decide +kernel
theorem dX5_unitCame_196 : decode cX5_unitCame 196 = .ok (.aload_n 0, 1) := by decide +kernel
theorem dX5_unitCame_197 : decode cX5_unitCame 197 = .ok (.aload_n 1, 1) := by decide +kernel
theorem dX5_unitCame_198 : decode cX5_unitCame 198 = .ok (.iconst 0, 1) := by decide +kernel
theorem dX5_unitCame_199 : decode cX5_unitCame 199 = .ok (.invokestatic 147, 3) := by decide +kernel
theorem dX5_unitCame_202 : decode cX5_unitCame 202 = .ok (.iload 6, 2) := by decide +kernel
theorem dX5_unitCame_204 : decode cX5_unitCame 204 = .ok (.invokevirtual 168, 3) := by decide +kernel
theorem dX5_unitCame_207 : decode cX5_unitCame 207 = .ok (.iconst 0, 1) := by decide +kernel
theorem dX5_unitCame_208 : decode cX5_unitCame 208 = .ok (.ireturn, 1) := by decide +kernel
theorem dX5_unitCame_209 : decode cX5_unitCame 209 = .ok (.aload_n 0, 1) := by decide +kernel
theorem dX5_unitCame_210 : decode cX5_unitCame 210 = .ok (.aload_n 1, 1) := by decide +kernel
theorem dX5_unitCame_211 : decode cX5_unitCame 211 = .ok (.iload_n 2, 1) := by decide +kernel
theorem dX5_unitCame_212 : decode cX5_unitCame 212 = .ok (.bipush 12, 2) := by decide +kernel
theorem dX5_unitCame_214 : decode cX5_unitCame 214 = .ok (.isub, 1) := by decide +kernel
theorem dX5_unitCame_215 : decode cX5_unitCame 215 = .ok (.iconst 4, 1) := by decide +kernel
theorem dX5_unitCame_216 : decode cX5_unitCame 216 = .ok (.idiv, 1) := by decide +kernel
theorem dX5_unitCame_217 : decode cX5_unitCame 217 = .ok (.iload 6, 2) := by decide +kernel
theorem dX5_unitCame_219 : decode cX5_unitCame 219 = .ok (.iload_n 3, 1) := by decide +kernel
theorem dX5_unitCame_220 : decode cX5_unitCame 220 = .ok (.invokevirtual 171, 3) := by decide +kernel
theorem dX5_unitCame_223 : decode cX5_unitCame 223 = .ok (.ifCond .eq 7, 3) := by decide +kernel
theorem dX5_unitCame_226 : decode cX5_unitCame 226 = .ok (.iconst 0, 1) := by decide +kernel
theorem dX5_unitCame_227 : decode cX5_unitCame 227 = .ok (.goto 4, 3) := by decide +kernel
theorem dX5_unitCame_230 : decode cX5_unitCame 230 = .ok (.iconst 2, 1) := by decide +kernel
theorem dX5_unitCame_231 : decode cX5_unitCame 231 = .ok (.ireturn, 1) := by decide +kernel
theorem dX5_unitCame_232 : decode cX5_unitCame 232 = .ok (.aload_n 0, 1) := by decide +kernel
theorem dX5_unitCame_233 : decode cX5_unitCame 233 = .ok (.aload_n 1, 1) := by decide +kernel
theorem dX5_unitCame_234 : decode cX5_unitCame 234 = .ok (.iconst 0, 1) := by decide +kernel
theorem dX5_unitCame_235 : decode cX5_unitCame 235 = .ok (.invokestatic 147, 3) := by decide +kernel
theorem dX5_unitCame_238 : decode cX5_unitCame 238 = .ok (.aload_n 1, 1) := by decide +kernel
theorem dX5_unitCame_239 : decode cX5_unitCame 239 = .ok (.iconst 4, 1) := by decide +kernel
theorem dX5_unitCame_240 : decode cX5_unitCame 240 = .ok (.invokestatic 147, 3) := by decide +kernel
theorem dX5_unitCame_243 : decode cX5_unitCame 243 = .ok (.iload 6, 2) := by decide +kernel
theorem dX5_unitCame_245 : decode cX5_unitCame 245 = .ok (.invokevirtual 175, 3) := by decide +kernel
theorem dX5_unitCame_248 : decode cX5_unitCame 248 = .ok (.ifCond .eq 7, 3) := by decide +kernel
theorem dX5_unitCame_251 : decode cX5_unitCame 251 = .ok (.iconst 0, 1) := by decide +kernel
theorem dX5_unitCame_252 : decode cX5_unitCame 252 = .ok (.goto 4, 3) := by decide +kernel
theorem dX5_unitCame_255 : decode cX5_unitCame 255 = .ok (.iconst 2, 1) := by decide +kernel
theorem dX5_unitCame_256 : decode cX5_unitCame 256 = .ok (.ireturn, 1) := by decide +kernel
theorem dX5_isUnit_0 : decode cX5_isUnit 0 = .ok (.iload_n 1, 1) := by decide +kernel
theorem dX5_isUnit_1 : decode cX5_isUnit 1 = .ok (.iconst 4, 1) := by decide +kernel
theorem dX5_isUnit_2 : decode cX5_isUnit 2 = .ok (.if_icmp .lt 9, 3) := by decide +kernel
theorem dX5_isUnit_5 : decode cX5_isUnit 5 = .ok (.iload_n 1, 1) := by decide +kernel
theorem dX5_isUnit_6 : decode cX5_isUnit 6 = .ok (.aload_n 0, 1) := by decide +kernel
theorem dX5_isUnit_7 : decode cX5_isUnit 7 = .ok (.arraylength, 1) := by decide +kernel
theorem dX5_isUnit_8 : decode cX5_isUnit 8 = .ok (.if_icmp .le 5, 3) := by decide +kernel
theorem dX5_isUnit_11 : decode cX5_isUnit 11 = .ok (.iconst 0, 1) := by decide +kernel
theorem dX5_isUnit_12 : decode cX5_isUnit 12 = .ok (.ireturn, 1) := by decide +kernel
theorem dX5_isUnit_13 : decode cX5_isUnit 13 = .ok (.aload_n 0, 1) := by decide +kernel
theorem dX5_isUnit_14 : decode cX5_isUnit 14 = .ok (.iload_n 1, 1) := by decide +kernel
theorem dX5_isUnit_15 : decode cX5_isUnit 15 = .ok (.iconst 4, 1) := by decide +kernel
theorem dX5_isUnit_16 : decode cX5_isUnit 16 = .ok (.isub, 1) := by decide +kernel
theorem dX5_isUnit_17 : decode cX5_isUnit 17 = .ok (.invokestatic 147, 3) := by decide +kernel
theorem dX5_isUnit_20 : decode cX5_isUnit 20 = .ok (.istore_n 2, 1) := by decide +kernel
theorem dX5_isUnit_21 : decode cX5_isUnit 21 = .ok (.iload_n 2, 1) := by decide +kernel
theorem dX5_isUnit_22 : decode cX5_isUnit 22 = .ok (.ldc 151, 2) := by decide +kernel
theorem dX5_isUnit_24 : decode cX5_isUnit 24 = .ok (.iand, 1) := by decide +kernel
theorem dX5_isUnit_25 : decode cX5_isUnit 25 = .ok (.istore_n 3, 1) := by decide +kernel
theorem dX5_isUnit_26 : decode cX5_isUnit 26 = .ok (.aload_n 0, 1) := by decide +kernel
theorem dX5_isUnit_27 : decode cX5_isUnit 27 = .ok (.iload_n 1, 1) := by decide +kernel
theorem dX5_isUnit_28 : decode cX5_isUnit 28 = .ok (.bipush 8, 2) := by decide +kernel
theorem dX5_isUnit_30 : decode cX5_isUnit 30 = .ok (.isub, 1) := by decide +kernel
theorem dX5_isUnit_31 : decode cX5_isUnit 31 = .ok (.invokestatic 147, 3) := by decide +kernel
theorem dX5_isUnit_34 : decode cX5_isUnit 34 = .ok (.istore 4, 2) := by decide +kernel
theorem dX5_isUnit_36 : decode cX5_isUnit 36 = .ok (.iload_n 2, 1) := by decide +kernel
theorem dX5_isUnit_37 : decode cX5_isUnit 37 = .ok (.bipush 24, 2) := by decide +kernel
theorem dX5_isUnit_39 : decode cX5_isUnit 39 = .ok (.iushr, 1) := by decide +kernel
theorem dX5_isUnit_40 : decode cX5_isUnit 40 = .ok (.tableswitch 236 1 15 #[76, 99, 122, 138, 76, 99, 236, 153, 76, 170, 182, 215, 236, 236, 99], 76) := by decide +kernel
theorem dX5_isUnit_116 : decode cX5_isUnit 116 = .ok (.iload_n 1, 1) := by decide +kernel
theorem dX5_isUnit_117 : decode cX5_isUnit 117 = .ok (.bipush 8, 2) := by decide +kernel
theorem dX5_isUnit_119 : decode cX5_isUnit 119 = .ok (.if_icmp .ne 18, 3) := by decide +kernel
theorem dX5_isUnit_122 : decode cX5_isUnit 122 = .ok (.iload 4, 2) := by decide +kernel
theorem dX5_isUnit_124 : decode cX5_isUnit 124 = .ok (.bipush 8, 2) := by decide +kernel
theorem dX5_isUnit_126 : decode cX5_isUnit 126 = .ok (.if_icmp .ne 11, 3) := by decide +kernel
theorem dX5_isUnit_129 : decode cX5_isUnit 129 = .ok (.iload_n 3, 1) := by decide +kernel
theorem dX5_isUnit_130 : decode cX5_isUnit 130 = .ok (.ifCond .eq 7, 3) := by decide +kernel
theorem dX5_isUnit_133 : decode cX5_isUnit 133 = .ok (.iconst 1, 1) := by decide +kernel
theorem dX5_isUnit_134 : decode cX5_isUnit 134 = .ok (.goto 4, 3) := by decide +kernel
theorem dX5_isUnit_137 : decode cX5_isUnit 137 = .ok (.iconst 0, 1) := by decide +kernel
theorem dX5_isUnit_138 : decode cX5_isUnit 138 = .ok (.ireturn, 1) := by decide +kernel
theorem dX5_isUnit_139 : decode cX5_isUnit 139 = .ok (.iload_n 1, 1) := by decide +kernel
theorem dX5_isUnit_140 : decode cX5_isUnit 140 = .ok (.bipush 8, 2) := by decide +kernel
theorem dX5_isUnit_142 : decode cX5_isUnit 142 = .ok (.if_icmp .ne 18, 3) := by decide +kernel
theorem dX5_isUnit_145 : decode cX5_isUnit 145 = .ok (.iload 4, 2) := by decide +kernel
theorem dX5_isUnit_147 : decode cX5_isUnit 147 = .ok (.bipush 8, 2) := by decide +kernel
theorem dX5_isUnit_149 : decode cX5_isUnit 149 = .ok (.if_icmp .ne 11, 3) := by decide +kernel
theorem dX5_isUnit_152 : decode cX5_isUnit 152 = .ok (.iload_n 3, 1) := by decide +kernel
theorem dX5_isUnit_153 : decode cX5_isUnit 153 = .ok (.ifCond .ne 7, 3) := by decide +kernel
theorem dX5_isUnit_156 : decode cX5_isUnit 156 = .ok (.iconst 1, 1) := by decide +kernel
theorem dX5_isUnit_157 : decode cX5_isUnit 157 = .ok (.goto 4, 3) := by decide +kernel
theorem dX5_isUnit_160 : decode cX5_isUnit 160 = .ok (.iconst 0, 1) := by decide +kernel
theorem dX5_isUnit_161 : decode cX5_isUnit 161 = .ok (.ireturn, 1) := by decide +kernel
theorem dX5_isUnit_162 : decode cX5_isUnit 162 = .ok (.iload_n 1, 1) := by decide +kernel
theorem dX5_isUnit_163 : decode cX5_isUnit 163 = .ok (.iconst 4, 1) := by decide +kernel
theorem dX5_isUnit_164 : decode cX5_isUnit 164 = .ok (.if_icmp .ne 12, 3) := by decide +kernel
theorem dX5_isUnit_167 : decode cX5_isUnit 167 = .ok (.iload_n 3, 1) := by decide +kernel
theorem dX5_isUnit_168 : decode cX5_isUnit 168 = .ok (.iconst 1, 1) := by decide +kernel
theorem dX5_isUnit_169 : decode cX5_isUnit 169 = .ok (.if_icmp .gt 7, 3) := by decide +kernel
theorem dX5_isUnit_172 : decode cX5_isUnit 172 = .ok (.iconst 1, 1) := by decide +kernel
theorem dX5_isUnit_173 : decode cX5_isUnit 173 = .ok (.goto 4, 3) := by decide +kernel
theorem dX5_isUnit_176 : decode cX5_isUnit 176 = .ok (.iconst 0, 1) := by decide +kernel
theorem dX5_isUnit_177 : decode cX5_isUnit 177 = .ok (.ireturn, 1) := by decide +kernel
theorem dX5_isUnit_178 : decode cX5_isUnit 178 = .ok (.iload_n 1, 1) := by decide +kernel
theorem dX5_isUnit_179 : decode cX5_isUnit 179 = .ok (.iconst 4, 1) := by decide +kernel
theorem dX5_isUnit_180 : decode cX5_isUnit 180 = .ok (.if_icmp .ne 11, 3) := by decide +kernel
theorem dX5_isUnit_183 : decode cX5_isUnit 183 = .ok (.iload_n 3, 1) := by decide +kernel
theorem dX5_isUnit_184 : decode cX5_isUnit 184 = .ok (.ifCond .ne 7, 3) := by decide +kernel
theorem dX5_isUnit_187 : decode cX5_isUnit 187 = .ok (.iconst 1, 1) := by decide +kernel
theorem dX5_isUnit_188 : decode cX5_isUnit 188 = .ok (.goto 4, 3) := by decide +kernel
theorem dX5_isUnit_191 : decode cX5_isUnit 191 = .ok (.iconst 0, 1) := by decide +kernel
theorem dX5_isUnit_192 : decode cX5_isUnit 192 = .ok (.ireturn, 1) := by decide +kernel
theorem dX5_isUnit_193 : decode cX5_isUnit 193 = .ok (.iload_n 1, 1) := by decide +kernel
theorem dX5_isUnit_194 : decode cX5_isUnit 194 = .ok (.iconst 4, 1) := by decide +kernel
theorem dX5_isUnit_195 : decode cX5_isUnit 195 = .ok (.if_icmp .le 13, 3) := by decide +kernel
theorem dX5_isUnit_198 : decode cX5_isUnit 198 = .ok (.iload_n 1, 1) := by decide +kernel
theorem dX5_isUnit_199 : decode cX5_isUnit 199 = .ok (.bipush 64, 2) := by decide +kernel
theorem dX5_isUnit_201 : decode cX5_isUnit 201 = .ok (.if_icmp .gt 7, 3) := by decide +kernel
theorem dX5_isUnit_204 : decode cX5_isUnit 204 = .ok (.iconst 1, 1) := by decide +kernel
theorem dX5_isUnit_205 : decode cX5_isUnit 205 = .ok (.goto 4, 3) := by decide +kernel
theorem dX5_isUnit_208 : decode cX5_isUnit 208 = .ok (.iconst 0, 1) := by decide +kernel
theorem dX5_isUnit_209 : decode cX5_isUnit 209 = .ok (.ireturn, 1) := by decide +kernel
theorem dX5_isUnit_210 : decode cX5_isUnit 210 = .ok (.iload_n 1, 1) := by decide +kernel
theorem dX5_isUnit_211 : decode cX5_isUnit 211 = .ok (.bipush 8, 2) := by decide +kernel
theorem dX5_isUnit_213 : decode cX5_isUnit 213 = .ok (.if_icmp .ne 7, 3) := by decide +kernel
theorem dX5_isUnit_216 : decode cX5_isUnit 216 = .ok (.iconst 1, 1) := by decide +kernel
theorem dX5_isUnit_217 : decode cX5_isUnit 217 = .ok (.goto 4, 3) := by decide +kernel
theorem dX5_isUnit_220 : decode cX5_isUnit 220 = .ok (.iconst 0, 1) := by decide +kernel
theorem dX5_isUnit_221 : decode cX5_isUnit 221 = .ok (.ireturn, 1) := by decide +kernel
theorem dX5_isUnit_222 : decode cX5_isUnit 222 = .ok (.iload_n 1, 1) := by decide +kernel
theorem dX5_isUnit_223 : decode cX5_isUnit 223 = .ok (.bipush 12, 2) := by decide +kernel
theorem dX5_isUnit_225 : decode cX5_isUnit 225 = .ok (.if_icmp .lt 28, 3) := by decide +kernel
theorem dX5_isUnit_228 : decode cX5_isUnit 228 = .ok (.iload_n 1, 1) := by decide +kernel
theorem dX5_isUnit_229 : decode cX5_isUnit 229 = .ok (.bipush 60, 2) := by decide +kernel
theorem dX5_isUnit_231 : decode cX5_isUnit 231 = .ok (.if_icmp .gt 22, 3) := by decide +kernel
theorem dX5_isUnit_234 : decode cX5_isUnit 234 = .ok (.iload_n 1, 1) := by decide +kernel
theorem dX5_isUnit_235 : decode cX5_isUnit 235 = .ok (.iconst 4, 1) := by decide +kernel
theorem dX5_isUnit_236 : decode cX5_isUnit 236 = .ok (.irem, 1) := by decide +kernel
theorem dX5_isUnit_237 : decode cX5_isUnit 237 = .ok (.ifCond .ne 16, 3) := by decide +kernel
theorem dX5_isUnit_240 : decode cX5_isUnit 240 = .ok (.iload 4, 2) := by decide +kernel
theorem dX5_isUnit_242 : decode cX5_isUnit 242 = .ok (.iload_n 3, 1) := by decide +kernel
theorem dX5_isUnit_243 : decode cX5_isUnit 243 = .ok (.bipush 8, 2) := by decide +kernel
theorem dX5_isUnit_245 : decode cX5_isUnit 245 = .ok (.iadd, 1) := by decide +kernel
theorem dX5_isUnit_246 : decode cX5_isUnit 246 = .ok (.if_icmp .ne 7, 3) := by decide +kernel
theorem dX5_isUnit_249 : decode cX5_isUnit 249 = .ok (.iconst 1, 1) := by decide +kernel
theorem dX5_isUnit_250 : decode cX5_isUnit 250 = .ok (.goto 4, 3) := by decide +kernel
theorem dX5_isUnit_253 : decode cX5_isUnit 253 = .ok (.iconst 0, 1) := by decide +kernel
theorem dX5_isUnit_254 : decode cX5_isUnit 254 = .ok (.ireturn, 1) := by decide +kernel
theorem dX5_isUnit_255 : decode cX5_isUnit 255 = .ok (.iload_n 1, 1) := by decide +kernel
theorem dX5_isUnit_256 : decode cX5_isUnit 256 = .ok (.bipush 16, 2) := by decide +kernel
theorem dX5_isUnit_258 : decode cX5_isUnit 258 = .ok (.if_icmp .ne 16, 3) := by decide +kernel
theorem dX5_isUnit_261 : decode cX5_isUnit 261 = .ok (.iload 4, 2) := by decide +kernel
theorem dX5_isUnit_263 : decode cX5_isUnit 263 = .ok (.iload_n 3, 1) := by decide +kernel
theorem dX5_isUnit_264 : decode cX5_isUnit 264 = .ok (.bipush 8, 2) := by decide +kernel
theorem dX5_isUnit_266 : decode cX5_isUnit 266 = .ok (.iadd, 1) := by decide +kernel
theorem dX5_isUnit_267 : decode cX5_isUnit 267 = .ok (.if_icmp .ne 7, 3) := by decide +kernel
theorem dX5_isUnit_270 : decode cX5_isUnit 270 = .ok (.iconst 1, 1) := by decide +kernel
theorem dX5_isUnit_271 : decode cX5_isUnit 271 = .ok (.goto 4, 3) := by decide +kernel
theorem dX5_isUnit_274 : decode cX5_isUnit 274 = .ok (.iconst 0, 1) := by decide +kernel
theorem dX5_isUnit_275 : decode cX5_isUnit 275 = .ok (.ireturn, 1) := by decide +kernel
theorem dX5_isUnit_276 : decode cX5_isUnit 276 = .ok (.iconst 0, 1) := by decide +kernel
theorem dX5_isUnit_277 : decode cX5_isUnit 277 = .ok (.ireturn, 1) := by decide +kernel
theorem dX5_beginCame_0 : decode cX5_beginCame 0 = .ok (.aload_n 0, 1) := by decide +kernel
theorem dX5_beginCame_1 : decode cX5_beginCame 1 = .ok (.getfield 26, 3) := by decide +kernel
theorem dX5_beginCame_4 : decode cX5_beginCame 4 = .ok (.iconst 2, 1) := by decide +kernel
theorem dX5_beginCame_5 : decode cX5_beginCame 5 = .ok (.if_icmp .ne 15, 3) := by decide +kernel
theorem dX5_beginCame_8 : decode cX5_beginCame 8 = .ok (.iload_n 1, 1) := by decide +kernel
theorem dX5_beginCame_9 : decode cX5_beginCame 9 = .ok (.aload_n 0, 1) := by decide +kernel
theorem dX5_beginCame_10 : decode cX5_beginCame 10 = .ok (.getfield 179, 3) := by decide +kernel
theorem dX5_beginCame_13 : decode cX5_beginCame 13 = .ok (.if_icmp .ne 7, 3) := by decide +kernel
theorem dX5_beginCame_16 : decode cX5_beginCame 16 = .ok (.iconst 1, 1) := by decide +kernel
theorem dX5_beginCame_17 : decode cX5_beginCame 17 = .ok (.goto 4, 3) := by decide +kernel
theorem dX5_beginCame_20 : decode cX5_beginCame 20 = .ok (.iconst 0, 1) := by decide +kernel
theorem dX5_beginCame_21 : decode cX5_beginCame 21 = .ok (.istore_n 3, 1) := by decide +kernel
theorem dX5_beginCame_22 : decode cX5_beginCame 22 = .ok (.iload_n 3, 1) := by decide +kernel
theorem dX5_beginCame_23 : decode cX5_beginCame 23 = .ok (.ifCond .ne 31, 3) := by decide +kernel
theorem dX5_beginCame_26 : decode cX5_beginCame 26 = .ok (.aload_n 0, 1) := by decide +kernel
theorem dX5_beginCame_27 : decode cX5_beginCame 27 = .ok (.getfield 26, 3) := by decide +kernel
theorem dX5_beginCame_30 : decode cX5_beginCame 30 = .ok (.iconst 2, 1) := by decide +kernel
theorem dX5_beginCame_31 : decode cX5_beginCame 31 = .ok (.if_icmp .eq 19, 3) := by decide +kernel
theorem dX5_beginCame_34 : decode cX5_beginCame 34 = .ok (.aload_n 0, 1) := by decide +kernel
theorem dX5_beginCame_35 : decode cX5_beginCame 35 = .ok (.getfield 26, 3) := by decide +kernel
theorem dX5_beginCame_38 : decode cX5_beginCame 38 = .ok (.iconst 3, 1) := by decide +kernel
theorem dX5_beginCame_39 : decode cX5_beginCame 39 = .ok (.if_icmp .eq 11, 3) := by decide +kernel
theorem dX5_beginCame_42 : decode cX5_beginCame 42 = .ok (.aload_n 0, 1) := by decide +kernel
theorem dX5_beginCame_43 : decode cX5_beginCame 43 = .ok (.getfield 26, 3) := by decide +kernel
theorem dX5_beginCame_46 : decode cX5_beginCame 46 = .ok (.iconst 4, 1) := by decide +kernel
theorem dX5_beginCame_47 : decode cX5_beginCame 47 = .ok (.if_icmp .ne 7, 3) := by decide +kernel
theorem dX5_beginCame_50 : decode cX5_beginCame 50 = .ok (.iconst 1, 1) := by decide +kernel
theorem dX5_beginCame_51 : decode cX5_beginCame 51 = .ok (.goto 4, 3) := by decide +kernel
theorem dX5_beginCame_54 : decode cX5_beginCame 54 = .ok (.iconst 0, 1) := by decide +kernel
theorem dX5_beginCame_55 : decode cX5_beginCame 55 = .ok (.istore 4, 2) := by decide +kernel
theorem dX5_beginCame_57 : decode cX5_beginCame 57 = .ok (.aload_n 0, 1) := by decide +kernel
theorem dX5_beginCame_58 : decode cX5_beginCame 58 = .ok (.iload_n 1, 1) := by decide +kernel
theorem dX5_beginCame_59 : decode cX5_beginCame 59 = .ok (.putfield 179, 3) := by decide +kernel
theorem dX5_beginCame_62 : decode cX5_beginCame 62 = .ok (.iload_n 3, 1) := by decide +kernel
theorem dX5_beginCame_63 : decode cX5_beginCame 63 = .ok (.ifCond .ne 8, 3) := by decide +kernel
theorem dX5_beginCame_66 : decode cX5_beginCame 66 = .ok (.aload_n 0, 1) := by decide +kernel
theorem dX5_beginCame_67 : decode cX5_beginCame 67 = .ok (.iload_n 2, 1) := by decide +kernel
theorem dX5_beginCame_68 : decode cX5_beginCame 68 = .ok (.invokevirtual 182, 3) := by decide +kernel
theorem dX5_beginCame_71 : decode cX5_beginCame 71 = .ok (.aload_n 0, 1) := by decide +kernel
theorem dX5_beginCame_72 : decode cX5_beginCame 72 = .ok (.getfield 30, 3) := by decide +kernel
theorem dX5_beginCame_75 : decode cX5_beginCame 75 = .ok (.aload_n 0, 1) := by decide +kernel
theorem dX5_beginCame_76 : decode cX5_beginCame 76 = .ok (.getfield 49, 3) := by decide +kernel
theorem dX5_beginCame_79 : decode cX5_beginCame 79 = .ok (.bipush 8, 2) := by decide +kernel
theorem dX5_beginCame_81 : decode cX5_beginCame 81 = .ok (.iadd, 1) := by decide +kernel
theorem dX5_beginCame_82 : decode cX5_beginCame 82 = .ok (.invokevirtual 102, 3) := by decide +kernel
theorem dX5_beginCame_85 : decode cX5_beginCame 85 = .ok (.aload_n 0, 1) := by decide +kernel
theorem dX5_beginCame_86 : decode cX5_beginCame 86 = .ok (.getfield 30, 3) := by decide +kernel
theorem dX5_beginCame_89 : decode cX5_beginCame 89 = .ok (.iconst 2, 1) := by decide +kernel
theorem dX5_beginCame_90 : decode cX5_beginCame 90 = .ok (.iconst 0, 1) := by decide +kernel
theorem dX5_beginCame_91 : decode cX5_beginCame 91 = .ok (.invokevirtual 96, 3) := by decide +kernel
theorem dX5_beginCame_94 : decode cX5_beginCame 94 = .ok (.iload 4, 2) := by decide +kernel
theorem dX5_beginCame_96 : decode cX5_beginCame 96 = .ok (.ifCond .eq 7, 3) := by decide +kernel
theorem dX5_beginCame_99 : decode cX5_beginCame 99 = .ok (.iconst 1, 1) := by decide +kernel
theorem dX5_beginCame_100 : decode cX5_beginCame 100 = .ok (.goto 4, 3) := by decide +kernel
theorem dX5_beginCame_103 : decode cX5_beginCame 103 = .ok (.iconst 0, 1) := by decide +kernel
theorem dX5_beginCame_104 : decode cX5_beginCame 104 = .ok (.ireturn, 1) := by decide +kernel
theorem dX5_endCame_0 : decode cX5_endCame 0 = .ok (.aload_n 0, 1) := by decide +kernel
theorem dX5_endCame_1 : decode cX5_endCame 1 = .ok (.getfield 26, 3) := by decide +kernel
theorem dX5_endCame_4 : decode cX5_endCame 4 = .ok (.ifCond .eq 7, 3) := by decide +kernel
theorem dX5_endCame_7 : decode cX5_endCame 7 = .ok (.iconst 1, 1) := by decide +kernel
theorem dX5_endCame_8 : decode cX5_endCame 8 = .ok (.goto 4, 3) := by decide +kernel
theorem dX5_endCame_11 : decode cX5_endCame 11 = .ok (.iconst 0, 1) := by decide +kernel
theorem dX5_endCame_12 : decode cX5_endCame 12 = .ok (.istore_n 1, 1) := by decide +kernel
theorem dX5_endCame_13 : decode cX5_endCame 13 = .ok (.iload_n 1, 1) := by decide +kernel
theorem dX5_endCame_14 : decode cX5_endCame 14 = .ok (.ifCond .eq 7, 3) := by decide +kernel
theorem dX5_endCame_17 : decode cX5_endCame 17 = .ok (.aload_n 0, 1) := by decide +kernel
theorem dX5_endCame_18 : decode cX5_endCame 18 = .ok (.invokevirtual 108, 3) := by decide +kernel
theorem dX5_endCame_21 : decode cX5_endCame 21 = .ok (.aload_n 0, 1) := by decide +kernel
theorem dX5_endCame_22 : decode cX5_endCame 22 = .ok (.getfield 30, 3) := by decide +kernel
theorem dX5_endCame_25 : decode cX5_endCame 25 = .ok (.iconst 4, 1) := by decide +kernel
theorem dX5_endCame_26 : decode cX5_endCame 26 = .ok (.iconst 0, 1) := by decide +kernel
theorem dX5_endCame_27 : decode cX5_endCame 27 = .ok (.invokevirtual 96, 3) := by decide +kernel
theorem dX5_endCame_30 : decode cX5_endCame 30 = .ok (.iload_n 1, 1) := by decide +kernel
theorem dX5_endCame_31 : decode cX5_endCame 31 = .ok (.ifCond .eq 7, 3) := by decide +kernel
theorem dX5_endCame_34 : decode cX5_endCame 34 = .ok (.iconst 1, 1) := by decide +kernel
theorem dX5_endCame_35 : decode cX5_endCame 35 = .ok (.goto 4, 3) := by decide +kernel
theorem dX5_endCame_38 : decode cX5_endCame 38 = .ok (.iconst 0, 1) := by decide +kernel
theorem dX5_endCame_39 : decode cX5_endCame 39 = .ok (.ireturn, 1) := by decide +kernel
theorem dX5_resetCame_0 : decode cX5_resetCame 0 = .ok (.aload_n 0, 1) := by decide +kernel
theorem dX5_resetCame_1 : decode cX5_resetCame 1 = .ok (.getfield 26, 3) := by decide +kernel
theorem dX5_resetCame_4 : decode cX5_resetCame 4 = .ok (.iconst 2, 1) := by decide +kernel
theorem dX5_resetCame_5 : decode cX5_resetCame 5 = .ok (.if_icmp .ne 15, 3) := by decide +kernel
theorem dX5_resetCame_8 : decode cX5_resetCame 8 = .ok (.iload_n 2, 1) := by decide +kernel
theorem dX5_resetCame_9 : decode cX5_resetCame 9 = .ok (.aload_n 0, 1) := by decide +kernel
theorem dX5_resetCame_10 : decode cX5_resetCame 10 = .ok (.getfield 185, 3) := by decide +kernel
theorem dX5_resetCame_13 : decode cX5_resetCame 13 = .ok (.if_icmp .ne 7, 3) := by decide +kernel
theorem dX5_resetCame_16 : decode cX5_resetCame 16 = .ok (.iconst 1, 1) := by decide +kernel
theorem dX5_resetCame_17 : decode cX5_resetCame 17 = .ok (.goto 4, 3) := by decide +kernel
theorem dX5_resetCame_20 : decode cX5_resetCame 20 = .ok (.iconst 0, 1) := by decide +kernel
theorem dX5_resetCame_21 : decode cX5_resetCame 21 = .ok (.istore 4, 2) := by decide +kernel
theorem dX5_resetCame_23 : decode cX5_resetCame 23 = .ok (.aload_n 0, 1) := by decide +kernel
theorem dX5_resetCame_24 : decode cX5_resetCame 24 = .ok (.iload_n 2, 1) := by decide +kernel
theorem dX5_resetCame_25 : decode cX5_resetCame 25 = .ok (.putfield 185, 3) := by decide +kernel
theorem dX5_resetCame_28 : decode cX5_resetCame 28 = .ok (.aload_n 0, 1) := by decide +kernel
theorem dX5_resetCame_29 : decode cX5_resetCame 29 = .ok (.getfield 26, 3) := by decide +kernel
theorem dX5_resetCame_32 : decode cX5_resetCame 32 = .ok (.ifCond .ne 12, 3) := by decide +kernel
theorem dX5_resetCame_35 : decode cX5_resetCame 35 = .ok (.aload_n 0, 1) := by decide +kernel
theorem dX5_resetCame_36 : decode cX5_resetCame 36 = .ok (.getfield 30, 3) := by decide +kernel
theorem dX5_resetCame_39 : decode cX5_resetCame 39 = .ok (.iconst 3, 1) := by decide +kernel
theorem dX5_resetCame_40 : decode cX5_resetCame 40 = .ok (.iconst 1, 1) := by decide +kernel
theorem dX5_resetCame_41 : decode cX5_resetCame 41 = .ok (.invokevirtual 96, 3) := by decide +kernel
theorem dX5_resetCame_44 : decode cX5_resetCame 44 = .ok (.aload_n 0, 1) := by decide +kernel
theorem dX5_resetCame_45 : decode cX5_resetCame 45 = .ok (.getfield 26, 3) := by decide +kernel
theorem dX5_resetCame_48 : decode cX5_resetCame 48 = .ok (.iconst 2, 1) := by decide +kernel
theorem dX5_resetCame_49 : decode cX5_resetCame 49 = .ok (.if_icmp .eq 12, 3) := by decide +kernel
theorem dX5_resetCame_52 : decode cX5_resetCame 52 = .ok (.aload_n 0, 1) := by decide +kernel
theorem dX5_resetCame_53 : decode cX5_resetCame 53 = .ok (.getfield 26, 3) := by decide +kernel
theorem dX5_resetCame_56 : decode cX5_resetCame 56 = .ok (.iconst 3, 1) := by decide +kernel
theorem dX5_resetCame_57 : decode cX5_resetCame 57 = .ok (.if_icmp .eq 4, 3) := by decide +kernel
theorem dX5_resetCame_60 : decode cX5_resetCame 60 = .ok (.return_, 1) := by decide +kernel
theorem dX5_resetCame_61 : decode cX5_resetCame 61 = .ok (.iload 4, 2) := by decide +kernel
theorem dX5_resetCame_63 : decode cX5_resetCame 63 = .ok (.ifCond .ne 8, 3) := by decide +kernel
theorem dX5_resetCame_66 : decode cX5_resetCame 66 = .ok (.aload_n 0, 1) := by decide +kernel
theorem dX5_resetCame_67 : decode cX5_resetCame 67 = .ok (.iload_n 3, 1) := by decide +kernel
theorem dX5_resetCame_68 : decode cX5_resetCame 68 = .ok (.invokevirtual 182, 3) := by decide +kernel
theorem dX5_resetCame_71 : decode cX5_resetCame 71 = .ok (.aload_n 0, 1) := by decide +kernel
theorem dX5_resetCame_72 : decode cX5_resetCame 72 = .ok (.getfield 30, 3) := by decide +kernel
theorem dX5_resetCame_75 : decode cX5_resetCame 75 = .ok (.aload_n 0, 1) := by decide +kernel
theorem dX5_resetCame_76 : decode cX5_resetCame 76 = .ok (.getfield 49, 3) := by decide +kernel
theorem dX5_resetCame_79 : decode cX5_resetCame 79 = .ok (.bipush 8, 2) := by decide +kernel
theorem dX5_resetCame_81 : decode cX5_resetCame 81 = .ok (.iadd, 1) := by decide +kernel
theorem dX5_resetCame_82 : decode cX5_resetCame 82 = .ok (.invokevirtual 102, 3) := by decide +kernel
theorem dX5_resetCame_85 : decode cX5_resetCame 85 = .ok (.aload_n 0, 1) := by decide +kernel
theorem dX5_resetCame_86 : decode cX5_resetCame 86 = .ok (.getfield 30, 3) := by decide +kernel
theorem dX5_resetCame_89 : decode cX5_resetCame 89 = .ok (.iload_n 1, 1) := by decide +kernel
theorem dX5_resetCame_90 : decode cX5_resetCame 90 = .ok (.iconst 5, 1) := by decide +kernel
theorem dX5_resetCame_91 : decode cX5_resetCame 91 = .ok (.if_icmp .ne 8, 3) := by decide +kernel
theorem dX5_resetCame_94 : decode cX5_resetCame 94 = .ok (.bipush 6, 2) := by decide +kernel
theorem dX5_resetCame_96 : decode cX5_resetCame 96 = .ok (.goto 5, 3) := by decide +kernel
theorem dX5_resetCame_99 : decode cX5_resetCame 99 = .ok (.bipush 15, 2) := by decide +kernel
theorem dX5_resetCame_101 : decode cX5_resetCame 101 = .ok (.iconst 0, 1) := by decide +kernel
theorem dX5_resetCame_102 : decode cX5_resetCame 102 = .ok (.invokevirtual 96, 3) := by decide +kernel
theorem dX5_resetCame_105 : decode cX5_resetCame 105 = .ok (.return_, 1) := by decide +kernel
theorem dX5_answerCame_0 : decode cX5_answerCame 0 = .ok (.iload_n 1, 1) := by decide +kernel
theorem dX5_answerCame_1 : decode cX5_answerCame 1 = .ok (.iconst 4, 1) := by decide +kernel
theorem dX5_answerCame_2 : decode cX5_answerCame 2 = .ok (.if_icmp .ne 22, 3) := by decide +kernel
theorem dX5_answerCame_5 : decode cX5_answerCame 5 = .ok (.aload_n 0, 1) := by decide +kernel
theorem dX5_answerCame_6 : decode cX5_answerCame 6 = .ok (.getfield 26, 3) := by decide +kernel
theorem dX5_answerCame_9 : decode cX5_answerCame 9 = .ok (.iconst 4, 1) := by decide +kernel
theorem dX5_answerCame_10 : decode cX5_answerCame 10 = .ok (.if_icmp .ne 13, 3) := by decide +kernel
theorem dX5_answerCame_13 : decode cX5_answerCame 13 = .ok (.aload_n 0, 1) := by decide +kernel
theorem dX5_answerCame_14 : decode cX5_answerCame 14 = .ok (.iconst 0, 1) := by decide +kernel
theorem dX5_answerCame_15 : decode cX5_answerCame 15 = .ok (.putfield 26, 3) := by decide +kernel
theorem dX5_answerCame_18 : decode cX5_answerCame 18 = .ok (.aload_n 0, 1) := by decide +kernel
theorem dX5_answerCame_19 : decode cX5_answerCame 19 = .ok (.iconst 0, 1) := by decide +kernel
theorem dX5_answerCame_20 : decode cX5_answerCame 20 = .ok (.invokevirtual 75, 3) := by decide +kernel
theorem dX5_answerCame_23 : decode cX5_answerCame 23 = .ok (.return_, 1) := by decide +kernel
theorem dX5_answerCame_24 : decode cX5_answerCame 24 = .ok (.aload_n 0, 1) := by decide +kernel
theorem dX5_answerCame_25 : decode cX5_answerCame 25 = .ok (.getfield 26, 3) := by decide +kernel
theorem dX5_answerCame_28 : decode cX5_answerCame 28 = .ok (.iconst 1, 1) := by decide +kernel
theorem dX5_answerCame_29 : decode cX5_answerCame 29 = .ok (.if_icmp .ne 8, 3) := by decide +kernel
theorem dX5_answerCame_32 : decode cX5_answerCame 32 = .ok (.iload_n 1, 1) := by decide +kernel
theorem dX5_answerCame_33 : decode cX5_answerCame 33 = .ok (.iconst 2, 1) := by decide +kernel
theorem dX5_answerCame_34 : decode cX5_answerCame 34 = .ok (.if_icmp .eq 48, 3) := by decide +kernel
theorem dX5_answerCame_37 : decode cX5_answerCame 37 = .ok (.aload_n 0, 1) := by decide +kernel
theorem dX5_answerCame_38 : decode cX5_answerCame 38 = .ok (.getfield 26, 3) := by decide +kernel
theorem dX5_answerCame_41 : decode cX5_answerCame 41 = .ok (.iconst 3, 1) := by decide +kernel
theorem dX5_answerCame_42 : decode cX5_answerCame 42 = .ok (.if_icmp .ne 17, 3) := by decide +kernel
theorem dX5_answerCame_45 : decode cX5_answerCame 45 = .ok (.aload_n 0, 1) := by decide +kernel
theorem dX5_answerCame_46 : decode cX5_answerCame 46 = .ok (.getfield 84, 3) := by decide +kernel
theorem dX5_answerCame_49 : decode cX5_answerCame 49 = .ok (.iconst 5, 1) := by decide +kernel
theorem dX5_answerCame_50 : decode cX5_answerCame 50 = .ok (.if_icmp .ne 9, 3) := by decide +kernel
theorem dX5_answerCame_53 : decode cX5_answerCame 53 = .ok (.iload_n 1, 1) := by decide +kernel
theorem dX5_answerCame_54 : decode cX5_answerCame 54 = .ok (.bipush 6, 2) := by decide +kernel
theorem dX5_answerCame_56 : decode cX5_answerCame 56 = .ok (.if_icmp .eq 26, 3) := by decide +kernel
theorem dX5_answerCame_59 : decode cX5_answerCame 59 = .ok (.aload_n 0, 1) := by decide +kernel
theorem dX5_answerCame_60 : decode cX5_answerCame 60 = .ok (.getfield 26, 3) := by decide +kernel
theorem dX5_answerCame_63 : decode cX5_answerCame 63 = .ok (.iconst 3, 1) := by decide +kernel
theorem dX5_answerCame_64 : decode cX5_answerCame 64 = .ok (.if_icmp .ne 22, 3) := by decide +kernel
theorem dX5_answerCame_67 : decode cX5_answerCame 67 = .ok (.aload_n 0, 1) := by decide +kernel
theorem dX5_answerCame_68 : decode cX5_answerCame 68 = .ok (.getfield 84, 3) := by decide +kernel
theorem dX5_answerCame_71 : decode cX5_answerCame 71 = .ok (.bipush 9, 2) := by decide +kernel
theorem dX5_answerCame_73 : decode cX5_answerCame 73 = .ok (.if_icmp .ne 13, 3) := by decide +kernel
theorem dX5_answerCame_76 : decode cX5_answerCame 76 = .ok (.iload_n 1, 1) := by decide +kernel
theorem dX5_answerCame_77 : decode cX5_answerCame 77 = .ok (.bipush 15, 2) := by decide +kernel
theorem dX5_answerCame_79 : decode cX5_answerCame 79 = .ok (.if_icmp .ne 7, 3) := by decide +kernel
theorem dX5_answerCame_82 : decode cX5_answerCame 82 = .ok (.iconst 1, 1) := by decide +kernel
theorem dX5_answerCame_83 : decode cX5_answerCame 83 = .ok (.goto 4, 3) := by decide +kernel
theorem dX5_answerCame_86 : decode cX5_answerCame 86 = .ok (.iconst 0, 1) := by decide +kernel
theorem dX5_answerCame_87 : decode cX5_answerCame 87 = .ok (.istore_n 3, 1) := by decide +kernel
theorem dX5_answerCame_88 : decode cX5_answerCame 88 = .ok (.iload_n 3, 1) := by decide +kernel
theorem dX5_answerCame_89 : decode cX5_answerCame 89 = .ok (.ifCond .eq 8, 3) := by decide +kernel
theorem dX5_answerCame_92 : decode cX5_answerCame 92 = .ok (.aload_n 0, 1) := by decide +kernel
theorem dX5_answerCame_93 : decode cX5_answerCame 93 = .ok (.iload_n 2, 1) := by decide +kernel
theorem dX5_answerCame_94 : decode cX5_answerCame 94 = .ok (.invokevirtual 182, 3) := by decide +kernel
theorem dX5_answerCame_97 : decode cX5_answerCame 97 = .ok (.return_, 1) := by decide +kernel
theorem dX5_dataCame_0 : decode cX5_dataCame 0 = .ok (.iload_n 3, 1) := by decide +kernel
theorem dX5_dataCame_1 : decode cX5_dataCame 1 = .ok (.aload_n 0, 1) := by decide +kernel
theorem dX5_dataCame_2 : decode cX5_dataCame 2 = .ok (.getfield 49, 3) := by decide +kernel
theorem dX5_dataCame_5 : decode cX5_dataCame 5 = .ok (.if_icmp .lt 14, 3) := by decide +kernel
theorem dX5_dataCame_8 : decode cX5_dataCame 8 = .ok (.iload_n 3, 1) := by decide +kernel
theorem dX5_dataCame_9 : decode cX5_dataCame 9 = .ok (.aload_n 0, 1) := by decide +kernel
theorem dX5_dataCame_10 : decode cX5_dataCame 10 = .ok (.getfield 49, 3) := by decide +kernel
theorem dX5_dataCame_13 : decode cX5_dataCame 13 = .ok (.bipush 8, 2) := by decide +kernel
theorem dX5_dataCame_15 : decode cX5_dataCame 15 = .ok (.iadd, 1) := by decide +kernel
theorem dX5_dataCame_16 : decode cX5_dataCame 16 = .ok (.if_icmp .lt 4, 3) := by decide +kernel
theorem dX5_dataCame_19 : decode cX5_dataCame 19 = .ok (.return_, 1) := by decide +kernel
theorem dX5_dataCame_20 : decode cX5_dataCame 20 = .ok (.iload_n 3, 1) := by decide +kernel
theorem dX5_dataCame_21 : decode cX5_dataCame 21 = .ok (.aload_n 0, 1) := by decide +kernel
theorem dX5_dataCame_22 : decode cX5_dataCame 22 = .ok (.getfield 52, 3) := by decide +kernel
theorem dX5_dataCame_25 : decode cX5_dataCame 25 = .ok (.if_icmp .le 49, 3) := by decide +kernel
theorem dX5_dataCame_28 : decode cX5_dataCame 28 = .ok (.aload_n 0, 1) := by decide +kernel
theorem dX5_dataCame_29 : decode cX5_dataCame 29 = .ok (.getfield 30, 3) := by decide +kernel
theorem dX5_dataCame_32 : decode cX5_dataCame 32 = .ok (.aload_n 0, 1) := by decide +kernel
theorem dX5_dataCame_33 : decode cX5_dataCame 33 = .ok (.getfield 52, 3) := by decide +kernel
theorem dX5_dataCame_36 : decode cX5_dataCame 36 = .ok (.invokevirtual 102, 3) := by decide +kernel
theorem dX5_dataCame_39 : decode cX5_dataCame 39 = .ok (.aload_n 0, 1) := by decide +kernel
theorem dX5_dataCame_40 : decode cX5_dataCame 40 = .ok (.getfield 30, 3) := by decide +kernel
theorem dX5_dataCame_43 : decode cX5_dataCame 43 = .ok (.iload_n 3, 1) := by decide +kernel
theorem dX5_dataCame_44 : decode cX5_dataCame 44 = .ok (.invokevirtual 102, 3) := by decide +kernel
theorem dX5_dataCame_47 : decode cX5_dataCame 47 = .ok (.aload_n 0, 1) := by decide +kernel
theorem dX5_dataCame_48 : decode cX5_dataCame 48 = .ok (.getfield 30, 3) := by decide +kernel
theorem dX5_dataCame_51 : decode cX5_dataCame 51 = .ok (.aload_n 0, 1) := by decide +kernel
theorem dX5_dataCame_52 : decode cX5_dataCame 52 = .ok (.getfield 49, 3) := by decide +kernel
theorem dX5_dataCame_55 : decode cX5_dataCame 55 = .ok (.bipush 8, 2) := by decide +kernel
theorem dX5_dataCame_57 : decode cX5_dataCame 57 = .ok (.iadd, 1) := by decide +kernel
theorem dX5_dataCame_58 : decode cX5_dataCame 58 = .ok (.invokevirtual 102, 3) := by decide +kernel
theorem dX5_dataCame_61 : decode cX5_dataCame 61 = .ok (.aload_n 0, 1) := by decide +kernel
theorem dX5_dataCame_62 : decode cX5_dataCame 62 = .ok (.getfield 30, 3) := by decide +kernel
theorem dX5_dataCame_65 : decode cX5_dataCame 65 = .ok (.bipush 12, 2) := by decide +kernel
theorem dX5_dataCame_67 : decode cX5_dataCame 67 = .ok (.aload_n 0, 1) := by decide +kernel
theorem dX5_dataCame_68 : decode cX5_dataCame 68 = .ok (.getfield 49, 3) := by decide +kernel
theorem dX5_dataCame_71 : decode cX5_dataCame 71 = .ok (.invokevirtual 96, 3) := by decide +kernel
theorem dX5_dataCame_74 : decode cX5_dataCame 74 = .ok (.aload_n 0, 1) := by decide +kernel
theorem dX5_dataCame_75 : decode cX5_dataCame 75 = .ok (.aload_n 0, 1) := by decide +kernel
theorem dX5_dataCame_76 : decode cX5_dataCame 76 = .ok (.getfield 52, 3) := by decide +kernel
theorem dX5_dataCame_79 : decode cX5_dataCame 79 = .ok (.iload_n 3, 1) := by decide +kernel
theorem dX5_dataCame_80 : decode cX5_dataCame 80 = .ok (.iconst 1, 1) := by decide +kernel
theorem dX5_dataCame_81 : decode cX5_dataCame 81 = .ok (.iadd, 1) := by decide +kernel
theorem dX5_dataCame_82 : decode cX5_dataCame 82 = .ok (.invokestatic 188, 3) := by decide +kernel
theorem dX5_dataCame_85 : decode cX5_dataCame 85 = .ok (.putfield 52, 3) := by decide +kernel
theorem dX5_dataCame_88 : decode cX5_dataCame 88 = .ok (.aload_n 0, 1) := by decide +kernel
theorem dX5_dataCame_89 : decode cX5_dataCame 89 = .ok (.getfield 23, 3) := by decide +kernel
theorem dX5_dataCame_92 : decode cX5_dataCame 92 = .ok (.iload_n 3, 1) := by decide +kernel
theorem dX5_dataCame_93 : decode cX5_dataCame 93 = .ok (.bipush 8, 2) := by decide +kernel
theorem dX5_dataCame_95 : decode cX5_dataCame 95 = .ok (.irem, 1) := by decide +kernel
theorem dX5_dataCame_96 : decode cX5_dataCame 96 = .ok (.aload_n 1, 1) := by decide +kernel
theorem dX5_dataCame_97 : decode cX5_dataCame 97 = .ok (.iconst 0, 1) := by decide +kernel
theorem dX5_dataCame_98 : decode cX5_dataCame 98 = .ok (.iload_n 2, 1) := by decide +kernel
theorem dX5_dataCame_99 : decode cX5_dataCame 99 = .ok (.invokevirtual 129, 3) := by decide +kernel
theorem dX5_dataCame_102 : decode cX5_dataCame 102 = .ok (.return_, 1) := by decide +kernel
theorem dX5_takeNext_0 : decode cX5_takeNext 0 = .ok (.aload_n 0, 1) := by decide +kernel
theorem dX5_takeNext_1 : decode cX5_takeNext 1 = .ok (.getfield 49, 3) := by decide +kernel
theorem dX5_takeNext_4 : decode cX5_takeNext 4 = .ok (.bipush 8, 2) := by decide +kernel
theorem dX5_takeNext_6 : decode cX5_takeNext 6 = .ok (.irem, 1) := by decide +kernel
theorem dX5_takeNext_7 : decode cX5_takeNext 7 = .ok (.istore_n 2, 1) := by decide +kernel
theorem dX5_takeNext_8 : decode cX5_takeNext 8 = .ok (.aload_n 0, 1) := by decide +kernel
theorem dX5_takeNext_9 : decode cX5_takeNext 9 = .ok (.getfield 23, 3) := by decide +kernel
theorem dX5_takeNext_12 : decode cX5_takeNext 12 = .ok (.getfield 65, 3) := by decide +kernel
theorem dX5_takeNext_15 : decode cX5_takeNext 15 = .ok (.iload_n 2, 1) := by decide +kernel
theorem dX5_takeNext_16 : decode cX5_takeNext 16 = .ok (.iaload, 1) := by decide +kernel
theorem dX5_takeNext_17 : decode cX5_takeNext 17 = .ok (.istore_n 3, 1) := by decide +kernel
theorem dX5_takeNext_18 : decode cX5_takeNext 18 = .ok (.iload_n 3, 1) := by decide +kernel
theorem dX5_takeNext_19 : decode cX5_takeNext 19 = .ok (.iconst 1, 1) := by decide +kernel
theorem dX5_takeNext_20 : decode cX5_takeNext 20 = .ok (.if_icmp .lt 9, 3) := by decide +kernel
theorem dX5_takeNext_23 : decode cX5_takeNext 23 = .ok (.iload_n 3, 1) := by decide +kernel
theorem dX5_takeNext_24 : decode cX5_takeNext 24 = .ok (.aload_n 1, 1) := by decide +kernel
theorem dX5_takeNext_25 : decode cX5_takeNext 25 = .ok (.arraylength, 1) := by decide +kernel
theorem dX5_takeNext_26 : decode cX5_takeNext 26 = .ok (.if_icmp .le 5, 3) := by decide +kernel
theorem dX5_takeNext_29 : decode cX5_takeNext 29 = .ok (.iconst 0, 1) := by decide +kernel
theorem dX5_takeNext_30 : decode cX5_takeNext 30 = .ok (.ireturn, 1) := by decide +kernel
theorem dX5_takeNext_31 : decode cX5_takeNext 31 = .ok (.aload_n 0, 1) := by decide +kernel
theorem dX5_takeNext_32 : decode cX5_takeNext 32 = .ok (.getfield 23, 3) := by decide +kernel
theorem dX5_takeNext_35 : decode cX5_takeNext 35 = .ok (.getfield 126, 3) := by decide +kernel
theorem dX5_takeNext_38 : decode cX5_takeNext 38 = .ok (.iload_n 2, 1) := by decide +kernel
theorem dX5_takeNext_39 : decode cX5_takeNext 39 = .ok (.bipush 60, 2) := by decide +kernel
theorem dX5_takeNext_41 : decode cX5_takeNext 41 = .ok (.imul, 1) := by decide +kernel
theorem dX5_takeNext_42 : decode cX5_takeNext 42 = .ok (.aload_n 1, 1) := by decide +kernel
theorem dX5_takeNext_43 : decode cX5_takeNext 43 = .ok (.iconst 0, 1) := by decide +kernel
theorem dX5_takeNext_44 : decode cX5_takeNext 44 = .ok (.iload_n 3, 1) := by decide +kernel
theorem dX5_takeNext_45 : decode cX5_takeNext 45 = .ok (.invokestatic 193, 3) := by decide +kernel
theorem dX5_takeNext_48 : decode cX5_takeNext 48 = .ok (.aload_n 0, 1) := by decide +kernel
theorem dX5_takeNext_49 : decode cX5_takeNext 49 = .ok (.getfield 23, 3) := by decide +kernel
theorem dX5_takeNext_52 : decode cX5_takeNext 52 = .ok (.iload_n 2, 1) := by decide +kernel
theorem dX5_takeNext_53 : decode cX5_takeNext 53 = .ok (.invokevirtual 199, 3) := by decide +kernel
theorem dX5_takeNext_56 : decode cX5_takeNext 56 = .ok (.aload_n 0, 1) := by decide +kernel
theorem dX5_takeNext_57 : decode cX5_takeNext 57 = .ok (.dup, 1) := by decide +kernel
theorem dX5_takeNext_58 : decode cX5_takeNext 58 = .ok (.getfield 49, 3) := by decide +kernel
theorem dX5_takeNext_61 : decode cX5_takeNext 61 = .ok (.iconst 1, 1) := by decide +kernel
theorem dX5_takeNext_62 : decode cX5_takeNext 62 = .ok (.iadd, 1) := by decide +kernel
theorem dX5_takeNext_63 : decode cX5_takeNext 63 = .ok (.putfield 49, 3) := by decide +kernel
theorem dX5_takeNext_66 : decode cX5_takeNext 66 = .ok (.aload_n 0, 1) := by decide +kernel
theorem dX5_takeNext_67 : decode cX5_takeNext 67 = .ok (.aload_n 0, 1) := by decide +kernel
theorem dX5_takeNext_68 : decode cX5_takeNext 68 = .ok (.getfield 52, 3) := by decide +kernel
theorem dX5_takeNext_71 : decode cX5_takeNext 71 = .ok (.aload_n 0, 1) := by decide +kernel
theorem dX5_takeNext_72 : decode cX5_takeNext 72 = .ok (.getfield 49, 3) := by decide +kernel
theorem dX5_takeNext_75 : decode cX5_takeNext 75 = .ok (.invokestatic 188, 3) := by decide +kernel
theorem dX5_takeNext_78 : decode cX5_takeNext 78 = .ok (.putfield 52, 3) := by decide +kernel
theorem dX5_takeNext_81 : decode cX5_takeNext 81 = .ok (.iload_n 3, 1) := by decide +kernel
theorem dX5_takeNext_82 : decode cX5_takeNext 82 = .ok (.ireturn, 1) := by decide +kernel
theorem dX5_pollCame_0 : decode cX5_pollCame 0 = .ok (.aload_n 0, 1) := by decide +kernel
theorem dX5_pollCame_1 : decode cX5_pollCame 1 = .ok (.aload_n 0, 1) := by decide +kernel
theorem dX5_pollCame_2 : decode cX5_pollCame 2 = .ok (.getfield 52, 3) := by decide +kernel
theorem dX5_pollCame_5 : decode cX5_pollCame 5 = .ok (.iload_n 2, 1) := by decide +kernel
theorem dX5_pollCame_6 : decode cX5_pollCame 6 = .ok (.aload_n 0, 1) := by decide +kernel
theorem dX5_pollCame_7 : decode cX5_pollCame 7 = .ok (.getfield 49, 3) := by decide +kernel
theorem dX5_pollCame_10 : decode cX5_pollCame 10 = .ok (.bipush 8, 2) := by decide +kernel
theorem dX5_pollCame_12 : decode cX5_pollCame 12 = .ok (.iadd, 1) := by decide +kernel
theorem dX5_pollCame_13 : decode cX5_pollCame 13 = .ok (.invokestatic 202, 3) := by decide +kernel
theorem dX5_pollCame_16 : decode cX5_pollCame 16 = .ok (.invokestatic 188, 3) := by decide +kernel
theorem dX5_pollCame_19 : decode cX5_pollCame 19 = .ok (.putfield 52, 3) := by decide +kernel
theorem dX5_pollCame_22 : decode cX5_pollCame 22 = .ok (.aload_n 0, 1) := by decide +kernel
theorem dX5_pollCame_23 : decode cX5_pollCame 23 = .ok (.getfield 52, 3) := by decide +kernel
theorem dX5_pollCame_26 : decode cX5_pollCame 26 = .ok (.aload_n 0, 1) := by decide +kernel
theorem dX5_pollCame_27 : decode cX5_pollCame 27 = .ok (.getfield 49, 3) := by decide +kernel
theorem dX5_pollCame_30 : decode cX5_pollCame 30 = .ok (.if_icmp .le 7, 3) := by decide +kernel
theorem dX5_pollCame_33 : decode cX5_pollCame 33 = .ok (.aload_n 0, 1) := by decide +kernel
theorem dX5_pollCame_34 : decode cX5_pollCame 34 = .ok (.invokevirtual 205, 3) := by decide +kernel
theorem dX5_pollCame_37 : decode cX5_pollCame 37 = .ok (.aload_n 0, 1) := by decide +kernel
theorem dX5_pollCame_38 : decode cX5_pollCame 38 = .ok (.getfield 30, 3) := by decide +kernel
theorem dX5_pollCame_41 : decode cX5_pollCame 41 = .ok (.iload_n 1, 1) := by decide +kernel
theorem dX5_pollCame_42 : decode cX5_pollCame 42 = .ok (.invokevirtual 102, 3) := by decide +kernel
theorem dX5_pollCame_45 : decode cX5_pollCame 45 = .ok (.aload_n 0, 1) := by decide +kernel
theorem dX5_pollCame_46 : decode cX5_pollCame 46 = .ok (.getfield 30, 3) := by decide +kernel
theorem dX5_pollCame_49 : decode cX5_pollCame 49 = .ok (.aload_n 0, 1) := by decide +kernel
theorem dX5_pollCame_50 : decode cX5_pollCame 50 = .ok (.getfield 49, 3) := by decide +kernel
theorem dX5_pollCame_53 : decode cX5_pollCame 53 = .ok (.bipush 8, 2) := by decide +kernel
theorem dX5_pollCame_55 : decode cX5_pollCame 55 = .ok (.iadd, 1) := by decide +kernel
theorem dX5_pollCame_56 : decode cX5_pollCame 56 = .ok (.invokevirtual 102, 3) := by decide +kernel
theorem dX5_pollCame_59 : decode cX5_pollCame 59 = .ok (.aload_n 0, 1) := by decide +kernel
theorem dX5_pollCame_60 : decode cX5_pollCame 60 = .ok (.getfield 30, 3) := by decide +kernel
theorem dX5_pollCame_63 : decode cX5_pollCame 63 = .ok (.bipush 11, 2) := by decide +kernel
theorem dX5_pollCame_65 : decode cX5_pollCame 65 = .ok (.aload_n 0, 1) := by decide +kernel
theorem dX5_pollCame_66 : decode cX5_pollCame 66 = .ok (.getfield 49, 3) := by decide +kernel
theorem dX5_pollCame_69 : decode cX5_pollCame 69 = .ok (.invokevirtual 96, 3) := by decide +kernel
theorem dX5_pollCame_72 : decode cX5_pollCame 72 = .ok (.return_, 1) := by decide +kernel
theorem dX5_tellList_0 : decode cX5_tellList 0 = .ok (.aload_n 0, 1) := by decide +kernel
theorem dX5_tellList_1 : decode cX5_tellList 1 = .ok (.getfield 30, 3) := by decide +kernel
theorem dX5_tellList_4 : decode cX5_tellList 4 = .ok (.aload_n 0, 1) := by decide +kernel
theorem dX5_tellList_5 : decode cX5_tellList 5 = .ok (.getfield 49, 3) := by decide +kernel
theorem dX5_tellList_8 : decode cX5_tellList 8 = .ok (.invokevirtual 102, 3) := by decide +kernel
theorem dX5_tellList_11 : decode cX5_tellList 11 = .ok (.iconst 1, 1) := by decide +kernel
theorem dX5_tellList_12 : decode cX5_tellList 12 = .ok (.istore_n 1, 1) := by decide +kernel
theorem dX5_tellList_13 : decode cX5_tellList 13 = .ok (.iconst 0, 1) := by decide +kernel
theorem dX5_tellList_14 : decode cX5_tellList 14 = .ok (.istore_n 2, 1) := by decide +kernel
theorem dX5_tellList_15 : decode cX5_tellList 15 = .ok (.aload_n 0, 1) := by decide +kernel
theorem dX5_tellList_16 : decode cX5_tellList 16 = .ok (.getfield 49, 3) := by decide +kernel
theorem dX5_tellList_19 : decode cX5_tellList 19 = .ok (.iconst 1, 1) := by decide +kernel
theorem dX5_tellList_20 : decode cX5_tellList 20 = .ok (.iadd, 1) := by decide +kernel
theorem dX5_tellList_21 : decode cX5_tellList 21 = .ok (.istore_n 3, 1) := by decide +kernel
theorem dX5_tellList_22 : decode cX5_tellList 22 = .ok (.iload_n 3, 1) := by decide +kernel
theorem dX5_tellList_23 : decode cX5_tellList 23 = .ok (.aload_n 0, 1) := by decide +kernel
theorem dX5_tellList_24 : decode cX5_tellList 24 = .ok (.getfield 52, 3) := by decide +kernel
theorem dX5_tellList_27 : decode cX5_tellList 27 = .ok (.if_icmp .ge 57, 3) := by decide +kernel
theorem dX5_tellList_30 : decode cX5_tellList 30 = .ok (.iload_n 1, 1) := by decide +kernel
theorem dX5_tellList_31 : decode cX5_tellList 31 = .ok (.bipush 12, 2) := by decide +kernel
theorem dX5_tellList_33 : decode cX5_tellList 33 = .ok (.if_icmp .ge 51, 3) := by decide +kernel
theorem dX5_tellList_36 : decode cX5_tellList 36 = .ok (.aload_n 0, 1) := by decide +kernel
theorem dX5_tellList_37 : decode cX5_tellList 37 = .ok (.getfield 23, 3) := by decide +kernel
theorem dX5_tellList_40 : decode cX5_tellList 40 = .ok (.getfield 65, 3) := by decide +kernel
theorem dX5_tellList_43 : decode cX5_tellList 43 = .ok (.iload_n 3, 1) := by decide +kernel
theorem dX5_tellList_44 : decode cX5_tellList 44 = .ok (.bipush 8, 2) := by decide +kernel
theorem dX5_tellList_46 : decode cX5_tellList 46 = .ok (.irem, 1) := by decide +kernel
theorem dX5_tellList_47 : decode cX5_tellList 47 = .ok (.iaload, 1) := by decide +kernel
theorem dX5_tellList_48 : decode cX5_tellList 48 = .ok (.ifCond .le 7, 3) := by decide +kernel
theorem dX5_tellList_51 : decode cX5_tellList 51 = .ok (.iconst 1, 1) := by decide +kernel
theorem dX5_tellList_52 : decode cX5_tellList 52 = .ok (.goto 4, 3) := by decide +kernel
theorem dX5_tellList_55 : decode cX5_tellList 55 = .ok (.iconst 0, 1) := by decide +kernel
theorem dX5_tellList_56 : decode cX5_tellList 56 = .ok (.istore 4, 2) := by decide +kernel
theorem dX5_tellList_58 : decode cX5_tellList 58 = .ok (.iload 4, 2) := by decide +kernel
theorem dX5_tellList_60 : decode cX5_tellList 60 = .ok (.iload_n 2, 1) := by decide +kernel
theorem dX5_tellList_61 : decode cX5_tellList 61 = .ok (.if_icmp .eq 17, 3) := by decide +kernel
theorem dX5_tellList_64 : decode cX5_tellList 64 = .ok (.aload_n 0, 1) := by decide +kernel
theorem dX5_tellList_65 : decode cX5_tellList 65 = .ok (.getfield 30, 3) := by decide +kernel
theorem dX5_tellList_68 : decode cX5_tellList 68 = .ok (.iload_n 3, 1) := by decide +kernel
theorem dX5_tellList_69 : decode cX5_tellList 69 = .ok (.invokevirtual 102, 3) := by decide +kernel
theorem dX5_tellList_72 : decode cX5_tellList 72 = .ok (.iinc 1 1, 3) := by decide +kernel
theorem dX5_tellList_75 : decode cX5_tellList 75 = .ok (.iload 4, 2) := by decide +kernel
theorem dX5_tellList_77 : decode cX5_tellList 77 = .ok (.istore_n 2, 1) := by decide +kernel
theorem dX5_tellList_78 : decode cX5_tellList 78 = .ok (.iinc 3 1, 3) := by decide +kernel
theorem dX5_tellList_81 : decode cX5_tellList 81 = .ok (.goto (-59), 3) := by decide +kernel
theorem dX5_tellList_84 : decode cX5_tellList 84 = .ok (.iload_n 1, 1) := by decide +kernel
theorem dX5_tellList_85 : decode cX5_tellList 85 = .ok (.bipush 12, 2) := by decide +kernel
theorem dX5_tellList_87 : decode cX5_tellList 87 = .ok (.if_icmp .ge 14, 3) := by decide +kernel
theorem dX5_tellList_90 : decode cX5_tellList 90 = .ok (.aload_n 0, 1) := by decide +kernel
theorem dX5_tellList_91 : decode cX5_tellList 91 = .ok (.getfield 30, 3) := by decide +kernel
theorem dX5_tellList_94 : decode cX5_tellList 94 = .ok (.aload_n 0, 1) := by decide +kernel
theorem dX5_tellList_95 : decode cX5_tellList 95 = .ok (.getfield 52, 3) := by decide +kernel
theorem dX5_tellList_98 : decode cX5_tellList 98 = .ok (.invokevirtual 102, 3) := by decide +kernel
theorem dX5_tellList_101 : decode cX5_tellList 101 = .ok (.return_, 1) := by decide +kernel
theorem dX5_statusCame_0 : decode cX5_statusCame 0 = .ok (.aload_n 1, 1) := by decide +kernel
theorem dX5_statusCame_1 : decode cX5_statusCame 1 = .ok (.iconst 4, 1) := by decide +kernel
theorem dX5_statusCame_2 : decode cX5_statusCame 2 = .ok (.iload_n 2, 1) := by decide +kernel
theorem dX5_statusCame_3 : decode cX5_statusCame 3 = .ok (.imul, 1) := by decide +kernel
theorem dX5_statusCame_4 : decode cX5_statusCame 4 = .ok (.invokestatic 147, 3) := by decide +kernel
theorem dX5_statusCame_7 : decode cX5_statusCame 7 = .ok (.istore 5, 2) := by decide +kernel
theorem dX5_statusCame_9 : decode cX5_statusCame 9 = .ok (.iload_n 3, 1) := by decide +kernel
theorem dX5_statusCame_10 : decode cX5_statusCame 10 = .ok (.aload_n 0, 1) := by decide +kernel
theorem dX5_statusCame_11 : decode cX5_statusCame 11 = .ok (.getfield 37, 3) := by decide +kernel
theorem dX5_statusCame_14 : decode cX5_statusCame 14 = .ok (.if_icmp .lt 29, 3) := by decide +kernel
theorem dX5_statusCame_17 : decode cX5_statusCame 17 = .ok (.iload_n 3, 1) := by decide +kernel
theorem dX5_statusCame_18 : decode cX5_statusCame 18 = .ok (.aload_n 0, 1) := by decide +kernel
theorem dX5_statusCame_19 : decode cX5_statusCame 19 = .ok (.getfield 34, 3) := by decide +kernel
theorem dX5_statusCame_22 : decode cX5_statusCame 22 = .ok (.if_icmp .gt 21, 3) := by decide +kernel
theorem dX5_statusCame_25 : decode cX5_statusCame 25 = .ok (.iload 5, 2) := by decide +kernel
theorem dX5_statusCame_27 : decode cX5_statusCame 27 = .ok (.aload_n 0, 1) := by decide +kernel
theorem dX5_statusCame_28 : decode cX5_statusCame 28 = .ok (.getfield 46, 3) := by decide +kernel
theorem dX5_statusCame_31 : decode cX5_statusCame 31 = .ok (.if_icmp .lt 12, 3) := by decide +kernel
theorem dX5_statusCame_34 : decode cX5_statusCame 34 = .ok (.iload 5, 2) := by decide +kernel
theorem dX5_statusCame_36 : decode cX5_statusCame 36 = .ok (.aload_n 0, 1) := by decide +kernel
theorem dX5_statusCame_37 : decode cX5_statusCame 37 = .ok (.getfield 43, 3) := by decide +kernel
theorem dX5_statusCame_40 : decode cX5_statusCame 40 = .ok (.if_icmp .le 5, 3) := by decide +kernel
theorem dX5_statusCame_43 : decode cX5_statusCame 43 = .ok (.iconst 0, 1) := by decide +kernel
theorem dX5_statusCame_44 : decode cX5_statusCame 44 = .ok (.ireturn, 1) := by decide +kernel
theorem dX5_statusCame_45 : decode cX5_statusCame 45 = .ok (.iload_n 3, 1) := by decide +kernel
theorem dX5_statusCame_46 : decode cX5_statusCame 46 = .ok (.istore 6, 2) := by decide +kernel
theorem dX5_statusCame_48 : decode cX5_statusCame 48 = .ok (.iconst 0, 1) := by decide +kernel
theorem dX5_statusCame_49 : decode cX5_statusCame 49 = .ok (.istore 7, 2) := by decide +kernel
theorem dX5_statusCame_51 : decode cX5_statusCame 51 = .ok (.iload 7, 2) := by decide +kernel
theorem dX5_statusCame_53 : decode cX5_statusCame 53 = .ok (.iload_n 2, 1) := by decide +kernel
theorem dX5_statusCame_54 : decode cX5_statusCame 54 = .ok (.if_icmp .ge 43, 3) := by decide +kernel
theorem dX5_statusCame_57 : decode cX5_statusCame 57 = .ok (.aload_n 1, 1) := by decide +kernel
theorem dX5_statusCame_58 : decode cX5_statusCame 58 = .ok (.iconst 4, 1) := by decide +kernel
theorem dX5_statusCame_59 : decode cX5_statusCame 59 = .ok (.iload 7, 2) := by decide +kernel
theorem dX5_statusCame_61 : decode cX5_statusCame 61 = .ok (.imul, 1) := by decide +kernel
theorem dX5_statusCame_62 : decode cX5_statusCame 62 = .ok (.invokestatic 147, 3) := by decide +kernel
theorem dX5_statusCame_65 : decode cX5_statusCame 65 = .ok (.istore 8, 2) := by decide +kernel
theorem dX5_statusCame_67 : decode cX5_statusCame 67 = .ok (.iload 8, 2) := by decide +kernel
theorem dX5_statusCame_69 : decode cX5_statusCame 69 = .ok (.iload 6, 2) := by decide +kernel
theorem dX5_statusCame_71 : decode cX5_statusCame 71 = .ok (.if_icmp .lt 12, 3) := by decide +kernel
theorem dX5_statusCame_74 : decode cX5_statusCame 74 = .ok (.iload 8, 2) := by decide +kernel
theorem dX5_statusCame_76 : decode cX5_statusCame 76 = .ok (.aload_n 0, 1) := by decide +kernel
theorem dX5_statusCame_77 : decode cX5_statusCame 77 = .ok (.getfield 34, 3) := by decide +kernel
theorem dX5_statusCame_80 : decode cX5_statusCame 80 = .ok (.if_icmp .le 5, 3) := by decide +kernel
theorem dX5_statusCame_83 : decode cX5_statusCame 83 = .ok (.iconst 0, 1) := by decide +kernel
theorem dX5_statusCame_84 : decode cX5_statusCame 84 = .ok (.ireturn, 1) := by decide +kernel
theorem dX5_statusCame_85 : decode cX5_statusCame 85 = .ok (.iload 8, 2) := by decide +kernel
theorem dX5_statusCame_87 : decode cX5_statusCame 87 = .ok (.iconst 1, 1) := by decide +kernel
theorem dX5_statusCame_88 : decode cX5_statusCame 88 = .ok (.iadd, 1) := by decide +kernel
theorem dX5_statusCame_89 : decode cX5_statusCame 89 = .ok (.istore 6, 2) := by decide +kernel
theorem dX5_statusCame_91 : decode cX5_statusCame 91 = .ok (.iinc 7 1, 3) := by decide +kernel
theorem dX5_statusCame_94 : decode cX5_statusCame 94 = .ok (.goto (-43), 3) := by decide +kernel
theorem dX5_statusCame_97 : decode cX5_statusCame 97 = .ok (.aload_n 0, 1) := by decide +kernel
theorem dX5_statusCame_98 : decode cX5_statusCame 98 = .ok (.iload_n 3, 1) := by decide +kernel
theorem dX5_statusCame_99 : decode cX5_statusCame 99 = .ok (.invokevirtual 208, 3) := by decide +kernel
theorem dX5_statusCame_102 : decode cX5_statusCame 102 = .ok (.aload_n 0, 1) := by decide +kernel
theorem dX5_statusCame_103 : decode cX5_statusCame 103 = .ok (.iload 5, 2) := by decide +kernel
theorem dX5_statusCame_105 : decode cX5_statusCame 105 = .ok (.putfield 46, 3) := by decide +kernel
theorem dX5_statusCame_108 : decode cX5_statusCame 108 = .ok (.aload_n 0, 1) := by decide +kernel
theorem dX5_statusCame_109 : decode cX5_statusCame 109 = .ok (.iload 4, 2) := by decide +kernel
theorem dX5_statusCame_111 : decode cX5_statusCame 111 = .ok (.putfield 81, 3) := by decide +kernel
theorem dX5_statusCame_114 : decode cX5_statusCame 114 = .ok (.iconst 0, 1) := by decide +kernel
theorem dX5_statusCame_115 : decode cX5_statusCame 115 = .ok (.istore 7, 2) := by decide +kernel
theorem dX5_statusCame_117 : decode cX5_statusCame 117 = .ok (.iload 7, 2) := by decide +kernel
theorem dX5_statusCame_119 : decode cX5_statusCame 119 = .ok (.iconst 1, 1) := by decide +kernel
theorem dX5_statusCame_120 : decode cX5_statusCame 120 = .ok (.iadd, 1) := by decide +kernel
theorem dX5_statusCame_121 : decode cX5_statusCame 121 = .ok (.iload_n 2, 1) := by decide +kernel
theorem dX5_statusCame_122 : decode cX5_statusCame 122 = .ok (.if_icmp .ge 33, 3) := by decide +kernel
theorem dX5_statusCame_125 : decode cX5_statusCame 125 = .ok (.aload_n 0, 1) := by decide +kernel
theorem dX5_statusCame_126 : decode cX5_statusCame 126 = .ok (.aload_n 1, 1) := by decide +kernel
theorem dX5_statusCame_127 : decode cX5_statusCame 127 = .ok (.iconst 4, 1) := by decide +kernel
theorem dX5_statusCame_128 : decode cX5_statusCame 128 = .ok (.iload 7, 2) := by decide +kernel
theorem dX5_statusCame_130 : decode cX5_statusCame 130 = .ok (.imul, 1) := by decide +kernel
theorem dX5_statusCame_131 : decode cX5_statusCame 131 = .ok (.invokestatic 147, 3) := by decide +kernel
theorem dX5_statusCame_134 : decode cX5_statusCame 134 = .ok (.aload_n 1, 1) := by decide +kernel
theorem dX5_statusCame_135 : decode cX5_statusCame 135 = .ok (.iconst 4, 1) := by decide +kernel
theorem dX5_statusCame_136 : decode cX5_statusCame 136 = .ok (.iload 7, 2) := by decide +kernel
theorem dX5_statusCame_138 : decode cX5_statusCame 138 = .ok (.imul, 1) := by decide +kernel
theorem dX5_statusCame_139 : decode cX5_statusCame 139 = .ok (.iconst 4, 1) := by decide +kernel
theorem dX5_statusCame_140 : decode cX5_statusCame 140 = .ok (.iadd, 1) := by decide +kernel
theorem dX5_statusCame_141 : decode cX5_statusCame 141 = .ok (.invokestatic 147, 3) := by decide +kernel
theorem dX5_statusCame_144 : decode cX5_statusCame 144 = .ok (.iload 5, 2) := by decide +kernel
theorem dX5_statusCame_146 : decode cX5_statusCame 146 = .ok (.invokevirtual 211, 3) := by decide +kernel
theorem dX5_statusCame_149 : decode cX5_statusCame 149 = .ok (.iinc 7 2, 3) := by decide +kernel
theorem dX5_statusCame_152 : decode cX5_statusCame 152 = .ok (.goto (-35), 3) := by decide +kernel
theorem dX5_statusCame_155 : decode cX5_statusCame 155 = .ok (.iconst 1, 1) := by decide +kernel
theorem dX5_statusCame_156 : decode cX5_statusCame 156 = .ok (.ireturn, 1) := by decide +kernel
theorem dX5_gapCame_0 : decode cX5_gapCame 0 = .ok (.iload_n 3, 1) := by decide +kernel
theorem dX5_gapCame_1 : decode cX5_gapCame 1 = .ok (.aload_n 0, 1) := by decide +kernel
theorem dX5_gapCame_2 : decode cX5_gapCame 2 = .ok (.getfield 37, 3) := by decide +kernel
theorem dX5_gapCame_5 : decode cX5_gapCame 5 = .ok (.if_icmp .lt 21, 3) := by decide +kernel
theorem dX5_gapCame_8 : decode cX5_gapCame 8 = .ok (.iload_n 1, 1) := by decide +kernel
theorem dX5_gapCame_9 : decode cX5_gapCame 9 = .ok (.iload_n 3, 1) := by decide +kernel
theorem dX5_gapCame_10 : decode cX5_gapCame 10 = .ok (.if_icmp .lt 16, 3) := by decide +kernel
theorem dX5_gapCame_13 : decode cX5_gapCame 13 = .ok (.iload_n 2, 1) := by decide +kernel
theorem dX5_gapCame_14 : decode cX5_gapCame 14 = .ok (.iload_n 1, 1) := by decide +kernel
theorem dX5_gapCame_15 : decode cX5_gapCame 15 = .ok (.if_icmp .le 11, 3) := by decide +kernel
theorem dX5_gapCame_18 : decode cX5_gapCame 18 = .ok (.iload_n 2, 1) := by decide +kernel
theorem dX5_gapCame_19 : decode cX5_gapCame 19 = .ok (.aload_n 0, 1) := by decide +kernel
theorem dX5_gapCame_20 : decode cX5_gapCame 20 = .ok (.getfield 34, 3) := by decide +kernel
theorem dX5_gapCame_23 : decode cX5_gapCame 23 = .ok (.if_icmp .le 5, 3) := by decide +kernel
theorem dX5_gapCame_26 : decode cX5_gapCame 26 = .ok (.iconst 0, 1) := by decide +kernel
theorem dX5_gapCame_27 : decode cX5_gapCame 27 = .ok (.ireturn, 1) := by decide +kernel
theorem dX5_gapCame_28 : decode cX5_gapCame 28 = .ok (.aload_n 0, 1) := by decide +kernel
theorem dX5_gapCame_29 : decode cX5_gapCame 29 = .ok (.iload_n 3, 1) := by decide +kernel
theorem dX5_gapCame_30 : decode cX5_gapCame 30 = .ok (.invokevirtual 208, 3) := by decide +kernel
theorem dX5_gapCame_33 : decode cX5_gapCame 33 = .ok (.aload_n 0, 1) := by decide +kernel
theorem dX5_gapCame_34 : decode cX5_gapCame 34 = .ok (.iload_n 1, 1) := by decide +kernel
theorem dX5_gapCame_35 : decode cX5_gapCame 35 = .ok (.iload_n 2, 1) := by decide +kernel
theorem dX5_gapCame_36 : decode cX5_gapCame 36 = .ok (.aload_n 0, 1) := by decide +kernel
theorem dX5_gapCame_37 : decode cX5_gapCame 37 = .ok (.getfield 43, 3) := by decide +kernel
theorem dX5_gapCame_40 : decode cX5_gapCame 40 = .ok (.iconst 1, 1) := by decide +kernel
theorem dX5_gapCame_41 : decode cX5_gapCame 41 = .ok (.iadd, 1) := by decide +kernel
theorem dX5_gapCame_42 : decode cX5_gapCame 42 = .ok (.invokevirtual 211, 3) := by decide +kernel
theorem dX5_gapCame_45 : decode cX5_gapCame 45 = .ok (.iconst 1, 1) := by decide +kernel
theorem dX5_gapCame_46 : decode cX5_gapCame 46 = .ok (.ireturn, 1) := by decide +kernel
theorem dX5_acknowledge_0 : decode cX5_acknowledge 0 = .ok (.aload_n 0, 1) := by decide +kernel
theorem dX5_acknowledge_1 : decode cX5_acknowledge 1 = .ok (.getfield 37, 3) := by decide +kernel
theorem dX5_acknowledge_4 : decode cX5_acknowledge 4 = .ok (.istore_n 2, 1) := by decide +kernel
theorem dX5_acknowledge_5 : decode cX5_acknowledge 5 = .ok (.iload_n 2, 1) := by decide +kernel
theorem dX5_acknowledge_6 : decode cX5_acknowledge 6 = .ok (.iload_n 1, 1) := by decide +kernel
theorem dX5_acknowledge_7 : decode cX5_acknowledge 7 = .ok (.if_icmp .ge 28, 3) := by decide +kernel
theorem dX5_acknowledge_10 : decode cX5_acknowledge 10 = .ok (.iload_n 2, 1) := by decide +kernel
theorem dX5_acknowledge_11 : decode cX5_acknowledge 11 = .ok (.aload_n 0, 1) := by decide +kernel
theorem dX5_acknowledge_12 : decode cX5_acknowledge 12 = .ok (.getfield 34, 3) := by decide +kernel
theorem dX5_acknowledge_15 : decode cX5_acknowledge 15 = .ok (.if_icmp .ge 20, 3) := by decide +kernel
theorem dX5_acknowledge_18 : decode cX5_acknowledge 18 = .ok (.aload_n 0, 1) := by decide +kernel
theorem dX5_acknowledge_19 : decode cX5_acknowledge 19 = .ok (.getfield 20, 3) := by decide +kernel
theorem dX5_acknowledge_22 : decode cX5_acknowledge 22 = .ok (.iload_n 2, 1) := by decide +kernel
theorem dX5_acknowledge_23 : decode cX5_acknowledge 23 = .ok (.bipush 8, 2) := by decide +kernel
theorem dX5_acknowledge_25 : decode cX5_acknowledge 25 = .ok (.irem, 1) := by decide +kernel
theorem dX5_acknowledge_26 : decode cX5_acknowledge 26 = .ok (.invokevirtual 199, 3) := by decide +kernel
theorem dX5_acknowledge_29 : decode cX5_acknowledge 29 = .ok (.iinc 2 1, 3) := by decide +kernel
theorem dX5_acknowledge_32 : decode cX5_acknowledge 32 = .ok (.goto (-27), 3) := by decide +kernel
theorem dX5_acknowledge_35 : decode cX5_acknowledge 35 = .ok (.aload_n 0, 1) := by decide +kernel
theorem dX5_acknowledge_36 : decode cX5_acknowledge 36 = .ok (.iload_n 1, 1) := by decide +kernel
theorem dX5_acknowledge_37 : decode cX5_acknowledge 37 = .ok (.putfield 37, 3) := by decide +kernel
theorem dX5_acknowledge_40 : decode cX5_acknowledge 40 = .ok (.aload_n 0, 1) := by decide +kernel
theorem dX5_acknowledge_41 : decode cX5_acknowledge 41 = .ok (.iload_n 1, 1) := by decide +kernel
theorem dX5_acknowledge_42 : decode cX5_acknowledge 42 = .ok (.bipush 8, 2) := by decide +kernel
theorem dX5_acknowledge_44 : decode cX5_acknowledge 44 = .ok (.iadd, 1) := by decide +kernel
theorem dX5_acknowledge_45 : decode cX5_acknowledge 45 = .ok (.putfield 40, 3) := by decide +kernel
theorem dX5_acknowledge_48 : decode cX5_acknowledge 48 = .ok (.return_, 1) := by decide +kernel
theorem dX5_markAgain_0 : decode cX5_markAgain 0 = .ok (.iload_n 1, 1) := by decide +kernel
theorem dX5_markAgain_1 : decode cX5_markAgain 1 = .ok (.aload_n 0, 1) := by decide +kernel
theorem dX5_markAgain_2 : decode cX5_markAgain 2 = .ok (.getfield 37, 3) := by decide +kernel
theorem dX5_markAgain_5 : decode cX5_markAgain 5 = .ok (.invokestatic 188, 3) := by decide +kernel
theorem dX5_markAgain_8 : decode cX5_markAgain 8 = .ok (.istore 4, 2) := by decide +kernel
theorem dX5_markAgain_10 : decode cX5_markAgain 10 = .ok (.iload 4, 2) := by decide +kernel
theorem dX5_markAgain_12 : decode cX5_markAgain 12 = .ok (.iload_n 2, 1) := by decide +kernel
theorem dX5_markAgain_13 : decode cX5_markAgain 13 = .ok (.if_icmp .ge 49, 3) := by decide +kernel
theorem dX5_markAgain_16 : decode cX5_markAgain 16 = .ok (.iload 4, 2) := by decide +kernel
theorem dX5_markAgain_18 : decode cX5_markAgain 18 = .ok (.aload_n 0, 1) := by decide +kernel
theorem dX5_markAgain_19 : decode cX5_markAgain 19 = .ok (.getfield 34, 3) := by decide +kernel
theorem dX5_markAgain_22 : decode cX5_markAgain 22 = .ok (.if_icmp .ge 40, 3) := by decide +kernel
theorem dX5_markAgain_25 : decode cX5_markAgain 25 = .ok (.aload_n 0, 1) := by decide +kernel
theorem dX5_markAgain_26 : decode cX5_markAgain 26 = .ok (.getfield 20, 3) := by decide +kernel
theorem dX5_markAgain_29 : decode cX5_markAgain 29 = .ok (.getfield 136, 3) := by decide +kernel
theorem dX5_markAgain_32 : decode cX5_markAgain 32 = .ok (.iload 4, 2) := by decide +kernel
theorem dX5_markAgain_34 : decode cX5_markAgain 34 = .ok (.bipush 8, 2) := by decide +kernel
theorem dX5_markAgain_36 : decode cX5_markAgain 36 = .ok (.irem, 1) := by decide +kernel
theorem dX5_markAgain_37 : decode cX5_markAgain 37 = .ok (.iaload, 1) := by decide +kernel
theorem dX5_markAgain_38 : decode cX5_markAgain 38 = .ok (.iload_n 3, 1) := by decide +kernel
theorem dX5_markAgain_39 : decode cX5_markAgain 39 = .ok (.if_icmp .ge 17, 3) := by decide +kernel
theorem dX5_markAgain_42 : decode cX5_markAgain 42 = .ok (.aload_n 0, 1) := by decide +kernel
theorem dX5_markAgain_43 : decode cX5_markAgain 43 = .ok (.getfield 20, 3) := by decide +kernel
theorem dX5_markAgain_46 : decode cX5_markAgain 46 = .ok (.getfield 115, 3) := by decide +kernel
theorem dX5_markAgain_49 : decode cX5_markAgain 49 = .ok (.iload 4, 2) := by decide +kernel
theorem dX5_markAgain_51 : decode cX5_markAgain 51 = .ok (.bipush 8, 2) := by decide +kernel
theorem dX5_markAgain_53 : decode cX5_markAgain 53 = .ok (.irem, 1) := by decide +kernel
theorem dX5_markAgain_54 : decode cX5_markAgain 54 = .ok (.iconst 1, 1) := by decide +kernel
theorem dX5_markAgain_55 : decode cX5_markAgain 55 = .ok (.bastore, 1) := by decide +kernel
theorem dX5_markAgain_56 : decode cX5_markAgain 56 = .ok (.iinc 4 1, 3) := by decide +kernel
theorem dX5_markAgain_59 : decode cX5_markAgain 59 = .ok (.goto (-49), 3) := by decide +kernel
theorem dX5_markAgain_62 : decode cX5_markAgain 62 = .ok (.return_, 1) := by decide +kernel
theorem dX6_init_0 : decode cX6_init 0 = .ok (.aload_n 0, 1) := by decide +kernel
theorem dX6_init_1 : decode cX6_init 1 = .ok (.invokespecial 3, 3) := by decide +kernel
theorem dX6_init_4 : decode cX6_init 4 = .ok (.iconst 1, 1) := by decide +kernel
theorem dX6_init_5 : decode cX6_init 5 = .ok (.iload_n 1, 1) := by decide +kernel
theorem dX6_init_6 : decode cX6_init 6 = .ok (.invokestatic 9, 3) := by decide +kernel
theorem dX6_init_9 : decode cX6_init 9 = .ok (.istore_n 2, 1) := by decide +kernel
theorem dX6_init_10 : decode cX6_init 10 = .ok (.aload_n 0, 1) := by decide +kernel
theorem dX6_init_11 : decode cX6_init 11 = .ok (.iload_n 2, 1) := by decide +kernel
theorem dX6_init_12 : decode cX6_init 12 = .ok (.putfield 15, 3) := by decide +kernel
theorem dX6_init_15 : decode cX6_init 15 = .ok (.aload_n 0, 1) := by decide +kernel
theorem dX6_init_16 : decode cX6_init 16 = .ok (.iload_n 2, 1) := by decide +kernel
theorem dX6_init_17 : decode cX6_init 17 = .ok (.bipush 60, 2) := by decide +kernel
theorem dX6_init_19 : decode cX6_init 19 = .ok (.imul, 1) := by decide +kernel
theorem dX6_init_20 : decode cX6_init 20 = .ok (.newarray .int, 2) := by decide +kernel
theorem dX6_init_22 : decode cX6_init 22 = .ok (.putfield 21, 3) := by decide +kernel
theorem dX6_init_25 : decode cX6_init 25 = .ok (.aload_n 0, 1) := by decide +kernel
theorem dX6_init_26 : decode cX6_init 26 = .ok (.iload_n 2, 1) := by decide +kernel
theorem dX6_init_27 : decode cX6_init 27 = .ok (.newarray .int, 2) := by decide +kernel
theorem dX6_init_29 : decode cX6_init 29 = .ok (.putfield 25, 3) := by decide +kernel
theorem dX6_init_32 : decode cX6_init 32 = .ok (.aload_n 0, 1) := by decide +kernel
theorem dX6_init_33 : decode cX6_init 33 = .ok (.iload_n 2, 1) := by decide +kernel
theorem dX6_init_34 : decode cX6_init 34 = .ok (.newarray .int, 2) := by decide +kernel
theorem dX6_init_36 : decode cX6_init 36 = .ok (.putfield 28, 3) := by decide +kernel
theorem dX6_init_39 : decode cX6_init 39 = .ok (.aload_n 0, 1) := by decide +kernel
theorem dX6_init_40 : decode cX6_init 40 = .ok (.iload_n 2, 1) := by decide +kernel
theorem dX6_init_41 : decode cX6_init 41 = .ok (.newarray .boolean, 2) := by decide +kernel
theorem dX6_init_43 : decode cX6_init 43 = .ok (.putfield 31, 3) := by decide +kernel
theorem dX6_init_46 : decode cX6_init 46 = .ok (.return_, 1) := by decide +kernel
theorem dX6_clearAll_0 : decode cX6_clearAll 0 = .ok (.aload_n 0, 1) := by decide +kernel
theorem dX6_clearAll_1 : decode cX6_clearAll 1 = .ok (.iconst 0, 1) := by decide +kernel
theorem dX6_clearAll_2 : decode cX6_clearAll 2 = .ok (.putfield 35, 3) := by decide +kernel
theorem dX6_clearAll_5 : decode cX6_clearAll 5 = .ok (.aload_n 0, 1) := by decide +kernel
theorem dX6_clearAll_6 : decode cX6_clearAll 6 = .ok (.iconst 0, 1) := by decide +kernel
theorem dX6_clearAll_7 : decode cX6_clearAll 7 = .ok (.putfield 38, 3) := by decide +kernel
theorem dX6_clearAll_10 : decode cX6_clearAll 10 = .ok (.iconst 0, 1) := by decide +kernel
theorem dX6_clearAll_11 : decode cX6_clearAll 11 = .ok (.istore_n 1, 1) := by decide +kernel
theorem dX6_clearAll_12 : decode cX6_clearAll 12 = .ok (.iload_n 1, 1) := by decide +kernel
theorem dX6_clearAll_13 : decode cX6_clearAll 13 = .ok (.aload_n 0, 1) := by decide +kernel
theorem dX6_clearAll_14 : decode cX6_clearAll 14 = .ok (.getfield 15, 3) := by decide +kernel
theorem dX6_clearAll_17 : decode cX6_clearAll 17 = .ok (.if_icmp .ge 23, 3) := by decide +kernel
theorem dX6_clearAll_20 : decode cX6_clearAll 20 = .ok (.aload_n 0, 1) := by decide +kernel
theorem dX6_clearAll_21 : decode cX6_clearAll 21 = .ok (.getfield 25, 3) := by decide +kernel
theorem dX6_clearAll_24 : decode cX6_clearAll 24 = .ok (.iload_n 1, 1) := by decide +kernel
theorem dX6_clearAll_25 : decode cX6_clearAll 25 = .ok (.iconst 0, 1) := by decide +kernel
theorem dX6_clearAll_26 : decode cX6_clearAll 26 = .ok (.iastore, 1) := by decide +kernel
theorem dX6_clearAll_27 : decode cX6_clearAll 27 = .ok (.aload_n 0, 1) := by decide +kernel
theorem dX6_clearAll_28 : decode cX6_clearAll 28 = .ok (.getfield 31, 3) := by decide +kernel
theorem dX6_clearAll_31 : decode cX6_clearAll 31 = .ok (.iload_n 1, 1) := by decide +kernel
theorem dX6_clearAll_32 : decode cX6_clearAll 32 = .ok (.iconst 0, 1) := by decide +kernel
theorem dX6_clearAll_33 : decode cX6_clearAll 33 = .ok (.bastore, 1) := by decide +kernel
theorem dX6_clearAll_34 : decode cX6_clearAll 34 = .ok (.iinc 1 1, 3) := by decide +kernel
theorem dX6_clearAll_37 : decode cX6_clearAll 37 = .ok (.goto (-25), 3) := by decide +kernel
theorem dX6_clearAll_40 : decode cX6_clearAll 40 = .ok (.return_, 1) := by decide +kernel
theorem dX6_clear_0 : decode cX6_clear 0 = .ok (.iload_n 1, 1) := by decide +kernel
theorem dX6_clear_1 : decode cX6_clear 1 = .ok (.ifCond .lt 25, 3) := by decide +kernel
theorem dX6_clear_4 : decode cX6_clear 4 = .ok (.iload_n 1, 1) := by decide +kernel
theorem dX6_clear_5 : decode cX6_clear 5 = .ok (.aload_n 0, 1) := by decide +kernel
theorem dX6_clear_6 : decode cX6_clear 6 = .ok (.getfield 15, 3) := by decide +kernel
theorem dX6_clear_9 : decode cX6_clear 9 = .ok (.if_icmp .ge 17, 3) := by decide +kernel
theorem dX6_clear_12 : decode cX6_clear 12 = .ok (.aload_n 0, 1) := by decide +kernel
theorem dX6_clear_13 : decode cX6_clear 13 = .ok (.getfield 25, 3) := by decide +kernel
theorem dX6_clear_16 : decode cX6_clear 16 = .ok (.iload_n 1, 1) := by decide +kernel
theorem dX6_clear_17 : decode cX6_clear 17 = .ok (.iconst 0, 1) := by decide +kernel
theorem dX6_clear_18 : decode cX6_clear 18 = .ok (.iastore, 1) := by decide +kernel
theorem dX6_clear_19 : decode cX6_clear 19 = .ok (.aload_n 0, 1) := by decide +kernel
theorem dX6_clear_20 : decode cX6_clear 20 = .ok (.getfield 31, 3) := by decide +kernel
theorem dX6_clear_23 : decode cX6_clear 23 = .ok (.iload_n 1, 1) := by decide +kernel
theorem dX6_clear_24 : decode cX6_clear 24 = .ok (.iconst 0, 1) := by decide +kernel
theorem dX6_clear_25 : decode cX6_clear 25 = .ok (.bastore, 1) := by decide +kernel
theorem dX6_clear_26 : decode cX6_clear 26 = .ok (.return_, 1) := by decide +kernel
theorem dX6_put_0 : decode cX6_put 0 = .ok (.iload_n 1, 1) := by decide +kernel
theorem dX6_put_1 : decode cX6_put 1 = .ok (.ifCond .lt 36, 3) := by decide +kernel
theorem dX6_put_4 : decode cX6_put 4 = .ok (.iload_n 1, 1) := by decide +kernel
theorem dX6_put_5 : decode cX6_put 5 = .ok (.aload_n 0, 1) := by decide +kernel
theorem dX6_put_6 : decode cX6_put 6 = .ok (.getfield 15, 3) := by decide +kernel
theorem dX6_put_9 : decode cX6_put 9 = .ok (.if_icmp .ge 28, 3) := by decide +kernel
theorem dX6_put_12 : decode cX6_put 12 = .ok (.iload 4, 2) := by decide +kernel
theorem dX6_put_14 : decode cX6_put 14 = .ok (.ifCond .lt 23, 3) := by decide +kernel
theorem dX6_put_17 : decode cX6_put 17 = .ok (.iload 4, 2) := by decide +kernel
theorem dX6_put_19 : decode cX6_put 19 = .ok (.bipush 60, 2) := by decide +kernel
theorem dX6_put_21 : decode cX6_put 21 = .ok (.if_icmp .gt 16, 3) := by decide +kernel
theorem dX6_put_24 : decode cX6_put 24 = .ok (.iload_n 3, 1) := by decide +kernel
theorem dX6_put_25 : decode cX6_put 25 = .ok (.ifCond .lt 12, 3) := by decide +kernel
theorem dX6_put_28 : decode cX6_put 28 = .ok (.iload_n 3, 1) := by decide +kernel
theorem dX6_put_29 : decode cX6_put 29 = .ok (.iload 4, 2) := by decide +kernel
theorem dX6_put_31 : decode cX6_put 31 = .ok (.iadd, 1) := by decide +kernel
theorem dX6_put_32 : decode cX6_put 32 = .ok (.aload_n 2, 1) := by decide +kernel
theorem dX6_put_33 : decode cX6_put 33 = .ok (.arraylength, 1) := by decide +kernel
theorem dX6_put_34 : decode cX6_put 34 = .ok (.if_icmp .le 4, 3) := by decide +kernel
theorem dX6_put_37 : decode cX6_put 37 = .ok (.return_, 1) := by decide +kernel
theorem dX6_put_38 : decode cX6_put 38 = .ok (.aload_n 2, 1) := by decide +kernel
theorem dX6_put_39 : decode cX6_put 39 = .ok (.iload_n 3, 1) := by decide +kernel
theorem dX6_put_40 : decode cX6_put 40 = .ok (.aload_n 0, 1) := by decide +kernel
theorem dX6_put_41 : decode cX6_put 41 = .ok (.getfield 21, 3) := by decide +kernel
theorem dX6_put_44 : decode cX6_put 44 = .ok (.iload_n 1, 1) := by decide +kernel
theorem dX6_put_45 : decode cX6_put 45 = .ok (.bipush 60, 2) := by decide +kernel
theorem dX6_put_47 : decode cX6_put 47 = .ok (.imul, 1) := by decide +kernel
theorem dX6_put_48 : decode cX6_put 48 = .ok (.iload 4, 2) := by decide +kernel
theorem dX6_put_50 : decode cX6_put 50 = .ok (.invokestatic 41, 3) := by decide +kernel
theorem dX6_put_53 : decode cX6_put 53 = .ok (.aload_n 0, 1) := by decide +kernel
theorem dX6_put_54 : decode cX6_put 54 = .ok (.getfield 25, 3) := by decide +kernel
theorem dX6_put_57 : decode cX6_put 57 = .ok (.iload_n 1, 1) := by decide +kernel
theorem dX6_put_58 : decode cX6_put 58 = .ok (.iload 4, 2) := by decide +kernel
theorem dX6_put_60 : decode cX6_put 60 = .ok (.iastore, 1) := by decide +kernel
theorem dX6_put_61 : decode cX6_put 61 = .ok (.return_, 1) := by decide +kernel
theorem dX6_begin_0 : decode cX6_begin 0 = .ok (.aload_n 0, 1) := by decide +kernel
theorem dX6_begin_1 : decode cX6_begin 1 = .ok (.getfield 38, 3) := by decide +kernel
theorem dX6_begin_4 : decode cX6_begin 4 = .ok (.aload_n 0, 1) := by decide +kernel
theorem dX6_begin_5 : decode cX6_begin 5 = .ok (.getfield 15, 3) := by decide +kernel
theorem dX6_begin_8 : decode cX6_begin 8 = .ok (.if_icmp .lt 5, 3) := by decide +kernel
theorem dX6_begin_11 : decode cX6_begin 11 = .ok (.iconst 0, 1) := by decide +kernel
theorem dX6_begin_12 : decode cX6_begin 12 = .ok (.ireturn, 1) := by decide +kernel
theorem dX6_begin_13 : decode cX6_begin 13 = .ok (.aload_n 0, 1) := by decide +kernel
theorem dX6_begin_14 : decode cX6_begin 14 = .ok (.getfield 35, 3) := by decide +kernel
theorem dX6_begin_17 : decode cX6_begin 17 = .ok (.aload_n 0, 1) := by decide +kernel
theorem dX6_begin_18 : decode cX6_begin 18 = .ok (.getfield 38, 3) := by decide +kernel
theorem dX6_begin_21 : decode cX6_begin 21 = .ok (.iadd, 1) := by decide +kernel
theorem dX6_begin_22 : decode cX6_begin 22 = .ok (.aload_n 0, 1) := by decide +kernel
theorem dX6_begin_23 : decode cX6_begin 23 = .ok (.getfield 15, 3) := by decide +kernel
theorem dX6_begin_26 : decode cX6_begin 26 = .ok (.irem, 1) := by decide +kernel
theorem dX6_begin_27 : decode cX6_begin 27 = .ok (.istore 5, 2) := by decide +kernel
theorem dX6_begin_29 : decode cX6_begin 29 = .ok (.iload 5, 2) := by decide +kernel
theorem dX6_begin_31 : decode cX6_begin 31 = .ok (.bipush 60, 2) := by decide +kernel
theorem dX6_begin_33 : decode cX6_begin 33 = .ok (.imul, 1) := by decide +kernel
theorem dX6_begin_34 : decode cX6_begin 34 = .ok (.istore 6, 2) := by decide +kernel
theorem dX6_begin_36 : decode cX6_begin 36 = .ok (.aload_n 0, 1) := by decide +kernel
theorem dX6_begin_37 : decode cX6_begin 37 = .ok (.getfield 21, 3) := by decide +kernel
theorem dX6_begin_40 : decode cX6_begin 40 = .ok (.iload 6, 2) := by decide +kernel
theorem dX6_begin_42 : decode cX6_begin 42 = .ok (.bipush 9, 2) := by decide +kernel
theorem dX6_begin_44 : decode cX6_begin 44 = .ok (.iastore, 1) := by decide +kernel
theorem dX6_begin_45 : decode cX6_begin 45 = .ok (.aload_n 0, 1) := by decide +kernel
theorem dX6_begin_46 : decode cX6_begin 46 = .ok (.getfield 21, 3) := by decide +kernel
theorem dX6_begin_49 : decode cX6_begin 49 = .ok (.iload 6, 2) := by decide +kernel
theorem dX6_begin_51 : decode cX6_begin 51 = .ok (.iconst 1, 1) := by decide +kernel
theorem dX6_begin_52 : decode cX6_begin 52 = .ok (.iadd, 1) := by decide +kernel
theorem dX6_begin_53 : decode cX6_begin 53 = .ok (.iconst 3, 1) := by decide +kernel
theorem dX6_begin_54 : decode cX6_begin 54 = .ok (.iastore, 1) := by decide +kernel
theorem dX6_begin_55 : decode cX6_begin 55 = .ok (.aload_n 0, 1) := by decide +kernel
theorem dX6_begin_56 : decode cX6_begin 56 = .ok (.getfield 21, 3) := by decide +kernel
theorem dX6_begin_59 : decode cX6_begin 59 = .ok (.iload 6, 2) := by decide +kernel
theorem dX6_begin_61 : decode cX6_begin 61 = .ok (.iconst 2, 1) := by decide +kernel
theorem dX6_begin_62 : decode cX6_begin 62 = .ok (.iadd, 1) := by decide +kernel
theorem dX6_begin_63 : decode cX6_begin 63 = .ok (.iload_n 2, 1) := by decide +kernel
theorem dX6_begin_64 : decode cX6_begin 64 = .ok (.bipush 16, 2) := by decide +kernel
theorem dX6_begin_66 : decode cX6_begin 66 = .ok (.iushr, 1) := by decide +kernel
theorem dX6_begin_67 : decode cX6_begin 67 = .ok (.bipush 127, 2) := by decide +kernel
theorem dX6_begin_69 : decode cX6_begin 69 = .ok (.iand, 1) := by decide +kernel
theorem dX6_begin_70 : decode cX6_begin 70 = .ok (.iload_n 3, 1) := by decide +kernel
theorem dX6_begin_71 : decode cX6_begin 71 = .ok (.ifCond .eq 7, 3) := by decide +kernel
theorem dX6_begin_74 : decode cX6_begin 74 = .ok (.iconst 0, 1) := by decide +kernel
theorem dX6_begin_75 : decode cX6_begin 75 = .ok (.goto 6, 3) := by decide +kernel
theorem dX6_begin_78 : decode cX6_begin 78 = .ok (.sipush 128, 3) := by decide +kernel
theorem dX6_begin_81 : decode cX6_begin 81 = .ok (.ior, 1) := by decide +kernel
theorem dX6_begin_82 : decode cX6_begin 82 = .ok (.iastore, 1) := by decide +kernel
theorem dX6_begin_83 : decode cX6_begin 83 = .ok (.aload_n 0, 1) := by decide +kernel
theorem dX6_begin_84 : decode cX6_begin 84 = .ok (.getfield 21, 3) := by decide +kernel
theorem dX6_begin_87 : decode cX6_begin 87 = .ok (.iload 6, 2) := by decide +kernel
theorem dX6_begin_89 : decode cX6_begin 89 = .ok (.iconst 3, 1) := by decide +kernel
theorem dX6_begin_90 : decode cX6_begin 90 = .ok (.iadd, 1) := by decide +kernel
theorem dX6_begin_91 : decode cX6_begin 91 = .ok (.iload_n 2, 1) := by decide +kernel
theorem dX6_begin_92 : decode cX6_begin 92 = .ok (.bipush 8, 2) := by decide +kernel
theorem dX6_begin_94 : decode cX6_begin 94 = .ok (.iushr, 1) := by decide +kernel
theorem dX6_begin_95 : decode cX6_begin 95 = .ok (.sipush 255, 3) := by decide +kernel
theorem dX6_begin_98 : decode cX6_begin 98 = .ok (.iand, 1) := by decide +kernel
theorem dX6_begin_99 : decode cX6_begin 99 = .ok (.iastore, 1) := by decide +kernel
theorem dX6_begin_100 : decode cX6_begin 100 = .ok (.aload_n 0, 1) := by decide +kernel
theorem dX6_begin_101 : decode cX6_begin 101 = .ok (.getfield 21, 3) := by decide +kernel
theorem dX6_begin_104 : decode cX6_begin 104 = .ok (.iload 6, 2) := by decide +kernel
theorem dX6_begin_106 : decode cX6_begin 106 = .ok (.iconst 4, 1) := by decide +kernel
theorem dX6_begin_107 : decode cX6_begin 107 = .ok (.iadd, 1) := by decide +kernel
theorem dX6_begin_108 : decode cX6_begin 108 = .ok (.iload_n 2, 1) := by decide +kernel
theorem dX6_begin_109 : decode cX6_begin 109 = .ok (.sipush 255, 3) := by decide +kernel
theorem dX6_begin_112 : decode cX6_begin 112 = .ok (.iand, 1) := by decide +kernel
theorem dX6_begin_113 : decode cX6_begin 113 = .ok (.iastore, 1) := by decide +kernel
theorem dX6_begin_114 : decode cX6_begin 114 = .ok (.aload_n 0, 1) := by decide +kernel
theorem dX6_begin_115 : decode cX6_begin 115 = .ok (.getfield 21, 3) := by decide +kernel
theorem dX6_begin_118 : decode cX6_begin 118 = .ok (.iload 6, 2) := by decide +kernel
theorem dX6_begin_120 : decode cX6_begin 120 = .ok (.iconst 5, 1) := by decide +kernel
theorem dX6_begin_121 : decode cX6_begin 121 = .ok (.iadd, 1) := by decide +kernel
theorem dX6_begin_122 : decode cX6_begin 122 = .ok (.iload_n 1, 1) := by decide +kernel
theorem dX6_begin_123 : decode cX6_begin 123 = .ok (.iastore, 1) := by decide +kernel
theorem dX6_begin_124 : decode cX6_begin 124 = .ok (.aload_n 0, 1) := by decide +kernel
theorem dX6_begin_125 : decode cX6_begin 125 = .ok (.getfield 21, 3) := by decide +kernel
theorem dX6_begin_128 : decode cX6_begin 128 = .ok (.iload 6, 2) := by decide +kernel
theorem dX6_begin_130 : decode cX6_begin 130 = .ok (.bipush 6, 2) := by decide +kernel
theorem dX6_begin_132 : decode cX6_begin 132 = .ok (.iadd, 1) := by decide +kernel
theorem dX6_begin_133 : decode cX6_begin 133 = .ok (.sipush 128, 3) := by decide +kernel
theorem dX6_begin_136 : decode cX6_begin 136 = .ok (.iastore, 1) := by decide +kernel
theorem dX6_begin_137 : decode cX6_begin 137 = .ok (.aload_n 0, 1) := by decide +kernel
theorem dX6_begin_138 : decode cX6_begin 138 = .ok (.getfield 21, 3) := by decide +kernel
theorem dX6_begin_141 : decode cX6_begin 141 = .ok (.iload 6, 2) := by decide +kernel
theorem dX6_begin_143 : decode cX6_begin 143 = .ok (.bipush 7, 2) := by decide +kernel
theorem dX6_begin_145 : decode cX6_begin 145 = .ok (.iadd, 1) := by decide +kernel
theorem dX6_begin_146 : decode cX6_begin 146 = .ok (.iconst 0, 1) := by decide +kernel
theorem dX6_begin_147 : decode cX6_begin 147 = .ok (.iastore, 1) := by decide +kernel
theorem dX6_begin_148 : decode cX6_begin 148 = .ok (.aload_n 0, 1) := by decide +kernel
theorem dX6_begin_149 : decode cX6_begin 149 = .ok (.getfield 21, 3) := by decide +kernel
theorem dX6_begin_152 : decode cX6_begin 152 = .ok (.iload 6, 2) := by decide +kernel
theorem dX6_begin_154 : decode cX6_begin 154 = .ok (.bipush 8, 2) := by decide +kernel
theorem dX6_begin_156 : decode cX6_begin 156 = .ok (.iadd, 1) := by decide +kernel
theorem dX6_begin_157 : decode cX6_begin 157 = .ok (.iload 4, 2) := by decide +kernel
theorem dX6_begin_159 : decode cX6_begin 159 = .ok (.iastore, 1) := by decide +kernel
theorem dX6_begin_160 : decode cX6_begin 160 = .ok (.aload_n 0, 1) := by decide +kernel
theorem dX6_begin_161 : decode cX6_begin 161 = .ok (.getfield 25, 3) := by decide +kernel
theorem dX6_begin_164 : decode cX6_begin 164 = .ok (.iload 5, 2) := by decide +kernel
theorem dX6_begin_166 : decode cX6_begin 166 = .ok (.bipush 9, 2) := by decide +kernel
theorem dX6_begin_168 : decode cX6_begin 168 = .ok (.iastore, 1) := by decide +kernel
theorem dX6_begin_169 : decode cX6_begin 169 = .ok (.aload_n 0, 1) := by decide +kernel
theorem dX6_begin_170 : decode cX6_begin 170 = .ok (.dup, 1) := by decide +kernel
theorem dX6_begin_171 : decode cX6_begin 171 = .ok (.getfield 38, 3) := by decide +kernel
theorem dX6_begin_174 : decode cX6_begin 174 = .ok (.iconst 1, 1) := by decide +kernel
theorem dX6_begin_175 : decode cX6_begin 175 = .ok (.iadd, 1) := by decide +kernel
theorem dX6_begin_176 : decode cX6_begin 176 = .ok (.putfield 38, 3) := by decide +kernel
theorem dX6_begin_179 : decode cX6_begin 179 = .ok (.iconst 1, 1) := by decide +kernel
theorem dX6_begin_180 : decode cX6_begin 180 = .ok (.ireturn, 1) := by decide +kernel
theorem dX6_element_0 : decode cX6_element 0 = .ok (.aload_n 0, 1) := by decide +kernel
theorem dX6_element_1 : decode cX6_element 1 = .ok (.getfield 35, 3) := by decide +kernel
theorem dX6_element_4 : decode cX6_element 4 = .ok (.iconst 0, 1) := by decide +kernel
theorem dX6_element_5 : decode cX6_element 5 = .ok (.aload_n 0, 1) := by decide +kernel
theorem dX6_element_6 : decode cX6_element 6 = .ok (.getfield 38, 3) := by decide +kernel
theorem dX6_element_9 : decode cX6_element 9 = .ok (.iconst 1, 1) := by decide +kernel
theorem dX6_element_10 : decode cX6_element 10 = .ok (.isub, 1) := by decide +kernel
theorem dX6_element_11 : decode cX6_element 11 = .ok (.invokestatic 9, 3) := by decide +kernel
theorem dX6_element_14 : decode cX6_element 14 = .ok (.iadd, 1) := by decide +kernel
theorem dX6_element_15 : decode cX6_element 15 = .ok (.aload_n 0, 1) := by decide +kernel
theorem dX6_element_16 : decode cX6_element 16 = .ok (.getfield 15, 3) := by decide +kernel
theorem dX6_element_19 : decode cX6_element 19 = .ok (.irem, 1) := by decide +kernel
theorem dX6_element_20 : decode cX6_element 20 = .ok (.istore 4, 2) := by decide +kernel
theorem dX6_element_22 : decode cX6_element 22 = .ok (.aload_n 0, 1) := by decide +kernel
theorem dX6_element_23 : decode cX6_element 23 = .ok (.getfield 25, 3) := by decide +kernel
theorem dX6_element_26 : decode cX6_element 26 = .ok (.iload 4, 2) := by decide +kernel
theorem dX6_element_28 : decode cX6_element 28 = .ok (.iaload, 1) := by decide +kernel
theorem dX6_element_29 : decode cX6_element 29 = .ok (.istore 5, 2) := by decide +kernel
theorem dX6_element_31 : decode cX6_element 31 = .ok (.aload_n 0, 1) := by decide +kernel
theorem dX6_element_32 : decode cX6_element 32 = .ok (.getfield 38, 3) := by decide +kernel
theorem dX6_element_35 : decode cX6_element 35 = .ok (.iconst 1, 1) := by decide +kernel
theorem dX6_element_36 : decode cX6_element 36 = .ok (.if_icmp .lt 14, 3) := by decide +kernel
theorem dX6_element_39 : decode cX6_element 39 = .ok (.iload 5, 2) := by decide +kernel
theorem dX6_element_41 : decode cX6_element 41 = .ok (.iconst 4, 1) := by decide +kernel
theorem dX6_element_42 : decode cX6_element 42 = .ok (.iadd, 1) := by decide +kernel
theorem dX6_element_43 : decode cX6_element 43 = .ok (.iload_n 2, 1) := by decide +kernel
theorem dX6_element_44 : decode cX6_element 44 = .ok (.iadd, 1) := by decide +kernel
theorem dX6_element_45 : decode cX6_element 45 = .ok (.bipush 60, 2) := by decide +kernel
theorem dX6_element_47 : decode cX6_element 47 = .ok (.if_icmp .le 4, 3) := by decide +kernel
theorem dX6_element_50 : decode cX6_element 50 = .ok (.return_, 1) := by decide +kernel
theorem dX6_element_51 : decode cX6_element 51 = .ok (.iload 4, 2) := by decide +kernel
theorem dX6_element_53 : decode cX6_element 53 = .ok (.bipush 60, 2) := by decide +kernel
theorem dX6_element_55 : decode cX6_element 55 = .ok (.imul, 1) := by decide +kernel
theorem dX6_element_56 : decode cX6_element 56 = .ok (.iload 5, 2) := by decide +kernel
theorem dX6_element_58 : decode cX6_element 58 = .ok (.iadd, 1) := by decide +kernel
theorem dX6_element_59 : decode cX6_element 59 = .ok (.istore 6, 2) := by decide +kernel
theorem dX6_element_61 : decode cX6_element 61 = .ok (.aload_n 0, 1) := by decide +kernel
theorem dX6_element_62 : decode cX6_element 62 = .ok (.getfield 21, 3) := by decide +kernel
theorem dX6_element_65 : decode cX6_element 65 = .ok (.iload 6, 2) := by decide +kernel
theorem dX6_element_67 : decode cX6_element 67 = .ok (.iload_n 1, 1) := by decide +kernel
theorem dX6_element_68 : decode cX6_element 68 = .ok (.iastore, 1) := by decide +kernel
theorem dX6_element_69 : decode cX6_element 69 = .ok (.aload_n 0, 1) := by decide +kernel
theorem dX6_element_70 : decode cX6_element 70 = .ok (.getfield 21, 3) := by decide +kernel
theorem dX6_element_73 : decode cX6_element 73 = .ok (.iload 6, 2) := by decide +kernel
theorem dX6_element_75 : decode cX6_element 75 = .ok (.iconst 1, 1) := by decide +kernel
theorem dX6_element_76 : decode cX6_element 76 = .ok (.iadd, 1) := by decide +kernel
theorem dX6_element_77 : decode cX6_element 77 = .ok (.sipush 128, 3) := by decide +kernel
theorem dX6_element_80 : decode cX6_element 80 = .ok (.iastore, 1) := by decide +kernel
theorem dX6_element_81 : decode cX6_element 81 = .ok (.aload_n 0, 1) := by decide +kernel
theorem dX6_element_82 : decode cX6_element 82 = .ok (.getfield 21, 3) := by decide +kernel
theorem dX6_element_85 : decode cX6_element 85 = .ok (.iload 6, 2) := by decide +kernel
theorem dX6_element_87 : decode cX6_element 87 = .ok (.iconst 2, 1) := by decide +kernel
theorem dX6_element_88 : decode cX6_element 88 = .ok (.iadd, 1) := by decide +kernel
theorem dX6_element_89 : decode cX6_element 89 = .ok (.iconst 0, 1) := by decide +kernel
theorem dX6_element_90 : decode cX6_element 90 = .ok (.iastore, 1) := by decide +kernel
theorem dX6_element_91 : decode cX6_element 91 = .ok (.aload_n 0, 1) := by decide +kernel
theorem dX6_element_92 : decode cX6_element 92 = .ok (.getfield 21, 3) := by decide +kernel
theorem dX6_element_95 : decode cX6_element 95 = .ok (.iload 6, 2) := by decide +kernel
theorem dX6_element_97 : decode cX6_element 97 = .ok (.iconst 3, 1) := by decide +kernel
theorem dX6_element_98 : decode cX6_element 98 = .ok (.iadd, 1) := by decide +kernel
theorem dX6_element_99 : decode cX6_element 99 = .ok (.iload_n 2, 1) := by decide +kernel
theorem dX6_element_100 : decode cX6_element 100 = .ok (.iastore, 1) := by decide +kernel
theorem dX6_element_101 : decode cX6_element 101 = .ok (.iconst 0, 1) := by decide +kernel
theorem dX6_element_102 : decode cX6_element 102 = .ok (.istore 7, 2) := by decide +kernel
theorem dX6_element_104 : decode cX6_element 104 = .ok (.iload 7, 2) := by decide +kernel
theorem dX6_element_106 : decode cX6_element 106 = .ok (.iload_n 2, 1) := by decide +kernel
theorem dX6_element_107 : decode cX6_element 107 = .ok (.if_icmp .ge 36, 3) := by decide +kernel
theorem dX6_element_110 : decode cX6_element 110 = .ok (.aload_n 0, 1) := by decide +kernel
theorem dX6_element_111 : decode cX6_element 111 = .ok (.getfield 21, 3) := by decide +kernel
theorem dX6_element_114 : decode cX6_element 114 = .ok (.iload 6, 2) := by decide +kernel
theorem dX6_element_116 : decode cX6_element 116 = .ok (.iconst 4, 1) := by decide +kernel
theorem dX6_element_117 : decode cX6_element 117 = .ok (.iadd, 1) := by decide +kernel
theorem dX6_element_118 : decode cX6_element 118 = .ok (.iload 7, 2) := by decide +kernel
theorem dX6_element_120 : decode cX6_element 120 = .ok (.iadd, 1) := by decide +kernel
theorem dX6_element_121 : decode cX6_element 121 = .ok (.iload_n 3, 1) := by decide +kernel
theorem dX6_element_122 : decode cX6_element 122 = .ok (.bipush 8, 2) := by decide +kernel
theorem dX6_element_124 : decode cX6_element 124 = .ok (.iload_n 2, 1) := by decide +kernel
theorem dX6_element_125 : decode cX6_element 125 = .ok (.iconst 1, 1) := by decide +kernel
theorem dX6_element_126 : decode cX6_element 126 = .ok (.isub, 1) := by decide +kernel
theorem dX6_element_127 : decode cX6_element 127 = .ok (.iload 7, 2) := by decide +kernel
theorem dX6_element_129 : decode cX6_element 129 = .ok (.isub, 1) := by decide +kernel
theorem dX6_element_130 : decode cX6_element 130 = .ok (.imul, 1) := by decide +kernel
theorem dX6_element_131 : decode cX6_element 131 = .ok (.iushr, 1) := by decide +kernel
theorem dX6_element_132 : decode cX6_element 132 = .ok (.sipush 255, 3) := by decide +kernel
theorem dX6_element_135 : decode cX6_element 135 = .ok (.iand, 1) := by decide +kernel
theorem dX6_element_136 : decode cX6_element 136 = .ok (.iastore, 1) := by decide +kernel
theorem dX6_element_137 : decode cX6_element 137 = .ok (.iinc 7 1, 3) := by decide +kernel
theorem dX6_element_140 : decode cX6_element 140 = .ok (.goto (-36), 3) := by decide +kernel
theorem dX6_element_143 : decode cX6_element 143 = .ok (.aload_n 0, 1) := by decide +kernel
theorem dX6_element_144 : decode cX6_element 144 = .ok (.getfield 25, 3) := by decide +kernel
theorem dX6_element_147 : decode cX6_element 147 = .ok (.iload 4, 2) := by decide +kernel
theorem dX6_element_149 : decode cX6_element 149 = .ok (.iload 5, 2) := by decide +kernel
theorem dX6_element_151 : decode cX6_element 151 = .ok (.iconst 4, 1) := by decide +kernel
theorem dX6_element_152 : decode cX6_element 152 = .ok (.iadd, 1) := by decide +kernel
theorem dX6_element_153 : decode cX6_element 153 = .ok (.iload_n 2, 1) := by decide +kernel
theorem dX6_element_154 : decode cX6_element 154 = .ok (.iadd, 1) := by decide +kernel
theorem dX6_element_155 : decode cX6_element 155 = .ok (.iastore, 1) := by decide +kernel
theorem dX6_element_156 : decode cX6_element 156 = .ok (.return_, 1) := by decide +kernel
theorem dX6_dropFirst_0 : decode cX6_dropFirst 0 = .ok (.aload_n 0, 1) := by decide +kernel
theorem dX6_dropFirst_1 : decode cX6_dropFirst 1 = .ok (.getfield 38, 3) := by decide +kernel
theorem dX6_dropFirst_4 : decode cX6_dropFirst 4 = .ok (.ifCond .le 28, 3) := by decide +kernel
theorem dX6_dropFirst_7 : decode cX6_dropFirst 7 = .ok (.aload_n 0, 1) := by decide +kernel
theorem dX6_dropFirst_8 : decode cX6_dropFirst 8 = .ok (.aload_n 0, 1) := by decide +kernel
theorem dX6_dropFirst_9 : decode cX6_dropFirst 9 = .ok (.getfield 35, 3) := by decide +kernel
theorem dX6_dropFirst_12 : decode cX6_dropFirst 12 = .ok (.iconst 1, 1) := by decide +kernel
theorem dX6_dropFirst_13 : decode cX6_dropFirst 13 = .ok (.iadd, 1) := by decide +kernel
theorem dX6_dropFirst_14 : decode cX6_dropFirst 14 = .ok (.aload_n 0, 1) := by decide +kernel
theorem dX6_dropFirst_15 : decode cX6_dropFirst 15 = .ok (.getfield 15, 3) := by decide +kernel
theorem dX6_dropFirst_18 : decode cX6_dropFirst 18 = .ok (.irem, 1) := by decide +kernel
theorem dX6_dropFirst_19 : decode cX6_dropFirst 19 = .ok (.putfield 35, 3) := by decide +kernel
theorem dX6_dropFirst_22 : decode cX6_dropFirst 22 = .ok (.aload_n 0, 1) := by decide +kernel
theorem dX6_dropFirst_23 : decode cX6_dropFirst 23 = .ok (.dup, 1) := by decide +kernel
theorem dX6_dropFirst_24 : decode cX6_dropFirst 24 = .ok (.getfield 38, 3) := by decide +kernel
theorem dX6_dropFirst_27 : decode cX6_dropFirst 27 = .ok (.iconst 1, 1) := by decide +kernel
theorem dX6_dropFirst_28 : decode cX6_dropFirst 28 = .ok (.isub, 1) := by decide +kernel
theorem dX6_dropFirst_29 : decode cX6_dropFirst 29 = .ok (.putfield 38, 3) := by decide +kernel
theorem dX6_dropFirst_32 : decode cX6_dropFirst 32 = .ok (.return_, 1) := by decide +kernel
theorem dX7_init_0 : decode cX7_init 0 = .ok (.aload_n 0, 1) := by decide +kernel
theorem dX7_init_1 : decode cX7_init 1 = .ok (.invokespecial 3, 3) := by decide +kernel
theorem dX7_init_4 : decode cX7_init 4 = .ok (.aload_n 0, 1) := by decide +kernel
theorem dX7_init_5 : decode cX7_init 5 = .ok (.bipush 48, 2) := by decide +kernel
theorem dX7_init_7 : decode cX7_init 7 = .ok (.newarray .int, 2) := by decide +kernel
theorem dX7_init_9 : decode cX7_init 9 = .ok (.putfield 9, 3) := by decide +kernel
theorem dX7_init_12 : decode cX7_init 12 = .ok (.aload_n 0, 1) := by decide +kernel
theorem dX7_init_13 : decode cX7_init 13 = .ok (.iconst 0, 1) := by decide +kernel
theorem dX7_init_14 : decode cX7_init 14 = .ok (.putfield 15, 3) := by decide +kernel
theorem dX7_init_17 : decode cX7_init 17 = .ok (.return_, 1) := by decide +kernel
theorem dX7_take_0 : decode cX7_take 0 = .ok (.aload_n 0, 1) := by decide +kernel
theorem dX7_take_1 : decode cX7_take 1 = .ok (.iconst 0, 1) := by decide +kernel
theorem dX7_take_2 : decode cX7_take 2 = .ok (.putfield 19, 3) := by decide +kernel
theorem dX7_take_5 : decode cX7_take 5 = .ok (.iload_n 2, 1) := by decide +kernel
theorem dX7_take_6 : decode cX7_take 6 = .ok (.ifCond .lt 14, 3) := by decide +kernel
theorem dX7_take_9 : decode cX7_take 9 = .ok (.iload_n 2, 1) := by decide +kernel
theorem dX7_take_10 : decode cX7_take 10 = .ok (.iload_n 3, 1) := by decide +kernel
theorem dX7_take_11 : decode cX7_take 11 = .ok (.if_icmp .ge 9, 3) := by decide +kernel
theorem dX7_take_14 : decode cX7_take 14 = .ok (.iload_n 3, 1) := by decide +kernel
theorem dX7_take_15 : decode cX7_take 15 = .ok (.aload_n 1, 1) := by decide +kernel
theorem dX7_take_16 : decode cX7_take 16 = .ok (.arraylength, 1) := by decide +kernel
theorem dX7_take_17 : decode cX7_take 17 = .ok (.if_icmp .le 5, 3) := by decide +kernel
theorem dX7_take_20 : decode cX7_take 20 = .ok (.iconst 1, 1) := by decide +kernel
theorem dX7_take_21 : decode cX7_take 21 = .ok (.ireturn, 1) := by decide +kernel
theorem dX7_take_22 : decode cX7_take 22 = .ok (.aload_n 0, 1) := by decide +kernel
theorem dX7_take_23 : decode cX7_take 23 = .ok (.getfield 15, 3) := by decide +kernel
theorem dX7_take_26 : decode cX7_take 26 = .ok (.ifCond .eq 11, 3) := by decide +kernel
theorem dX7_take_29 : decode cX7_take 29 = .ok (.aload_n 0, 1) := by decide +kernel
theorem dX7_take_30 : decode cX7_take 30 = .ok (.getfield 23, 3) := by decide +kernel
theorem dX7_take_33 : decode cX7_take 33 = .ok (.iconst 5, 1) := by decide +kernel
theorem dX7_take_34 : decode cX7_take 34 = .ok (.if_icmp .ge 12, 3) := by decide +kernel
theorem dX7_take_37 : decode cX7_take 37 = .ok (.aload_n 0, 1) := by decide +kernel
theorem dX7_take_38 : decode cX7_take 38 = .ok (.aload_n 1, 1) := by decide +kernel
theorem dX7_take_39 : decode cX7_take 39 = .ok (.iload_n 2, 1) := by decide +kernel
theorem dX7_take_40 : decode cX7_take 40 = .ok (.iaload, 1) := by decide +kernel
theorem dX7_take_41 : decode cX7_take 41 = .ok (.invokevirtual 26, 3) := by decide +kernel
theorem dX7_take_44 : decode cX7_take 44 = .ok (.iconst 1, 1) := by decide +kernel
theorem dX7_take_45 : decode cX7_take 45 = .ok (.ireturn, 1) := by decide +kernel
theorem dX7_take_46 : decode cX7_take 46 = .ok (.iload_n 3, 1) := by decide +kernel
theorem dX7_take_47 : decode cX7_take 47 = .ok (.iload_n 2, 1) := by decide +kernel
theorem dX7_take_48 : decode cX7_take 48 = .ok (.isub, 1) := by decide +kernel
theorem dX7_take_49 : decode cX7_take 49 = .ok (.bipush 53, 2) := by decide +kernel
theorem dX7_take_51 : decode cX7_take 51 = .ok (.aload_n 0, 1) := by decide +kernel
theorem dX7_take_52 : decode cX7_take 52 = .ok (.getfield 23, 3) := by decide +kernel
theorem dX7_take_55 : decode cX7_take 55 = .ok (.isub, 1) := by decide +kernel
theorem dX7_take_56 : decode cX7_take 56 = .ok (.invokestatic 30, 3) := by decide +kernel
theorem dX7_take_59 : decode cX7_take 59 = .ok (.istore 4, 2) := by decide +kernel
theorem dX7_take_61 : decode cX7_take 61 = .ok (.aload_n 0, 1) := by decide +kernel
theorem dX7_take_62 : decode cX7_take 62 = .ok (.getfield 36, 3) := by decide +kernel
theorem dX7_take_65 : decode cX7_take 65 = .ok (.ifCond .eq 20, 3) := by decide +kernel
theorem dX7_take_68 : decode cX7_take 68 = .ok (.aload_n 1, 1) := by decide +kernel
theorem dX7_take_69 : decode cX7_take 69 = .ok (.iload_n 2, 1) := by decide +kernel
theorem dX7_take_70 : decode cX7_take 70 = .ok (.aload_n 0, 1) := by decide +kernel
theorem dX7_take_71 : decode cX7_take 71 = .ok (.getfield 9, 3) := by decide +kernel
theorem dX7_take_74 : decode cX7_take 74 = .ok (.aload_n 0, 1) := by decide +kernel
theorem dX7_take_75 : decode cX7_take 75 = .ok (.getfield 23, 3) := by decide +kernel
theorem dX7_take_78 : decode cX7_take 78 = .ok (.iconst 5, 1) := by decide +kernel
theorem dX7_take_79 : decode cX7_take 79 = .ok (.isub, 1) := by decide +kernel
theorem dX7_take_80 : decode cX7_take 80 = .ok (.iload 4, 2) := by decide +kernel
theorem dX7_take_82 : decode cX7_take 82 = .ok (.invokestatic 39, 3) := by decide +kernel
theorem dX7_take_85 : decode cX7_take 85 = .ok (.aload_n 0, 1) := by decide +kernel
theorem dX7_take_86 : decode cX7_take 86 = .ok (.dup, 1) := by decide +kernel
theorem dX7_take_87 : decode cX7_take 87 = .ok (.getfield 23, 3) := by decide +kernel
theorem dX7_take_90 : decode cX7_take 90 = .ok (.iload 4, 2) := by decide +kernel
theorem dX7_take_92 : decode cX7_take 92 = .ok (.iadd, 1) := by decide +kernel
theorem dX7_take_93 : decode cX7_take 93 = .ok (.putfield 23, 3) := by decide +kernel
theorem dX7_take_96 : decode cX7_take 96 = .ok (.aload_n 0, 1) := by decide +kernel
theorem dX7_take_97 : decode cX7_take 97 = .ok (.getfield 23, 3) := by decide +kernel
theorem dX7_take_100 : decode cX7_take 100 = .ok (.bipush 53, 2) := by decide +kernel
theorem dX7_take_102 : decode cX7_take 102 = .ok (.if_icmp .lt 37, 3) := by decide +kernel
theorem dX7_take_105 : decode cX7_take 105 = .ok (.aload_n 0, 1) := by decide +kernel
theorem dX7_take_106 : decode cX7_take 106 = .ok (.iconst 0, 1) := by decide +kernel
theorem dX7_take_107 : decode cX7_take 107 = .ok (.putfield 23, 3) := by decide +kernel
theorem dX7_take_110 : decode cX7_take 110 = .ok (.aload_n 0, 1) := by decide +kernel
theorem dX7_take_111 : decode cX7_take 111 = .ok (.aload_n 0, 1) := by decide +kernel
theorem dX7_take_112 : decode cX7_take 112 = .ok (.getfield 36, 3) := by decide +kernel
theorem dX7_take_115 : decode cX7_take 115 = .ok (.putfield 19, 3) := by decide +kernel
theorem dX7_take_118 : decode cX7_take 118 = .ok (.aload_n 0, 1) := by decide +kernel
theorem dX7_take_119 : decode cX7_take 119 = .ok (.dup, 1) := by decide +kernel
theorem dX7_take_120 : decode cX7_take 120 = .ok (.getfield 45, 3) := by decide +kernel
theorem dX7_take_123 : decode cX7_take 123 = .ok (.aload_n 0, 1) := by decide +kernel
theorem dX7_take_124 : decode cX7_take 124 = .ok (.getfield 36, 3) := by decide +kernel
theorem dX7_take_127 : decode cX7_take 127 = .ok (.ifCond .eq 7, 3) := by decide +kernel
theorem dX7_take_130 : decode cX7_take 130 = .ok (.iconst 1, 1) := by decide +kernel
theorem dX7_take_131 : decode cX7_take 131 = .ok (.goto 4, 3) := by decide +kernel
theorem dX7_take_134 : decode cX7_take 134 = .ok (.iconst 0, 1) := by decide +kernel
theorem dX7_take_135 : decode cX7_take 135 = .ok (.iadd, 1) := by decide +kernel
theorem dX7_take_136 : decode cX7_take 136 = .ok (.putfield 45, 3) := by decide +kernel
theorem dX7_take_139 : decode cX7_take 139 = .ok (.iload 4, 2) := by decide +kernel
theorem dX7_take_141 : decode cX7_take 141 = .ok (.ireturn, 1) := by decide +kernel
theorem dX7_headerOctet_0 : decode cX7_headerOctet 0 = .ok (.aload_n 0, 1) := by decide +kernel
theorem dX7_headerOctet_1 : decode cX7_headerOctet 1 = .ok (.aload_n 0, 1) := by decide +kernel
theorem dX7_headerOctet_2 : decode cX7_headerOctet 2 = .ok (.getfield 48, 3) := by decide +kernel
theorem dX7_headerOctet_5 : decode cX7_headerOctet 5 = .ok (.bipush 8, 2) := by decide +kernel
theorem dX7_headerOctet_7 : decode cX7_headerOctet 7 = .ok (.ishl, 1) := by decide +kernel
theorem dX7_headerOctet_8 : decode cX7_headerOctet 8 = .ok (.aload_n 0, 1) := by decide +kernel
theorem dX7_headerOctet_9 : decode cX7_headerOctet 9 = .ok (.getfield 51, 3) := by decide +kernel
theorem dX7_headerOctet_12 : decode cX7_headerOctet 12 = .ok (.ior, 1) := by decide +kernel
theorem dX7_headerOctet_13 : decode cX7_headerOctet 13 = .ok (.putfield 48, 3) := by decide +kernel
theorem dX7_headerOctet_16 : decode cX7_headerOctet 16 = .ok (.aload_n 0, 1) := by decide +kernel
theorem dX7_headerOctet_17 : decode cX7_headerOctet 17 = .ok (.iload_n 1, 1) := by decide +kernel
theorem dX7_headerOctet_18 : decode cX7_headerOctet 18 = .ok (.putfield 51, 3) := by decide +kernel
theorem dX7_headerOctet_21 : decode cX7_headerOctet 21 = .ok (.aload_n 0, 1) := by decide +kernel
theorem dX7_headerOctet_22 : decode cX7_headerOctet 22 = .ok (.dup, 1) := by decide +kernel
theorem dX7_headerOctet_23 : decode cX7_headerOctet 23 = .ok (.getfield 23, 3) := by decide +kernel
theorem dX7_headerOctet_26 : decode cX7_headerOctet 26 = .ok (.iconst 1, 1) := by decide +kernel
theorem dX7_headerOctet_27 : decode cX7_headerOctet 27 = .ok (.iadd, 1) := by decide +kernel
theorem dX7_headerOctet_28 : decode cX7_headerOctet 28 = .ok (.putfield 23, 3) := by decide +kernel
theorem dX7_headerOctet_31 : decode cX7_headerOctet 31 = .ok (.aload_n 0, 1) := by decide +kernel
theorem dX7_headerOctet_32 : decode cX7_headerOctet 32 = .ok (.getfield 23, 3) := by decide +kernel
theorem dX7_headerOctet_35 : decode cX7_headerOctet 35 = .ok (.iconst 5, 1) := by decide +kernel
theorem dX7_headerOctet_36 : decode cX7_headerOctet 36 = .ok (.if_icmp .ge 4, 3) := by decide +kernel
theorem dX7_headerOctet_39 : decode cX7_headerOctet 39 = .ok (.return_, 1) := by decide +kernel
theorem dX7_headerOctet_40 : decode cX7_headerOctet 40 = .ok (.aload_n 0, 1) := by decide +kernel
theorem dX7_headerOctet_41 : decode cX7_headerOctet 41 = .ok (.getfield 48, 3) := by decide +kernel
theorem dX7_headerOctet_44 : decode cX7_headerOctet 44 = .ok (.invokestatic 54, 3) := by decide +kernel
theorem dX7_headerOctet_47 : decode cX7_headerOctet 47 = .ok (.aload_n 0, 1) := by decide +kernel
theorem dX7_headerOctet_48 : decode cX7_headerOctet 48 = .ok (.getfield 51, 3) := by decide +kernel
theorem dX7_headerOctet_51 : decode cX7_headerOctet 51 = .ok (.if_icmp .ne 7, 3) := by decide +kernel
theorem dX7_headerOctet_54 : decode cX7_headerOctet 54 = .ok (.iconst 1, 1) := by decide +kernel
theorem dX7_headerOctet_55 : decode cX7_headerOctet 55 = .ok (.goto 4, 3) := by decide +kernel
theorem dX7_headerOctet_58 : decode cX7_headerOctet 58 = .ok (.iconst 0, 1) := by decide +kernel
theorem dX7_headerOctet_59 : decode cX7_headerOctet 59 = .ok (.istore_n 2, 1) := by decide +kernel
theorem dX7_headerOctet_60 : decode cX7_headerOctet 60 = .ok (.aload_n 0, 1) := by decide +kernel
theorem dX7_headerOctet_61 : decode cX7_headerOctet 61 = .ok (.getfield 15, 3) := by decide +kernel
theorem dX7_headerOctet_64 : decode cX7_headerOctet 64 = .ok (.ifCond .ne 30, 3) := by decide +kernel
theorem dX7_headerOctet_67 : decode cX7_headerOctet 67 = .ok (.iload_n 2, 1) := by decide +kernel
theorem dX7_headerOctet_68 : decode cX7_headerOctet 68 = .ok (.ifCond .eq 47, 3) := by decide +kernel
theorem dX7_headerOctet_71 : decode cX7_headerOctet 71 = .ok (.aload_n 0, 1) := by decide +kernel
theorem dX7_headerOctet_72 : decode cX7_headerOctet 72 = .ok (.iconst 1, 1) := by decide +kernel
theorem dX7_headerOctet_73 : decode cX7_headerOctet 73 = .ok (.putfield 15, 3) := by decide +kernel
theorem dX7_headerOctet_76 : decode cX7_headerOctet 76 = .ok (.aload_n 0, 1) := by decide +kernel
theorem dX7_headerOctet_77 : decode cX7_headerOctet 77 = .ok (.iconst 1, 1) := by decide +kernel
theorem dX7_headerOctet_78 : decode cX7_headerOctet 78 = .ok (.putfield 58, 3) := by decide +kernel
theorem dX7_headerOctet_81 : decode cX7_headerOctet 81 = .ok (.aload_n 0, 1) := by decide +kernel
theorem dX7_headerOctet_82 : decode cX7_headerOctet 82 = .ok (.iconst 5, 1) := by decide +kernel
theorem dX7_headerOctet_83 : decode cX7_headerOctet 83 = .ok (.putfield 23, 3) := by decide +kernel
theorem dX7_headerOctet_86 : decode cX7_headerOctet 86 = .ok (.aload_n 0, 1) := by decide +kernel
theorem dX7_headerOctet_87 : decode cX7_headerOctet 87 = .ok (.iconst 0, 1) := by decide +kernel
theorem dX7_headerOctet_88 : decode cX7_headerOctet 88 = .ok (.putfield 36, 3) := by decide +kernel
theorem dX7_headerOctet_91 : decode cX7_headerOctet 91 = .ok (.goto 24, 3) := by decide +kernel
theorem dX7_headerOctet_94 : decode cX7_headerOctet 94 = .ok (.aload_n 0, 1) := by decide +kernel
theorem dX7_headerOctet_95 : decode cX7_headerOctet 95 = .ok (.getfield 15, 3) := by decide +kernel
theorem dX7_headerOctet_98 : decode cX7_headerOctet 98 = .ok (.iconst 1, 1) := by decide +kernel
theorem dX7_headerOctet_99 : decode cX7_headerOctet 99 = .ok (.if_icmp .ne 11, 3) := by decide +kernel
theorem dX7_headerOctet_102 : decode cX7_headerOctet 102 = .ok (.aload_n 0, 1) := by decide +kernel
theorem dX7_headerOctet_103 : decode cX7_headerOctet 103 = .ok (.iload_n 2, 1) := by decide +kernel
theorem dX7_headerOctet_104 : decode cX7_headerOctet 104 = .ok (.invokevirtual 61, 3) := by decide +kernel
theorem dX7_headerOctet_107 : decode cX7_headerOctet 107 = .ok (.goto 8, 3) := by decide +kernel
theorem dX7_headerOctet_110 : decode cX7_headerOctet 110 = .ok (.aload_n 0, 1) := by decide +kernel
theorem dX7_headerOctet_111 : decode cX7_headerOctet 111 = .ok (.iload_n 2, 1) := by decide +kernel
theorem dX7_headerOctet_112 : decode cX7_headerOctet 112 = .ok (.invokevirtual 65, 3) := by decide +kernel
theorem dX7_headerOctet_115 : decode cX7_headerOctet 115 = .ok (.return_, 1) := by decide +kernel
theorem dX7_presyncHeader_0 : decode cX7_presyncHeader 0 = .ok (.iload_n 1, 1) := by decide +kernel
theorem dX7_presyncHeader_1 : decode cX7_presyncHeader 1 = .ok (.ifCond .ne 8, 3) := by decide +kernel
theorem dX7_presyncHeader_4 : decode cX7_presyncHeader 4 = .ok (.aload_n 0, 1) := by decide +kernel
theorem dX7_presyncHeader_5 : decode cX7_presyncHeader 5 = .ok (.invokevirtual 68, 3) := by decide +kernel
theorem dX7_presyncHeader_8 : decode cX7_presyncHeader 8 = .ok (.return_, 1) := by decide +kernel
theorem dX7_presyncHeader_9 : decode cX7_presyncHeader 9 = .ok (.aload_n 0, 1) := by decide +kernel
theorem dX7_presyncHeader_10 : decode cX7_presyncHeader 10 = .ok (.dup, 1) := by decide +kernel
theorem dX7_presyncHeader_11 : decode cX7_presyncHeader 11 = .ok (.getfield 58, 3) := by decide +kernel
theorem dX7_presyncHeader_14 : decode cX7_presyncHeader 14 = .ok (.iconst 1, 1) := by decide +kernel
theorem dX7_presyncHeader_15 : decode cX7_presyncHeader 15 = .ok (.iadd, 1) := by decide +kernel
