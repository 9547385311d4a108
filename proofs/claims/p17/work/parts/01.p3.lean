theorem dX7_presyncHeader_16 : decode cX7_presyncHeader 16 = .ok (.putfield 58, 3) := by decide +kernel
theorem dX7_presyncHeader_19 : decode cX7_presyncHeader 19 = .ok (.aload_n 0, 1) := by decide +kernel
theorem dX7_presyncHeader_20 : decode cX7_presyncHeader 20 = .ok (.getfield 58, 3) := by decide +kernel
theorem dX7_presyncHeader_23 : decode cX7_presyncHeader 23 = .ok (.bipush 6, 2) := by decide +kernel
theorem dX7_presyncHeader_25 : decode cX7_presyncHeader 25 = .ok (.if_icmp .lt 23, 3) := by decide +kernel
theorem dX7_presyncHeader_28 : decode cX7_presyncHeader 28 = .ok (.aload_n 0, 1) := by decide +kernel
theorem dX7_presyncHeader_29 : decode cX7_presyncHeader 29 = .ok (.iconst 2, 1) := by decide +kernel
theorem dX7_presyncHeader_30 : decode cX7_presyncHeader 30 = .ok (.putfield 15, 3) := by decide +kernel
theorem dX7_presyncHeader_33 : decode cX7_presyncHeader 33 = .ok (.aload_n 0, 1) := by decide +kernel
theorem dX7_presyncHeader_34 : decode cX7_presyncHeader 34 = .ok (.iconst 0, 1) := by decide +kernel
theorem dX7_presyncHeader_35 : decode cX7_presyncHeader 35 = .ok (.putfield 58, 3) := by decide +kernel
theorem dX7_presyncHeader_38 : decode cX7_presyncHeader 38 = .ok (.aload_n 0, 1) := by decide +kernel
theorem dX7_presyncHeader_39 : decode cX7_presyncHeader 39 = .ok (.iconst 0, 1) := by decide +kernel
theorem dX7_presyncHeader_40 : decode cX7_presyncHeader 40 = .ok (.putfield 71, 3) := by decide +kernel
theorem dX7_presyncHeader_43 : decode cX7_presyncHeader 43 = .ok (.aload_n 0, 1) := by decide +kernel
theorem dX7_presyncHeader_44 : decode cX7_presyncHeader 44 = .ok (.iconst 1, 1) := by decide +kernel
theorem dX7_presyncHeader_45 : decode cX7_presyncHeader 45 = .ok (.putfield 36, 3) := by decide +kernel
theorem dX7_presyncHeader_48 : decode cX7_presyncHeader 48 = .ok (.return_, 1) := by decide +kernel
theorem dX7_syncHeader_0 : decode cX7_syncHeader 0 = .ok (.aload_n 0, 1) := by decide +kernel
theorem dX7_syncHeader_1 : decode cX7_syncHeader 1 = .ok (.iload_n 1, 1) := by decide +kernel
theorem dX7_syncHeader_2 : decode cX7_syncHeader 2 = .ok (.putfield 36, 3) := by decide +kernel
theorem dX7_syncHeader_5 : decode cX7_syncHeader 5 = .ok (.iload_n 1, 1) := by decide +kernel
theorem dX7_syncHeader_6 : decode cX7_syncHeader 6 = .ok (.ifCond .eq 14, 3) := by decide +kernel
theorem dX7_syncHeader_9 : decode cX7_syncHeader 9 = .ok (.aload_n 0, 1) := by decide +kernel
theorem dX7_syncHeader_10 : decode cX7_syncHeader 10 = .ok (.iconst 0, 1) := by decide +kernel
theorem dX7_syncHeader_11 : decode cX7_syncHeader 11 = .ok (.putfield 58, 3) := by decide +kernel
theorem dX7_syncHeader_14 : decode cX7_syncHeader 14 = .ok (.aload_n 0, 1) := by decide +kernel
theorem dX7_syncHeader_15 : decode cX7_syncHeader 15 = .ok (.iconst 0, 1) := by decide +kernel
theorem dX7_syncHeader_16 : decode cX7_syncHeader 16 = .ok (.putfield 71, 3) := by decide +kernel
theorem dX7_syncHeader_19 : decode cX7_syncHeader 19 = .ok (.return_, 1) := by decide +kernel
theorem dX7_syncHeader_20 : decode cX7_syncHeader 20 = .ok (.aload_n 0, 1) := by decide +kernel
theorem dX7_syncHeader_21 : decode cX7_syncHeader 21 = .ok (.dup, 1) := by decide +kernel
theorem dX7_syncHeader_22 : decode cX7_syncHeader 22 = .ok (.getfield 58, 3) := by decide +kernel
theorem dX7_syncHeader_25 : decode cX7_syncHeader 25 = .ok (.iconst 1, 1) := by decide +kernel
theorem dX7_syncHeader_26 : decode cX7_syncHeader 26 = .ok (.iadd, 1) := by decide +kernel
theorem dX7_syncHeader_27 : decode cX7_syncHeader 27 = .ok (.putfield 58, 3) := by decide +kernel
theorem dX7_syncHeader_30 : decode cX7_syncHeader 30 = .ok (.aload_n 0, 1) := by decide +kernel
theorem dX7_syncHeader_31 : decode cX7_syncHeader 31 = .ok (.getfield 58, 3) := by decide +kernel
theorem dX7_syncHeader_34 : decode cX7_syncHeader 34 = .ok (.bipush 7, 2) := by decide +kernel
theorem dX7_syncHeader_36 : decode cX7_syncHeader 36 = .ok (.if_icmp .lt 8, 3) := by decide +kernel
theorem dX7_syncHeader_39 : decode cX7_syncHeader 39 = .ok (.aload_n 0, 1) := by decide +kernel
theorem dX7_syncHeader_40 : decode cX7_syncHeader 40 = .ok (.invokevirtual 68, 3) := by decide +kernel
theorem dX7_syncHeader_43 : decode cX7_syncHeader 43 = .ok (.return_, 1) := by decide +kernel
theorem dX7_syncHeader_44 : decode cX7_syncHeader 44 = .ok (.aload_n 0, 1) := by decide +kernel
theorem dX7_syncHeader_45 : decode cX7_syncHeader 45 = .ok (.getfield 71, 3) := by decide +kernel
theorem dX7_syncHeader_48 : decode cX7_syncHeader 48 = .ok (.ifCond .eq 7, 3) := by decide +kernel
theorem dX7_syncHeader_51 : decode cX7_syncHeader 51 = .ok (.iconst (-1), 1) := by decide +kernel
theorem dX7_syncHeader_52 : decode cX7_syncHeader 52 = .ok (.goto 14, 3) := by decide +kernel
theorem dX7_syncHeader_55 : decode cX7_syncHeader 55 = .ok (.aload_n 0, 1) := by decide +kernel
theorem dX7_syncHeader_56 : decode cX7_syncHeader 56 = .ok (.getfield 48, 3) := by decide +kernel
theorem dX7_syncHeader_59 : decode cX7_syncHeader 59 = .ok (.aload_n 0, 1) := by decide +kernel
theorem dX7_syncHeader_60 : decode cX7_syncHeader 60 = .ok (.getfield 51, 3) := by decide +kernel
theorem dX7_syncHeader_63 : decode cX7_syncHeader 63 = .ok (.invokestatic 74, 3) := by decide +kernel
theorem dX7_syncHeader_66 : decode cX7_syncHeader 66 = .ok (.istore_n 2, 1) := by decide +kernel
theorem dX7_syncHeader_67 : decode cX7_syncHeader 67 = .ok (.aload_n 0, 1) := by decide +kernel
theorem dX7_syncHeader_68 : decode cX7_syncHeader 68 = .ok (.iconst 1, 1) := by decide +kernel
theorem dX7_syncHeader_69 : decode cX7_syncHeader 69 = .ok (.putfield 71, 3) := by decide +kernel
theorem dX7_syncHeader_72 : decode cX7_syncHeader 72 = .ok (.iload_n 2, 1) := by decide +kernel
theorem dX7_syncHeader_73 : decode cX7_syncHeader 73 = .ok (.ifCond .ge 14, 3) := by decide +kernel
theorem dX7_syncHeader_76 : decode cX7_syncHeader 76 = .ok (.aload_n 0, 1) := by decide +kernel
theorem dX7_syncHeader_77 : decode cX7_syncHeader 77 = .ok (.dup, 1) := by decide +kernel
theorem dX7_syncHeader_78 : decode cX7_syncHeader 78 = .ok (.getfield 77, 3) := by decide +kernel
theorem dX7_syncHeader_81 : decode cX7_syncHeader 81 = .ok (.iconst 1, 1) := by decide +kernel
theorem dX7_syncHeader_82 : decode cX7_syncHeader 82 = .ok (.iadd, 1) := by decide +kernel
theorem dX7_syncHeader_83 : decode cX7_syncHeader 83 = .ok (.putfield 77, 3) := by decide +kernel
theorem dX7_syncHeader_86 : decode cX7_syncHeader 86 = .ok (.return_, 1) := by decide +kernel
theorem dX7_syncHeader_87 : decode cX7_syncHeader 87 = .ok (.aload_n 0, 1) := by decide +kernel
theorem dX7_syncHeader_88 : decode cX7_syncHeader 88 = .ok (.iconst 1, 1) := by decide +kernel
theorem dX7_syncHeader_89 : decode cX7_syncHeader 89 = .ok (.putfield 36, 3) := by decide +kernel
theorem dX7_syncHeader_92 : decode cX7_syncHeader 92 = .ok (.aload_n 0, 1) := by decide +kernel
theorem dX7_syncHeader_93 : decode cX7_syncHeader 93 = .ok (.dup, 1) := by decide +kernel
theorem dX7_syncHeader_94 : decode cX7_syncHeader 94 = .ok (.getfield 80, 3) := by decide +kernel
theorem dX7_syncHeader_97 : decode cX7_syncHeader 97 = .ok (.iconst 1, 1) := by decide +kernel
theorem dX7_syncHeader_98 : decode cX7_syncHeader 98 = .ok (.iadd, 1) := by decide +kernel
theorem dX7_syncHeader_99 : decode cX7_syncHeader 99 = .ok (.putfield 80, 3) := by decide +kernel
theorem dX7_syncHeader_102 : decode cX7_syncHeader 102 = .ok (.aload_n 0, 1) := by decide +kernel
theorem dX7_syncHeader_103 : decode cX7_syncHeader 103 = .ok (.dup, 1) := by decide +kernel
theorem dX7_syncHeader_104 : decode cX7_syncHeader 104 = .ok (.getfield 48, 3) := by decide +kernel
theorem dX7_syncHeader_107 : decode cX7_syncHeader 107 = .ok (.iload_n 2, 1) := by decide +kernel
theorem dX7_syncHeader_108 : decode cX7_syncHeader 108 = .ok (.bipush 32, 2) := by decide +kernel
theorem dX7_syncHeader_110 : decode cX7_syncHeader 110 = .ok (.if_icmp .ge 12, 3) := by decide +kernel
theorem dX7_syncHeader_113 : decode cX7_syncHeader 113 = .ok (.iconst 1, 1) := by decide +kernel
theorem dX7_syncHeader_114 : decode cX7_syncHeader 114 = .ok (.bipush 31, 2) := by decide +kernel
theorem dX7_syncHeader_116 : decode cX7_syncHeader 116 = .ok (.iload_n 2, 1) := by decide +kernel
theorem dX7_syncHeader_117 : decode cX7_syncHeader 117 = .ok (.isub, 1) := by decide +kernel
theorem dX7_syncHeader_118 : decode cX7_syncHeader 118 = .ok (.ishl, 1) := by decide +kernel
theorem dX7_syncHeader_119 : decode cX7_syncHeader 119 = .ok (.goto 4, 3) := by decide +kernel
theorem dX7_syncHeader_122 : decode cX7_syncHeader 122 = .ok (.iconst 0, 1) := by decide +kernel
theorem dX7_syncHeader_123 : decode cX7_syncHeader 123 = .ok (.ixor, 1) := by decide +kernel
theorem dX7_syncHeader_124 : decode cX7_syncHeader 124 = .ok (.putfield 48, 3) := by decide +kernel
theorem dX7_syncHeader_127 : decode cX7_syncHeader 127 = .ok (.return_, 1) := by decide +kernel
theorem dX7_hunt_0 : decode cX7_hunt 0 = .ok (.aload_n 0, 1) := by decide +kernel
theorem dX7_hunt_1 : decode cX7_hunt 1 = .ok (.iconst 0, 1) := by decide +kernel
theorem dX7_hunt_2 : decode cX7_hunt 2 = .ok (.putfield 15, 3) := by decide +kernel
theorem dX7_hunt_5 : decode cX7_hunt 5 = .ok (.aload_n 0, 1) := by decide +kernel
theorem dX7_hunt_6 : decode cX7_hunt 6 = .ok (.iconst 0, 1) := by decide +kernel
theorem dX7_hunt_7 : decode cX7_hunt 7 = .ok (.putfield 58, 3) := by decide +kernel
theorem dX7_hunt_10 : decode cX7_hunt 10 = .ok (.aload_n 0, 1) := by decide +kernel
theorem dX7_hunt_11 : decode cX7_hunt 11 = .ok (.iconst 0, 1) := by decide +kernel
theorem dX7_hunt_12 : decode cX7_hunt 12 = .ok (.putfield 23, 3) := by decide +kernel
theorem dX7_hunt_15 : decode cX7_hunt 15 = .ok (.aload_n 0, 1) := by decide +kernel
theorem dX7_hunt_16 : decode cX7_hunt 16 = .ok (.iconst 0, 1) := by decide +kernel
theorem dX7_hunt_17 : decode cX7_hunt 17 = .ok (.putfield 36, 3) := by decide +kernel
theorem dX7_hunt_20 : decode cX7_hunt 20 = .ok (.aload_n 0, 1) := by decide +kernel
theorem dX7_hunt_21 : decode cX7_hunt 21 = .ok (.iconst 0, 1) := by decide +kernel
theorem dX7_hunt_22 : decode cX7_hunt 22 = .ok (.putfield 71, 3) := by decide +kernel
theorem dX7_hunt_25 : decode cX7_hunt 25 = .ok (.return_, 1) := by decide +kernel
theorem dX8_init_0 : decode cX8_init 0 = .ok (.aload_n 0, 1) := by decide +kernel
theorem dX8_init_1 : decode cX8_init 1 = .ok (.invokespecial 1, 3) := by decide +kernel
theorem dX8_init_4 : decode cX8_init 4 = .ok (.aload_n 0, 1) := by decide +kernel
theorem dX8_init_5 : decode cX8_init 5 = .ok (.new 7, 3) := by decide +kernel
theorem dX8_init_8 : decode cX8_init 8 = .ok (.dup, 1) := by decide +kernel
theorem dX8_init_9 : decode cX8_init 9 = .ok (.invokespecial 9, 3) := by decide +kernel
theorem dX8_init_12 : decode cX8_init 12 = .ok (.putfield 10, 3) := by decide +kernel
theorem dX8_init_15 : decode cX8_init 15 = .ok (.aload_n 0, 1) := by decide +kernel
theorem dX8_init_16 : decode cX8_init 16 = .ok (.iload_n 1, 1) := by decide +kernel
theorem dX8_init_17 : decode cX8_init 17 = .ok (.putfield 16, 3) := by decide +kernel
theorem dX8_init_20 : decode cX8_init 20 = .ok (.aload_n 0, 1) := by decide +kernel
theorem dX8_init_21 : decode cX8_init 21 = .ok (.aload_n 2, 1) := by decide +kernel
theorem dX8_init_22 : decode cX8_init 22 = .ok (.putfield 20, 3) := by decide +kernel
theorem dX8_init_25 : decode cX8_init 25 = .ok (.return_, 1) := by decide +kernel
theorem dX8_openCalls_0 : decode cX8_openCalls 0 = .ok (.iconst 0, 1) := by decide +kernel
theorem dX8_openCalls_1 : decode cX8_openCalls 1 = .ok (.istore_n 1, 1) := by decide +kernel
theorem dX8_openCalls_2 : decode cX8_openCalls 2 = .ok (.iconst 0, 1) := by decide +kernel
theorem dX8_openCalls_3 : decode cX8_openCalls 3 = .ok (.istore_n 2, 1) := by decide +kernel
theorem dX8_openCalls_4 : decode cX8_openCalls 4 = .ok (.iload_n 2, 1) := by decide +kernel
theorem dX8_openCalls_5 : decode cX8_openCalls 5 = .ok (.aload_n 0, 1) := by decide +kernel
theorem dX8_openCalls_6 : decode cX8_openCalls 6 = .ok (.getfield 10, 3) := by decide +kernel
theorem dX8_openCalls_9 : decode cX8_openCalls 9 = .ok (.invokevirtual 24, 3) := by decide +kernel
theorem dX8_openCalls_12 : decode cX8_openCalls 12 = .ok (.if_icmp .ge 34, 3) := by decide +kernel
theorem dX8_openCalls_15 : decode cX8_openCalls 15 = .ok (.iload_n 1, 1) := by decide +kernel
theorem dX8_openCalls_16 : decode cX8_openCalls 16 = .ok (.aload_n 0, 1) := by decide +kernel
theorem dX8_openCalls_17 : decode cX8_openCalls 17 = .ok (.getfield 10, 3) := by decide +kernel
theorem dX8_openCalls_20 : decode cX8_openCalls 20 = .ok (.iload_n 2, 1) := by decide +kernel
theorem dX8_openCalls_21 : decode cX8_openCalls 21 = .ok (.invokevirtual 28, 3) := by decide +kernel
theorem dX8_openCalls_24 : decode cX8_openCalls 24 = .ok (.checkcast 32, 3) := by decide +kernel
theorem dX8_openCalls_27 : decode cX8_openCalls 27 = .ok (.invokevirtual 34, 3) := by decide +kernel
theorem dX8_openCalls_30 : decode cX8_openCalls 30 = .ok (.ifCond .eq 7, 3) := by decide +kernel
theorem dX8_openCalls_33 : decode cX8_openCalls 33 = .ok (.iconst 1, 1) := by decide +kernel
theorem dX8_openCalls_34 : decode cX8_openCalls 34 = .ok (.goto 4, 3) := by decide +kernel
theorem dX8_openCalls_37 : decode cX8_openCalls 37 = .ok (.iconst 0, 1) := by decide +kernel
theorem dX8_openCalls_38 : decode cX8_openCalls 38 = .ok (.iadd, 1) := by decide +kernel
theorem dX8_openCalls_39 : decode cX8_openCalls 39 = .ok (.istore_n 1, 1) := by decide +kernel
theorem dX8_openCalls_40 : decode cX8_openCalls 40 = .ok (.iinc 2 1, 3) := by decide +kernel
theorem dX8_openCalls_43 : decode cX8_openCalls 43 = .ok (.goto (-39), 3) := by decide +kernel
theorem dX8_openCalls_46 : decode cX8_openCalls 46 = .ok (.iload_n 1, 1) := by decide +kernel
theorem dX8_openCalls_47 : decode cX8_openCalls 47 = .ok (.ireturn, 1) := by decide +kernel
theorem dX8_placeOfReference_0 : decode cX8_placeOfReference 0 = .ok (.iconst 0, 1) := by decide +kernel
theorem dX8_placeOfReference_1 : decode cX8_placeOfReference 1 = .ok (.istore_n 3, 1) := by decide +kernel
theorem dX8_placeOfReference_2 : decode cX8_placeOfReference 2 = .ok (.iload_n 3, 1) := by decide +kernel
theorem dX8_placeOfReference_3 : decode cX8_placeOfReference 3 = .ok (.aload_n 0, 1) := by decide +kernel
theorem dX8_placeOfReference_4 : decode cX8_placeOfReference 4 = .ok (.getfield 10, 3) := by decide +kernel
theorem dX8_placeOfReference_7 : decode cX8_placeOfReference 7 = .ok (.invokevirtual 24, 3) := by decide +kernel
theorem dX8_placeOfReference_10 : decode cX8_placeOfReference 10 = .ok (.if_icmp .ge 42, 3) := by decide +kernel
theorem dX8_placeOfReference_13 : decode cX8_placeOfReference 13 = .ok (.aload_n 0, 1) := by decide +kernel
theorem dX8_placeOfReference_14 : decode cX8_placeOfReference 14 = .ok (.getfield 10, 3) := by decide +kernel
theorem dX8_placeOfReference_17 : decode cX8_placeOfReference 17 = .ok (.iload_n 3, 1) := by decide +kernel
theorem dX8_placeOfReference_18 : decode cX8_placeOfReference 18 = .ok (.invokevirtual 28, 3) := by decide +kernel
theorem dX8_placeOfReference_21 : decode cX8_placeOfReference 21 = .ok (.checkcast 32, 3) := by decide +kernel
theorem dX8_placeOfReference_24 : decode cX8_placeOfReference 24 = .ok (.astore 4, 2) := by decide +kernel
theorem dX8_placeOfReference_26 : decode cX8_placeOfReference 26 = .ok (.aload 4, 2) := by decide +kernel
theorem dX8_placeOfReference_28 : decode cX8_placeOfReference 28 = .ok (.getfield 38, 3) := by decide +kernel
theorem dX8_placeOfReference_31 : decode cX8_placeOfReference 31 = .ok (.iload_n 1, 1) := by decide +kernel
theorem dX8_placeOfReference_32 : decode cX8_placeOfReference 32 = .ok (.if_icmp .ne 14, 3) := by decide +kernel
theorem dX8_placeOfReference_35 : decode cX8_placeOfReference 35 = .ok (.aload 4, 2) := by decide +kernel
theorem dX8_placeOfReference_37 : decode cX8_placeOfReference 37 = .ok (.getfield 41, 3) := by decide +kernel
theorem dX8_placeOfReference_40 : decode cX8_placeOfReference 40 = .ok (.iload_n 2, 1) := by decide +kernel
theorem dX8_placeOfReference_41 : decode cX8_placeOfReference 41 = .ok (.if_icmp .ne 5, 3) := by decide +kernel
theorem dX8_placeOfReference_44 : decode cX8_placeOfReference 44 = .ok (.iload_n 3, 1) := by decide +kernel
theorem dX8_placeOfReference_45 : decode cX8_placeOfReference 45 = .ok (.ireturn, 1) := by decide +kernel
theorem dX8_placeOfReference_46 : decode cX8_placeOfReference 46 = .ok (.iinc 3 1, 3) := by decide +kernel
theorem dX8_placeOfReference_49 : decode cX8_placeOfReference 49 = .ok (.goto (-47), 3) := by decide +kernel
theorem dX8_placeOfReference_52 : decode cX8_placeOfReference 52 = .ok (.iconst (-1), 1) := by decide +kernel
theorem dX8_placeOfReference_53 : decode cX8_placeOfReference 53 = .ok (.ireturn, 1) := by decide +kernel
theorem dX8_keep_0 : decode cX8_keep 0 = .ok (.aload_n 0, 1) := by decide +kernel
theorem dX8_keep_1 : decode cX8_keep 1 = .ok (.aload_n 1, 1) := by decide +kernel
theorem dX8_keep_2 : decode cX8_keep 2 = .ok (.getfield 38, 3) := by decide +kernel
theorem dX8_keep_5 : decode cX8_keep 5 = .ok (.aload_n 1, 1) := by decide +kernel
theorem dX8_keep_6 : decode cX8_keep 6 = .ok (.getfield 41, 3) := by decide +kernel
theorem dX8_keep_9 : decode cX8_keep 9 = .ok (.invokevirtual 45, 3) := by decide +kernel
theorem dX8_keep_12 : decode cX8_keep 12 = .ok (.istore_n 2, 1) := by decide +kernel
theorem dX8_keep_13 : decode cX8_keep 13 = .ok (.iload_n 2, 1) := by decide +kernel
theorem dX8_keep_14 : decode cX8_keep 14 = .ok (.ifCond .ge 15, 3) := by decide +kernel
theorem dX8_keep_17 : decode cX8_keep 17 = .ok (.aload_n 0, 1) := by decide +kernel
theorem dX8_keep_18 : decode cX8_keep 18 = .ok (.getfield 10, 3) := by decide +kernel
theorem dX8_keep_21 : decode cX8_keep 21 = .ok (.aload_n 1, 1) := by decide +kernel
theorem dX8_keep_22 : decode cX8_keep 22 = .ok (.invokevirtual 49, 3) := by decide +kernel
theorem dX8_keep_25 : decode cX8_keep 25 = .ok (.pop, 1) := by decide +kernel
theorem dX8_keep_26 : decode cX8_keep 26 = .ok (.goto 13, 3) := by decide +kernel
theorem dX8_keep_29 : decode cX8_keep 29 = .ok (.aload_n 0, 1) := by decide +kernel
theorem dX8_keep_30 : decode cX8_keep 30 = .ok (.getfield 10, 3) := by decide +kernel
theorem dX8_keep_33 : decode cX8_keep 33 = .ok (.iload_n 2, 1) := by decide +kernel
theorem dX8_keep_34 : decode cX8_keep 34 = .ok (.aload_n 1, 1) := by decide +kernel
theorem dX8_keep_35 : decode cX8_keep 35 = .ok (.invokevirtual 53, 3) := by decide +kernel
theorem dX8_keep_38 : decode cX8_keep 38 = .ok (.pop, 1) := by decide +kernel
theorem dX8_keep_39 : decode cX8_keep 39 = .ok (.return_, 1) := by decide +kernel
theorem dX8_came_0 : decode cX8_came 0 = .ok (.aload_n 0, 1) := by decide +kernel
theorem dX8_came_1 : decode cX8_came 1 = .ok (.aload_n 1, 1) := by decide +kernel
theorem dX8_came_2 : decode cX8_came 2 = .ok (.getfield 57, 3) := by decide +kernel
theorem dX8_came_5 : decode cX8_came 5 = .ok (.aload_n 1, 1) := by decide +kernel
theorem dX8_came_6 : decode cX8_came 6 = .ok (.getfield 60, 3) := by decide +kernel
theorem dX8_came_9 : decode cX8_came 9 = .ok (.ifCond .ne 7, 3) := by decide +kernel
theorem dX8_came_12 : decode cX8_came 12 = .ok (.iconst 1, 1) := by decide +kernel
theorem dX8_came_13 : decode cX8_came 13 = .ok (.goto 4, 3) := by decide +kernel
theorem dX8_came_16 : decode cX8_came 16 = .ok (.iconst 0, 1) := by decide +kernel
theorem dX8_came_17 : decode cX8_came 17 = .ok (.invokevirtual 45, 3) := by decide +kernel
theorem dX8_came_20 : decode cX8_came 20 = .ok (.istore_n 3, 1) := by decide +kernel
theorem dX8_came_21 : decode cX8_came 21 = .ok (.iload_n 3, 1) := by decide +kernel
theorem dX8_came_22 : decode cX8_came 22 = .ok (.ifCond .ge 7, 3) := by decide +kernel
theorem dX8_came_25 : decode cX8_came 25 = .ok (.aconst_null, 1) := by decide +kernel
theorem dX8_came_26 : decode cX8_came 26 = .ok (.goto 14, 3) := by decide +kernel
theorem dX8_came_29 : decode cX8_came 29 = .ok (.aload_n 0, 1) := by decide +kernel
theorem dX8_came_30 : decode cX8_came 30 = .ok (.getfield 10, 3) := by decide +kernel
theorem dX8_came_33 : decode cX8_came 33 = .ok (.iload_n 3, 1) := by decide +kernel
theorem dX8_came_34 : decode cX8_came 34 = .ok (.invokevirtual 28, 3) := by decide +kernel
theorem dX8_came_37 : decode cX8_came 37 = .ok (.checkcast 32, 3) := by decide +kernel
theorem dX8_came_40 : decode cX8_came 40 = .ok (.astore 4, 2) := by decide +kernel
theorem dX8_came_42 : decode cX8_came 42 = .ok (.aload 4, 2) := by decide +kernel
theorem dX8_came_44 : decode cX8_came 44 = .ok (.ifnull 11, 3) := by decide +kernel
theorem dX8_came_47 : decode cX8_came 47 = .ok (.aload 4, 2) := by decide +kernel
theorem dX8_came_49 : decode cX8_came 49 = .ok (.invokevirtual 34, 3) := by decide +kernel
theorem dX8_came_52 : decode cX8_came 52 = .ok (.ifCond .ne 56, 3) := by decide +kernel
theorem dX8_came_55 : decode cX8_came 55 = .ok (.aload_n 1, 1) := by decide +kernel
theorem dX8_came_56 : decode cX8_came 56 = .ok (.getfield 63, 3) := by decide +kernel
theorem dX8_came_59 : decode cX8_came 59 = .ok (.iconst 5, 1) := by decide +kernel
theorem dX8_came_60 : decode cX8_came 60 = .ok (.if_icmp .ne 12, 3) := by decide +kernel
theorem dX8_came_63 : decode cX8_came 63 = .ok (.aload_n 0, 1) := by decide +kernel
theorem dX8_came_64 : decode cX8_came 64 = .ok (.aload_n 1, 1) := by decide +kernel
theorem dX8_came_65 : decode cX8_came 65 = .ok (.iload_n 2, 1) := by decide +kernel
theorem dX8_came_66 : decode cX8_came 66 = .ok (.invokevirtual 66, 3) := by decide +kernel
theorem dX8_came_69 : decode cX8_came 69 = .ok (.goto 84, 3) := by decide +kernel
theorem dX8_came_72 : decode cX8_came 72 = .ok (.aload_n 1, 1) := by decide +kernel
theorem dX8_came_73 : decode cX8_came 73 = .ok (.getfield 63, 3) := by decide +kernel
theorem dX8_came_76 : decode cX8_came 76 = .ok (.bipush 77, 2) := by decide +kernel
theorem dX8_came_78 : decode cX8_came 78 = .ok (.if_icmp .ne 75, 3) := by decide +kernel
theorem dX8_came_81 : decode cX8_came 81 = .ok (.aload_n 0, 1) := by decide +kernel
theorem dX8_came_82 : decode cX8_came 82 = .ok (.bipush 90, 2) := by decide +kernel
theorem dX8_came_84 : decode cX8_came 84 = .ok (.aload_n 1, 1) := by decide +kernel
theorem dX8_came_85 : decode cX8_came 85 = .ok (.getfield 57, 3) := by decide +kernel
theorem dX8_came_88 : decode cX8_came 88 = .ok (.aload_n 1, 1) := by decide +kernel
theorem dX8_came_89 : decode cX8_came 89 = .ok (.getfield 60, 3) := by decide +kernel
theorem dX8_came_92 : decode cX8_came 92 = .ok (.ifCond .ne 7, 3) := by decide +kernel
theorem dX8_came_95 : decode cX8_came 95 = .ok (.iconst 1, 1) := by decide +kernel
theorem dX8_came_96 : decode cX8_came 96 = .ok (.goto 4, 3) := by decide +kernel
theorem dX8_came_99 : decode cX8_came 99 = .ok (.iconst 0, 1) := by decide +kernel
theorem dX8_came_100 : decode cX8_came 100 = .ok (.bipush 81, 2) := by decide +kernel
theorem dX8_came_102 : decode cX8_came 102 = .ok (.invokevirtual 70, 3) := by decide +kernel
theorem dX8_came_105 : decode cX8_came 105 = .ok (.goto 48, 3) := by decide +kernel
theorem dX8_came_108 : decode cX8_came 108 = .ok (.aload_n 1, 1) := by decide +kernel
theorem dX8_came_109 : decode cX8_came 109 = .ok (.getfield 63, 3) := by decide +kernel
theorem dX8_came_112 : decode cX8_came 112 = .ok (.bipush 77, 2) := by decide +kernel
theorem dX8_came_114 : decode cX8_came 114 = .ok (.if_icmp .eq 12, 3) := by decide +kernel
theorem dX8_came_117 : decode cX8_came 117 = .ok (.aload_n 1, 1) := by decide +kernel
theorem dX8_came_118 : decode cX8_came 118 = .ok (.getfield 63, 3) := by decide +kernel
theorem dX8_came_121 : decode cX8_came 121 = .ok (.bipush 90, 2) := by decide +kernel
theorem dX8_came_123 : decode cX8_came 123 = .ok (.if_icmp .ne 14, 3) := by decide +kernel
theorem dX8_came_126 : decode cX8_came 126 = .ok (.aload_n 0, 1) := by decide +kernel
theorem dX8_came_127 : decode cX8_came 127 = .ok (.aload 4, 2) := by decide +kernel
theorem dX8_came_129 : decode cX8_came 129 = .ok (.aload_n 1, 1) := by decide +kernel
theorem dX8_came_130 : decode cX8_came 130 = .ok (.iload_n 2, 1) := by decide +kernel
theorem dX8_came_131 : decode cX8_came 131 = .ok (.invokevirtual 74, 3) := by decide +kernel
theorem dX8_came_134 : decode cX8_came 134 = .ok (.goto 19, 3) := by decide +kernel
theorem dX8_came_137 : decode cX8_came 137 = .ok (.aload_n 1, 1) := by decide +kernel
theorem dX8_came_138 : decode cX8_came 138 = .ok (.getfield 63, 3) := by decide +kernel
theorem dX8_came_141 : decode cX8_came 141 = .ok (.iconst 5, 1) := by decide +kernel
theorem dX8_came_142 : decode cX8_came 142 = .ok (.if_icmp .eq 11, 3) := by decide +kernel
theorem dX8_came_145 : decode cX8_came 145 = .ok (.aload_n 0, 1) := by decide +kernel
theorem dX8_came_146 : decode cX8_came 146 = .ok (.aload 4, 2) := by decide +kernel
theorem dX8_came_148 : decode cX8_came 148 = .ok (.aload_n 1, 1) := by decide +kernel
theorem dX8_came_149 : decode cX8_came 149 = .ok (.iload_n 2, 1) := by decide +kernel
theorem dX8_came_150 : decode cX8_came 150 = .ok (.invokevirtual 78, 3) := by decide +kernel
theorem dX8_came_153 : decode cX8_came 153 = .ok (.return_, 1) := by decide +kernel
theorem dX8_cleared_0 : decode cX8_cleared 0 = .ok (.aload_n 2, 1) := by decide +kernel
theorem dX8_cleared_1 : decode cX8_cleared 1 = .ok (.getfield 63, 3) := by decide +kernel
theorem dX8_cleared_4 : decode cX8_cleared 4 = .ok (.bipush 77, 2) := by decide +kernel
theorem dX8_cleared_6 : decode cX8_cleared 6 = .ok (.if_icmp .ne 21, 3) := by decide +kernel
theorem dX8_cleared_9 : decode cX8_cleared 9 = .ok (.aload_n 0, 1) := by decide +kernel
theorem dX8_cleared_10 : decode cX8_cleared 10 = .ok (.bipush 90, 2) := by decide +kernel
theorem dX8_cleared_12 : decode cX8_cleared 12 = .ok (.aload_n 1, 1) := by decide +kernel
theorem dX8_cleared_13 : decode cX8_cleared 13 = .ok (.getfield 38, 3) := by decide +kernel
theorem dX8_cleared_16 : decode cX8_cleared 16 = .ok (.aload_n 1, 1) := by decide +kernel
theorem dX8_cleared_17 : decode cX8_cleared 17 = .ok (.getfield 41, 3) := by decide +kernel
theorem dX8_cleared_20 : decode cX8_cleared 20 = .ok (.aload_n 2, 1) := by decide +kernel
theorem dX8_cleared_21 : decode cX8_cleared 21 = .ok (.getfield 81, 3) := by decide +kernel
theorem dX8_cleared_24 : decode cX8_cleared 24 = .ok (.invokevirtual 70, 3) := by decide +kernel
theorem dX8_cleared_27 : decode cX8_cleared 27 = .ok (.aload_n 1, 1) := by decide +kernel
theorem dX8_cleared_28 : decode cX8_cleared 28 = .ok (.aload_n 1, 1) := by decide +kernel
theorem dX8_cleared_29 : decode cX8_cleared 29 = .ok (.getfield 84, 3) := by decide +kernel
theorem dX8_cleared_32 : decode cX8_cleared 32 = .ok (.bipush 11, 2) := by decide +kernel
theorem dX8_cleared_34 : decode cX8_cleared 34 = .ok (.if_icmp .ne 10, 3) := by decide +kernel
theorem dX8_cleared_37 : decode cX8_cleared 37 = .ok (.aload_n 1, 1) := by decide +kernel
theorem dX8_cleared_38 : decode cX8_cleared 38 = .ok (.getfield 87, 3) := by decide +kernel
theorem dX8_cleared_41 : decode cX8_cleared 41 = .ok (.goto 7, 3) := by decide +kernel
theorem dX8_cleared_44 : decode cX8_cleared 44 = .ok (.aload_n 2, 1) := by decide +kernel
theorem dX8_cleared_45 : decode cX8_cleared 45 = .ok (.getfield 81, 3) := by decide +kernel
theorem dX8_cleared_48 : decode cX8_cleared 48 = .ok (.invokevirtual 88, 3) := by decide +kernel
theorem dX8_cleared_51 : decode cX8_cleared 51 = .ok (.aload_n 1, 1) := by decide +kernel
theorem dX8_cleared_52 : decode cX8_cleared 52 = .ok (.getfield 92, 3) := by decide +kernel
theorem dX8_cleared_55 : decode cX8_cleared 55 = .ok (.ifnull 15, 3) := by decide +kernel
theorem dX8_cleared_58 : decode cX8_cleared 58 = .ok (.aload_n 1, 1) := by decide +kernel
theorem dX8_cleared_59 : decode cX8_cleared 59 = .ok (.getfield 92, 3) := by decide +kernel
theorem dX8_cleared_62 : decode cX8_cleared 62 = .ok (.aload_n 2, 1) := by decide +kernel
theorem dX8_cleared_63 : decode cX8_cleared 63 = .ok (.getfield 81, 3) := by decide +kernel
theorem dX8_cleared_66 : decode cX8_cleared 66 = .ok (.iload_n 3, 1) := by decide +kernel
theorem dX8_cleared_67 : decode cX8_cleared 67 = .ok (.invokevirtual 96, 3) := by decide +kernel
theorem dX8_cleared_70 : decode cX8_cleared 70 = .ok (.return_, 1) := by decide +kernel
theorem dX8_allOver_0 : decode cX8_allOver 0 = .ok (.iconst 0, 1) := by decide +kernel
theorem dX8_allOver_1 : decode cX8_allOver 1 = .ok (.istore_n 2, 1) := by decide +kernel
theorem dX8_allOver_2 : decode cX8_allOver 2 = .ok (.iload_n 2, 1) := by decide +kernel
theorem dX8_allOver_3 : decode cX8_allOver 3 = .ok (.aload_n 0, 1) := by decide +kernel
theorem dX8_allOver_4 : decode cX8_allOver 4 = .ok (.getfield 10, 3) := by decide +kernel
theorem dX8_allOver_7 : decode cX8_allOver 7 = .ok (.invokevirtual 24, 3) := by decide +kernel
theorem dX8_allOver_10 : decode cX8_allOver 10 = .ok (.if_icmp .ge 54, 3) := by decide +kernel
theorem dX8_allOver_13 : decode cX8_allOver 13 = .ok (.aload_n 0, 1) := by decide +kernel
theorem dX8_allOver_14 : decode cX8_allOver 14 = .ok (.getfield 10, 3) := by decide +kernel
theorem dX8_allOver_17 : decode cX8_allOver 17 = .ok (.iload_n 2, 1) := by decide +kernel
theorem dX8_allOver_18 : decode cX8_allOver 18 = .ok (.invokevirtual 28, 3) := by decide +kernel
theorem dX8_allOver_21 : decode cX8_allOver 21 = .ok (.checkcast 32, 3) := by decide +kernel
theorem dX8_allOver_24 : decode cX8_allOver 24 = .ok (.astore_n 3, 1) := by decide +kernel
theorem dX8_allOver_25 : decode cX8_allOver 25 = .ok (.aload_n 3, 1) := by decide +kernel
theorem dX8_allOver_26 : decode cX8_allOver 26 = .ok (.invokevirtual 34, 3) := by decide +kernel
theorem dX8_allOver_29 : decode cX8_allOver 29 = .ok (.ifCond .ne 6, 3) := by decide +kernel
theorem dX8_allOver_32 : decode cX8_allOver 32 = .ok (.goto 26, 3) := by decide +kernel
theorem dX8_allOver_35 : decode cX8_allOver 35 = .ok (.aload_n 3, 1) := by decide +kernel
theorem dX8_allOver_36 : decode cX8_allOver 36 = .ok (.bipush 41, 2) := by decide +kernel
theorem dX8_allOver_38 : decode cX8_allOver 38 = .ok (.invokevirtual 88, 3) := by decide +kernel
theorem dX8_allOver_41 : decode cX8_allOver 41 = .ok (.aload_n 3, 1) := by decide +kernel
theorem dX8_allOver_42 : decode cX8_allOver 42 = .ok (.getfield 92, 3) := by decide +kernel
theorem dX8_allOver_45 : decode cX8_allOver 45 = .ok (.ifnull 13, 3) := by decide +kernel
theorem dX8_allOver_48 : decode cX8_allOver 48 = .ok (.aload_n 3, 1) := by decide +kernel
theorem dX8_allOver_49 : decode cX8_allOver 49 = .ok (.getfield 92, 3) := by decide +kernel
theorem dX8_allOver_52 : decode cX8_allOver 52 = .ok (.bipush 41, 2) := by decide +kernel
theorem dX8_allOver_54 : decode cX8_allOver 54 = .ok (.iload_n 1, 1) := by decide +kernel
theorem dX8_allOver_55 : decode cX8_allOver 55 = .ok (.invokevirtual 96, 3) := by decide +kernel
theorem dX8_allOver_58 : decode cX8_allOver 58 = .ok (.iinc 2 1, 3) := by decide +kernel
theorem dX8_allOver_61 : decode cX8_allOver 61 = .ok (.goto (-59), 3) := by decide +kernel
theorem dX8_allOver_64 : decode cX8_allOver 64 = .ok (.return_, 1) := by decide +kernel
theorem dX8_callTimers_0 : decode cX8_callTimers 0 = .ok (.iconst 0, 1) := by decide +kernel
theorem dX8_callTimers_1 : decode cX8_callTimers 1 = .ok (.istore_n 2, 1) := by decide +kernel
theorem dX8_callTimers_2 : decode cX8_callTimers 2 = .ok (.iload_n 2, 1) := by decide +kernel
theorem dX8_callTimers_3 : decode cX8_callTimers 3 = .ok (.aload_n 0, 1) := by decide +kernel
theorem dX8_callTimers_4 : decode cX8_callTimers 4 = .ok (.getfield 10, 3) := by decide +kernel
theorem dX8_callTimers_7 : decode cX8_callTimers 7 = .ok (.invokevirtual 24, 3) := by decide +kernel
theorem dX8_callTimers_10 : decode cX8_callTimers 10 = .ok (.if_icmp .ge 101, 3) := by decide +kernel
theorem dX8_callTimers_13 : decode cX8_callTimers 13 = .ok (.aload_n 0, 1) := by decide +kernel
theorem dX8_callTimers_14 : decode cX8_callTimers 14 = .ok (.getfield 10, 3) := by decide +kernel
theorem dX8_callTimers_17 : decode cX8_callTimers 17 = .ok (.iload_n 2, 1) := by decide +kernel
theorem dX8_callTimers_18 : decode cX8_callTimers 18 = .ok (.invokevirtual 28, 3) := by decide +kernel
theorem dX8_callTimers_21 : decode cX8_callTimers 21 = .ok (.checkcast 32, 3) := by decide +kernel
theorem dX8_callTimers_24 : decode cX8_callTimers 24 = .ok (.astore_n 3, 1) := by decide +kernel
theorem dX8_callTimers_25 : decode cX8_callTimers 25 = .ok (.aload_n 3, 1) := by decide +kernel
theorem dX8_callTimers_26 : decode cX8_callTimers 26 = .ok (.invokevirtual 34, 3) := by decide +kernel
theorem dX8_callTimers_29 : decode cX8_callTimers 29 = .ok (.ifCond .eq 76, 3) := by decide +kernel
theorem dX8_callTimers_32 : decode cX8_callTimers 32 = .ok (.aload_n 3, 1) := by decide +kernel
theorem dX8_callTimers_33 : decode cX8_callTimers 33 = .ok (.getfield 100, 3) := by decide +kernel
theorem dX8_callTimers_36 : decode cX8_callTimers 36 = .ok (.iload_n 1, 1) := by decide +kernel
theorem dX8_callTimers_37 : decode cX8_callTimers 37 = .ok (.if_icmp .eq 6, 3) := by decide +kernel
theorem dX8_callTimers_40 : decode cX8_callTimers 40 = .ok (.goto 65, 3) := by decide +kernel
theorem dX8_callTimers_43 : decode cX8_callTimers 43 = .ok (.aload_n 3, 1) := by decide +kernel
theorem dX8_callTimers_44 : decode cX8_callTimers 44 = .ok (.getfield 84, 3) := by decide +kernel
theorem dX8_callTimers_47 : decode cX8_callTimers 47 = .ok (.bipush 11, 2) := by decide +kernel
theorem dX8_callTimers_49 : decode cX8_callTimers 49 = .ok (.if_icmp .eq 12, 3) := by decide +kernel
theorem dX8_callTimers_52 : decode cX8_callTimers 52 = .ok (.aload_n 0, 1) := by decide +kernel
theorem dX8_callTimers_53 : decode cX8_callTimers 53 = .ok (.aload_n 3, 1) := by decide +kernel
theorem dX8_callTimers_54 : decode cX8_callTimers 54 = .ok (.iload_n 1, 1) := by decide +kernel
theorem dX8_callTimers_55 : decode cX8_callTimers 55 = .ok (.invokevirtual 103, 3) := by decide +kernel
theorem dX8_callTimers_58 : decode cX8_callTimers 58 = .ok (.goto 47, 3) := by decide +kernel
theorem dX8_callTimers_61 : decode cX8_callTimers 61 = .ok (.aload_n 3, 1) := by decide +kernel
theorem dX8_callTimers_62 : decode cX8_callTimers 62 = .ok (.getfield 107, 3) := by decide +kernel
theorem dX8_callTimers_65 : decode cX8_callTimers 65 = .ok (.ifCond .eq 14, 3) := by decide +kernel
theorem dX8_callTimers_68 : decode cX8_callTimers 68 = .ok (.aload_n 3, 1) := by decide +kernel
theorem dX8_callTimers_69 : decode cX8_callTimers 69 = .ok (.aload_n 3, 1) := by decide +kernel
theorem dX8_callTimers_70 : decode cX8_callTimers 70 = .ok (.getfield 87, 3) := by decide +kernel
theorem dX8_callTimers_73 : decode cX8_callTimers 73 = .ok (.invokevirtual 88, 3) := by decide +kernel
theorem dX8_callTimers_76 : decode cX8_callTimers 76 = .ok (.goto 29, 3) := by decide +kernel
theorem dX8_callTimers_79 : decode cX8_callTimers 79 = .ok (.aload_n 3, 1) := by decide +kernel
theorem dX8_callTimers_80 : decode cX8_callTimers 80 = .ok (.iload_n 1, 1) := by decide +kernel
theorem dX8_callTimers_81 : decode cX8_callTimers 81 = .ok (.bipush 10, 2) := by decide +kernel
theorem dX8_callTimers_83 : decode cX8_callTimers 83 = .ok (.iadd, 1) := by decide +kernel
theorem dX8_callTimers_84 : decode cX8_callTimers 84 = .ok (.invokevirtual 110, 3) := by decide +kernel
theorem dX8_callTimers_87 : decode cX8_callTimers 87 = .ok (.aload_n 0, 1) := by decide +kernel
theorem dX8_callTimers_88 : decode cX8_callTimers 88 = .ok (.bipush 77, 2) := by decide +kernel
theorem dX8_callTimers_90 : decode cX8_callTimers 90 = .ok (.aload_n 3, 1) := by decide +kernel
theorem dX8_callTimers_91 : decode cX8_callTimers 91 = .ok (.getfield 38, 3) := by decide +kernel
theorem dX8_callTimers_94 : decode cX8_callTimers 94 = .ok (.aload_n 3, 1) := by decide +kernel
theorem dX8_callTimers_95 : decode cX8_callTimers 95 = .ok (.getfield 41, 3) := by decide +kernel
theorem dX8_callTimers_98 : decode cX8_callTimers 98 = .ok (.aload_n 3, 1) := by decide +kernel
theorem dX8_callTimers_99 : decode cX8_callTimers 99 = .ok (.getfield 87, 3) := by decide +kernel
theorem dX8_callTimers_102 : decode cX8_callTimers 102 = .ok (.invokevirtual 70, 3) := by decide +kernel
theorem dX8_callTimers_105 : decode cX8_callTimers 105 = .ok (.iinc 2 1, 3) := by decide +kernel
theorem dX8_callTimers_108 : decode cX8_callTimers 108 = .ok (.goto (-106), 3) := by decide +kernel
theorem dX8_callTimers_111 : decode cX8_callTimers 111 = .ok (.return_, 1) := by decide +kernel
theorem dX8_sayPlain_0 : decode cX8_sayPlain 0 = .ok (.aload_n 0, 1) := by decide +kernel
theorem dX8_sayPlain_1 : decode cX8_sayPlain 1 = .ok (.getfield 20, 3) := by decide +kernel
theorem dX8_sayPlain_4 : decode cX8_sayPlain 4 = .ok (.getfield 113, 3) := by decide +kernel
theorem dX8_sayPlain_7 : decode cX8_sayPlain 7 = .ok (.iload_n 1, 1) := by decide +kernel
theorem dX8_sayPlain_8 : decode cX8_sayPlain 8 = .ok (.aload_n 2, 1) := by decide +kernel
theorem dX8_sayPlain_9 : decode cX8_sayPlain 9 = .ok (.getfield 38, 3) := by decide +kernel
theorem dX8_sayPlain_12 : decode cX8_sayPlain 12 = .ok (.aload_n 2, 1) := by decide +kernel
theorem dX8_sayPlain_13 : decode cX8_sayPlain 13 = .ok (.getfield 41, 3) := by decide +kernel
theorem dX8_sayPlain_16 : decode cX8_sayPlain 16 = .ok (.iconst 0, 1) := by decide +kernel
theorem dX8_sayPlain_17 : decode cX8_sayPlain 17 = .ok (.invokevirtual 119, 3) := by decide +kernel
theorem dX8_sayPlain_20 : decode cX8_sayPlain 20 = .ok (.pop, 1) := by decide +kernel
theorem dX8_sayPlain_21 : decode cX8_sayPlain 21 = .ok (.return_, 1) := by decide +kernel
theorem dX8_sayCause_0 : decode cX8_sayCause 0 = .ok (.aload_n 0, 1) := by decide +kernel
theorem dX8_sayCause_1 : decode cX8_sayCause 1 = .ok (.getfield 20, 3) := by decide +kernel
theorem dX8_sayCause_4 : decode cX8_sayCause 4 = .ok (.getfield 113, 3) := by decide +kernel
theorem dX8_sayCause_7 : decode cX8_sayCause 7 = .ok (.iload_n 1, 1) := by decide +kernel
theorem dX8_sayCause_8 : decode cX8_sayCause 8 = .ok (.iload_n 2, 1) := by decide +kernel
theorem dX8_sayCause_9 : decode cX8_sayCause 9 = .ok (.iload_n 3, 1) := by decide +kernel
theorem dX8_sayCause_10 : decode cX8_sayCause 10 = .ok (.iconst 5, 1) := by decide +kernel
theorem dX8_sayCause_11 : decode cX8_sayCause 11 = .ok (.invokevirtual 119, 3) := by decide +kernel
theorem dX8_sayCause_14 : decode cX8_sayCause 14 = .ok (.ifCond .eq 18, 3) := by decide +kernel
theorem dX8_sayCause_17 : decode cX8_sayCause 17 = .ok (.aload_n 0, 1) := by decide +kernel
theorem dX8_sayCause_18 : decode cX8_sayCause 18 = .ok (.getfield 20, 3) := by decide +kernel
theorem dX8_sayCause_21 : decode cX8_sayCause 21 = .ok (.getfield 113, 3) := by decide +kernel
theorem dX8_sayCause_24 : decode cX8_sayCause 24 = .ok (.bipush 8, 2) := by decide +kernel
theorem dX8_sayCause_26 : decode cX8_sayCause 26 = .ok (.iconst 1, 1) := by decide +kernel
theorem dX8_sayCause_27 : decode cX8_sayCause 27 = .ok (.iload 4, 2) := by decide +kernel
theorem dX8_sayCause_29 : decode cX8_sayCause 29 = .ok (.invokevirtual 125, 3) := by decide +kernel
theorem dX8_sayCause_32 : decode cX8_sayCause 32 = .ok (.return_, 1) := by decide +kernel
theorem dX9_init_0 : decode cX9_init 0 = .ok (.aload_n 0, 1) := by decide +kernel
theorem dX9_init_1 : decode cX9_init 1 = .ok (.invokespecial 1, 3) := by decide +kernel
theorem dX9_init_4 : decode cX9_init 4 = .ok (.return_, 1) := by decide +kernel
theorem dX9_read_0 : decode cX9_read 0 = .ok (.iload_n 2, 1) := by decide +kernel
theorem dX9_read_1 : decode cX9_read 1 = .ok (.bipush 9, 2) := by decide +kernel
theorem dX9_read_3 : decode cX9_read 3 = .ok (.if_icmp .lt 53, 3) := by decide +kernel
theorem dX9_read_6 : decode cX9_read 6 = .ok (.iload_n 2, 1) := by decide +kernel
theorem dX9_read_7 : decode cX9_read 7 = .ok (.aload_n 1, 1) := by decide +kernel
theorem dX9_read_8 : decode cX9_read 8 = .ok (.arraylength, 1) := by decide +kernel
theorem dX9_read_9 : decode cX9_read 9 = .ok (.if_icmp .gt 47, 3) := by decide +kernel
theorem dX9_read_12 : decode cX9_read 12 = .ok (.aload_n 1, 1) := by decide +kernel
theorem dX9_read_13 : decode cX9_read 13 = .ok (.iconst 0, 1) := by decide +kernel
theorem dX9_read_14 : decode cX9_read 14 = .ok (.iaload, 1) := by decide +kernel
theorem dX9_read_15 : decode cX9_read 15 = .ok (.bipush 9, 2) := by decide +kernel
theorem dX9_read_17 : decode cX9_read 17 = .ok (.if_icmp .ne 39, 3) := by decide +kernel
theorem dX9_read_20 : decode cX9_read 20 = .ok (.aload_n 1, 1) := by decide +kernel
theorem dX9_read_21 : decode cX9_read 21 = .ok (.iconst 1, 1) := by decide +kernel
theorem dX9_read_22 : decode cX9_read 22 = .ok (.iaload, 1) := by decide +kernel
theorem dX9_read_23 : decode cX9_read 23 = .ok (.iconst 3, 1) := by decide +kernel
theorem dX9_read_24 : decode cX9_read 24 = .ok (.if_icmp .ne 32, 3) := by decide +kernel
theorem dX9_read_27 : decode cX9_read 27 = .ok (.aload_n 1, 1) := by decide +kernel
theorem dX9_read_28 : decode cX9_read 28 = .ok (.bipush 6, 2) := by decide +kernel
theorem dX9_read_30 : decode cX9_read 30 = .ok (.iaload, 1) := by decide +kernel
theorem dX9_read_31 : decode cX9_read 31 = .ok (.sipush 128, 3) := by decide +kernel
theorem dX9_read_34 : decode cX9_read 34 = .ok (.if_icmp .ne 22, 3) := by decide +kernel
theorem dX9_read_37 : decode cX9_read 37 = .ok (.aload_n 1, 1) := by decide +kernel
theorem dX9_read_38 : decode cX9_read 38 = .ok (.bipush 7, 2) := by decide +kernel
theorem dX9_read_40 : decode cX9_read 40 = .ok (.iaload, 1) := by decide +kernel
theorem dX9_read_41 : decode cX9_read 41 = .ok (.bipush 8, 2) := by decide +kernel
theorem dX9_read_43 : decode cX9_read 43 = .ok (.ishl, 1) := by decide +kernel
theorem dX9_read_44 : decode cX9_read 44 = .ok (.aload_n 1, 1) := by decide +kernel
theorem dX9_read_45 : decode cX9_read 45 = .ok (.bipush 8, 2) := by decide +kernel
theorem dX9_read_47 : decode cX9_read 47 = .ok (.iaload, 1) := by decide +kernel
theorem dX9_read_48 : decode cX9_read 48 = .ok (.ior, 1) := by decide +kernel
theorem dX9_read_49 : decode cX9_read 49 = .ok (.iload_n 2, 1) := by decide +kernel
theorem dX9_read_50 : decode cX9_read 50 = .ok (.bipush 9, 2) := by decide +kernel
theorem dX9_read_52 : decode cX9_read 52 = .ok (.isub, 1) := by decide +kernel
theorem dX9_read_53 : decode cX9_read 53 = .ok (.if_icmp .eq 5, 3) := by decide +kernel
theorem dX9_read_56 : decode cX9_read 56 = .ok (.iconst 0, 1) := by decide +kernel
theorem dX9_read_57 : decode cX9_read 57 = .ok (.ireturn, 1) := by decide +kernel
theorem dX9_read_58 : decode cX9_read 58 = .ok (.aload_n 0, 1) := by decide +kernel
theorem dX9_read_59 : decode cX9_read 59 = .ok (.aload_n 1, 1) := by decide +kernel
theorem dX9_read_60 : decode cX9_read 60 = .ok (.iconst 2, 1) := by decide +kernel
theorem dX9_read_61 : decode cX9_read 61 = .ok (.iaload, 1) := by decide +kernel
theorem dX9_read_62 : decode cX9_read 62 = .ok (.sipush 128, 3) := by decide +kernel
theorem dX9_read_65 : decode cX9_read 65 = .ok (.if_icmp .ge 7, 3) := by decide +kernel
theorem dX9_read_68 : decode cX9_read 68 = .ok (.iconst 1, 1) := by decide +kernel
theorem dX9_read_69 : decode cX9_read 69 = .ok (.goto 4, 3) := by decide +kernel
theorem dX9_read_72 : decode cX9_read 72 = .ok (.iconst 0, 1) := by decide +kernel
theorem dX9_read_73 : decode cX9_read 73 = .ok (.putfield 9, 3) := by decide +kernel
theorem dX9_read_76 : decode cX9_read 76 = .ok (.aload_n 0, 1) := by decide +kernel
theorem dX9_read_77 : decode cX9_read 77 = .ok (.aload_n 1, 1) := by decide +kernel
theorem dX9_read_78 : decode cX9_read 78 = .ok (.iconst 2, 1) := by decide +kernel
theorem dX9_read_79 : decode cX9_read 79 = .ok (.iaload, 1) := by decide +kernel
theorem dX9_read_80 : decode cX9_read 80 = .ok (.bipush 127, 2) := by decide +kernel
theorem dX9_read_82 : decode cX9_read 82 = .ok (.iand, 1) := by decide +kernel
theorem dX9_read_83 : decode cX9_read 83 = .ok (.bipush 16, 2) := by decide +kernel
theorem dX9_read_85 : decode cX9_read 85 = .ok (.ishl, 1) := by decide +kernel
theorem dX9_read_86 : decode cX9_read 86 = .ok (.aload_n 1, 1) := by decide +kernel
theorem dX9_read_87 : decode cX9_read 87 = .ok (.iconst 3, 1) := by decide +kernel
theorem dX9_read_88 : decode cX9_read 88 = .ok (.iaload, 1) := by decide +kernel
theorem dX9_read_89 : decode cX9_read 89 = .ok (.bipush 8, 2) := by decide +kernel
theorem dX9_read_91 : decode cX9_read 91 = .ok (.ishl, 1) := by decide +kernel
theorem dX9_read_92 : decode cX9_read 92 = .ok (.ior, 1) := by decide +kernel
theorem dX9_read_93 : decode cX9_read 93 = .ok (.aload_n 1, 1) := by decide +kernel
theorem dX9_read_94 : decode cX9_read 94 = .ok (.iconst 4, 1) := by decide +kernel
theorem dX9_read_95 : decode cX9_read 95 = .ok (.iaload, 1) := by decide +kernel
theorem dX9_read_96 : decode cX9_read 96 = .ok (.ior, 1) := by decide +kernel
theorem dX9_read_97 : decode cX9_read 97 = .ok (.putfield 13, 3) := by decide +kernel
theorem dX9_read_100 : decode cX9_read 100 = .ok (.aload_n 0, 1) := by decide +kernel
theorem dX9_read_101 : decode cX9_read 101 = .ok (.aload_n 1, 1) := by decide +kernel
theorem dX9_read_102 : decode cX9_read 102 = .ok (.iconst 5, 1) := by decide +kernel
theorem dX9_read_103 : decode cX9_read 103 = .ok (.iaload, 1) := by decide +kernel
theorem dX9_read_104 : decode cX9_read 104 = .ok (.putfield 17, 3) := by decide +kernel
theorem dX9_read_107 : decode cX9_read 107 = .ok (.aload_n 0, 1) := by decide +kernel
theorem dX9_read_108 : decode cX9_read 108 = .ok (.bipush 9, 2) := by decide +kernel
theorem dX9_read_110 : decode cX9_read 110 = .ok (.putfield 20, 3) := by decide +kernel
theorem dX9_read_113 : decode cX9_read 113 = .ok (.aload_n 0, 1) := by decide +kernel
theorem dX9_read_114 : decode cX9_read 114 = .ok (.aload_n 1, 1) := by decide +kernel
theorem dX9_read_115 : decode cX9_read 115 = .ok (.iload_n 2, 1) := by decide +kernel
theorem dX9_read_116 : decode cX9_read 116 = .ok (.iload_n 3, 1) := by decide +kernel
theorem dX9_read_117 : decode cX9_read 117 = .ok (.invokevirtual 23, 3) := by decide +kernel
theorem dX9_read_120 : decode cX9_read 120 = .ok (.ifCond .eq 15, 3) := by decide +kernel
theorem dX9_read_123 : decode cX9_read 123 = .ok (.aload_n 0, 1) := by decide +kernel
theorem dX9_read_124 : decode cX9_read 124 = .ok (.getfield 20, 3) := by decide +kernel
theorem dX9_read_127 : decode cX9_read 127 = .ok (.iload_n 2, 1) := by decide +kernel
theorem dX9_read_128 : decode cX9_read 128 = .ok (.if_icmp .ne 7, 3) := by decide +kernel
theorem dX9_read_131 : decode cX9_read 131 = .ok (.iconst 1, 1) := by decide +kernel
theorem dX9_read_132 : decode cX9_read 132 = .ok (.goto 4, 3) := by decide +kernel
theorem dX9_read_135 : decode cX9_read 135 = .ok (.iconst 0, 1) := by decide +kernel
theorem dX9_read_136 : decode cX9_read 136 = .ok (.ireturn, 1) := by decide +kernel
theorem dX9_readElements_0 : decode cX9_readElements 0 = .ok (.aload_n 0, 1) := by decide +kernel
theorem dX9_readElements_1 : decode cX9_readElements 1 = .ok (.getfield 17, 3) := by decide +kernel
theorem dX9_readElements_4 : decode cX9_readElements 4 = .ok (.lookupswitch 231 #[(2, 169), (5, 60), (7, 203), (15, 203), (77, 205), (90, 205)], 60) := by decide +kernel
theorem dX9_readElements_64 : decode cX9_readElements 64 = .ok (.aload_n 0, 1) := by decide +kernel
theorem dX9_readElements_65 : decode cX9_readElements 65 = .ok (.aload_n 0, 1) := by decide +kernel
theorem dX9_readElements_66 : decode cX9_readElements 66 = .ok (.aload_n 1, 1) := by decide +kernel
theorem dX9_readElements_67 : decode cX9_readElements 67 = .ok (.iload_n 2, 1) := by decide +kernel
theorem dX9_readElements_68 : decode cX9_readElements 68 = .ok (.bipush 112, 2) := by decide +kernel
theorem dX9_readElements_70 : decode cX9_readElements 70 = .ok (.iconst 1, 1) := by decide +kernel
theorem dX9_readElements_71 : decode cX9_readElements 71 = .ok (.invokevirtual 27, 3) := by decide +kernel
theorem dX9_readElements_74 : decode cX9_readElements 74 = .ok (.putfield 31, 3) := by decide +kernel
theorem dX9_readElements_77 : decode cX9_readElements 77 = .ok (.aload_n 0, 1) := by decide +kernel
theorem dX9_readElements_78 : decode cX9_readElements 78 = .ok (.aload_n 0, 1) := by decide +kernel
theorem dX9_readElements_79 : decode cX9_readElements 79 = .ok (.aload_n 1, 1) := by decide +kernel
theorem dX9_readElements_80 : decode cX9_readElements 80 = .ok (.iload_n 2, 1) := by decide +kernel
theorem dX9_readElements_81 : decode cX9_readElements 81 = .ok (.bipush 89, 2) := by decide +kernel
theorem dX9_readElements_83 : decode cX9_readElements 83 = .ok (.iconst 1, 1) := by decide +kernel
theorem dX9_readElements_84 : decode cX9_readElements 84 = .ok (.invokevirtual 27, 3) := by decide +kernel
theorem dX9_readElements_87 : decode cX9_readElements 87 = .ok (.putfield 34, 3) := by decide +kernel
theorem dX9_readElements_90 : decode cX9_readElements 90 = .ok (.aload_n 0, 1) := by decide +kernel
theorem dX9_readElements_91 : decode cX9_readElements 91 = .ok (.iload_n 3, 1) := by decide +kernel
theorem dX9_readElements_92 : decode cX9_readElements 92 = .ok (.ifCond .eq 15, 3) := by decide +kernel
theorem dX9_readElements_95 : decode cX9_readElements 95 = .ok (.aload_n 0, 1) := by decide +kernel
theorem dX9_readElements_96 : decode cX9_readElements 96 = .ok (.aload_n 1, 1) := by decide +kernel
theorem dX9_readElements_97 : decode cX9_readElements 97 = .ok (.iload_n 2, 1) := by decide +kernel
theorem dX9_readElements_98 : decode cX9_readElements 98 = .ok (.bipush 108, 2) := by decide +kernel
theorem dX9_readElements_100 : decode cX9_readElements 100 = .ok (.iconst 1, 1) := by decide +kernel
theorem dX9_readElements_101 : decode cX9_readElements 101 = .ok (.invokevirtual 27, 3) := by decide +kernel
theorem dX9_readElements_104 : decode cX9_readElements 104 = .ok (.goto 4, 3) := by decide +kernel
theorem dX9_readElements_107 : decode cX9_readElements 107 = .ok (.iconst 0, 1) := by decide +kernel
theorem dX9_readElements_108 : decode cX9_readElements 108 = .ok (.putfield 37, 3) := by decide +kernel
theorem dX9_readElements_111 : decode cX9_readElements 111 = .ok (.aload_n 0, 1) := by decide +kernel
theorem dX9_readElements_112 : decode cX9_readElements 112 = .ok (.iload_n 3, 1) := by decide +kernel
theorem dX9_readElements_113 : decode cX9_readElements 113 = .ok (.ifCond .eq 15, 3) := by decide +kernel
theorem dX9_readElements_116 : decode cX9_readElements 116 = .ok (.aload_n 0, 1) := by decide +kernel
theorem dX9_readElements_117 : decode cX9_readElements 117 = .ok (.aload_n 1, 1) := by decide +kernel
theorem dX9_readElements_118 : decode cX9_readElements 118 = .ok (.iload_n 2, 1) := by decide +kernel
theorem dX9_readElements_119 : decode cX9_readElements 119 = .ok (.bipush 90, 2) := by decide +kernel
theorem dX9_readElements_121 : decode cX9_readElements 121 = .ok (.iconst 2, 1) := by decide +kernel
theorem dX9_readElements_122 : decode cX9_readElements 122 = .ok (.invokevirtual 27, 3) := by decide +kernel
theorem dX9_readElements_125 : decode cX9_readElements 125 = .ok (.goto 4, 3) := by decide +kernel
theorem dX9_readElements_128 : decode cX9_readElements 128 = .ok (.iconst 0, 1) := by decide +kernel
theorem dX9_readElements_129 : decode cX9_readElements 129 = .ok (.putfield 40, 3) := by decide +kernel
theorem dX9_readElements_132 : decode cX9_readElements 132 = .ok (.aload_n 0, 1) := by decide +kernel
theorem dX9_readElements_133 : decode cX9_readElements 133 = .ok (.getfield 9, 3) := by decide +kernel
theorem dX9_readElements_136 : decode cX9_readElements 136 = .ok (.ifCond .eq 35, 3) := by decide +kernel
theorem dX9_readElements_139 : decode cX9_readElements 139 = .ok (.aload_n 0, 1) := by decide +kernel
theorem dX9_readElements_140 : decode cX9_readElements 140 = .ok (.getfield 31, 3) := by decide +kernel
theorem dX9_readElements_143 : decode cX9_readElements 143 = .ok (.ifCond .lt 28, 3) := by decide +kernel
theorem dX9_readElements_146 : decode cX9_readElements 146 = .ok (.aload_n 0, 1) := by decide +kernel
theorem dX9_readElements_147 : decode cX9_readElements 147 = .ok (.getfield 34, 3) := by decide +kernel
theorem dX9_readElements_150 : decode cX9_readElements 150 = .ok (.ifCond .lt 21, 3) := by decide +kernel
theorem dX9_readElements_153 : decode cX9_readElements 153 = .ok (.aload_n 0, 1) := by decide +kernel
theorem dX9_readElements_154 : decode cX9_readElements 154 = .ok (.getfield 37, 3) := by decide +kernel
theorem dX9_readElements_157 : decode cX9_readElements 157 = .ok (.ifCond .lt 14, 3) := by decide +kernel
theorem dX9_readElements_160 : decode cX9_readElements 160 = .ok (.aload_n 0, 1) := by decide +kernel
theorem dX9_readElements_161 : decode cX9_readElements 161 = .ok (.getfield 40, 3) := by decide +kernel
theorem dX9_readElements_164 : decode cX9_readElements 164 = .ok (.ifCond .lt 7, 3) := by decide +kernel
theorem dX9_readElements_167 : decode cX9_readElements 167 = .ok (.iconst 1, 1) := by decide +kernel
theorem dX9_readElements_168 : decode cX9_readElements 168 = .ok (.goto 4, 3) := by decide +kernel
theorem dX9_readElements_171 : decode cX9_readElements 171 = .ok (.iconst 0, 1) := by decide +kernel
theorem dX9_readElements_172 : decode cX9_readElements 172 = .ok (.ireturn, 1) := by decide +kernel
theorem dX9_readElements_173 : decode cX9_readElements 173 = .ok (.aload_n 0, 1) := by decide +kernel
theorem dX9_readElements_174 : decode cX9_readElements 174 = .ok (.iload_n 3, 1) := by decide +kernel
theorem dX9_readElements_175 : decode cX9_readElements 175 = .ok (.ifCond .eq 15, 3) := by decide +kernel
theorem dX9_readElements_178 : decode cX9_readElements 178 = .ok (.aload_n 0, 1) := by decide +kernel
theorem dX9_readElements_179 : decode cX9_readElements 179 = .ok (.aload_n 1, 1) := by decide +kernel
theorem dX9_readElements_180 : decode cX9_readElements 180 = .ok (.iload_n 2, 1) := by decide +kernel
theorem dX9_readElements_181 : decode cX9_readElements 181 = .ok (.bipush 90, 2) := by decide +kernel
theorem dX9_readElements_183 : decode cX9_readElements 183 = .ok (.iconst 2, 1) := by decide +kernel
theorem dX9_readElements_184 : decode cX9_readElements 184 = .ok (.invokevirtual 27, 3) := by decide +kernel
theorem dX9_readElements_187 : decode cX9_readElements 187 = .ok (.goto 4, 3) := by decide +kernel
theorem dX9_readElements_190 : decode cX9_readElements 190 = .ok (.iconst 0, 1) := by decide +kernel
theorem dX9_readElements_191 : decode cX9_readElements 191 = .ok (.putfield 40, 3) := by decide +kernel
theorem dX9_readElements_194 : decode cX9_readElements 194 = .ok (.aload_n 0, 1) := by decide +kernel
theorem dX9_readElements_195 : decode cX9_readElements 195 = .ok (.getfield 40, 3) := by decide +kernel
theorem dX9_readElements_198 : decode cX9_readElements 198 = .ok (.ifCond .lt 7, 3) := by decide +kernel
theorem dX9_readElements_201 : decode cX9_readElements 201 = .ok (.iconst 1, 1) := by decide +kernel
theorem dX9_readElements_202 : decode cX9_readElements 202 = .ok (.goto 4, 3) := by decide +kernel
theorem dX9_readElements_205 : decode cX9_readElements 205 = .ok (.iconst 0, 1) := by decide +kernel
theorem dX9_readElements_206 : decode cX9_readElements 206 = .ok (.ireturn, 1) := by decide +kernel
theorem dX9_readElements_207 : decode cX9_readElements 207 = .ok (.iconst 1, 1) := by decide +kernel
theorem dX9_readElements_208 : decode cX9_readElements 208 = .ok (.ireturn, 1) := by decide +kernel
theorem dX9_readElements_209 : decode cX9_readElements 209 = .ok (.aload_n 0, 1) := by decide +kernel
theorem dX9_readElements_210 : decode cX9_readElements 210 = .ok (.aload_n 0, 1) := by decide +kernel
theorem dX9_readElements_211 : decode cX9_readElements 211 = .ok (.aload_n 1, 1) := by decide +kernel
theorem dX9_readElements_212 : decode cX9_readElements 212 = .ok (.iload_n 2, 1) := by decide +kernel
theorem dX9_readElements_213 : decode cX9_readElements 213 = .ok (.bipush 8, 2) := by decide +kernel
theorem dX9_readElements_215 : decode cX9_readElements 215 = .ok (.iconst 1, 1) := by decide +kernel
theorem dX9_readElements_216 : decode cX9_readElements 216 = .ok (.invokevirtual 27, 3) := by decide +kernel
theorem dX9_readElements_219 : decode cX9_readElements 219 = .ok (.putfield 43, 3) := by decide +kernel
theorem dX9_readElements_222 : decode cX9_readElements 222 = .ok (.aload_n 0, 1) := by decide +kernel
theorem dX9_readElements_223 : decode cX9_readElements 223 = .ok (.getfield 43, 3) := by decide +kernel
theorem dX9_readElements_226 : decode cX9_readElements 226 = .ok (.ifCond .lt 7, 3) := by decide +kernel
theorem dX9_readElements_229 : decode cX9_readElements 229 = .ok (.iconst 1, 1) := by decide +kernel
theorem dX9_readElements_230 : decode cX9_readElements 230 = .ok (.goto 4, 3) := by decide +kernel
theorem dX9_readElements_233 : decode cX9_readElements 233 = .ok (.iconst 0, 1) := by decide +kernel
theorem dX9_readElements_234 : decode cX9_readElements 234 = .ok (.ireturn, 1) := by decide +kernel
theorem dX9_readElements_235 : decode cX9_readElements 235 = .ok (.iconst 0, 1) := by decide +kernel
theorem dX9_readElements_236 : decode cX9_readElements 236 = .ok (.ireturn, 1) := by decide +kernel
theorem dX9_element_0 : decode cX9_element 0 = .ok (.aload_n 0, 1) := by decide +kernel
theorem dX9_element_1 : decode cX9_element 1 = .ok (.getfield 20, 3) := by decide +kernel
theorem dX9_element_4 : decode cX9_element 4 = .ok (.istore 5, 2) := by decide +kernel
theorem dX9_element_6 : decode cX9_element 6 = .ok (.iload 5, 2) := by decide +kernel
theorem dX9_element_8 : decode cX9_element 8 = .ok (.iconst 4, 1) := by decide +kernel
theorem dX9_element_9 : decode cX9_element 9 = .ok (.iadd, 1) := by decide +kernel
theorem dX9_element_10 : decode cX9_element 10 = .ok (.iload 4, 2) := by decide +kernel
theorem dX9_element_12 : decode cX9_element 12 = .ok (.iadd, 1) := by decide +kernel
theorem dX9_element_13 : decode cX9_element 13 = .ok (.istore 6, 2) := by decide +kernel
theorem dX9_element_15 : decode cX9_element 15 = .ok (.iload 6, 2) := by decide +kernel
theorem dX9_element_17 : decode cX9_element 17 = .ok (.iload_n 2, 1) := by decide +kernel
theorem dX9_element_18 : decode cX9_element 18 = .ok (.if_icmp .gt 28, 3) := by decide +kernel
theorem dX9_element_21 : decode cX9_element 21 = .ok (.iload_n 2, 1) := by decide +kernel
theorem dX9_element_22 : decode cX9_element 22 = .ok (.aload_n 1, 1) := by decide +kernel
theorem dX9_element_23 : decode cX9_element 23 = .ok (.arraylength, 1) := by decide +kernel
theorem dX9_element_24 : decode cX9_element 24 = .ok (.if_icmp .gt 22, 3) := by decide +kernel
theorem dX9_element_27 : decode cX9_element 27 = .ok (.aload_n 1, 1) := by decide +kernel
theorem dX9_element_28 : decode cX9_element 28 = .ok (.iload 5, 2) := by decide +kernel
theorem dX9_element_30 : decode cX9_element 30 = .ok (.invokestatic 46, 3) := by decide +kernel
theorem dX9_element_33 : decode cX9_element 33 = .ok (.iload_n 3, 1) := by decide +kernel
theorem dX9_element_34 : decode cX9_element 34 = .ok (.bipush 24, 2) := by decide +kernel
theorem dX9_element_36 : decode cX9_element 36 = .ok (.ishl, 1) := by decide +kernel
theorem dX9_element_37 : decode cX9_element 37 = .ok (.ldc 52, 2) := by decide +kernel
theorem dX9_element_39 : decode cX9_element 39 = .ok (.ior, 1) := by decide +kernel
theorem dX9_element_40 : decode cX9_element 40 = .ok (.iload 4, 2) := by decide +kernel
theorem dX9_element_42 : decode cX9_element 42 = .ok (.ior, 1) := by decide +kernel
theorem dX9_element_43 : decode cX9_element 43 = .ok (.if_icmp .eq 5, 3) := by decide +kernel
theorem dX9_element_46 : decode cX9_element 46 = .ok (.iconst (-1), 1) := by decide +kernel
theorem dX9_element_47 : decode cX9_element 47 = .ok (.ireturn, 1) := by decide +kernel
theorem dX9_element_48 : decode cX9_element 48 = .ok (.aload_n 0, 1) := by decide +kernel
theorem dX9_element_49 : decode cX9_element 49 = .ok (.iload 6, 2) := by decide +kernel
theorem dX9_element_51 : decode cX9_element 51 = .ok (.putfield 20, 3) := by decide +kernel
theorem dX9_element_54 : decode cX9_element 54 = .ok (.iload 4, 2) := by decide +kernel
theorem dX9_element_56 : decode cX9_element 56 = .ok (.iconst 1, 1) := by decide +kernel
theorem dX9_element_57 : decode cX9_element 57 = .ok (.if_icmp .ne 12, 3) := by decide +kernel
theorem dX9_element_60 : decode cX9_element 60 = .ok (.aload_n 1, 1) := by decide +kernel
theorem dX9_element_61 : decode cX9_element 61 = .ok (.iload 6, 2) := by decide +kernel
theorem dX9_element_63 : decode cX9_element 63 = .ok (.iconst 1, 1) := by decide +kernel
theorem dX9_element_64 : decode cX9_element 64 = .ok (.isub, 1) := by decide +kernel
theorem dX9_element_65 : decode cX9_element 65 = .ok (.iaload, 1) := by decide +kernel
theorem dX9_element_66 : decode cX9_element 66 = .ok (.goto 19, 3) := by decide +kernel
theorem dX9_element_69 : decode cX9_element 69 = .ok (.aload_n 1, 1) := by decide +kernel
theorem dX9_element_70 : decode cX9_element 70 = .ok (.iload 6, 2) := by decide +kernel
theorem dX9_element_72 : decode cX9_element 72 = .ok (.iconst 2, 1) := by decide +kernel
theorem dX9_element_73 : decode cX9_element 73 = .ok (.isub, 1) := by decide +kernel
theorem dX9_element_74 : decode cX9_element 74 = .ok (.iaload, 1) := by decide +kernel
theorem dX9_element_75 : decode cX9_element 75 = .ok (.bipush 8, 2) := by decide +kernel
theorem dX9_element_77 : decode cX9_element 77 = .ok (.ishl, 1) := by decide +kernel
theorem dX9_element_78 : decode cX9_element 78 = .ok (.aload_n 1, 1) := by decide +kernel
theorem dX9_element_79 : decode cX9_element 79 = .ok (.iload 6, 2) := by decide +kernel
theorem dX9_element_81 : decode cX9_element 81 = .ok (.iconst 1, 1) := by decide +kernel
theorem dX9_element_82 : decode cX9_element 82 = .ok (.isub, 1) := by decide +kernel
theorem dX9_element_83 : decode cX9_element 83 = .ok (.iaload, 1) := by decide +kernel
theorem dX9_element_84 : decode cX9_element 84 = .ok (.ior, 1) := by decide +kernel
theorem dX9_element_85 : decode cX9_element 85 = .ok (.ireturn, 1) := by decide +kernel
theorem dX10_init_0 : decode cX10_init 0 = .ok (.aload_n 0, 1) := by decide +kernel
theorem dX10_init_1 : decode cX10_init 1 = .ok (.iload_n 1, 1) := by decide +kernel
theorem dX10_init_2 : decode cX10_init 2 = .ok (.aload_n 2, 1) := by decide +kernel
theorem dX10_init_3 : decode cX10_init 3 = .ok (.invokespecial 3, 3) := by decide +kernel
theorem dX10_init_6 : decode cX10_init 6 = .ok (.aload_n 0, 1) := by decide +kernel
theorem dX10_init_7 : decode cX10_init 7 = .ok (.aload_n 3, 1) := by decide +kernel
theorem dX10_init_8 : decode cX10_init 8 = .ok (.putfield 9, 3) := by decide +kernel
theorem dX10_init_11 : decode cX10_init 11 = .ok (.return_, 1) := by decide +kernel
theorem dX10_rates_0 : decode cX10_rates 0 = .ok (.iconst 0, 1) := by decide +kernel
theorem dX10_rates_1 : decode cX10_rates 1 = .ok (.istore_n 1, 1) := by decide +kernel
theorem dX10_rates_2 : decode cX10_rates 2 = .ok (.iconst 0, 1) := by decide +kernel
theorem dX10_rates_3 : decode cX10_rates 3 = .ok (.istore_n 2, 1) := by decide +kernel
theorem dX10_rates_4 : decode cX10_rates 4 = .ok (.iload_n 2, 1) := by decide +kernel
theorem dX10_rates_5 : decode cX10_rates 5 = .ok (.aload_n 0, 1) := by decide +kernel
theorem dX10_rates_6 : decode cX10_rates 6 = .ok (.getfield 15, 3) := by decide +kernel
theorem dX10_rates_9 : decode cX10_rates 9 = .ok (.invokevirtual 19, 3) := by decide +kernel
theorem dX10_rates_12 : decode cX10_rates 12 = .ok (.if_icmp .ge 39, 3) := by decide +kernel
theorem dX10_rates_15 : decode cX10_rates 15 = .ok (.aload_n 0, 1) := by decide +kernel
theorem dX10_rates_16 : decode cX10_rates 16 = .ok (.getfield 15, 3) := by decide +kernel
theorem dX10_rates_19 : decode cX10_rates 19 = .ok (.iload_n 2, 1) := by decide +kernel
theorem dX10_rates_20 : decode cX10_rates 20 = .ok (.invokevirtual 25, 3) := by decide +kernel
theorem dX10_rates_23 : decode cX10_rates 23 = .ok (.checkcast 29, 3) := by decide +kernel
theorem dX10_rates_26 : decode cX10_rates 26 = .ok (.astore_n 3, 1) := by decide +kernel
theorem dX10_rates_27 : decode cX10_rates 27 = .ok (.iload_n 1, 1) := by decide +kernel
theorem dX10_rates_28 : decode cX10_rates 28 = .ok (.aload_n 3, 1) := by decide +kernel
theorem dX10_rates_29 : decode cX10_rates 29 = .ok (.invokevirtual 31, 3) := by decide +kernel
theorem dX10_rates_32 : decode cX10_rates 32 = .ok (.ifCond .eq 10, 3) := by decide +kernel
theorem dX10_rates_35 : decode cX10_rates 35 = .ok (.aload_n 3, 1) := by decide +kernel
theorem dX10_rates_36 : decode cX10_rates 36 = .ok (.getfield 35, 3) := by decide +kernel
theorem dX10_rates_39 : decode cX10_rates 39 = .ok (.goto 4, 3) := by decide +kernel
theorem dX10_rates_42 : decode cX10_rates 42 = .ok (.iconst 0, 1) := by decide +kernel
theorem dX10_rates_43 : decode cX10_rates 43 = .ok (.iadd, 1) := by decide +kernel
theorem dX10_rates_44 : decode cX10_rates 44 = .ok (.istore_n 1, 1) := by decide +kernel
theorem dX10_rates_45 : decode cX10_rates 45 = .ok (.iinc 2 1, 3) := by decide +kernel
theorem dX10_rates_48 : decode cX10_rates 48 = .ok (.goto (-44), 3) := by decide +kernel
theorem dX10_rates_51 : decode cX10_rates 51 = .ok (.iload_n 1, 1) := by decide +kernel
theorem dX10_rates_52 : decode cX10_rates 52 = .ok (.ireturn, 1) := by decide +kernel
theorem dX10_isJoined_0 : decode cX10_isJoined 0 = .ok (.aload_n 0, 1) := by decide +kernel
theorem dX10_isJoined_1 : decode cX10_isJoined 1 = .ok (.getfield 39, 3) := by decide +kernel
theorem dX10_isJoined_4 : decode cX10_isJoined 4 = .ok (.bipush 10, 2) := by decide +kernel
theorem dX10_isJoined_6 : decode cX10_isJoined 6 = .ok (.if_icmp .ne 26, 3) := by decide +kernel
theorem dX10_isJoined_9 : decode cX10_isJoined 9 = .ok (.aload_n 0, 1) := by decide +kernel
theorem dX10_isJoined_10 : decode cX10_isJoined 10 = .ok (.getfield 42, 3) := by decide +kernel
theorem dX10_isJoined_13 : decode cX10_isJoined 13 = .ok (.ifnull 19, 3) := by decide +kernel
theorem dX10_isJoined_16 : decode cX10_isJoined 16 = .ok (.aload_n 0, 1) := by decide +kernel
theorem dX10_isJoined_17 : decode cX10_isJoined 17 = .ok (.getfield 42, 3) := by decide +kernel
theorem dX10_isJoined_20 : decode cX10_isJoined 20 = .ok (.getfield 39, 3) := by decide +kernel
theorem dX10_isJoined_23 : decode cX10_isJoined 23 = .ok (.bipush 10, 2) := by decide +kernel
theorem dX10_isJoined_25 : decode cX10_isJoined 25 = .ok (.if_icmp .ne 7, 3) := by decide +kernel
theorem dX10_isJoined_28 : decode cX10_isJoined 28 = .ok (.iconst 1, 1) := by decide +kernel
theorem dX10_isJoined_29 : decode cX10_isJoined 29 = .ok (.goto 4, 3) := by decide +kernel
theorem dX10_isJoined_32 : decode cX10_isJoined 32 = .ok (.iconst 0, 1) := by decide +kernel
theorem dX10_isJoined_33 : decode cX10_isJoined 33 = .ok (.ireturn, 1) := by decide +kernel
theorem dX10_joinedChannels_0 : decode cX10_joinedChannels 0 = .ok (.iconst 0, 1) := by decide +kernel
theorem dX10_joinedChannels_1 : decode cX10_joinedChannels 1 = .ok (.istore_n 1, 1) := by decide +kernel
theorem dX10_joinedChannels_2 : decode cX10_joinedChannels 2 = .ok (.iconst 0, 1) := by decide +kernel
theorem dX10_joinedChannels_3 : decode cX10_joinedChannels 3 = .ok (.istore_n 2, 1) := by decide +kernel
theorem dX10_joinedChannels_4 : decode cX10_joinedChannels 4 = .ok (.iload_n 2, 1) := by decide +kernel
theorem dX10_joinedChannels_5 : decode cX10_joinedChannels 5 = .ok (.aload_n 0, 1) := by decide +kernel
theorem dX10_joinedChannels_6 : decode cX10_joinedChannels 6 = .ok (.getfield 15, 3) := by decide +kernel
theorem dX10_joinedChannels_9 : decode cX10_joinedChannels 9 = .ok (.invokevirtual 19, 3) := by decide +kernel
theorem dX10_joinedChannels_12 : decode cX10_joinedChannels 12 = .ok (.if_icmp .ge 34, 3) := by decide +kernel
theorem dX10_joinedChannels_15 : decode cX10_joinedChannels 15 = .ok (.iload_n 1, 1) := by decide +kernel
theorem dX10_joinedChannels_16 : decode cX10_joinedChannels 16 = .ok (.aload_n 0, 1) := by decide +kernel
theorem dX10_joinedChannels_17 : decode cX10_joinedChannels 17 = .ok (.getfield 15, 3) := by decide +kernel
theorem dX10_joinedChannels_20 : decode cX10_joinedChannels 20 = .ok (.iload_n 2, 1) := by decide +kernel
theorem dX10_joinedChannels_21 : decode cX10_joinedChannels 21 = .ok (.invokevirtual 25, 3) := by decide +kernel
theorem dX10_joinedChannels_24 : decode cX10_joinedChannels 24 = .ok (.checkcast 29, 3) := by decide +kernel
theorem dX10_joinedChannels_27 : decode cX10_joinedChannels 27 = .ok (.invokestatic 46, 3) := by decide +kernel
theorem dX10_joinedChannels_30 : decode cX10_joinedChannels 30 = .ok (.ifCond .eq 7, 3) := by decide +kernel
theorem dX10_joinedChannels_33 : decode cX10_joinedChannels 33 = .ok (.iconst 1, 1) := by decide +kernel
theorem dX10_joinedChannels_34 : decode cX10_joinedChannels 34 = .ok (.goto 4, 3) := by decide +kernel
theorem dX10_joinedChannels_37 : decode cX10_joinedChannels 37 = .ok (.iconst 0, 1) := by decide +kernel
theorem dX10_joinedChannels_38 : decode cX10_joinedChannels 38 = .ok (.iadd, 1) := by decide +kernel
theorem dX10_joinedChannels_39 : decode cX10_joinedChannels 39 = .ok (.istore_n 1, 1) := by decide +kernel
theorem dX10_joinedChannels_40 : decode cX10_joinedChannels 40 = .ok (.iinc 2 1, 3) := by decide +kernel
theorem dX10_joinedChannels_43 : decode cX10_joinedChannels 43 = .ok (.goto (-39), 3) := by decide +kernel
theorem dX10_joinedChannels_46 : decode cX10_joinedChannels 46 = .ok (.iload_n 1, 1) := by decide +kernel
theorem dX10_joinedChannels_47 : decode cX10_joinedChannels 47 = .ok (.ireturn, 1) := by decide +kernel
theorem dX10_joined_0 : decode cX10_joined 0 = .ok (.iconst 0, 1) := by decide +kernel
theorem dX10_joined_1 : decode cX10_joined 1 = .ok (.istore_n 2, 1) := by decide +kernel
theorem dX10_joined_2 : decode cX10_joined 2 = .ok (.iload_n 2, 1) := by decide +kernel
theorem dX10_joined_3 : decode cX10_joined 3 = .ok (.aload_n 0, 1) := by decide +kernel
theorem dX10_joined_4 : decode cX10_joined 4 = .ok (.getfield 15, 3) := by decide +kernel
theorem dX10_joined_7 : decode cX10_joined 7 = .ok (.invokevirtual 19, 3) := by decide +kernel
theorem dX10_joined_10 : decode cX10_joined 10 = .ok (.if_icmp .ge 38, 3) := by decide +kernel
theorem dX10_joined_13 : decode cX10_joined 13 = .ok (.aload_n 0, 1) := by decide +kernel
theorem dX10_joined_14 : decode cX10_joined 14 = .ok (.getfield 15, 3) := by decide +kernel
theorem dX10_joined_17 : decode cX10_joined 17 = .ok (.iload_n 2, 1) := by decide +kernel
theorem dX10_joined_18 : decode cX10_joined 18 = .ok (.invokevirtual 25, 3) := by decide +kernel
theorem dX10_joined_21 : decode cX10_joined 21 = .ok (.checkcast 29, 3) := by decide +kernel
theorem dX10_joined_24 : decode cX10_joined 24 = .ok (.astore_n 3, 1) := by decide +kernel
theorem dX10_joined_25 : decode cX10_joined 25 = .ok (.aload_n 3, 1) := by decide +kernel
theorem dX10_joined_26 : decode cX10_joined 26 = .ok (.getfield 50, 3) := by decide +kernel
theorem dX10_joined_29 : decode cX10_joined 29 = .ok (.iload_n 1, 1) := by decide +kernel
theorem dX10_joined_30 : decode cX10_joined 30 = .ok (.if_icmp .ne 12, 3) := by decide +kernel
theorem dX10_joined_33 : decode cX10_joined 33 = .ok (.aload_n 3, 1) := by decide +kernel
theorem dX10_joined_34 : decode cX10_joined 34 = .ok (.invokestatic 46, 3) := by decide +kernel
theorem dX10_joined_37 : decode cX10_joined 37 = .ok (.ifCond .eq 5, 3) := by decide +kernel
theorem dX10_joined_40 : decode cX10_joined 40 = .ok (.aload_n 3, 1) := by decide +kernel
theorem dX10_joined_41 : decode cX10_joined 41 = .ok (.areturn, 1) := by decide +kernel
theorem dX10_joined_42 : decode cX10_joined 42 = .ok (.iinc 2 1, 3) := by decide +kernel
theorem dX10_joined_45 : decode cX10_joined 45 = .ok (.goto (-43), 3) := by decide +kernel
theorem dX10_joined_48 : decode cX10_joined 48 = .ok (.aconst_null, 1) := by decide +kernel
theorem dX10_joined_49 : decode cX10_joined 49 = .ok (.areturn, 1) := by decide +kernel
theorem dX10_farChannel_0 : decode cX10_farChannel 0 = .ok (.aload_n 0, 1) := by decide +kernel
theorem dX10_farChannel_1 : decode cX10_farChannel 1 = .ok (.iload_n 1, 1) := by decide +kernel
theorem dX10_farChannel_2 : decode cX10_farChannel 2 = .ok (.invokevirtual 53, 3) := by decide +kernel
theorem dX10_farChannel_5 : decode cX10_farChannel 5 = .ok (.astore_n 2, 1) := by decide +kernel
theorem dX10_farChannel_6 : decode cX10_farChannel 6 = .ok (.aload_n 2, 1) := by decide +kernel
theorem dX10_farChannel_7 : decode cX10_farChannel 7 = .ok (.ifnull 10, 3) := by decide +kernel
theorem dX10_farChannel_10 : decode cX10_farChannel 10 = .ok (.aload_n 2, 1) := by decide +kernel
theorem dX10_farChannel_11 : decode cX10_farChannel 11 = .ok (.getfield 42, 3) := by decide +kernel
theorem dX10_farChannel_14 : decode cX10_farChannel 14 = .ok (.ifnonnull 6, 3) := by decide +kernel
theorem dX10_farChannel_17 : decode cX10_farChannel 17 = .ok (.bipush (-2), 2) := by decide +kernel
theorem dX10_farChannel_19 : decode cX10_farChannel 19 = .ok (.ireturn, 1) := by decide +kernel
theorem dX10_farChannel_20 : decode cX10_farChannel 20 = .ok (.sipush 1000, 3) := by decide +kernel
theorem dX10_farChannel_23 : decode cX10_farChannel 23 = .ok (.aload_n 2, 1) := by decide +kernel
theorem dX10_farChannel_24 : decode cX10_farChannel 24 = .ok (.getfield 42, 3) := by decide +kernel
theorem dX10_farChannel_27 : decode cX10_farChannel 27 = .ok (.getfield 57, 3) := by decide +kernel
theorem dX10_farChannel_30 : decode cX10_farChannel 30 = .ok (.getfield 61, 3) := by decide +kernel
theorem dX10_farChannel_33 : decode cX10_farChannel 33 = .ok (.imul, 1) := by decide +kernel
theorem dX10_farChannel_34 : decode cX10_farChannel 34 = .ok (.aload_n 2, 1) := by decide +kernel
theorem dX10_farChannel_35 : decode cX10_farChannel 35 = .ok (.getfield 42, 3) := by decide +kernel
theorem dX10_farChannel_38 : decode cX10_farChannel 38 = .ok (.getfield 50, 3) := by decide +kernel
theorem dX10_farChannel_41 : decode cX10_farChannel 41 = .ok (.iadd, 1) := by decide +kernel
theorem dX10_farChannel_42 : decode cX10_farChannel 42 = .ok (.ireturn, 1) := by decide +kernel
theorem dX10_leastChannel_0 : decode cX10_leastChannel 0 = .ok (.bipush 32, 2) := by decide +kernel
theorem dX10_leastChannel_2 : decode cX10_leastChannel 2 = .ok (.istore_n 1, 1) := by decide +kernel
theorem dX10_leastChannel_3 : decode cX10_leastChannel 3 = .ok (.iconst 0, 1) := by decide +kernel
theorem dX10_leastChannel_4 : decode cX10_leastChannel 4 = .ok (.istore_n 2, 1) := by decide +kernel
theorem dX10_leastChannel_5 : decode cX10_leastChannel 5 = .ok (.iload_n 2, 1) := by decide +kernel
theorem dX10_leastChannel_6 : decode cX10_leastChannel 6 = .ok (.bipush 8, 2) := by decide +kernel
theorem dX10_leastChannel_8 : decode cX10_leastChannel 8 = .ok (.if_icmp .ge 20, 3) := by decide +kernel
theorem dX10_leastChannel_11 : decode cX10_leastChannel 11 = .ok (.aload_n 0, 1) := by decide +kernel
theorem dX10_leastChannel_12 : decode cX10_leastChannel 12 = .ok (.iload_n 1, 1) := by decide +kernel
theorem dX10_leastChannel_13 : decode cX10_leastChannel 13 = .ok (.invokevirtual 64, 3) := by decide +kernel
theorem dX10_leastChannel_16 : decode cX10_leastChannel 16 = .ok (.ifCond .eq 12, 3) := by decide +kernel
theorem dX10_leastChannel_19 : decode cX10_leastChannel 19 = .ok (.iinc 1 1, 3) := by decide +kernel
theorem dX10_leastChannel_22 : decode cX10_leastChannel 22 = .ok (.iinc 2 1, 3) := by decide +kernel
theorem dX10_leastChannel_25 : decode cX10_leastChannel 25 = .ok (.goto (-20), 3) := by decide +kernel
theorem dX10_leastChannel_28 : decode cX10_leastChannel 28 = .ok (.iload_n 1, 1) := by decide +kernel
theorem dX10_leastChannel_29 : decode cX10_leastChannel 29 = .ok (.ireturn, 1) := by decide +kernel
theorem dX10_isTaken_0 : decode cX10_isTaken 0 = .ok (.iconst 0, 1) := by decide +kernel
theorem dX10_isTaken_1 : decode cX10_isTaken 1 = .ok (.istore_n 2, 1) := by decide +kernel
theorem dX10_isTaken_2 : decode cX10_isTaken 2 = .ok (.iload_n 2, 1) := by decide +kernel
theorem dX10_isTaken_3 : decode cX10_isTaken 3 = .ok (.aload_n 0, 1) := by decide +kernel
theorem dX10_isTaken_4 : decode cX10_isTaken 4 = .ok (.getfield 15, 3) := by decide +kernel
theorem dX10_isTaken_7 : decode cX10_isTaken 7 = .ok (.invokevirtual 19, 3) := by decide +kernel
theorem dX10_isTaken_10 : decode cX10_isTaken 10 = .ok (.if_icmp .ge 38, 3) := by decide +kernel
theorem dX10_isTaken_13 : decode cX10_isTaken 13 = .ok (.aload_n 0, 1) := by decide +kernel
theorem dX10_isTaken_14 : decode cX10_isTaken 14 = .ok (.getfield 15, 3) := by decide +kernel
theorem dX10_isTaken_17 : decode cX10_isTaken 17 = .ok (.iload_n 2, 1) := by decide +kernel
theorem dX10_isTaken_18 : decode cX10_isTaken 18 = .ok (.invokevirtual 25, 3) := by decide +kernel
theorem dX10_isTaken_21 : decode cX10_isTaken 21 = .ok (.checkcast 29, 3) := by decide +kernel
theorem dX10_isTaken_24 : decode cX10_isTaken 24 = .ok (.astore_n 3, 1) := by decide +kernel
theorem dX10_isTaken_25 : decode cX10_isTaken 25 = .ok (.aload_n 3, 1) := by decide +kernel
theorem dX10_isTaken_26 : decode cX10_isTaken 26 = .ok (.invokevirtual 31, 3) := by decide +kernel
theorem dX10_isTaken_29 : decode cX10_isTaken 29 = .ok (.ifCond .eq 13, 3) := by decide +kernel
theorem dX10_isTaken_32 : decode cX10_isTaken 32 = .ok (.aload_n 3, 1) := by decide +kernel
theorem dX10_isTaken_33 : decode cX10_isTaken 33 = .ok (.getfield 50, 3) := by decide +kernel
theorem dX10_isTaken_36 : decode cX10_isTaken 36 = .ok (.iload_n 1, 1) := by decide +kernel
theorem dX10_isTaken_37 : decode cX10_isTaken 37 = .ok (.if_icmp .ne 5, 3) := by decide +kernel
theorem dX10_isTaken_40 : decode cX10_isTaken 40 = .ok (.iconst 1, 1) := by decide +kernel
theorem dX10_isTaken_41 : decode cX10_isTaken 41 = .ok (.ireturn, 1) := by decide +kernel
theorem dX10_isTaken_42 : decode cX10_isTaken 42 = .ok (.iinc 2 1, 3) := by decide +kernel
theorem dX10_isTaken_45 : decode cX10_isTaken 45 = .ok (.goto (-43), 3) := by decide +kernel
theorem dX10_isTaken_48 : decode cX10_isTaken 48 = .ok (.iconst 0, 1) := by decide +kernel
theorem dX10_isTaken_49 : decode cX10_isTaken 49 = .ok (.ireturn, 1) := by decide +kernel
theorem dX10_refusal_0 : decode cX10_refusal 0 = .ok (.aload_n 1, 1) := by decide +kernel
theorem dX10_refusal_1 : decode cX10_refusal 1 = .ok (.getfield 68, 3) := by decide +kernel
theorem dX10_refusal_4 : decode cX10_refusal 4 = .ok (.aload_n 0, 1) := by decide +kernel
theorem dX10_refusal_5 : decode cX10_refusal 5 = .ok (.getfield 9, 3) := by decide +kernel
theorem dX10_refusal_8 : decode cX10_refusal 8 = .ok (.arraylength, 1) := by decide +kernel
theorem dX10_refusal_9 : decode cX10_refusal 9 = .ok (.if_icmp .ge 14, 3) := by decide +kernel
theorem dX10_refusal_12 : decode cX10_refusal 12 = .ok (.aload_n 1, 1) := by decide +kernel
theorem dX10_refusal_13 : decode cX10_refusal 13 = .ok (.getfield 68, 3) := by decide +kernel
theorem dX10_refusal_16 : decode cX10_refusal 16 = .ok (.aload_n 0, 1) := by decide +kernel
theorem dX10_refusal_17 : decode cX10_refusal 17 = .ok (.getfield 73, 3) := by decide +kernel
theorem dX10_refusal_20 : decode cX10_refusal 20 = .ok (.if_icmp .ne 5, 3) := by decide +kernel
theorem dX10_refusal_23 : decode cX10_refusal 23 = .ok (.iconst 1, 1) := by decide +kernel
theorem dX10_refusal_24 : decode cX10_refusal 24 = .ok (.ireturn, 1) := by decide +kernel
theorem dX10_refusal_25 : decode cX10_refusal 25 = .ok (.aload_n 1, 1) := by decide +kernel
theorem dX10_refusal_26 : decode cX10_refusal 26 = .ok (.getfield 74, 3) := by decide +kernel
theorem dX10_refusal_29 : decode cX10_refusal 29 = .ok (.iconst 1, 1) := by decide +kernel
theorem dX10_refusal_30 : decode cX10_refusal 30 = .ok (.if_icmp .lt 11, 3) := by decide +kernel
theorem dX10_refusal_33 : decode cX10_refusal 33 = .ok (.aload_n 1, 1) := by decide +kernel
theorem dX10_refusal_34 : decode cX10_refusal 34 = .ok (.getfield 74, 3) := by decide +kernel
theorem dX10_refusal_37 : decode cX10_refusal 37 = .ok (.iconst 3, 1) := by decide +kernel
theorem dX10_refusal_38 : decode cX10_refusal 38 = .ok (.if_icmp .le 6, 3) := by decide +kernel
theorem dX10_refusal_41 : decode cX10_refusal 41 = .ok (.bipush 96, 2) := by decide +kernel
theorem dX10_refusal_43 : decode cX10_refusal 43 = .ok (.ireturn, 1) := by decide +kernel
theorem dX10_refusal_44 : decode cX10_refusal 44 = .ok (.aload_n 0, 1) := by decide +kernel
theorem dX10_refusal_45 : decode cX10_refusal 45 = .ok (.getfield 9, 3) := by decide +kernel
theorem dX10_refusal_48 : decode cX10_refusal 48 = .ok (.aload_n 1, 1) := by decide +kernel
theorem dX10_refusal_49 : decode cX10_refusal 49 = .ok (.getfield 68, 3) := by decide +kernel
theorem dX10_refusal_52 : decode cX10_refusal 52 = .ok (.aaload, 1) := by decide +kernel
theorem dX10_refusal_53 : decode cX10_refusal 53 = .ok (.astore_n 2, 1) := by decide +kernel
theorem dX10_refusal_54 : decode cX10_refusal 54 = .ok (.aload_n 0, 1) := by decide +kernel
theorem dX10_refusal_55 : decode cX10_refusal 55 = .ok (.invokevirtual 75, 3) := by decide +kernel
theorem dX10_refusal_58 : decode cX10_refusal 58 = .ok (.bipush 8, 2) := by decide +kernel
theorem dX10_refusal_60 : decode cX10_refusal 60 = .ok (.if_icmp .ge 12, 3) := by decide +kernel
theorem dX10_refusal_63 : decode cX10_refusal 63 = .ok (.aload_n 2, 1) := by decide +kernel
theorem dX10_refusal_64 : decode cX10_refusal 64 = .ok (.invokevirtual 75, 3) := by decide +kernel
theorem dX10_refusal_67 : decode cX10_refusal 67 = .ok (.bipush 8, 2) := by decide +kernel
theorem dX10_refusal_69 : decode cX10_refusal 69 = .ok (.if_icmp .lt 6, 3) := by decide +kernel
theorem dX10_refusal_72 : decode cX10_refusal 72 = .ok (.bipush 47, 2) := by decide +kernel
theorem dX10_refusal_74 : decode cX10_refusal 74 = .ok (.ireturn, 1) := by decide +kernel
theorem dX10_refusal_75 : decode cX10_refusal 75 = .ok (.aload_n 0, 1) := by decide +kernel
theorem dX10_refusal_76 : decode cX10_refusal 76 = .ok (.invokevirtual 78, 3) := by decide +kernel
theorem dX10_refusal_79 : decode cX10_refusal 79 = .ok (.aload_n 1, 1) := by decide +kernel
theorem dX10_refusal_80 : decode cX10_refusal 80 = .ok (.getfield 74, 3) := by decide +kernel
theorem dX10_refusal_83 : decode cX10_refusal 83 = .ok (.iadd, 1) := by decide +kernel
theorem dX10_refusal_84 : decode cX10_refusal 84 = .ok (.iconst 3, 1) := by decide +kernel
theorem dX10_refusal_85 : decode cX10_refusal 85 = .ok (.if_icmp .gt 20, 3) := by decide +kernel
theorem dX10_refusal_88 : decode cX10_refusal 88 = .ok (.aload_n 2, 1) := by decide +kernel
theorem dX10_refusal_89 : decode cX10_refusal 89 = .ok (.invokevirtual 78, 3) := by decide +kernel
theorem dX10_refusal_92 : decode cX10_refusal 92 = .ok (.aload_n 1, 1) := by decide +kernel
theorem dX10_refusal_93 : decode cX10_refusal 93 = .ok (.getfield 74, 3) := by decide +kernel
theorem dX10_refusal_96 : decode cX10_refusal 96 = .ok (.iadd, 1) := by decide +kernel
theorem dX10_refusal_97 : decode cX10_refusal 97 = .ok (.iconst 3, 1) := by decide +kernel
theorem dX10_refusal_98 : decode cX10_refusal 98 = .ok (.if_icmp .gt 7, 3) := by decide +kernel
theorem dX10_refusal_101 : decode cX10_refusal 101 = .ok (.iconst 1, 1) := by decide +kernel
theorem dX10_refusal_102 : decode cX10_refusal 102 = .ok (.goto 4, 3) := by decide +kernel
theorem dX10_refusal_105 : decode cX10_refusal 105 = .ok (.iconst 0, 1) := by decide +kernel
theorem dX10_refusal_106 : decode cX10_refusal 106 = .ok (.istore_n 3, 1) := by decide +kernel
theorem dX10_refusal_107 : decode cX10_refusal 107 = .ok (.iload_n 3, 1) := by decide +kernel
theorem dX10_refusal_108 : decode cX10_refusal 108 = .ok (.ifCond .eq 7, 3) := by decide +kernel
theorem dX10_refusal_111 : decode cX10_refusal 111 = .ok (.iconst 0, 1) := by decide +kernel
theorem dX10_refusal_112 : decode cX10_refusal 112 = .ok (.goto 5, 3) := by decide +kernel
theorem dX10_refusal_115 : decode cX10_refusal 115 = .ok (.bipush 37, 2) := by decide +kernel
theorem dX10_refusal_117 : decode cX10_refusal 117 = .ok (.ireturn, 1) := by decide +kernel
theorem dX10_setupCame_0 : decode cX10_setupCame 0 = .ok (.aload_n 0, 1) := by decide +kernel
theorem dX10_setupCame_1 : decode cX10_setupCame 1 = .ok (.aload_n 1, 1) := by decide +kernel
theorem dX10_setupCame_2 : decode cX10_setupCame 2 = .ok (.invokevirtual 81, 3) := by decide +kernel
theorem dX10_setupCame_5 : decode cX10_setupCame 5 = .ok (.istore_n 3, 1) := by decide +kernel
theorem dX10_setupCame_6 : decode cX10_setupCame 6 = .ok (.iload_n 3, 1) := by decide +kernel
theorem dX10_setupCame_7 : decode cX10_setupCame 7 = .ok (.ifCond .eq 16, 3) := by decide +kernel
theorem dX10_setupCame_10 : decode cX10_setupCame 10 = .ok (.aload_n 0, 1) := by decide +kernel
theorem dX10_setupCame_11 : decode cX10_setupCame 11 = .ok (.bipush 90, 2) := by decide +kernel
theorem dX10_setupCame_13 : decode cX10_setupCame 13 = .ok (.aload_n 1, 1) := by decide +kernel
theorem dX10_setupCame_14 : decode cX10_setupCame 14 = .ok (.getfield 85, 3) := by decide +kernel
theorem dX10_setupCame_17 : decode cX10_setupCame 17 = .ok (.iconst 0, 1) := by decide +kernel
theorem dX10_setupCame_18 : decode cX10_setupCame 18 = .ok (.iload_n 3, 1) := by decide +kernel
theorem dX10_setupCame_19 : decode cX10_setupCame 19 = .ok (.invokevirtual 88, 3) := by decide +kernel
theorem dX10_setupCame_22 : decode cX10_setupCame 22 = .ok (.return_, 1) := by decide +kernel
theorem dX10_setupCame_23 : decode cX10_setupCame 23 = .ok (.aload_n 0, 1) := by decide +kernel
theorem dX10_setupCame_24 : decode cX10_setupCame 24 = .ok (.getfield 9, 3) := by decide +kernel
theorem dX10_setupCame_27 : decode cX10_setupCame 27 = .ok (.aload_n 1, 1) := by decide +kernel
theorem dX10_setupCame_28 : decode cX10_setupCame 28 = .ok (.getfield 68, 3) := by decide +kernel
theorem dX10_setupCame_31 : decode cX10_setupCame 31 = .ok (.aaload, 1) := by decide +kernel
theorem dX10_setupCame_32 : decode cX10_setupCame 32 = .ok (.astore 4, 2) := by decide +kernel
theorem dX10_setupCame_34 : decode cX10_setupCame 34 = .ok (.aload 4, 2) := by decide +kernel
theorem dX10_setupCame_36 : decode cX10_setupCame 36 = .ok (.dup, 1) := by decide +kernel
theorem dX10_setupCame_37 : decode cX10_setupCame 37 = .ok (.getfield 92, 3) := by decide +kernel
theorem dX10_setupCame_40 : decode cX10_setupCame 40 = .ok (.iconst 1, 1) := by decide +kernel
theorem dX10_setupCame_41 : decode cX10_setupCame 41 = .ok (.iadd, 1) := by decide +kernel
theorem dX10_setupCame_42 : decode cX10_setupCame 42 = .ok (.putfield 92, 3) := by decide +kernel
theorem dX10_setupCame_45 : decode cX10_setupCame 45 = .ok (.new 29, 3) := by decide +kernel
theorem dX10_setupCame_48 : decode cX10_setupCame 48 = .ok (.dup, 1) := by decide +kernel
theorem dX10_setupCame_49 : decode cX10_setupCame 49 = .ok (.aload_n 0, 1) := by decide +kernel
theorem dX10_setupCame_50 : decode cX10_setupCame 50 = .ok (.aload_n 1, 1) := by decide +kernel
theorem dX10_setupCame_51 : decode cX10_setupCame 51 = .ok (.getfield 85, 3) := by decide +kernel
theorem dX10_setupCame_54 : decode cX10_setupCame 54 = .ok (.iconst 0, 1) := by decide +kernel
theorem dX10_setupCame_55 : decode cX10_setupCame 55 = .ok (.invokespecial 95, 3) := by decide +kernel
theorem dX10_setupCame_58 : decode cX10_setupCame 58 = .ok (.astore 5, 2) := by decide +kernel
theorem dX10_setupCame_60 : decode cX10_setupCame 60 = .ok (.new 29, 3) := by decide +kernel
theorem dX10_setupCame_63 : decode cX10_setupCame 63 = .ok (.dup, 1) := by decide +kernel
theorem dX10_setupCame_64 : decode cX10_setupCame 64 = .ok (.aload 4, 2) := by decide +kernel
theorem dX10_setupCame_66 : decode cX10_setupCame 66 = .ok (.aload 4, 2) := by decide +kernel
theorem dX10_setupCame_68 : decode cX10_setupCame 68 = .ok (.getfield 92, 3) := by decide +kernel
theorem dX10_setupCame_71 : decode cX10_setupCame 71 = .ok (.iconst 1, 1) := by decide +kernel
theorem dX10_setupCame_72 : decode cX10_setupCame 72 = .ok (.invokespecial 95, 3) := by decide +kernel
theorem dX10_setupCame_75 : decode cX10_setupCame 75 = .ok (.astore 6, 2) := by decide +kernel
theorem dX10_setupCame_77 : decode cX10_setupCame 77 = .ok (.aload 5, 2) := by decide +kernel
theorem dX10_setupCame_79 : decode cX10_setupCame 79 = .ok (.aload 6, 2) := by decide +kernel
theorem dX10_setupCame_81 : decode cX10_setupCame 81 = .ok (.putfield 42, 3) := by decide +kernel
theorem dX10_setupCame_84 : decode cX10_setupCame 84 = .ok (.aload 6, 2) := by decide +kernel
theorem dX10_setupCame_86 : decode cX10_setupCame 86 = .ok (.aload 5, 2) := by decide +kernel
theorem dX10_setupCame_88 : decode cX10_setupCame 88 = .ok (.putfield 42, 3) := by decide +kernel
theorem dX10_setupCame_91 : decode cX10_setupCame 91 = .ok (.aload 6, 2) := by decide +kernel
theorem dX10_setupCame_93 : decode cX10_setupCame 93 = .ok (.aload_n 0, 1) := by decide +kernel
theorem dX10_setupCame_94 : decode cX10_setupCame 94 = .ok (.getfield 73, 3) := by decide +kernel
theorem dX10_setupCame_97 : decode cX10_setupCame 97 = .ok (.putfield 98, 3) := by decide +kernel
theorem dX10_setupCame_100 : decode cX10_setupCame 100 = .ok (.aload 5, 2) := by decide +kernel
theorem dX10_setupCame_102 : decode cX10_setupCame 102 = .ok (.aload_n 1, 1) := by decide +kernel
theorem dX10_setupCame_103 : decode cX10_setupCame 103 = .ok (.getfield 74, 3) := by decide +kernel
theorem dX10_setupCame_106 : decode cX10_setupCame 106 = .ok (.putfield 35, 3) := by decide +kernel
theorem dX10_setupCame_109 : decode cX10_setupCame 109 = .ok (.aload 6, 2) := by decide +kernel
theorem dX10_setupCame_111 : decode cX10_setupCame 111 = .ok (.aload_n 1, 1) := by decide +kernel
theorem dX10_setupCame_112 : decode cX10_setupCame 112 = .ok (.getfield 74, 3) := by decide +kernel
theorem dX10_setupCame_115 : decode cX10_setupCame 115 = .ok (.putfield 35, 3) := by decide +kernel
theorem dX10_setupCame_118 : decode cX10_setupCame 118 = .ok (.aload 5, 2) := by decide +kernel
theorem dX10_setupCame_120 : decode cX10_setupCame 120 = .ok (.aload_n 0, 1) := by decide +kernel
theorem dX10_setupCame_121 : decode cX10_setupCame 121 = .ok (.invokevirtual 101, 3) := by decide +kernel
theorem dX10_setupCame_124 : decode cX10_setupCame 124 = .ok (.putfield 50, 3) := by decide +kernel
theorem dX10_setupCame_127 : decode cX10_setupCame 127 = .ok (.aload 6, 2) := by decide +kernel
theorem dX10_setupCame_129 : decode cX10_setupCame 129 = .ok (.aload 4, 2) := by decide +kernel
theorem dX10_setupCame_131 : decode cX10_setupCame 131 = .ok (.invokevirtual 101, 3) := by decide +kernel
theorem dX10_setupCame_134 : decode cX10_setupCame 134 = .ok (.putfield 50, 3) := by decide +kernel
theorem dX10_setupCame_137 : decode cX10_setupCame 137 = .ok (.aload 5, 2) := by decide +kernel
theorem dX10_setupCame_139 : decode cX10_setupCame 139 = .ok (.iconst 3, 1) := by decide +kernel
theorem dX10_setupCame_140 : decode cX10_setupCame 140 = .ok (.iconst 0, 1) := by decide +kernel
theorem dX10_setupCame_141 : decode cX10_setupCame 141 = .ok (.invokevirtual 104, 3) := by decide +kernel
theorem dX10_setupCame_144 : decode cX10_setupCame 144 = .ok (.aload 6, 2) := by decide +kernel
theorem dX10_setupCame_146 : decode cX10_setupCame 146 = .ok (.bipush 6, 2) := by decide +kernel
theorem dX10_setupCame_148 : decode cX10_setupCame 148 = .ok (.iload_n 2, 1) := by decide +kernel
theorem dX10_setupCame_149 : decode cX10_setupCame 149 = .ok (.bipush 8, 2) := by decide +kernel
theorem dX10_setupCame_151 : decode cX10_setupCame 151 = .ok (.iadd, 1) := by decide +kernel
theorem dX10_setupCame_152 : decode cX10_setupCame 152 = .ok (.invokevirtual 104, 3) := by decide +kernel
theorem dX10_setupCame_155 : decode cX10_setupCame 155 = .ok (.aload_n 0, 1) := by decide +kernel
theorem dX10_setupCame_156 : decode cX10_setupCame 156 = .ok (.aload 5, 2) := by decide +kernel
theorem dX10_setupCame_158 : decode cX10_setupCame 158 = .ok (.invokevirtual 108, 3) := by decide +kernel
theorem dX10_setupCame_161 : decode cX10_setupCame 161 = .ok (.aload 4, 2) := by decide +kernel
theorem dX10_setupCame_163 : decode cX10_setupCame 163 = .ok (.aload 6, 2) := by decide +kernel
theorem dX10_setupCame_165 : decode cX10_setupCame 165 = .ok (.invokevirtual 108, 3) := by decide +kernel
theorem dX10_setupCame_168 : decode cX10_setupCame 168 = .ok (.aload_n 0, 1) := by decide +kernel
theorem dX10_setupCame_169 : decode cX10_setupCame 169 = .ok (.aload 5, 2) := by decide +kernel
theorem dX10_setupCame_171 : decode cX10_setupCame 171 = .ok (.invokevirtual 112, 3) := by decide +kernel
theorem dX10_setupCame_174 : decode cX10_setupCame 174 = .ok (.aload 4, 2) := by decide +kernel
theorem dX10_setupCame_176 : decode cX10_setupCame 176 = .ok (.aload 6, 2) := by decide +kernel
theorem dX10_setupCame_178 : decode cX10_setupCame 178 = .ok (.invokevirtual 115, 3) := by decide +kernel
theorem dX10_setupCame_181 : decode cX10_setupCame 181 = .ok (.return_, 1) := by decide +kernel
theorem dX10_sayProceeding_0 : decode cX10_sayProceeding 0 = .ok (.aload_n 0, 1) := by decide +kernel
theorem dX10_sayProceeding_1 : decode cX10_sayProceeding 1 = .ok (.getfield 118, 3) := by decide +kernel
theorem dX10_sayProceeding_4 : decode cX10_sayProceeding 4 = .ok (.getfield 122, 3) := by decide +kernel
theorem dX10_sayProceeding_7 : decode cX10_sayProceeding 7 = .ok (.iconst 2, 1) := by decide +kernel
theorem dX10_sayProceeding_8 : decode cX10_sayProceeding 8 = .ok (.aload_n 1, 1) := by decide +kernel
theorem dX10_sayProceeding_9 : decode cX10_sayProceeding 9 = .ok (.getfield 128, 3) := by decide +kernel
theorem dX10_sayProceeding_12 : decode cX10_sayProceeding 12 = .ok (.aload_n 1, 1) := by decide +kernel
theorem dX10_sayProceeding_13 : decode cX10_sayProceeding 13 = .ok (.getfield 129, 3) := by decide +kernel
theorem dX10_sayProceeding_16 : decode cX10_sayProceeding 16 = .ok (.bipush 6, 2) := by decide +kernel
theorem dX10_sayProceeding_18 : decode cX10_sayProceeding 18 = .ok (.invokevirtual 133, 3) := by decide +kernel
theorem dX10_sayProceeding_21 : decode cX10_sayProceeding 21 = .ok (.ifCond .eq 20, 3) := by decide +kernel
theorem dX10_sayProceeding_24 : decode cX10_sayProceeding 24 = .ok (.aload_n 0, 1) := by decide +kernel
theorem dX10_sayProceeding_25 : decode cX10_sayProceeding 25 = .ok (.getfield 118, 3) := by decide +kernel
theorem dX10_sayProceeding_28 : decode cX10_sayProceeding 28 = .ok (.getfield 122, 3) := by decide +kernel
theorem dX10_sayProceeding_31 : decode cX10_sayProceeding 31 = .ok (.bipush 90, 2) := by decide +kernel
theorem dX10_sayProceeding_33 : decode cX10_sayProceeding 33 = .ok (.iconst 2, 1) := by decide +kernel
theorem dX10_sayProceeding_34 : decode cX10_sayProceeding 34 = .ok (.aload_n 1, 1) := by decide +kernel
theorem dX10_sayProceeding_35 : decode cX10_sayProceeding 35 = .ok (.getfield 50, 3) := by decide +kernel
theorem dX10_sayProceeding_38 : decode cX10_sayProceeding 38 = .ok (.invokevirtual 139, 3) := by decide +kernel
theorem dX10_sayProceeding_41 : decode cX10_sayProceeding 41 = .ok (.return_, 1) := by decide +kernel
theorem dX10_saySetup_0 : decode cX10_saySetup 0 = .ok (.aload_n 0, 1) := by decide +kernel
theorem dX10_saySetup_1 : decode cX10_saySetup 1 = .ok (.getfield 118, 3) := by decide +kernel
theorem dX10_saySetup_4 : decode cX10_saySetup 4 = .ok (.getfield 122, 3) := by decide +kernel
theorem dX10_saySetup_7 : decode cX10_saySetup 7 = .ok (.iconst 5, 1) := by decide +kernel
theorem dX10_saySetup_8 : decode cX10_saySetup 8 = .ok (.aload_n 1, 1) := by decide +kernel
theorem dX10_saySetup_9 : decode cX10_saySetup 9 = .ok (.getfield 128, 3) := by decide +kernel
theorem dX10_saySetup_12 : decode cX10_saySetup 12 = .ok (.aload_n 1, 1) := by decide +kernel
theorem dX10_saySetup_13 : decode cX10_saySetup 13 = .ok (.getfield 129, 3) := by decide +kernel
theorem dX10_saySetup_16 : decode cX10_saySetup 16 = .ok (.bipush 21, 2) := by decide +kernel
theorem dX10_saySetup_18 : decode cX10_saySetup 18 = .ok (.invokevirtual 133, 3) := by decide +kernel
theorem dX10_saySetup_21 : decode cX10_saySetup 21 = .ok (.ifCond .eq 71, 3) := by decide +kernel
theorem dX10_saySetup_24 : decode cX10_saySetup 24 = .ok (.aload_n 0, 1) := by decide +kernel
theorem dX10_saySetup_25 : decode cX10_saySetup 25 = .ok (.getfield 118, 3) := by decide +kernel
theorem dX10_saySetup_28 : decode cX10_saySetup 28 = .ok (.getfield 122, 3) := by decide +kernel
theorem dX10_saySetup_31 : decode cX10_saySetup 31 = .ok (.bipush 112, 2) := by decide +kernel
theorem dX10_saySetup_33 : decode cX10_saySetup 33 = .ok (.iconst 1, 1) := by decide +kernel
theorem dX10_saySetup_34 : decode cX10_saySetup 34 = .ok (.aload_n 0, 1) := by decide +kernel
theorem dX10_saySetup_35 : decode cX10_saySetup 35 = .ok (.getfield 73, 3) := by decide +kernel
theorem dX10_saySetup_38 : decode cX10_saySetup 38 = .ok (.invokevirtual 139, 3) := by decide +kernel
theorem dX10_saySetup_41 : decode cX10_saySetup 41 = .ok (.aload_n 0, 1) := by decide +kernel
theorem dX10_saySetup_42 : decode cX10_saySetup 42 = .ok (.getfield 118, 3) := by decide +kernel
theorem dX10_saySetup_45 : decode cX10_saySetup 45 = .ok (.getfield 122, 3) := by decide +kernel
theorem dX10_saySetup_48 : decode cX10_saySetup 48 = .ok (.bipush 89, 2) := by decide +kernel
theorem dX10_saySetup_50 : decode cX10_saySetup 50 = .ok (.iconst 1, 1) := by decide +kernel
theorem dX10_saySetup_51 : decode cX10_saySetup 51 = .ok (.aload_n 1, 1) := by decide +kernel
theorem dX10_saySetup_52 : decode cX10_saySetup 52 = .ok (.getfield 35, 3) := by decide +kernel
theorem dX10_saySetup_55 : decode cX10_saySetup 55 = .ok (.invokevirtual 139, 3) := by decide +kernel
theorem dX10_saySetup_58 : decode cX10_saySetup 58 = .ok (.aload_n 0, 1) := by decide +kernel
theorem dX10_saySetup_59 : decode cX10_saySetup 59 = .ok (.getfield 118, 3) := by decide +kernel
theorem dX10_saySetup_62 : decode cX10_saySetup 62 = .ok (.getfield 122, 3) := by decide +kernel
theorem dX10_saySetup_65 : decode cX10_saySetup 65 = .ok (.bipush 108, 2) := by decide +kernel
theorem dX10_saySetup_67 : decode cX10_saySetup 67 = .ok (.iconst 1, 1) := by decide +kernel
theorem dX10_saySetup_68 : decode cX10_saySetup 68 = .ok (.aload_n 1, 1) := by decide +kernel
theorem dX10_saySetup_69 : decode cX10_saySetup 69 = .ok (.getfield 98, 3) := by decide +kernel
theorem dX10_saySetup_72 : decode cX10_saySetup 72 = .ok (.invokevirtual 139, 3) := by decide +kernel
theorem dX10_saySetup_75 : decode cX10_saySetup 75 = .ok (.aload_n 0, 1) := by decide +kernel
theorem dX10_saySetup_76 : decode cX10_saySetup 76 = .ok (.getfield 118, 3) := by decide +kernel
theorem dX10_saySetup_79 : decode cX10_saySetup 79 = .ok (.getfield 122, 3) := by decide +kernel
theorem dX10_saySetup_82 : decode cX10_saySetup 82 = .ok (.bipush 90, 2) := by decide +kernel
theorem dX10_saySetup_84 : decode cX10_saySetup 84 = .ok (.iconst 2, 1) := by decide +kernel
theorem dX10_saySetup_85 : decode cX10_saySetup 85 = .ok (.aload_n 1, 1) := by decide +kernel
theorem dX10_saySetup_86 : decode cX10_saySetup 86 = .ok (.getfield 50, 3) := by decide +kernel
theorem dX10_saySetup_89 : decode cX10_saySetup 89 = .ok (.invokevirtual 139, 3) := by decide +kernel
theorem dX10_saySetup_92 : decode cX10_saySetup 92 = .ok (.return_, 1) := by decide +kernel
theorem dX10_progress_0 : decode cX10_progress 0 = .ok (.aload_n 2, 1) := by decide +kernel
theorem dX10_progress_1 : decode cX10_progress 1 = .ok (.getfield 143, 3) := by decide +kernel
theorem dX10_progress_4 : decode cX10_progress 4 = .ok (.bipush 7, 2) := by decide +kernel
theorem dX10_progress_6 : decode cX10_progress 6 = .ok (.if_icmp .ne 25, 3) := by decide +kernel
theorem dX10_progress_9 : decode cX10_progress 9 = .ok (.aload_n 1, 1) := by decide +kernel
theorem dX10_progress_10 : decode cX10_progress 10 = .ok (.getfield 39, 3) := by decide +kernel
theorem dX10_progress_13 : decode cX10_progress 13 = .ok (.bipush 6, 2) := by decide +kernel
theorem dX10_progress_15 : decode cX10_progress 15 = .ok (.if_icmp .eq 12, 3) := by decide +kernel
theorem dX10_progress_18 : decode cX10_progress 18 = .ok (.aload_n 1, 1) := by decide +kernel
theorem dX10_progress_19 : decode cX10_progress 19 = .ok (.getfield 39, 3) := by decide +kernel
theorem dX10_progress_22 : decode cX10_progress 22 = .ok (.bipush 9, 2) := by decide +kernel
theorem dX10_progress_24 : decode cX10_progress 24 = .ok (.if_icmp .ne 7, 3) := by decide +kernel
theorem dX10_progress_27 : decode cX10_progress 27 = .ok (.iconst 1, 1) := by decide +kernel
theorem dX10_progress_28 : decode cX10_progress 28 = .ok (.goto 4, 3) := by decide +kernel
theorem dX10_progress_31 : decode cX10_progress 31 = .ok (.iconst 0, 1) := by decide +kernel
theorem dX10_progress_32 : decode cX10_progress 32 = .ok (.istore 4, 2) := by decide +kernel
theorem dX10_progress_34 : decode cX10_progress 34 = .ok (.aload_n 2, 1) := by decide +kernel
theorem dX10_progress_35 : decode cX10_progress 35 = .ok (.getfield 143, 3) := by decide +kernel
theorem dX10_progress_38 : decode cX10_progress 38 = .ok (.iconst 2, 1) := by decide +kernel
theorem dX10_progress_39 : decode cX10_progress 39 = .ok (.if_icmp .ne 25, 3) := by decide +kernel
theorem dX10_progress_42 : decode cX10_progress 42 = .ok (.aload_n 1, 1) := by decide +kernel
theorem dX10_progress_43 : decode cX10_progress 43 = .ok (.getfield 39, 3) := by decide +kernel
theorem dX10_progress_46 : decode cX10_progress 46 = .ok (.bipush 6, 2) := by decide +kernel
theorem dX10_progress_48 : decode cX10_progress 48 = .ok (.if_icmp .ne 16, 3) := by decide +kernel
theorem dX10_progress_51 : decode cX10_progress 51 = .ok (.aload_n 1, 1) := by decide +kernel
theorem dX10_progress_52 : decode cX10_progress 52 = .ok (.bipush 9, 2) := by decide +kernel
theorem dX10_progress_54 : decode cX10_progress 54 = .ok (.iload_n 3, 1) := by decide +kernel
theorem dX10_progress_55 : decode cX10_progress 55 = .ok (.bipush 40, 2) := by decide +kernel
theorem dX10_progress_57 : decode cX10_progress 57 = .ok (.iadd, 1) := by decide +kernel
theorem dX10_progress_58 : decode cX10_progress 58 = .ok (.invokevirtual 104, 3) := by decide +kernel
theorem dX10_progress_61 : decode cX10_progress 61 = .ok (.goto 55, 3) := by decide +kernel
theorem dX10_progress_64 : decode cX10_progress 64 = .ok (.iload 4, 2) := by decide +kernel
theorem dX10_progress_66 : decode cX10_progress 66 = .ok (.ifCond .eq 50, 3) := by decide +kernel
theorem dX10_progress_69 : decode cX10_progress 69 = .ok (.aload_n 1, 1) := by decide +kernel
theorem dX10_progress_70 : decode cX10_progress 70 = .ok (.getfield 42, 3) := by decide +kernel
theorem dX10_progress_73 : decode cX10_progress 73 = .ok (.ifnull 43, 3) := by decide +kernel
theorem dX10_progress_76 : decode cX10_progress 76 = .ok (.aload_n 1, 1) := by decide +kernel
theorem dX10_progress_77 : decode cX10_progress 77 = .ok (.getfield 42, 3) := by decide +kernel
theorem dX10_progress_80 : decode cX10_progress 80 = .ok (.astore 5, 2) := by decide +kernel
theorem dX10_progress_82 : decode cX10_progress 82 = .ok (.aload_n 1, 1) := by decide +kernel
theorem dX10_progress_83 : decode cX10_progress 83 = .ok (.bipush 10, 2) := by decide +kernel
theorem dX10_progress_85 : decode cX10_progress 85 = .ok (.iconst 0, 1) := by decide +kernel
theorem dX10_progress_86 : decode cX10_progress 86 = .ok (.invokevirtual 104, 3) := by decide +kernel
theorem dX10_progress_89 : decode cX10_progress 89 = .ok (.aload 5, 2) := by decide +kernel
theorem dX10_progress_91 : decode cX10_progress 91 = .ok (.bipush 10, 2) := by decide +kernel
theorem dX10_progress_93 : decode cX10_progress 93 = .ok (.iconst 0, 1) := by decide +kernel
theorem dX10_progress_94 : decode cX10_progress 94 = .ok (.invokevirtual 104, 3) := by decide +kernel
theorem dX10_progress_97 : decode cX10_progress 97 = .ok (.aload_n 0, 1) := by decide +kernel
theorem dX10_progress_98 : decode cX10_progress 98 = .ok (.bipush 15, 2) := by decide +kernel
theorem dX10_progress_100 : decode cX10_progress 100 = .ok (.aload_n 1, 1) := by decide +kernel
theorem dX10_progress_101 : decode cX10_progress 101 = .ok (.invokevirtual 146, 3) := by decide +kernel
theorem dX10_progress_104 : decode cX10_progress 104 = .ok (.aload 5, 2) := by decide +kernel
theorem dX10_progress_106 : decode cX10_progress 106 = .ok (.getfield 57, 3) := by decide +kernel
theorem dX10_progress_109 : decode cX10_progress 109 = .ok (.bipush 7, 2) := by decide +kernel
theorem dX10_progress_111 : decode cX10_progress 111 = .ok (.aload 5, 2) := by decide +kernel
theorem dX10_progress_113 : decode cX10_progress 113 = .ok (.invokevirtual 150, 3) := by decide +kernel
theorem dX10_progress_116 : decode cX10_progress 116 = .ok (.return_, 1) := by decide +kernel
theorem dX10_timer_0 : decode cX10_timer 0 = .ok (.aload_n 1, 1) := by decide +kernel
theorem dX10_timer_1 : decode cX10_timer 1 = .ok (.getfield 39, 3) := by decide +kernel
theorem dX10_timer_4 : decode cX10_timer 4 = .ok (.bipush 6, 2) := by decide +kernel
theorem dX10_timer_6 : decode cX10_timer 6 = .ok (.if_icmp .ne 14, 3) := by decide +kernel
theorem dX10_timer_9 : decode cX10_timer 9 = .ok (.aload_n 1, 1) := by decide +kernel
theorem dX10_timer_10 : decode cX10_timer 10 = .ok (.getfield 151, 3) := by decide +kernel
theorem dX10_timer_13 : decode cX10_timer 13 = .ok (.ifCond .ne 7, 3) := by decide +kernel
theorem dX10_timer_16 : decode cX10_timer 16 = .ok (.iconst 1, 1) := by decide +kernel
theorem dX10_timer_17 : decode cX10_timer 17 = .ok (.goto 4, 3) := by decide +kernel
theorem dX10_timer_20 : decode cX10_timer 20 = .ok (.iconst 0, 1) := by decide +kernel
theorem dX10_timer_21 : decode cX10_timer 21 = .ok (.istore_n 3, 1) := by decide +kernel
theorem dX10_timer_22 : decode cX10_timer 22 = .ok (.iload_n 3, 1) := by decide +kernel
theorem dX10_timer_23 : decode cX10_timer 23 = .ok (.ifCond .eq 17, 3) := by decide +kernel
theorem dX10_timer_26 : decode cX10_timer 26 = .ok (.aload_n 1, 1) := by decide +kernel
theorem dX10_timer_27 : decode cX10_timer 27 = .ok (.iload_n 2, 1) := by decide +kernel
theorem dX10_timer_28 : decode cX10_timer 28 = .ok (.bipush 8, 2) := by decide +kernel
theorem dX10_timer_30 : decode cX10_timer 30 = .ok (.iadd, 1) := by decide +kernel
theorem dX10_timer_31 : decode cX10_timer 31 = .ok (.invokevirtual 154, 3) := by decide +kernel
theorem dX10_timer_34 : decode cX10_timer 34 = .ok (.aload_n 0, 1) := by decide +kernel
theorem dX10_timer_35 : decode cX10_timer 35 = .ok (.aload_n 1, 1) := by decide +kernel
theorem dX10_timer_36 : decode cX10_timer 36 = .ok (.invokevirtual 115, 3) := by decide +kernel
theorem dX10_timer_39 : decode cX10_timer 39 = .ok (.return_, 1) := by decide +kernel
theorem dX10_timer_40 : decode cX10_timer 40 = .ok (.aload_n 1, 1) := by decide +kernel
theorem dX10_timer_41 : decode cX10_timer 41 = .ok (.getfield 39, 3) := by decide +kernel
theorem dX10_timer_44 : decode cX10_timer 44 = .ok (.bipush 9, 2) := by decide +kernel
theorem dX10_timer_46 : decode cX10_timer 46 = .ok (.if_icmp .ne 13, 3) := by decide +kernel
theorem dX10_timer_49 : decode cX10_timer 49 = .ok (.aload_n 1, 1) := by decide +kernel
theorem dX10_timer_50 : decode cX10_timer 50 = .ok (.bipush 102, 2) := by decide +kernel
theorem dX10_timer_52 : decode cX10_timer 52 = .ok (.iload_n 2, 1) := by decide +kernel
theorem dX10_timer_53 : decode cX10_timer 53 = .ok (.invokevirtual 158, 3) := by decide +kernel
theorem dX10_timer_56 : decode cX10_timer 56 = .ok (.goto 9, 3) := by decide +kernel
theorem dX10_timer_59 : decode cX10_timer 59 = .ok (.aload_n 1, 1) := by decide +kernel
theorem dX10_timer_60 : decode cX10_timer 60 = .ok (.bipush 102, 2) := by decide +kernel
theorem dX10_timer_62 : decode cX10_timer 62 = .ok (.invokevirtual 161, 3) := by decide +kernel
theorem dX10_timer_65 : decode cX10_timer 65 = .ok (.aload_n 1, 1) := by decide +kernel
theorem dX10_timer_66 : decode cX10_timer 66 = .ok (.getfield 42, 3) := by decide +kernel
theorem dX10_timer_69 : decode cX10_timer 69 = .ok (.ifnull 13, 3) := by decide +kernel
theorem dX10_timer_72 : decode cX10_timer 72 = .ok (.aload_n 1, 1) := by decide +kernel
theorem dX10_timer_73 : decode cX10_timer 73 = .ok (.getfield 42, 3) := by decide +kernel
theorem dX10_timer_76 : decode cX10_timer 76 = .ok (.bipush 102, 2) := by decide +kernel
theorem dX10_timer_78 : decode cX10_timer 78 = .ok (.iload_n 2, 1) := by decide +kernel
theorem dX10_timer_79 : decode cX10_timer 79 = .ok (.invokevirtual 158, 3) := by decide +kernel
theorem dX10_timer_82 : decode cX10_timer 82 = .ok (.return_, 1) := by decide +kernel
theorem dX11_init_0 : decode cX11_init 0 = .ok (.aload_n 0, 1) := by decide +kernel
theorem dX11_init_1 : decode cX11_init 1 = .ok (.invokespecial 3, 3) := by decide +kernel
theorem dX11_init_4 : decode cX11_init 4 = .ok (.aload_n 0, 1) := by decide +kernel
theorem dX11_init_5 : decode cX11_init 5 = .ok (.new 9, 3) := by decide +kernel
theorem dX11_init_8 : decode cX11_init 8 = .ok (.dup, 1) := by decide +kernel
theorem dX11_init_9 : decode cX11_init 9 = .ok (.invokespecial 11, 3) := by decide +kernel
theorem dX11_init_12 : decode cX11_init 12 = .ok (.putfield 12, 3) := by decide +kernel
theorem dX11_init_15 : decode cX11_init 15 = .ok (.aload_n 0, 1) := by decide +kernel
theorem dX11_init_16 : decode cX11_init 16 = .ok (.bipush 60, 2) := by decide +kernel
theorem dX11_init_18 : decode cX11_init 18 = .ok (.newarray .int, 2) := by decide +kernel
theorem dX11_init_20 : decode cX11_init 20 = .ok (.putfield 16, 3) := by decide +kernel
theorem dX11_init_23 : decode cX11_init 23 = .ok (.aload_n 0, 1) := by decide +kernel
theorem dX11_init_24 : decode cX11_init 24 = .ok (.sipush 240, 3) := by decide +kernel
theorem dX11_init_27 : decode cX11_init 27 = .ok (.newarray .int, 2) := by decide +kernel
theorem dX11_init_29 : decode cX11_init 29 = .ok (.putfield 20, 3) := by decide +kernel
theorem dX11_init_32 : decode cX11_init 32 = .ok (.aload_n 0, 1) := by decide +kernel
theorem dX11_init_33 : decode cX11_init 33 = .ok (.sipush 200, 3) := by decide +kernel
theorem dX11_init_36 : decode cX11_init 36 = .ok (.newarray .int, 2) := by decide +kernel
theorem dX11_init_38 : decode cX11_init 38 = .ok (.putfield 23, 3) := by decide +kernel
theorem dX11_init_41 : decode cX11_init 41 = .ok (.iconst 2, 1) := by decide +kernel
theorem dX11_init_42 : decode cX11_init 42 = .ok (.iconst 4, 1) := by decide +kernel
theorem dX11_init_43 : decode cX11_init 43 = .ok (.iload_n 1, 1) := by decide +kernel
theorem dX11_init_44 : decode cX11_init 44 = .ok (.invokestatic 26, 3) := by decide +kernel
theorem dX11_init_47 : decode cX11_init 47 = .ok (.invokestatic 32, 3) := by decide +kernel
theorem dX11_init_50 : decode cX11_init 50 = .ok (.istore_n 2, 1) := by decide +kernel
theorem dX11_init_51 : decode cX11_init 51 = .ok (.iconst 2, 1) := by decide +kernel
theorem dX11_init_52 : decode cX11_init 52 = .ok (.iload_n 2, 1) := by decide +kernel
theorem dX11_init_53 : decode cX11_init 53 = .ok (.imul, 1) := by decide +kernel
theorem dX11_init_54 : decode cX11_init 54 = .ok (.anewarray 35, 3) := by decide +kernel
theorem dX11_init_57 : decode cX11_init 57 = .ok (.astore_n 3, 1) := by decide +kernel
theorem dX11_init_58 : decode cX11_init 58 = .ok (.iload_n 2, 1) := by decide +kernel
theorem dX11_init_59 : decode cX11_init 59 = .ok (.anewarray 37, 3) := by decide +kernel
theorem dX11_init_62 : decode cX11_init 62 = .ok (.astore 4, 2) := by decide +kernel
theorem dX11_init_64 : decode cX11_init 64 = .ok (.iload_n 2, 1) := by decide +kernel
theorem dX11_init_65 : decode cX11_init 65 = .ok (.anewarray 39, 3) := by decide +kernel
theorem dX11_init_68 : decode cX11_init 68 = .ok (.astore 5, 2) := by decide +kernel
theorem dX11_init_70 : decode cX11_init 70 = .ok (.iconst 2, 1) := by decide +kernel
theorem dX11_init_71 : decode cX11_init 71 = .ok (.iload_n 2, 1) := by decide +kernel
theorem dX11_init_72 : decode cX11_init 72 = .ok (.imul, 1) := by decide +kernel
theorem dX11_init_73 : decode cX11_init 73 = .ok (.anewarray 41, 3) := by decide +kernel
theorem dX11_init_76 : decode cX11_init 76 = .ok (.astore 6, 2) := by decide +kernel
theorem dX11_init_78 : decode cX11_init 78 = .ok (.iconst 0, 1) := by decide +kernel
theorem dX11_init_79 : decode cX11_init 79 = .ok (.istore 7, 2) := by decide +kernel
theorem dX11_init_81 : decode cX11_init 81 = .ok (.iload 7, 2) := by decide +kernel
theorem dX11_init_83 : decode cX11_init 83 = .ok (.iload_n 2, 1) := by decide +kernel
theorem dX11_init_84 : decode cX11_init 84 = .ok (.if_icmp .ge 117, 3) := by decide +kernel
theorem dX11_init_87 : decode cX11_init 87 = .ok (.new 35, 3) := by decide +kernel
theorem dX11_init_90 : decode cX11_init 90 = .ok (.dup, 1) := by decide +kernel
theorem dX11_init_91 : decode cX11_init 91 = .ok (.invokespecial 43, 3) := by decide +kernel
theorem dX11_init_94 : decode cX11_init 94 = .ok (.astore 8, 2) := by decide +kernel
theorem dX11_init_96 : decode cX11_init 96 = .ok (.new 35, 3) := by decide +kernel
theorem dX11_init_99 : decode cX11_init 99 = .ok (.dup, 1) := by decide +kernel
theorem dX11_init_100 : decode cX11_init 100 = .ok (.invokespecial 43, 3) := by decide +kernel
theorem dX11_init_103 : decode cX11_init 103 = .ok (.astore 9, 2) := by decide +kernel
theorem dX11_init_105 : decode cX11_init 105 = .ok (.new 37, 3) := by decide +kernel
theorem dX11_init_108 : decode cX11_init 108 = .ok (.dup, 1) := by decide +kernel
theorem dX11_init_109 : decode cX11_init 109 = .ok (.iload 7, 2) := by decide +kernel
theorem dX11_init_111 : decode cX11_init 111 = .ok (.new 44, 3) := by decide +kernel
theorem dX11_init_114 : decode cX11_init 114 = .ok (.dup, 1) := by decide +kernel
theorem dX11_init_115 : decode cX11_init 115 = .ok (.aload 8, 2) := by decide +kernel
theorem dX11_init_117 : decode cX11_init 117 = .ok (.invokespecial 46, 3) := by decide +kernel
theorem dX11_init_120 : decode cX11_init 120 = .ok (.invokespecial 49, 3) := by decide +kernel
theorem dX11_init_123 : decode cX11_init 123 = .ok (.astore 10, 2) := by decide +kernel
theorem dX11_init_125 : decode cX11_init 125 = .ok (.new 39, 3) := by decide +kernel
theorem dX11_init_128 : decode cX11_init 128 = .ok (.dup, 1) := by decide +kernel
theorem dX11_init_129 : decode cX11_init 129 = .ok (.iload 7, 2) := by decide +kernel
theorem dX11_init_131 : decode cX11_init 131 = .ok (.new 44, 3) := by decide +kernel
theorem dX11_init_134 : decode cX11_init 134 = .ok (.dup, 1) := by decide +kernel
theorem dX11_init_135 : decode cX11_init 135 = .ok (.aload 9, 2) := by decide +kernel
theorem dX11_init_137 : decode cX11_init 137 = .ok (.invokespecial 46, 3) := by decide +kernel
theorem dX11_init_140 : decode cX11_init 140 = .ok (.aload 5, 2) := by decide +kernel
theorem dX11_init_142 : decode cX11_init 142 = .ok (.invokespecial 52, 3) := by decide +kernel
theorem dX11_init_145 : decode cX11_init 145 = .ok (.astore 11, 2) := by decide +kernel
theorem dX11_init_147 : decode cX11_init 147 = .ok (.aload_n 3, 1) := by decide +kernel
theorem dX11_init_148 : decode cX11_init 148 = .ok (.iconst 2, 1) := by decide +kernel
theorem dX11_init_149 : decode cX11_init 149 = .ok (.iload 7, 2) := by decide +kernel
theorem dX11_init_151 : decode cX11_init 151 = .ok (.imul, 1) := by decide +kernel
theorem dX11_init_152 : decode cX11_init 152 = .ok (.aload 8, 2) := by decide +kernel
theorem dX11_init_154 : decode cX11_init 154 = .ok (.aastore, 1) := by decide +kernel
theorem dX11_init_155 : decode cX11_init 155 = .ok (.aload_n 3, 1) := by decide +kernel
theorem dX11_init_156 : decode cX11_init 156 = .ok (.iconst 2, 1) := by decide +kernel
theorem dX11_init_157 : decode cX11_init 157 = .ok (.iload 7, 2) := by decide +kernel
theorem dX11_init_159 : decode cX11_init 159 = .ok (.imul, 1) := by decide +kernel
theorem dX11_init_160 : decode cX11_init 160 = .ok (.iconst 1, 1) := by decide +kernel
theorem dX11_init_161 : decode cX11_init 161 = .ok (.iadd, 1) := by decide +kernel
theorem dX11_init_162 : decode cX11_init 162 = .ok (.aload 9, 2) := by decide +kernel
theorem dX11_init_164 : decode cX11_init 164 = .ok (.aastore, 1) := by decide +kernel
theorem dX11_init_165 : decode cX11_init 165 = .ok (.aload 4, 2) := by decide +kernel
theorem dX11_init_167 : decode cX11_init 167 = .ok (.iload 7, 2) := by decide +kernel
theorem dX11_init_169 : decode cX11_init 169 = .ok (.aload 10, 2) := by decide +kernel
theorem dX11_init_171 : decode cX11_init 171 = .ok (.aastore, 1) := by decide +kernel
theorem dX11_init_172 : decode cX11_init 172 = .ok (.aload 5, 2) := by decide +kernel
theorem dX11_init_174 : decode cX11_init 174 = .ok (.iload 7, 2) := by decide +kernel
theorem dX11_init_176 : decode cX11_init 176 = .ok (.aload 11, 2) := by decide +kernel
theorem dX11_init_178 : decode cX11_init 178 = .ok (.aastore, 1) := by decide +kernel
theorem dX11_init_179 : decode cX11_init 179 = .ok (.aload 6, 2) := by decide +kernel
theorem dX11_init_181 : decode cX11_init 181 = .ok (.iload 7, 2) := by decide +kernel
theorem dX11_init_183 : decode cX11_init 183 = .ok (.aload 10, 2) := by decide +kernel
theorem dX11_init_185 : decode cX11_init 185 = .ok (.aastore, 1) := by decide +kernel
theorem dX11_init_186 : decode cX11_init 186 = .ok (.aload 6, 2) := by decide +kernel
theorem dX11_init_188 : decode cX11_init 188 = .ok (.iload_n 2, 1) := by decide +kernel
theorem dX11_init_189 : decode cX11_init 189 = .ok (.iload 7, 2) := by decide +kernel
theorem dX11_init_191 : decode cX11_init 191 = .ok (.iadd, 1) := by decide +kernel
theorem dX11_init_192 : decode cX11_init 192 = .ok (.aload 11, 2) := by decide +kernel
theorem dX11_init_194 : decode cX11_init 194 = .ok (.aastore, 1) := by decide +kernel
theorem dX11_init_195 : decode cX11_init 195 = .ok (.iinc 7 1, 3) := by decide +kernel
theorem dX11_init_198 : decode cX11_init 198 = .ok (.goto (-117), 3) := by decide +kernel
theorem dX11_init_201 : decode cX11_init 201 = .ok (.aload_n 0, 1) := by decide +kernel
theorem dX11_init_202 : decode cX11_init 202 = .ok (.iload_n 2, 1) := by decide +kernel
theorem dX11_init_203 : decode cX11_init 203 = .ok (.putfield 55, 3) := by decide +kernel
theorem dX11_init_206 : decode cX11_init 206 = .ok (.aload_n 0, 1) := by decide +kernel
theorem dX11_init_207 : decode cX11_init 207 = .ok (.aload_n 3, 1) := by decide +kernel
theorem dX11_init_208 : decode cX11_init 208 = .ok (.putfield 59, 3) := by decide +kernel
theorem dX11_init_211 : decode cX11_init 211 = .ok (.aload_n 0, 1) := by decide +kernel
theorem dX11_init_212 : decode cX11_init 212 = .ok (.aload 4, 2) := by decide +kernel
theorem dX11_init_214 : decode cX11_init 214 = .ok (.putfield 63, 3) := by decide +kernel
theorem dX11_init_217 : decode cX11_init 217 = .ok (.aload_n 0, 1) := by decide +kernel
theorem dX11_init_218 : decode cX11_init 218 = .ok (.aload 5, 2) := by decide +kernel
theorem dX11_init_220 : decode cX11_init 220 = .ok (.putfield 67, 3) := by decide +kernel
theorem dX11_init_223 : decode cX11_init 223 = .ok (.aload_n 0, 1) := by decide +kernel
theorem dX11_init_224 : decode cX11_init 224 = .ok (.aload 6, 2) := by decide +kernel
theorem dX11_init_226 : decode cX11_init 226 = .ok (.putfield 71, 3) := by decide +kernel
theorem dX11_init_229 : decode cX11_init 229 = .ok (.return_, 1) := by decide +kernel
theorem dX11_feed_0 : decode cX11_feed 0 = .ok (.aload_n 0, 1) := by decide +kernel
theorem dX11_feed_1 : decode cX11_feed 1 = .ok (.getfield 75, 3) := by decide +kernel
theorem dX11_feed_4 : decode cX11_feed 4 = .ok (.bipush 20, 2) := by decide +kernel
theorem dX11_feed_6 : decode cX11_feed 6 = .ok (.iadd, 1) := by decide +kernel
theorem dX11_feed_7 : decode cX11_feed 7 = .ok (.sipush 200, 3) := by decide +kernel
theorem dX11_feed_10 : decode cX11_feed 10 = .ok (.if_icmp .le 6, 3) := by decide +kernel
theorem dX11_feed_13 : decode cX11_feed 13 = .ok (.bipush (-3), 2) := by decide +kernel
theorem dX11_feed_15 : decode cX11_feed 15 = .ok (.ireturn, 1) := by decide +kernel
theorem dX11_feed_16 : decode cX11_feed 16 = .ok (.aload_n 0, 1) := by decide +kernel
theorem dX11_feed_17 : decode cX11_feed 17 = .ok (.iload_n 1, 1) := by decide +kernel
theorem dX11_feed_18 : decode cX11_feed 18 = .ok (.invokevirtual 78, 3) := by decide +kernel
theorem dX11_feed_21 : decode cX11_feed 21 = .ok (.aload_n 0, 1) := by decide +kernel
theorem dX11_feed_22 : decode cX11_feed 22 = .ok (.iload_n 2, 1) := by decide +kernel
theorem dX11_feed_23 : decode cX11_feed 23 = .ok (.invokevirtual 78, 3) := by decide +kernel
theorem dX11_feed_26 : decode cX11_feed 26 = .ok (.aload_n 0, 1) := by decide +kernel
theorem dX11_feed_27 : decode cX11_feed 27 = .ok (.iload_n 3, 1) := by decide +kernel
theorem dX11_feed_28 : decode cX11_feed 28 = .ok (.invokevirtual 78, 3) := by decide +kernel
theorem dX11_feed_31 : decode cX11_feed 31 = .ok (.aload_n 0, 1) := by decide +kernel
theorem dX11_feed_32 : decode cX11_feed 32 = .ok (.iload 4, 2) := by decide +kernel
theorem dX11_feed_34 : decode cX11_feed 34 = .ok (.invokevirtual 78, 3) := by decide +kernel
theorem dX11_feed_37 : decode cX11_feed 37 = .ok (.aload_n 0, 1) := by decide +kernel
theorem dX11_feed_38 : decode cX11_feed 38 = .ok (.iload 5, 2) := by decide +kernel
theorem dX11_feed_40 : decode cX11_feed 40 = .ok (.invokevirtual 78, 3) := by decide +kernel
theorem dX11_feed_43 : decode cX11_feed 43 = .ok (.aload_n 0, 1) := by decide +kernel
theorem dX11_feed_44 : decode cX11_feed 44 = .ok (.getfield 75, 3) := by decide +kernel
theorem dX11_feed_47 : decode cX11_feed 47 = .ok (.ireturn, 1) := by decide +kernel
theorem dX11_putOnTape_0 : decode cX11_putOnTape 0 = .ok (.bipush 24, 2) := by decide +kernel
theorem dX11_putOnTape_2 : decode cX11_putOnTape 2 = .ok (.istore_n 2, 1) := by decide +kernel
theorem dX11_putOnTape_3 : decode cX11_putOnTape 3 = .ok (.iload_n 2, 1) := by decide +kernel
theorem dX11_putOnTape_4 : decode cX11_putOnTape 4 = .ok (.ifCond .lt 45, 3) := by decide +kernel
theorem dX11_putOnTape_7 : decode cX11_putOnTape 7 = .ok (.aload_n 0, 1) := by decide +kernel
theorem dX11_putOnTape_8 : decode cX11_putOnTape 8 = .ok (.getfield 75, 3) := by decide +kernel
theorem dX11_putOnTape_11 : decode cX11_putOnTape 11 = .ok (.sipush 200, 3) := by decide +kernel
theorem dX11_putOnTape_14 : decode cX11_putOnTape 14 = .ok (.if_icmp .ge 35, 3) := by decide +kernel
theorem dX11_putOnTape_17 : decode cX11_putOnTape 17 = .ok (.aload_n 0, 1) := by decide +kernel
theorem dX11_putOnTape_18 : decode cX11_putOnTape 18 = .ok (.getfield 23, 3) := by decide +kernel
theorem dX11_putOnTape_21 : decode cX11_putOnTape 21 = .ok (.aload_n 0, 1) := by decide +kernel
theorem dX11_putOnTape_22 : decode cX11_putOnTape 22 = .ok (.getfield 75, 3) := by decide +kernel
theorem dX11_putOnTape_25 : decode cX11_putOnTape 25 = .ok (.iload_n 1, 1) := by decide +kernel
theorem dX11_putOnTape_26 : decode cX11_putOnTape 26 = .ok (.iload_n 2, 1) := by decide +kernel
theorem dX11_putOnTape_27 : decode cX11_putOnTape 27 = .ok (.iushr, 1) := by decide +kernel
theorem dX11_putOnTape_28 : decode cX11_putOnTape 28 = .ok (.sipush 255, 3) := by decide +kernel
theorem dX11_putOnTape_31 : decode cX11_putOnTape 31 = .ok (.iand, 1) := by decide +kernel
theorem dX11_putOnTape_32 : decode cX11_putOnTape 32 = .ok (.iastore, 1) := by decide +kernel
theorem dX11_putOnTape_33 : decode cX11_putOnTape 33 = .ok (.aload_n 0, 1) := by decide +kernel
theorem dX11_putOnTape_34 : decode cX11_putOnTape 34 = .ok (.dup, 1) := by decide +kernel
theorem dX11_putOnTape_35 : decode cX11_putOnTape 35 = .ok (.getfield 75, 3) := by decide +kernel
theorem dX11_putOnTape_38 : decode cX11_putOnTape 38 = .ok (.iconst 1, 1) := by decide +kernel
theorem dX11_putOnTape_39 : decode cX11_putOnTape 39 = .ok (.iadd, 1) := by decide +kernel
theorem dX11_putOnTape_40 : decode cX11_putOnTape 40 = .ok (.putfield 75, 3) := by decide +kernel
theorem dX11_putOnTape_43 : decode cX11_putOnTape 43 = .ok (.iinc 2 (-8), 3) := by decide +kernel
theorem dX11_putOnTape_46 : decode cX11_putOnTape 46 = .ok (.goto (-43), 3) := by decide +kernel
theorem dX11_putOnTape_49 : decode cX11_putOnTape 49 = .ok (.return_, 1) := by decide +kernel
theorem dX11_end_0 : decode cX11_end 0 = .ok (.iload_n 1, 1) := by decide +kernel
theorem dX11_end_1 : decode cX11_end 1 = .ok (.ifCond .lt 18, 3) := by decide +kernel
theorem dX11_end_4 : decode cX11_end 4 = .ok (.iload_n 1, 1) := by decide +kernel
theorem dX11_end_5 : decode cX11_end 5 = .ok (.bipush 20, 2) := by decide +kernel
theorem dX11_end_7 : decode cX11_end 7 = .ok (.if_icmp .gt 12, 3) := by decide +kernel
theorem dX11_end_10 : decode cX11_end 10 = .ok (.aload_n 0, 1) := by decide +kernel
theorem dX11_end_11 : decode cX11_end 11 = .ok (.getfield 75, 3) := by decide +kernel
theorem dX11_end_14 : decode cX11_end 14 = .ok (.bipush 20, 2) := by decide +kernel
theorem dX11_end_16 : decode cX11_end 16 = .ok (.if_icmp .ge 5, 3) := by decide +kernel
theorem dX11_end_19 : decode cX11_end 19 = .ok (.iconst (-1), 1) := by decide +kernel
theorem dX11_end_20 : decode cX11_end 20 = .ok (.ireturn, 1) := by decide +kernel
theorem dX11_end_21 : decode cX11_end 21 = .ok (.aload_n 0, 1) := by decide +kernel
theorem dX11_end_22 : decode cX11_end 22 = .ok (.aload_n 0, 1) := by decide +kernel
theorem dX11_end_23 : decode cX11_end 23 = .ok (.getfield 75, 3) := by decide +kernel
theorem dX11_end_26 : decode cX11_end 26 = .ok (.bipush 20, 2) := by decide +kernel
theorem dX11_end_28 : decode cX11_end 28 = .ok (.isub, 1) := by decide +kernel
theorem dX11_end_29 : decode cX11_end 29 = .ok (.iload_n 1, 1) := by decide +kernel
theorem dX11_end_30 : decode cX11_end 30 = .ok (.iadd, 1) := by decide +kernel
theorem dX11_end_31 : decode cX11_end 31 = .ok (.putfield 75, 3) := by decide +kernel
theorem dX11_end_34 : decode cX11_end 34 = .ok (.aload_n 0, 1) := by decide +kernel
theorem dX11_end_35 : decode cX11_end 35 = .ok (.getfield 75, 3) := by decide +kernel
theorem dX11_end_38 : decode cX11_end 38 = .ok (.ireturn, 1) := by decide +kernel
theorem dX11_tick_0 : decode cX11_tick 0 = .ok (.iload_n 1, 1) := by decide +kernel
theorem dX11_tick_1 : decode cX11_tick 1 = .ok (.iconst 1, 1) := by decide +kernel
theorem dX11_tick_2 : decode cX11_tick 2 = .ok (.if_icmp .lt 9, 3) := by decide +kernel
theorem dX11_tick_5 : decode cX11_tick 5 = .ok (.iload_n 1, 1) := by decide +kernel
theorem dX11_tick_6 : decode cX11_tick 6 = .ok (.bipush 50, 2) := by decide +kernel
theorem dX11_tick_8 : decode cX11_tick 8 = .ok (.if_icmp .le 5, 3) := by decide +kernel
theorem dX11_tick_11 : decode cX11_tick 11 = .ok (.iconst (-1), 1) := by decide +kernel
theorem dX11_tick_12 : decode cX11_tick 12 = .ok (.ireturn, 1) := by decide +kernel
theorem dX11_tick_13 : decode cX11_tick 13 = .ok (.iconst 0, 1) := by decide +kernel
theorem dX11_tick_14 : decode cX11_tick 14 = .ok (.istore_n 2, 1) := by decide +kernel
theorem dX11_tick_15 : decode cX11_tick 15 = .ok (.iload_n 2, 1) := by decide +kernel
theorem dX11_tick_16 : decode cX11_tick 16 = .ok (.iload_n 1, 1) := by decide +kernel
theorem dX11_tick_17 : decode cX11_tick 17 = .ok (.if_icmp .ge 185, 3) := by decide +kernel
theorem dX11_tick_20 : decode cX11_tick 20 = .ok (.aload_n 0, 1) := by decide +kernel
theorem dX11_tick_21 : decode cX11_tick 21 = .ok (.dup, 1) := by decide +kernel
theorem dX11_tick_22 : decode cX11_tick 22 = .ok (.getfield 82, 3) := by decide +kernel
theorem dX11_tick_25 : decode cX11_tick 25 = .ok (.iconst 1, 1) := by decide +kernel
theorem dX11_tick_26 : decode cX11_tick 26 = .ok (.iadd, 1) := by decide +kernel
theorem dX11_tick_27 : decode cX11_tick 27 = .ok (.putfield 82, 3) := by decide +kernel
theorem dX11_tick_30 : decode cX11_tick 30 = .ok (.iconst 0, 1) := by decide +kernel
theorem dX11_tick_31 : decode cX11_tick 31 = .ok (.istore_n 3, 1) := by decide +kernel
theorem dX11_tick_32 : decode cX11_tick 32 = .ok (.iload_n 3, 1) := by decide +kernel
theorem dX11_tick_33 : decode cX11_tick 33 = .ok (.aload_n 0, 1) := by decide +kernel
theorem dX11_tick_34 : decode cX11_tick 34 = .ok (.getfield 71, 3) := by decide +kernel
theorem dX11_tick_37 : decode cX11_tick 37 = .ok (.arraylength, 1) := by decide +kernel
theorem dX11_tick_38 : decode cX11_tick 38 = .ok (.if_icmp .ge 62, 3) := by decide +kernel
theorem dX11_tick_41 : decode cX11_tick 41 = .ok (.aload_n 0, 1) := by decide +kernel
theorem dX11_tick_42 : decode cX11_tick 42 = .ok (.getfield 71, 3) := by decide +kernel
theorem dX11_tick_45 : decode cX11_tick 45 = .ok (.iload_n 3, 1) := by decide +kernel
theorem dX11_tick_46 : decode cX11_tick 46 = .ok (.aaload, 1) := by decide +kernel
theorem dX11_tick_47 : decode cX11_tick 47 = .ok (.astore 4, 2) := by decide +kernel
theorem dX11_tick_49 : decode cX11_tick 49 = .ok (.aload 4, 2) := by decide +kernel
theorem dX11_tick_51 : decode cX11_tick 51 = .ok (.getfield 85, 3) := by decide +kernel
theorem dX11_tick_54 : decode cX11_tick 54 = .ok (.aload_n 0, 1) := by decide +kernel
theorem dX11_tick_55 : decode cX11_tick 55 = .ok (.getfield 82, 3) := by decide +kernel
theorem dX11_tick_58 : decode cX11_tick 58 = .ok (.invokevirtual 89, 3) := by decide +kernel
theorem dX11_tick_61 : decode cX11_tick 61 = .ok (.ifCond .eq 12, 3) := by decide +kernel
theorem dX11_tick_64 : decode cX11_tick 64 = .ok (.aload 4, 2) := by decide +kernel
theorem dX11_tick_66 : decode cX11_tick 66 = .ok (.aload_n 0, 1) := by decide +kernel
theorem dX11_tick_67 : decode cX11_tick 67 = .ok (.getfield 82, 3) := by decide +kernel
theorem dX11_tick_70 : decode cX11_tick 70 = .ok (.invokevirtual 93, 3) := by decide +kernel
theorem dX11_tick_73 : decode cX11_tick 73 = .ok (.aload 4, 2) := by decide +kernel
theorem dX11_tick_75 : decode cX11_tick 75 = .ok (.aload_n 0, 1) := by decide +kernel
theorem dX11_tick_76 : decode cX11_tick 76 = .ok (.getfield 82, 3) := by decide +kernel
theorem dX11_tick_79 : decode cX11_tick 79 = .ok (.invokevirtual 96, 3) := by decide +kernel
theorem dX11_tick_82 : decode cX11_tick 82 = .ok (.aload 4, 2) := by decide +kernel
theorem dX11_tick_84 : decode cX11_tick 84 = .ok (.getfield 85, 3) := by decide +kernel
theorem dX11_tick_87 : decode cX11_tick 87 = .ok (.aload_n 0, 1) := by decide +kernel
theorem dX11_tick_88 : decode cX11_tick 88 = .ok (.getfield 82, 3) := by decide +kernel
theorem dX11_tick_91 : decode cX11_tick 91 = .ok (.invokevirtual 99, 3) := by decide +kernel
theorem dX11_tick_94 : decode cX11_tick 94 = .ok (.iinc 3 1, 3) := by decide +kernel
theorem dX11_tick_97 : decode cX11_tick 97 = .ok (.goto (-65), 3) := by decide +kernel
theorem dX11_tick_100 : decode cX11_tick 100 = .ok (.iconst 0, 1) := by decide +kernel
theorem dX11_tick_101 : decode cX11_tick 101 = .ok (.istore_n 3, 1) := by decide +kernel
theorem dX11_tick_102 : decode cX11_tick 102 = .ok (.iload_n 3, 1) := by decide +kernel
theorem dX11_tick_103 : decode cX11_tick 103 = .ok (.aload_n 0, 1) := by decide +kernel
theorem dX11_tick_104 : decode cX11_tick 104 = .ok (.getfield 55, 3) := by decide +kernel
theorem dX11_tick_107 : decode cX11_tick 107 = .ok (.if_icmp .ge 26, 3) := by decide +kernel
theorem dX11_tick_110 : decode cX11_tick 110 = .ok (.aload_n 0, 1) := by decide +kernel
theorem dX11_tick_111 : decode cX11_tick 111 = .ok (.getfield 63, 3) := by decide +kernel
theorem dX11_tick_114 : decode cX11_tick 114 = .ok (.iload_n 3, 1) := by decide +kernel
theorem dX11_tick_115 : decode cX11_tick 115 = .ok (.aaload, 1) := by decide +kernel
theorem dX11_tick_116 : decode cX11_tick 116 = .ok (.aload_n 0, 1) := by decide +kernel
theorem dX11_tick_117 : decode cX11_tick 117 = .ok (.getfield 59, 3) := by decide +kernel
theorem dX11_tick_120 : decode cX11_tick 120 = .ok (.iconst 2, 1) := by decide +kernel
theorem dX11_tick_121 : decode cX11_tick 121 = .ok (.iload_n 3, 1) := by decide +kernel
theorem dX11_tick_122 : decode cX11_tick 122 = .ok (.imul, 1) := by decide +kernel
theorem dX11_tick_123 : decode cX11_tick 123 = .ok (.aaload, 1) := by decide +kernel
theorem dX11_tick_124 : decode cX11_tick 124 = .ok (.invokevirtual 102, 3) := by decide +kernel
theorem dX11_tick_127 : decode cX11_tick 127 = .ok (.iinc 3 1, 3) := by decide +kernel
theorem dX11_tick_130 : decode cX11_tick 130 = .ok (.goto (-28), 3) := by decide +kernel
theorem dX11_tick_133 : decode cX11_tick 133 = .ok (.iconst 0, 1) := by decide +kernel
theorem dX11_tick_134 : decode cX11_tick 134 = .ok (.istore_n 3, 1) := by decide +kernel
theorem dX11_tick_135 : decode cX11_tick 135 = .ok (.iload_n 3, 1) := by decide +kernel
theorem dX11_tick_136 : decode cX11_tick 136 = .ok (.aload_n 0, 1) := by decide +kernel
theorem dX11_tick_137 : decode cX11_tick 137 = .ok (.getfield 59, 3) := by decide +kernel
theorem dX11_tick_140 : decode cX11_tick 140 = .ok (.arraylength, 1) := by decide +kernel
theorem dX11_tick_141 : decode cX11_tick 141 = .ok (.if_icmp .ge 27, 3) := by decide +kernel
theorem dX11_tick_144 : decode cX11_tick 144 = .ok (.aload_n 0, 1) := by decide +kernel
theorem dX11_tick_145 : decode cX11_tick 145 = .ok (.dup, 1) := by decide +kernel
theorem dX11_tick_146 : decode cX11_tick 146 = .ok (.getfield 105, 3) := by decide +kernel
theorem dX11_tick_149 : decode cX11_tick 149 = .ok (.aload_n 0, 1) := by decide +kernel
theorem dX11_tick_150 : decode cX11_tick 150 = .ok (.getfield 59, 3) := by decide +kernel
theorem dX11_tick_153 : decode cX11_tick 153 = .ok (.iload_n 3, 1) := by decide +kernel
theorem dX11_tick_154 : decode cX11_tick 154 = .ok (.aaload, 1) := by decide +kernel
theorem dX11_tick_155 : decode cX11_tick 155 = .ok (.invokevirtual 108, 3) := by decide +kernel
theorem dX11_tick_158 : decode cX11_tick 158 = .ok (.iadd, 1) := by decide +kernel
theorem dX11_tick_159 : decode cX11_tick 159 = .ok (.putfield 105, 3) := by decide +kernel
theorem dX11_tick_162 : decode cX11_tick 162 = .ok (.iinc 3 1, 3) := by decide +kernel
theorem dX11_tick_165 : decode cX11_tick 165 = .ok (.goto (-30), 3) := by decide +kernel
theorem dX11_tick_168 : decode cX11_tick 168 = .ok (.iconst 0, 1) := by decide +kernel
theorem dX11_tick_169 : decode cX11_tick 169 = .ok (.istore_n 3, 1) := by decide +kernel
theorem dX11_tick_170 : decode cX11_tick 170 = .ok (.iload_n 3, 1) := by decide +kernel
theorem dX11_tick_171 : decode cX11_tick 171 = .ok (.aload_n 0, 1) := by decide +kernel
theorem dX11_tick_172 : decode cX11_tick 172 = .ok (.getfield 59, 3) := by decide +kernel
theorem dX11_tick_175 : decode cX11_tick 175 = .ok (.arraylength, 1) := by decide +kernel
theorem dX11_tick_176 : decode cX11_tick 176 = .ok (.if_icmp .ge 20, 3) := by decide +kernel
theorem dX11_tick_179 : decode cX11_tick 179 = .ok (.aload_n 0, 1) := by decide +kernel
theorem dX11_tick_180 : decode cX11_tick 180 = .ok (.iload_n 3, 1) := by decide +kernel
theorem dX11_tick_181 : decode cX11_tick 181 = .ok (.aload_n 0, 1) := by decide +kernel
theorem dX11_tick_182 : decode cX11_tick 182 = .ok (.getfield 59, 3) := by decide +kernel
theorem dX11_tick_185 : decode cX11_tick 185 = .ok (.iload_n 3, 1) := by decide +kernel
theorem dX11_tick_186 : decode cX11_tick 186 = .ok (.aaload, 1) := by decide +kernel
theorem dX11_tick_187 : decode cX11_tick 187 = .ok (.invokevirtual 112, 3) := by decide +kernel
theorem dX11_tick_190 : decode cX11_tick 190 = .ok (.iinc 3 1, 3) := by decide +kernel
theorem dX11_tick_193 : decode cX11_tick 193 = .ok (.goto (-23), 3) := by decide +kernel
theorem dX11_tick_196 : decode cX11_tick 196 = .ok (.iinc 2 1, 3) := by decide +kernel
theorem dX11_tick_199 : decode cX11_tick 199 = .ok (.goto (-184), 3) := by decide +kernel
theorem dX11_tick_202 : decode cX11_tick 202 = .ok (.aload_n 0, 1) := by decide +kernel
theorem dX11_tick_203 : decode cX11_tick 203 = .ok (.getfield 82, 3) := by decide +kernel
theorem dX11_tick_206 : decode cX11_tick 206 = .ok (.ireturn, 1) := by decide +kernel
theorem dX11_arrive_0 : decode cX11_arrive 0 = .ok (.iload_n 1, 1) := by decide +kernel
theorem dX11_arrive_1 : decode cX11_arrive 1 = .ok (.iconst 2, 1) := by decide +kernel
theorem dX11_arrive_2 : decode cX11_arrive 2 = .ok (.irem, 1) := by decide +kernel
theorem dX11_arrive_3 : decode cX11_arrive 3 = .ok (.ifCond .ne 19, 3) := by decide +kernel
theorem dX11_arrive_6 : decode cX11_arrive 6 = .ok (.aload_n 0, 1) := by decide +kernel
theorem dX11_arrive_7 : decode cX11_arrive 7 = .ok (.getfield 71, 3) := by decide +kernel
theorem dX11_arrive_10 : decode cX11_arrive 10 = .ok (.aload_n 0, 1) := by decide +kernel
theorem dX11_arrive_11 : decode cX11_arrive 11 = .ok (.getfield 55, 3) := by decide +kernel
theorem dX11_arrive_14 : decode cX11_arrive 14 = .ok (.iload_n 1, 1) := by decide +kernel
theorem dX11_arrive_15 : decode cX11_arrive 15 = .ok (.iconst 2, 1) := by decide +kernel
theorem dX11_arrive_16 : decode cX11_arrive 16 = .ok (.idiv, 1) := by decide +kernel
theorem dX11_arrive_17 : decode cX11_arrive 17 = .ok (.iadd, 1) := by decide +kernel
theorem dX11_arrive_18 : decode cX11_arrive 18 = .ok (.aaload, 1) := by decide +kernel
theorem dX11_arrive_19 : decode cX11_arrive 19 = .ok (.goto 11, 3) := by decide +kernel
theorem dX11_arrive_22 : decode cX11_arrive 22 = .ok (.aload_n 0, 1) := by decide +kernel
theorem dX11_arrive_23 : decode cX11_arrive 23 = .ok (.getfield 71, 3) := by decide +kernel
theorem dX11_arrive_26 : decode cX11_arrive 26 = .ok (.iload_n 1, 1) := by decide +kernel
theorem dX11_arrive_27 : decode cX11_arrive 27 = .ok (.iconst 2, 1) := by decide +kernel
theorem dX11_arrive_28 : decode cX11_arrive 28 = .ok (.idiv, 1) := by decide +kernel
theorem dX11_arrive_29 : decode cX11_arrive 29 = .ok (.aaload, 1) := by decide +kernel
theorem dX11_arrive_30 : decode cX11_arrive 30 = .ok (.astore_n 3, 1) := by decide +kernel
theorem dX11_arrive_31 : decode cX11_arrive 31 = .ok (.iconst 0, 1) := by decide +kernel
theorem dX11_arrive_32 : decode cX11_arrive 32 = .ok (.istore 4, 2) := by decide +kernel
theorem dX11_arrive_34 : decode cX11_arrive 34 = .ok (.iconst 0, 1) := by decide +kernel
theorem dX11_arrive_35 : decode cX11_arrive 35 = .ok (.istore 5, 2) := by decide +kernel
theorem dX11_arrive_37 : decode cX11_arrive 37 = .ok (.iload 5, 2) := by decide +kernel
theorem dX11_arrive_39 : decode cX11_arrive 39 = .ok (.sipush 212, 3) := by decide +kernel
theorem dX11_arrive_42 : decode cX11_arrive 42 = .ok (.if_icmp .ge 213, 3) := by decide +kernel
theorem dX11_arrive_45 : decode cX11_arrive 45 = .ok (.iload 4, 2) := by decide +kernel
theorem dX11_arrive_47 : decode cX11_arrive 47 = .ok (.aload_n 2, 1) := by decide +kernel
theorem dX11_arrive_48 : decode cX11_arrive 48 = .ok (.getfield 116, 3) := by decide +kernel
theorem dX11_arrive_51 : decode cX11_arrive 51 = .ok (.if_icmp .ge 204, 3) := by decide +kernel
theorem dX11_arrive_54 : decode cX11_arrive 54 = .ok (.iload 4, 2) := by decide +kernel
theorem dX11_arrive_56 : decode cX11_arrive 56 = .ok (.aload_n 2, 1) := by decide +kernel
theorem dX11_arrive_57 : decode cX11_arrive 57 = .ok (.getfield 119, 3) := by decide +kernel
theorem dX11_arrive_60 : decode cX11_arrive 60 = .ok (.aload_n 2, 1) := by decide +kernel
theorem dX11_arrive_61 : decode cX11_arrive 61 = .ok (.getfield 123, 3) := by decide +kernel
theorem dX11_arrive_64 : decode cX11_arrive 64 = .ok (.iload 4, 2) := by decide +kernel
theorem dX11_arrive_66 : decode cX11_arrive 66 = .ok (.aload_n 2, 1) := by decide +kernel
theorem dX11_arrive_67 : decode cX11_arrive 67 = .ok (.getfield 116, 3) := by decide +kernel
theorem dX11_arrive_70 : decode cX11_arrive 70 = .ok (.invokevirtual 126, 3) := by decide +kernel
theorem dX11_arrive_73 : decode cX11_arrive 73 = .ok (.iadd, 1) := by decide +kernel
theorem dX11_arrive_74 : decode cX11_arrive 74 = .ok (.istore 4, 2) := by decide +kernel
theorem dX11_arrive_76 : decode cX11_arrive 76 = .ok (.aload_n 2, 1) := by decide +kernel
theorem dX11_arrive_77 : decode cX11_arrive 77 = .ok (.getfield 119, 3) := by decide +kernel
theorem dX11_arrive_80 : decode cX11_arrive 80 = .ok (.getfield 132, 3) := by decide +kernel
theorem dX11_arrive_83 : decode cX11_arrive 83 = .ok (.ifCond .eq 166, 3) := by decide +kernel
theorem dX11_arrive_86 : decode cX11_arrive 86 = .ok (.aload_n 0, 1) := by decide +kernel
theorem dX11_arrive_87 : decode cX11_arrive 87 = .ok (.iload_n 1, 1) := by decide +kernel
theorem dX11_arrive_88 : decode cX11_arrive 88 = .ok (.aload_n 2, 1) := by decide +kernel
theorem dX11_arrive_89 : decode cX11_arrive 89 = .ok (.invokevirtual 136, 3) := by decide +kernel
theorem dX11_arrive_92 : decode cX11_arrive 92 = .ok (.ifCond .ne 6, 3) := by decide +kernel
theorem dX11_arrive_95 : decode cX11_arrive 95 = .ok (.goto 154, 3) := by decide +kernel
theorem dX11_arrive_98 : decode cX11_arrive 98 = .ok (.aload_n 3, 1) := by decide +kernel
theorem dX11_arrive_99 : decode cX11_arrive 99 = .ok (.getfield 85, 3) := by decide +kernel
theorem dX11_arrive_102 : decode cX11_arrive 102 = .ok (.aload_n 2, 1) := by decide +kernel
theorem dX11_arrive_103 : decode cX11_arrive 103 = .ok (.getfield 140, 3) := by decide +kernel
theorem dX11_arrive_106 : decode cX11_arrive 106 = .ok (.getfield 144, 3) := by decide +kernel
theorem dX11_arrive_109 : decode cX11_arrive 109 = .ok (.aload_n 2, 1) := by decide +kernel
theorem dX11_arrive_110 : decode cX11_arrive 110 = .ok (.getfield 140, 3) := by decide +kernel
theorem dX11_arrive_113 : decode cX11_arrive 113 = .ok (.getfield 149, 3) := by decide +kernel
theorem dX11_arrive_116 : decode cX11_arrive 116 = .ok (.aload_n 0, 1) := by decide +kernel
theorem dX11_arrive_117 : decode cX11_arrive 117 = .ok (.getfield 82, 3) := by decide +kernel
theorem dX11_arrive_120 : decode cX11_arrive 120 = .ok (.invokevirtual 152, 3) := by decide +kernel
theorem dX11_arrive_123 : decode cX11_arrive 123 = .ok (.istore 6, 2) := by decide +kernel
theorem dX11_arrive_125 : decode cX11_arrive 125 = .ok (.iload 6, 2) := by decide +kernel
theorem dX11_arrive_127 : decode cX11_arrive 127 = .ok (.iconst 1, 1) := by decide +kernel
theorem dX11_arrive_128 : decode cX11_arrive 128 = .ok (.if_icmp .ne 14, 3) := by decide +kernel
theorem dX11_arrive_131 : decode cX11_arrive 131 = .ok (.aload_n 3, 1) := by decide +kernel
theorem dX11_arrive_132 : decode cX11_arrive 132 = .ok (.aload_n 0, 1) := by decide +kernel
theorem dX11_arrive_133 : decode cX11_arrive 133 = .ok (.getfield 82, 3) := by decide +kernel
theorem dX11_arrive_136 : decode cX11_arrive 136 = .ok (.invokevirtual 93, 3) := by decide +kernel
theorem dX11_arrive_139 : decode cX11_arrive 139 = .ok (.goto 23, 3) := by decide +kernel
theorem dX11_arrive_142 : decode cX11_arrive 142 = .ok (.iload 6, 2) := by decide +kernel
theorem dX11_arrive_144 : decode cX11_arrive 144 = .ok (.iconst 2, 1) := by decide +kernel
theorem dX11_arrive_145 : decode cX11_arrive 145 = .ok (.if_icmp .ne 17, 3) := by decide +kernel
theorem dX11_arrive_148 : decode cX11_arrive 148 = .ok (.aload_n 3, 1) := by decide +kernel
theorem dX11_arrive_149 : decode cX11_arrive 149 = .ok (.getfield 85, 3) := by decide +kernel
theorem dX11_arrive_152 : decode cX11_arrive 152 = .ok (.iconst 3, 1) := by decide +kernel
theorem dX11_arrive_153 : decode cX11_arrive 153 = .ok (.bipush 9, 2) := by decide +kernel
theorem dX11_arrive_155 : decode cX11_arrive 155 = .ok (.aload_n 0, 1) := by decide +kernel
theorem dX11_arrive_156 : decode cX11_arrive 156 = .ok (.getfield 82, 3) := by decide +kernel
theorem dX11_arrive_159 : decode cX11_arrive 159 = .ok (.invokevirtual 155, 3) := by decide +kernel
theorem dX11_arrive_162 : decode cX11_arrive 162 = .ok (.aload_n 3, 1) := by decide +kernel
theorem dX11_arrive_163 : decode cX11_arrive 163 = .ok (.getfield 85, 3) := by decide +kernel
theorem dX11_arrive_166 : decode cX11_arrive 166 = .ok (.aload_n 0, 1) := by decide +kernel
theorem dX11_arrive_167 : decode cX11_arrive 167 = .ok (.getfield 16, 3) := by decide +kernel
theorem dX11_arrive_170 : decode cX11_arrive 170 = .ok (.invokevirtual 159, 3) := by decide +kernel
theorem dX11_arrive_173 : decode cX11_arrive 173 = .ok (.istore 7, 2) := by decide +kernel
theorem dX11_arrive_175 : decode cX11_arrive 175 = .ok (.iconst 0, 1) := by decide +kernel
theorem dX11_arrive_176 : decode cX11_arrive 176 = .ok (.istore 8, 2) := by decide +kernel
theorem dX11_arrive_178 : decode cX11_arrive 178 = .ok (.iload 8, 2) := by decide +kernel
theorem dX11_arrive_180 : decode cX11_arrive 180 = .ok (.bipush 8, 2) := by decide +kernel
theorem dX11_arrive_182 : decode cX11_arrive 182 = .ok (.if_icmp .ge 67, 3) := by decide +kernel
theorem dX11_arrive_185 : decode cX11_arrive 185 = .ok (.iload 7, 2) := by decide +kernel
theorem dX11_arrive_187 : decode cX11_arrive 187 = .ok (.ifCond .le 62, 3) := by decide +kernel
theorem dX11_arrive_190 : decode cX11_arrive 190 = .ok (.aload_n 0, 1) := by decide +kernel
theorem dX11_arrive_191 : decode cX11_arrive 191 = .ok (.getfield 12, 3) := by decide +kernel
theorem dX11_arrive_194 : decode cX11_arrive 194 = .ok (.aload_n 0, 1) := by decide +kernel
theorem dX11_arrive_195 : decode cX11_arrive 195 = .ok (.getfield 16, 3) := by decide +kernel
theorem dX11_arrive_198 : decode cX11_arrive 198 = .ok (.iload 7, 2) := by decide +kernel
theorem dX11_arrive_200 : decode cX11_arrive 200 = .ok (.iload_n 1, 1) := by decide +kernel
theorem dX11_arrive_201 : decode cX11_arrive 201 = .ok (.iconst 2, 1) := by decide +kernel
theorem dX11_arrive_202 : decode cX11_arrive 202 = .ok (.irem, 1) := by decide +kernel
theorem dX11_arrive_203 : decode cX11_arrive 203 = .ok (.iconst 1, 1) := by decide +kernel
theorem dX11_arrive_204 : decode cX11_arrive 204 = .ok (.if_icmp .ne 7, 3) := by decide +kernel
theorem dX11_arrive_207 : decode cX11_arrive 207 = .ok (.iconst 1, 1) := by decide +kernel
theorem dX11_arrive_208 : decode cX11_arrive 208 = .ok (.goto 4, 3) := by decide +kernel
theorem dX11_arrive_211 : decode cX11_arrive 211 = .ok (.iconst 0, 1) := by decide +kernel
theorem dX11_arrive_212 : decode cX11_arrive 212 = .ok (.invokevirtual 163, 3) := by decide +kernel
theorem dX11_arrive_215 : decode cX11_arrive 215 = .ok (.ifCond .eq 15, 3) := by decide +kernel
theorem dX11_arrive_218 : decode cX11_arrive 218 = .ok (.aload_n 3, 1) := by decide +kernel
theorem dX11_arrive_219 : decode cX11_arrive 219 = .ok (.aload_n 0, 1) := by decide +kernel
theorem dX11_arrive_220 : decode cX11_arrive 220 = .ok (.getfield 12, 3) := by decide +kernel
theorem dX11_arrive_223 : decode cX11_arrive 223 = .ok (.aload_n 0, 1) := by decide +kernel
theorem dX11_arrive_224 : decode cX11_arrive 224 = .ok (.getfield 82, 3) := by decide +kernel
theorem dX11_arrive_227 : decode cX11_arrive 227 = .ok (.invokevirtual 167, 3) := by decide +kernel
theorem dX11_arrive_230 : decode cX11_arrive 230 = .ok (.aload_n 3, 1) := by decide +kernel
theorem dX11_arrive_231 : decode cX11_arrive 231 = .ok (.getfield 85, 3) := by decide +kernel
theorem dX11_arrive_234 : decode cX11_arrive 234 = .ok (.aload_n 0, 1) := by decide +kernel
theorem dX11_arrive_235 : decode cX11_arrive 235 = .ok (.getfield 16, 3) := by decide +kernel
theorem dX11_arrive_238 : decode cX11_arrive 238 = .ok (.invokevirtual 159, 3) := by decide +kernel
theorem dX11_arrive_241 : decode cX11_arrive 241 = .ok (.istore 7, 2) := by decide +kernel
theorem dX11_arrive_243 : decode cX11_arrive 243 = .ok (.iinc 8 1, 3) := by decide +kernel
theorem dX11_arrive_246 : decode cX11_arrive 246 = .ok (.goto (-68), 3) := by decide +kernel
theorem dX11_arrive_249 : decode cX11_arrive 249 = .ok (.iinc 5 1, 3) := by decide +kernel
theorem dX11_arrive_252 : decode cX11_arrive 252 = .ok (.goto (-215), 3) := by decide +kernel
theorem dX11_arrive_255 : decode cX11_arrive 255 = .ok (.return_, 1) := by decide +kernel
theorem dX11_cellCame_0 : decode cX11_cellCame 0 = .ok (.aload_n 2, 1) := by decide +kernel
theorem dX11_cellCame_1 : decode cX11_cellCame 1 = .ok (.getfield 119, 3) := by decide +kernel
theorem dX11_cellCame_4 : decode cX11_cellCame 4 = .ok (.getfield 171, 3) := by decide +kernel
theorem dX11_cellCame_7 : decode cX11_cellCame 7 = .ok (.istore_n 3, 1) := by decide +kernel
theorem dX11_cellCame_8 : decode cX11_cellCame 8 = .ok (.iload_n 3, 1) := by decide +kernel
theorem dX11_cellCame_9 : decode cX11_cellCame 9 = .ok (.bipush 20, 2) := by decide +kernel
theorem dX11_cellCame_11 : decode cX11_cellCame 11 = .ok (.iushr, 1) := by decide +kernel
theorem dX11_cellCame_12 : decode cX11_cellCame 12 = .ok (.sipush 255, 3) := by decide +kernel
theorem dX11_cellCame_15 : decode cX11_cellCame 15 = .ok (.iand, 1) := by decide +kernel
theorem dX11_cellCame_16 : decode cX11_cellCame 16 = .ok (.istore 4, 2) := by decide +kernel
theorem dX11_cellCame_18 : decode cX11_cellCame 18 = .ok (.iload_n 3, 1) := by decide +kernel
theorem dX11_cellCame_19 : decode cX11_cellCame 19 = .ok (.iconst 4, 1) := by decide +kernel
theorem dX11_cellCame_20 : decode cX11_cellCame 20 = .ok (.iushr, 1) := by decide +kernel
theorem dX11_cellCame_21 : decode cX11_cellCame 21 = .ok (.ldc 174, 2) := by decide +kernel
theorem dX11_cellCame_23 : decode cX11_cellCame 23 = .ok (.iand, 1) := by decide +kernel
theorem dX11_cellCame_24 : decode cX11_cellCame 24 = .ok (.istore 5, 2) := by decide +kernel
theorem dX11_cellCame_26 : decode cX11_cellCame 26 = .ok (.iload_n 3, 1) := by decide +kernel
theorem dX11_cellCame_27 : decode cX11_cellCame 27 = .ok (.iconst 2, 1) := by decide +kernel
theorem dX11_cellCame_28 : decode cX11_cellCame 28 = .ok (.iand, 1) := by decide +kernel
theorem dX11_cellCame_29 : decode cX11_cellCame 29 = .ok (.ifCond .eq 7, 3) := by decide +kernel
theorem dX11_cellCame_32 : decode cX11_cellCame 32 = .ok (.iconst 1, 1) := by decide +kernel
theorem dX11_cellCame_33 : decode cX11_cellCame 33 = .ok (.goto 4, 3) := by decide +kernel
theorem dX11_cellCame_36 : decode cX11_cellCame 36 = .ok (.iconst 0, 1) := by decide +kernel
theorem dX11_cellCame_37 : decode cX11_cellCame 37 = .ok (.istore 6, 2) := by decide +kernel
theorem dX11_cellCame_39 : decode cX11_cellCame 39 = .ok (.iload 4, 2) := by decide +kernel
theorem dX11_cellCame_41 : decode cX11_cellCame 41 = .ok (.ifCond .ne 10, 3) := by decide +kernel
theorem dX11_cellCame_44 : decode cX11_cellCame 44 = .ok (.iload 5, 2) := by decide +kernel
theorem dX11_cellCame_46 : decode cX11_cellCame 46 = .ok (.ifCond .ne 5, 3) := by decide +kernel
theorem dX11_cellCame_49 : decode cX11_cellCame 49 = .ok (.iconst 0, 1) := by decide +kernel
theorem dX11_cellCame_50 : decode cX11_cellCame 50 = .ok (.ireturn, 1) := by decide +kernel
theorem dX11_cellCame_51 : decode cX11_cellCame 51 = .ok (.iload 4, 2) := by decide +kernel
theorem dX11_cellCame_53 : decode cX11_cellCame 53 = .ok (.ifCond .ne 55, 3) := by decide +kernel
theorem dX11_cellCame_56 : decode cX11_cellCame 56 = .ok (.iload 5, 2) := by decide +kernel
theorem dX11_cellCame_58 : decode cX11_cellCame 58 = .ok (.iconst 5, 1) := by decide +kernel
theorem dX11_cellCame_59 : decode cX11_cellCame 59 = .ok (.if_icmp .ne 49, 3) := by decide +kernel
theorem dX11_cellCame_62 : decode cX11_cellCame 62 = .ok (.aload_n 2, 1) := by decide +kernel
theorem dX11_cellCame_63 : decode cX11_cellCame 63 = .ok (.getfield 140, 3) := by decide +kernel
theorem dX11_cellCame_66 : decode cX11_cellCame 66 = .ok (.aload_n 2, 1) := by decide +kernel
theorem dX11_cellCame_67 : decode cX11_cellCame 67 = .ok (.getfield 119, 3) := by decide +kernel
theorem dX11_cellCame_70 : decode cX11_cellCame 70 = .ok (.getfield 175, 3) := by decide +kernel
theorem dX11_cellCame_73 : decode cX11_cellCame 73 = .ok (.iload 6, 2) := by decide +kernel
theorem dX11_cellCame_75 : decode cX11_cellCame 75 = .ok (.invokevirtual 178, 3) := by decide +kernel
theorem dX11_cellCame_78 : decode cX11_cellCame 78 = .ok (.istore 7, 2) := by decide +kernel
theorem dX11_cellCame_80 : decode cX11_cellCame 80 = .ok (.iload 7, 2) := by decide +kernel
theorem dX11_cellCame_82 : decode cX11_cellCame 82 = .ok (.iconst 2, 1) := by decide +kernel
theorem dX11_cellCame_83 : decode cX11_cellCame 83 = .ok (.if_icmp .ne 13, 3) := by decide +kernel
theorem dX11_cellCame_86 : decode cX11_cellCame 86 = .ok (.aload_n 2, 1) := by decide +kernel
theorem dX11_cellCame_87 : decode cX11_cellCame 87 = .ok (.dup, 1) := by decide +kernel
theorem dX11_cellCame_88 : decode cX11_cellCame 88 = .ok (.getfield 182, 3) := by decide +kernel
theorem dX11_cellCame_91 : decode cX11_cellCame 91 = .ok (.iconst 1, 1) := by decide +kernel
theorem dX11_cellCame_92 : decode cX11_cellCame 92 = .ok (.iadd, 1) := by decide +kernel
theorem dX11_cellCame_93 : decode cX11_cellCame 93 = .ok (.putfield 182, 3) := by decide +kernel
theorem dX11_cellCame_96 : decode cX11_cellCame 96 = .ok (.iload 7, 2) := by decide +kernel
theorem dX11_cellCame_98 : decode cX11_cellCame 98 = .ok (.iconst 1, 1) := by decide +kernel
theorem dX11_cellCame_99 : decode cX11_cellCame 99 = .ok (.if_icmp .ne 7, 3) := by decide +kernel
theorem dX11_cellCame_102 : decode cX11_cellCame 102 = .ok (.iconst 1, 1) := by decide +kernel
theorem dX11_cellCame_103 : decode cX11_cellCame 103 = .ok (.goto 4, 3) := by decide +kernel
theorem dX11_cellCame_106 : decode cX11_cellCame 106 = .ok (.iconst 0, 1) := by decide +kernel
theorem dX11_cellCame_107 : decode cX11_cellCame 107 = .ok (.ireturn, 1) := by decide +kernel
theorem dX11_cellCame_108 : decode cX11_cellCame 108 = .ok (.aconst_null, 1) := by decide +kernel
theorem dX11_cellCame_109 : decode cX11_cellCame 109 = .ok (.astore 7, 2) := by decide +kernel
theorem dX11_cellCame_111 : decode cX11_cellCame 111 = .ok (.iload 4, 2) := by decide +kernel
theorem dX11_cellCame_113 : decode cX11_cellCame 113 = .ok (.ifCond .ne 40, 3) := by decide +kernel
theorem dX11_cellCame_116 : decode cX11_cellCame 116 = .ok (.iload_n 1, 1) := by decide +kernel
theorem dX11_cellCame_117 : decode cX11_cellCame 117 = .ok (.iconst 2, 1) := by decide +kernel
theorem dX11_cellCame_118 : decode cX11_cellCame 118 = .ok (.irem, 1) := by decide +kernel
theorem dX11_cellCame_119 : decode cX11_cellCame 119 = .ok (.ifCond .ne 19, 3) := by decide +kernel
theorem dX11_cellCame_122 : decode cX11_cellCame 122 = .ok (.aload_n 0, 1) := by decide +kernel
theorem dX11_cellCame_123 : decode cX11_cellCame 123 = .ok (.getfield 67, 3) := by decide +kernel
theorem dX11_cellCame_126 : decode cX11_cellCame 126 = .ok (.iload_n 1, 1) := by decide +kernel
theorem dX11_cellCame_127 : decode cX11_cellCame 127 = .ok (.iconst 2, 1) := by decide +kernel
theorem dX11_cellCame_128 : decode cX11_cellCame 128 = .ok (.idiv, 1) := by decide +kernel
theorem dX11_cellCame_129 : decode cX11_cellCame 129 = .ok (.aaload, 1) := by decide +kernel
theorem dX11_cellCame_130 : decode cX11_cellCame 130 = .ok (.iload 5, 2) := by decide +kernel
theorem dX11_cellCame_132 : decode cX11_cellCame 132 = .ok (.invokevirtual 185, 3) := by decide +kernel
theorem dX11_cellCame_135 : decode cX11_cellCame 135 = .ok (.goto 16, 3) := by decide +kernel
theorem dX11_cellCame_138 : decode cX11_cellCame 138 = .ok (.aload_n 0, 1) := by decide +kernel
theorem dX11_cellCame_139 : decode cX11_cellCame 139 = .ok (.getfield 63, 3) := by decide +kernel
theorem dX11_cellCame_142 : decode cX11_cellCame 142 = .ok (.iload_n 1, 1) := by decide +kernel
theorem dX11_cellCame_143 : decode cX11_cellCame 143 = .ok (.iconst 2, 1) := by decide +kernel
theorem dX11_cellCame_144 : decode cX11_cellCame 144 = .ok (.idiv, 1) := by decide +kernel
theorem dX11_cellCame_145 : decode cX11_cellCame 145 = .ok (.aaload, 1) := by decide +kernel
theorem dX11_cellCame_146 : decode cX11_cellCame 146 = .ok (.iload 5, 2) := by decide +kernel
theorem dX11_cellCame_148 : decode cX11_cellCame 148 = .ok (.invokevirtual 189, 3) := by decide +kernel
theorem dX11_cellCame_151 : decode cX11_cellCame 151 = .ok (.astore 7, 2) := by decide +kernel
theorem dX11_cellCame_153 : decode cX11_cellCame 153 = .ok (.aload 7, 2) := by decide +kernel
theorem dX11_cellCame_155 : decode cX11_cellCame 155 = .ok (.ifnonnull 16, 3) := by decide +kernel
theorem dX11_cellCame_158 : decode cX11_cellCame 158 = .ok (.aload_n 2, 1) := by decide +kernel
theorem dX11_cellCame_159 : decode cX11_cellCame 159 = .ok (.dup, 1) := by decide +kernel
theorem dX11_cellCame_160 : decode cX11_cellCame 160 = .ok (.getfield 192, 3) := by decide +kernel
theorem dX11_cellCame_163 : decode cX11_cellCame 163 = .ok (.iconst 1, 1) := by decide +kernel
theorem dX11_cellCame_164 : decode cX11_cellCame 164 = .ok (.iadd, 1) := by decide +kernel
theorem dX11_cellCame_165 : decode cX11_cellCame 165 = .ok (.putfield 192, 3) := by decide +kernel
theorem dX11_cellCame_168 : decode cX11_cellCame 168 = .ok (.goto 69, 3) := by decide +kernel
theorem dX11_cellCame_171 : decode cX11_cellCame 171 = .ok (.iload_n 1, 1) := by decide +kernel
theorem dX11_cellCame_172 : decode cX11_cellCame 172 = .ok (.iconst 2, 1) := by decide +kernel
theorem dX11_cellCame_173 : decode cX11_cellCame 173 = .ok (.irem, 1) := by decide +kernel
theorem dX11_cellCame_174 : decode cX11_cellCame 174 = .ok (.ifCond .ne 23, 3) := by decide +kernel
theorem dX11_cellCame_177 : decode cX11_cellCame 177 = .ok (.aload_n 0, 1) := by decide +kernel
theorem dX11_cellCame_178 : decode cX11_cellCame 178 = .ok (.aload 7, 2) := by decide +kernel
theorem dX11_cellCame_180 : decode cX11_cellCame 180 = .ok (.getfield 195, 3) := by decide +kernel
theorem dX11_cellCame_183 : decode cX11_cellCame 183 = .ok (.iload_n 3, 1) := by decide +kernel
theorem dX11_cellCame_184 : decode cX11_cellCame 184 = .ok (.aload_n 2, 1) := by decide +kernel
theorem dX11_cellCame_185 : decode cX11_cellCame 185 = .ok (.getfield 119, 3) := by decide +kernel
theorem dX11_cellCame_188 : decode cX11_cellCame 188 = .ok (.getfield 175, 3) := by decide +kernel
theorem dX11_cellCame_191 : decode cX11_cellCame 191 = .ok (.invokevirtual 201, 3) := by decide +kernel
theorem dX11_cellCame_194 : decode cX11_cellCame 194 = .ok (.goto 43, 3) := by decide +kernel
theorem dX11_cellCame_197 : decode cX11_cellCame 197 = .ok (.aload_n 0, 1) := by decide +kernel
theorem dX11_cellCame_198 : decode cX11_cellCame 198 = .ok (.getfield 63, 3) := by decide +kernel
theorem dX11_cellCame_201 : decode cX11_cellCame 201 = .ok (.iload_n 1, 1) := by decide +kernel
theorem dX11_cellCame_202 : decode cX11_cellCame 202 = .ok (.iconst 2, 1) := by decide +kernel
theorem dX11_cellCame_203 : decode cX11_cellCame 203 = .ok (.idiv, 1) := by decide +kernel
theorem dX11_cellCame_204 : decode cX11_cellCame 204 = .ok (.aaload, 1) := by decide +kernel
theorem dX11_cellCame_205 : decode cX11_cellCame 205 = .ok (.aload 7, 2) := by decide +kernel
theorem dX11_cellCame_207 : decode cX11_cellCame 207 = .ok (.aload_n 2, 1) := by decide +kernel
theorem dX11_cellCame_208 : decode cX11_cellCame 208 = .ok (.getfield 119, 3) := by decide +kernel
theorem dX11_cellCame_211 : decode cX11_cellCame 211 = .ok (.getfield 175, 3) := by decide +kernel
theorem dX11_cellCame_214 : decode cX11_cellCame 214 = .ok (.iload 6, 2) := by decide +kernel
theorem dX11_cellCame_216 : decode cX11_cellCame 216 = .ok (.aload_n 0, 1) := by decide +kernel
theorem dX11_cellCame_217 : decode cX11_cellCame 217 = .ok (.getfield 82, 3) := by decide +kernel
theorem dX11_cellCame_220 : decode cX11_cellCame 220 = .ok (.invokevirtual 205, 3) := by decide +kernel
theorem dX11_cellCame_223 : decode cX11_cellCame 223 = .ok (.iconst 2, 1) := by decide +kernel
theorem dX11_cellCame_224 : decode cX11_cellCame 224 = .ok (.if_icmp .ne 13, 3) := by decide +kernel
theorem dX11_cellCame_227 : decode cX11_cellCame 227 = .ok (.aload_n 2, 1) := by decide +kernel
theorem dX11_cellCame_228 : decode cX11_cellCame 228 = .ok (.dup, 1) := by decide +kernel
theorem dX11_cellCame_229 : decode cX11_cellCame 229 = .ok (.getfield 182, 3) := by decide +kernel
theorem dX11_cellCame_232 : decode cX11_cellCame 232 = .ok (.iconst 1, 1) := by decide +kernel
theorem dX11_cellCame_233 : decode cX11_cellCame 233 = .ok (.iadd, 1) := by decide +kernel
theorem dX11_cellCame_234 : decode cX11_cellCame 234 = .ok (.putfield 182, 3) := by decide +kernel
theorem dX11_cellCame_237 : decode cX11_cellCame 237 = .ok (.iconst 0, 1) := by decide +kernel
theorem dX11_cellCame_238 : decode cX11_cellCame 238 = .ok (.ireturn, 1) := by decide +kernel
theorem dX11_passOn_0 : decode cX11_passOn 0 = .ok (.aload_n 1, 1) := by decide +kernel
theorem dX11_passOn_1 : decode cX11_passOn 1 = .ok (.ifnonnull 4, 3) := by decide +kernel
theorem dX11_passOn_4 : decode cX11_passOn 4 = .ok (.return_, 1) := by decide +kernel
theorem dX11_passOn_5 : decode cX11_passOn 5 = .ok (.iconst 2, 1) := by decide +kernel
theorem dX11_passOn_6 : decode cX11_passOn 6 = .ok (.aload_n 1, 1) := by decide +kernel
theorem dX11_passOn_7 : decode cX11_passOn 7 = .ok (.getfield 209, 3) := by decide +kernel
theorem dX11_passOn_10 : decode cX11_passOn 10 = .ok (.getfield 213, 3) := by decide +kernel
theorem dX11_passOn_13 : decode cX11_passOn 13 = .ok (.imul, 1) := by decide +kernel
theorem dX11_passOn_14 : decode cX11_passOn 14 = .ok (.iconst 1, 1) := by decide +kernel
theorem dX11_passOn_15 : decode cX11_passOn 15 = .ok (.iadd, 1) := by decide +kernel
theorem dX11_passOn_16 : decode cX11_passOn 16 = .ok (.istore 4, 2) := by decide +kernel
theorem dX11_passOn_18 : decode cX11_passOn 18 = .ok (.iload 4, 2) := by decide +kernel
theorem dX11_passOn_20 : decode cX11_passOn 20 = .ok (.aload_n 0, 1) := by decide +kernel
theorem dX11_passOn_21 : decode cX11_passOn 21 = .ok (.getfield 59, 3) := by decide +kernel
theorem dX11_passOn_24 : decode cX11_passOn 24 = .ok (.arraylength, 1) := by decide +kernel
theorem dX11_passOn_25 : decode cX11_passOn 25 = .ok (.if_icmp .ge 26, 3) := by decide +kernel
theorem dX11_passOn_28 : decode cX11_passOn 28 = .ok (.aload_n 0, 1) := by decide +kernel
theorem dX11_passOn_29 : decode cX11_passOn 29 = .ok (.getfield 59, 3) := by decide +kernel
theorem dX11_passOn_32 : decode cX11_passOn 32 = .ok (.iload 4, 2) := by decide +kernel
theorem dX11_passOn_34 : decode cX11_passOn 34 = .ok (.aaload, 1) := by decide +kernel
theorem dX11_passOn_35 : decode cX11_passOn 35 = .ok (.aload_n 1, 1) := by decide +kernel
theorem dX11_passOn_36 : decode cX11_passOn 36 = .ok (.getfield 216, 3) := by decide +kernel
theorem dX11_passOn_39 : decode cX11_passOn 39 = .ok (.iconst 4, 1) := by decide +kernel
theorem dX11_passOn_40 : decode cX11_passOn 40 = .ok (.ishl, 1) := by decide +kernel
theorem dX11_passOn_41 : decode cX11_passOn 41 = .ok (.iload_n 2, 1) := by decide +kernel
theorem dX11_passOn_42 : decode cX11_passOn 42 = .ok (.bipush 14, 2) := by decide +kernel
