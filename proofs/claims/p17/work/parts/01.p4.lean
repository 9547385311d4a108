theorem dX11_passOn_44 : decode cX11_passOn 44 = .ok (.iand, 1) := by decide +kernel
theorem dX11_passOn_45 : decode cX11_passOn 45 = .ok (.ior, 1) := by decide +kernel
theorem dX11_passOn_46 : decode cX11_passOn 46 = .ok (.aload_n 3, 1) := by decide +kernel
theorem dX11_passOn_47 : decode cX11_passOn 47 = .ok (.iconst 0, 1) := by decide +kernel
theorem dX11_passOn_48 : decode cX11_passOn 48 = .ok (.invokevirtual 219, 3) := by decide +kernel
theorem dX11_passOn_51 : decode cX11_passOn 51 = .ok (.return_, 1) := by decide +kernel
theorem dX11_call_0 : decode cX11_call 0 = .ok (.aload_n 0, 1) := by decide +kernel
theorem dX11_call_1 : decode cX11_call 1 = .ok (.iload_n 1, 1) := by decide +kernel
theorem dX11_call_2 : decode cX11_call 2 = .ok (.invokevirtual 223, 3) := by decide +kernel
theorem dX11_call_5 : decode cX11_call 5 = .ok (.ifCond .eq 26, 3) := by decide +kernel
theorem dX11_call_8 : decode cX11_call 8 = .ok (.aload_n 0, 1) := by decide +kernel
theorem dX11_call_9 : decode cX11_call 9 = .ok (.iload_n 2, 1) := by decide +kernel
theorem dX11_call_10 : decode cX11_call 10 = .ok (.invokevirtual 223, 3) := by decide +kernel
theorem dX11_call_13 : decode cX11_call 13 = .ok (.ifCond .eq 18, 3) := by decide +kernel
theorem dX11_call_16 : decode cX11_call 16 = .ok (.iload_n 1, 1) := by decide +kernel
theorem dX11_call_17 : decode cX11_call 17 = .ok (.iload_n 2, 1) := by decide +kernel
theorem dX11_call_18 : decode cX11_call 18 = .ok (.if_icmp .eq 13, 3) := by decide +kernel
theorem dX11_call_21 : decode cX11_call 21 = .ok (.iload_n 3, 1) := by decide +kernel
theorem dX11_call_22 : decode cX11_call 22 = .ok (.iconst 1, 1) := by decide +kernel
theorem dX11_call_23 : decode cX11_call 23 = .ok (.if_icmp .lt 8, 3) := by decide +kernel
theorem dX11_call_26 : decode cX11_call 26 = .ok (.iload_n 3, 1) := by decide +kernel
theorem dX11_call_27 : decode cX11_call 27 = .ok (.iconst 5, 1) := by decide +kernel
theorem dX11_call_28 : decode cX11_call 28 = .ok (.if_icmp .le 5, 3) := by decide +kernel
theorem dX11_call_31 : decode cX11_call 31 = .ok (.iconst (-1), 1) := by decide +kernel
theorem dX11_call_32 : decode cX11_call 32 = .ok (.ireturn, 1) := by decide +kernel
theorem dX11_call_33 : decode cX11_call 33 = .ok (.aload_n 0, 1) := by decide +kernel
theorem dX11_call_34 : decode cX11_call 34 = .ok (.getfield 63, 3) := by decide +kernel
theorem dX11_call_37 : decode cX11_call 37 = .ok (.iload_n 1, 1) := by decide +kernel
theorem dX11_call_38 : decode cX11_call 38 = .ok (.aaload, 1) := by decide +kernel
theorem dX11_call_39 : decode cX11_call 39 = .ok (.iload_n 2, 1) := by decide +kernel
theorem dX11_call_40 : decode cX11_call 40 = .ok (.iload_n 3, 1) := by decide +kernel
theorem dX11_call_41 : decode cX11_call 41 = .ok (.aload_n 0, 1) := by decide +kernel
theorem dX11_call_42 : decode cX11_call 42 = .ok (.getfield 82, 3) := by decide +kernel
theorem dX11_call_45 : decode cX11_call 45 = .ok (.invokevirtual 226, 3) := by decide +kernel
theorem dX11_call_48 : decode cX11_call 48 = .ok (.ireturn, 1) := by decide +kernel
theorem dX11_hang_0 : decode cX11_hang 0 = .ok (.aload_n 0, 1) := by decide +kernel
theorem dX11_hang_1 : decode cX11_hang 1 = .ok (.iload_n 1, 1) := by decide +kernel
theorem dX11_hang_2 : decode cX11_hang 2 = .ok (.iload_n 2, 1) := by decide +kernel
theorem dX11_hang_3 : decode cX11_hang 3 = .ok (.invokevirtual 229, 3) := by decide +kernel
theorem dX11_hang_6 : decode cX11_hang 6 = .ok (.astore_n 3, 1) := by decide +kernel
theorem dX11_hang_7 : decode cX11_hang 7 = .ok (.aload_n 3, 1) := by decide +kernel
theorem dX11_hang_8 : decode cX11_hang 8 = .ok (.ifnonnull 5, 3) := by decide +kernel
theorem dX11_hang_11 : decode cX11_hang 11 = .ok (.iconst (-1), 1) := by decide +kernel
theorem dX11_hang_12 : decode cX11_hang 12 = .ok (.ireturn, 1) := by decide +kernel
theorem dX11_hang_13 : decode cX11_hang 13 = .ok (.aload_n 3, 1) := by decide +kernel
theorem dX11_hang_14 : decode cX11_hang 14 = .ok (.getfield 233, 3) := by decide +kernel
theorem dX11_hang_17 : decode cX11_hang 17 = .ok (.ifCond .eq 12, 3) := by decide +kernel
theorem dX11_hang_20 : decode cX11_hang 20 = .ok (.aload_n 3, 1) := by decide +kernel
theorem dX11_hang_21 : decode cX11_hang 21 = .ok (.getfield 233, 3) := by decide +kernel
theorem dX11_hang_24 : decode cX11_hang 24 = .ok (.bipush 11, 2) := by decide +kernel
theorem dX11_hang_26 : decode cX11_hang 26 = .ok (.if_icmp .ne 5, 3) := by decide +kernel
theorem dX11_hang_29 : decode cX11_hang 29 = .ok (.iconst 0, 1) := by decide +kernel
theorem dX11_hang_30 : decode cX11_hang 30 = .ok (.ireturn, 1) := by decide +kernel
theorem dX11_hang_31 : decode cX11_hang 31 = .ok (.aload_n 3, 1) := by decide +kernel
theorem dX11_hang_32 : decode cX11_hang 32 = .ok (.bipush 16, 2) := by decide +kernel
theorem dX11_hang_34 : decode cX11_hang 34 = .ok (.aload_n 0, 1) := by decide +kernel
theorem dX11_hang_35 : decode cX11_hang 35 = .ok (.getfield 82, 3) := by decide +kernel
theorem dX11_hang_38 : decode cX11_hang 38 = .ok (.invokevirtual 236, 3) := by decide +kernel
theorem dX11_hang_41 : decode cX11_hang 41 = .ok (.iconst 1, 1) := by decide +kernel
theorem dX11_hang_42 : decode cX11_hang 42 = .ok (.ireturn, 1) := by decide +kernel
theorem dX11_policy_0 : decode cX11_policy 0 = .ok (.aload_n 0, 1) := by decide +kernel
theorem dX11_policy_1 : decode cX11_policy 1 = .ok (.iload_n 1, 1) := by decide +kernel
theorem dX11_policy_2 : decode cX11_policy 2 = .ok (.invokevirtual 223, 3) := by decide +kernel
theorem dX11_policy_5 : decode cX11_policy 5 = .ok (.ifCond .eq 12, 3) := by decide +kernel
theorem dX11_policy_8 : decode cX11_policy 8 = .ok (.iload_n 2, 1) := by decide +kernel
theorem dX11_policy_9 : decode cX11_policy 9 = .ok (.ifCond .lt 8, 3) := by decide +kernel
theorem dX11_policy_12 : decode cX11_policy 12 = .ok (.iload_n 2, 1) := by decide +kernel
theorem dX11_policy_13 : decode cX11_policy 13 = .ok (.iconst 2, 1) := by decide +kernel
theorem dX11_policy_14 : decode cX11_policy 14 = .ok (.if_icmp .le 5, 3) := by decide +kernel
theorem dX11_policy_17 : decode cX11_policy 17 = .ok (.iconst (-1), 1) := by decide +kernel
theorem dX11_policy_18 : decode cX11_policy 18 = .ok (.ireturn, 1) := by decide +kernel
theorem dX11_policy_19 : decode cX11_policy 19 = .ok (.iload_n 2, 1) := by decide +kernel
theorem dX11_policy_20 : decode cX11_policy 20 = .ok (.iconst 1, 1) := by decide +kernel
theorem dX11_policy_21 : decode cX11_policy 21 = .ok (.if_icmp .ne 16, 3) := by decide +kernel
theorem dX11_policy_24 : decode cX11_policy 24 = .ok (.iload_n 3, 1) := by decide +kernel
theorem dX11_policy_25 : decode cX11_policy 25 = .ok (.iconst 1, 1) := by decide +kernel
theorem dX11_policy_26 : decode cX11_policy 26 = .ok (.if_icmp .lt 9, 3) := by decide +kernel
theorem dX11_policy_29 : decode cX11_policy 29 = .ok (.iload_n 3, 1) := by decide +kernel
theorem dX11_policy_30 : decode cX11_policy 30 = .ok (.bipush 30, 2) := by decide +kernel
theorem dX11_policy_32 : decode cX11_policy 32 = .ok (.if_icmp .le 5, 3) := by decide +kernel
theorem dX11_policy_35 : decode cX11_policy 35 = .ok (.iconst (-1), 1) := by decide +kernel
theorem dX11_policy_36 : decode cX11_policy 36 = .ok (.ireturn, 1) := by decide +kernel
theorem dX11_policy_37 : decode cX11_policy 37 = .ok (.aload_n 0, 1) := by decide +kernel
theorem dX11_policy_38 : decode cX11_policy 38 = .ok (.getfield 63, 3) := by decide +kernel
theorem dX11_policy_41 : decode cX11_policy 41 = .ok (.iload_n 1, 1) := by decide +kernel
theorem dX11_policy_42 : decode cX11_policy 42 = .ok (.aaload, 1) := by decide +kernel
theorem dX11_policy_43 : decode cX11_policy 43 = .ok (.iload_n 2, 1) := by decide +kernel
theorem dX11_policy_44 : decode cX11_policy 44 = .ok (.putfield 240, 3) := by decide +kernel
theorem dX11_policy_47 : decode cX11_policy 47 = .ok (.aload_n 0, 1) := by decide +kernel
theorem dX11_policy_48 : decode cX11_policy 48 = .ok (.getfield 63, 3) := by decide +kernel
theorem dX11_policy_51 : decode cX11_policy 51 = .ok (.iload_n 1, 1) := by decide +kernel
theorem dX11_policy_52 : decode cX11_policy 52 = .ok (.aaload, 1) := by decide +kernel
theorem dX11_policy_53 : decode cX11_policy 53 = .ok (.iload_n 3, 1) := by decide +kernel
theorem dX11_policy_54 : decode cX11_policy 54 = .ok (.putfield 243, 3) := by decide +kernel
theorem dX11_policy_57 : decode cX11_policy 57 = .ok (.iconst 1, 1) := by decide +kernel
theorem dX11_policy_58 : decode cX11_policy 58 = .ok (.ireturn, 1) := by decide +kernel
theorem dX11_send_0 : decode cX11_send 0 = .ok (.aload_n 0, 1) := by decide +kernel
theorem dX11_send_1 : decode cX11_send 1 = .ok (.iload_n 1, 1) := by decide +kernel
theorem dX11_send_2 : decode cX11_send 2 = .ok (.iload_n 2, 1) := by decide +kernel
theorem dX11_send_3 : decode cX11_send 3 = .ok (.invokevirtual 229, 3) := by decide +kernel
theorem dX11_send_6 : decode cX11_send 6 = .ok (.astore_n 3, 1) := by decide +kernel
theorem dX11_send_7 : decode cX11_send 7 = .ok (.aload_n 3, 1) := by decide +kernel
theorem dX11_send_8 : decode cX11_send 8 = .ok (.ifnull 11, 3) := by decide +kernel
theorem dX11_send_11 : decode cX11_send 11 = .ok (.aload_n 0, 1) := by decide +kernel
theorem dX11_send_12 : decode cX11_send 12 = .ok (.getfield 75, 3) := by decide +kernel
theorem dX11_send_15 : decode cX11_send 15 = .ok (.iconst 1, 1) := by decide +kernel
theorem dX11_send_16 : decode cX11_send 16 = .ok (.if_icmp .ge 5, 3) := by decide +kernel
theorem dX11_send_19 : decode cX11_send 19 = .ok (.iconst (-1), 1) := by decide +kernel
theorem dX11_send_20 : decode cX11_send 20 = .ok (.ireturn, 1) := by decide +kernel
theorem dX11_send_21 : decode cX11_send 21 = .ok (.aload_n 3, 1) := by decide +kernel
theorem dX11_send_22 : decode cX11_send 22 = .ok (.getfield 233, 3) := by decide +kernel
theorem dX11_send_25 : decode cX11_send 25 = .ok (.bipush 10, 2) := by decide +kernel
theorem dX11_send_27 : decode cX11_send 27 = .ok (.if_icmp .eq 6, 3) := by decide +kernel
theorem dX11_send_30 : decode cX11_send 30 = .ok (.bipush (-2), 2) := by decide +kernel
theorem dX11_send_32 : decode cX11_send 32 = .ok (.ireturn, 1) := by decide +kernel
theorem dX11_send_33 : decode cX11_send 33 = .ok (.aload_n 3, 1) := by decide +kernel
theorem dX11_send_34 : decode cX11_send 34 = .ok (.aload_n 0, 1) := by decide +kernel
theorem dX11_send_35 : decode cX11_send 35 = .ok (.getfield 23, 3) := by decide +kernel
theorem dX11_send_38 : decode cX11_send 38 = .ok (.aload_n 0, 1) := by decide +kernel
theorem dX11_send_39 : decode cX11_send 39 = .ok (.getfield 75, 3) := by decide +kernel
theorem dX11_send_42 : decode cX11_send 42 = .ok (.invokevirtual 246, 3) := by decide +kernel
theorem dX11_send_45 : decode cX11_send 45 = .ok (.ifCond .ne 6, 3) := by decide +kernel
theorem dX11_send_48 : decode cX11_send 48 = .ok (.bipush (-3), 2) := by decide +kernel
theorem dX11_send_50 : decode cX11_send 50 = .ok (.ireturn, 1) := by decide +kernel
theorem dX11_send_51 : decode cX11_send 51 = .ok (.aload_n 0, 1) := by decide +kernel
theorem dX11_send_52 : decode cX11_send 52 = .ok (.iconst 0, 1) := by decide +kernel
theorem dX11_send_53 : decode cX11_send 53 = .ok (.putfield 75, 3) := by decide +kernel
theorem dX11_send_56 : decode cX11_send 56 = .ok (.aload_n 3, 1) := by decide +kernel
theorem dX11_send_57 : decode cX11_send 57 = .ok (.getfield 250, 3) := by decide +kernel
theorem dX11_send_60 : decode cX11_send 60 = .ok (.ireturn, 1) := by decide +kernel
theorem dX11_about_0 : decode cX11_about 0 = .ok (.aload_n 0, 1) := by decide +kernel
theorem dX11_about_1 : decode cX11_about 1 = .ok (.iload_n 1, 1) := by decide +kernel
theorem dX11_about_2 : decode cX11_about 2 = .ok (.iload_n 2, 1) := by decide +kernel
theorem dX11_about_3 : decode cX11_about 3 = .ok (.invokevirtual 229, 3) := by decide +kernel
theorem dX11_about_6 : decode cX11_about 6 = .ok (.astore 4, 2) := by decide +kernel
theorem dX11_about_8 : decode cX11_about 8 = .ok (.aload 4, 2) := by decide +kernel
theorem dX11_about_10 : decode cX11_about 10 = .ok (.ifnonnull 5, 3) := by decide +kernel
theorem dX11_about_13 : decode cX11_about 13 = .ok (.iconst (-1), 1) := by decide +kernel
theorem dX11_about_14 : decode cX11_about 14 = .ok (.ireturn, 1) := by decide +kernel
theorem dX11_about_15 : decode cX11_about 15 = .ok (.iload_n 3, 1) := by decide +kernel
theorem dX11_about_16 : decode cX11_about 16 = .ok (.tableswitch 106 0 6 #[44, 50, 76, 82, 88, 94, 100], 44) := by decide +kernel
theorem dX11_about_60 : decode cX11_about 60 = .ok (.aload 4, 2) := by decide +kernel
theorem dX11_about_62 : decode cX11_about 62 = .ok (.getfield 233, 3) := by decide +kernel
theorem dX11_about_65 : decode cX11_about 65 = .ok (.ireturn, 1) := by decide +kernel
theorem dX11_about_66 : decode cX11_about 66 = .ok (.aload 4, 2) := by decide +kernel
theorem dX11_about_68 : decode cX11_about 68 = .ok (.getfield 253, 3) := by decide +kernel
theorem dX11_about_71 : decode cX11_about 71 = .ok (.ifCond .eq 11, 3) := by decide +kernel
theorem dX11_about_74 : decode cX11_about 74 = .ok (.aload 4, 2) := by decide +kernel
theorem dX11_about_76 : decode cX11_about 76 = .ok (.getfield 256, 3) := by decide +kernel
theorem dX11_about_79 : decode cX11_about 79 = .ok (.goto 12, 3) := by decide +kernel
theorem dX11_about_82 : decode cX11_about 82 = .ok (.aload 4, 2) := by decide +kernel
theorem dX11_about_84 : decode cX11_about 84 = .ok (.getfield 256, 3) := by decide +kernel
theorem dX11_about_87 : decode cX11_about 87 = .ok (.sipush 1000, 3) := by decide +kernel
theorem dX11_about_90 : decode cX11_about 90 = .ok (.iadd, 1) := by decide +kernel
theorem dX11_about_91 : decode cX11_about 91 = .ok (.ireturn, 1) := by decide +kernel
theorem dX11_about_92 : decode cX11_about 92 = .ok (.aload 4, 2) := by decide +kernel
theorem dX11_about_94 : decode cX11_about 94 = .ok (.getfield 216, 3) := by decide +kernel
theorem dX11_about_97 : decode cX11_about 97 = .ok (.ireturn, 1) := by decide +kernel
theorem dX11_about_98 : decode cX11_about 98 = .ok (.aload 4, 2) := by decide +kernel
theorem dX11_about_100 : decode cX11_about 100 = .ok (.getfield 259, 3) := by decide +kernel
theorem dX11_about_103 : decode cX11_about 103 = .ok (.ireturn, 1) := by decide +kernel
theorem dX11_about_104 : decode cX11_about 104 = .ok (.aload 4, 2) := by decide +kernel
theorem dX11_about_106 : decode cX11_about 106 = .ok (.getfield 262, 3) := by decide +kernel
theorem dX11_about_109 : decode cX11_about 109 = .ok (.ireturn, 1) := by decide +kernel
theorem dX11_about_110 : decode cX11_about 110 = .ok (.aload 4, 2) := by decide +kernel
theorem dX11_about_112 : decode cX11_about 112 = .ok (.getfield 265, 3) := by decide +kernel
theorem dX11_about_115 : decode cX11_about 115 = .ok (.ireturn, 1) := by decide +kernel
theorem dX11_about_116 : decode cX11_about 116 = .ok (.aload 4, 2) := by decide +kernel
theorem dX11_about_118 : decode cX11_about 118 = .ok (.getfield 250, 3) := by decide +kernel
theorem dX11_about_121 : decode cX11_about 121 = .ok (.ireturn, 1) := by decide +kernel
theorem dX11_about_122 : decode cX11_about 122 = .ok (.iconst (-1), 1) := by decide +kernel
theorem dX11_about_123 : decode cX11_about 123 = .ok (.ireturn, 1) := by decide +kernel
theorem dX11_calls_0 : decode cX11_calls 0 = .ok (.aload_n 0, 1) := by decide +kernel
theorem dX11_calls_1 : decode cX11_calls 1 = .ok (.iload_n 1, 1) := by decide +kernel
theorem dX11_calls_2 : decode cX11_calls 2 = .ok (.invokevirtual 223, 3) := by decide +kernel
theorem dX11_calls_5 : decode cX11_calls 5 = .ok (.ifCond .eq 15, 3) := by decide +kernel
theorem dX11_calls_8 : decode cX11_calls 8 = .ok (.aload_n 0, 1) := by decide +kernel
theorem dX11_calls_9 : decode cX11_calls 9 = .ok (.getfield 63, 3) := by decide +kernel
theorem dX11_calls_12 : decode cX11_calls 12 = .ok (.iload_n 1, 1) := by decide +kernel
theorem dX11_calls_13 : decode cX11_calls 13 = .ok (.aaload, 1) := by decide +kernel
theorem dX11_calls_14 : decode cX11_calls 14 = .ok (.getfield 268, 3) := by decide +kernel
theorem dX11_calls_17 : decode cX11_calls 17 = .ok (.goto 4, 3) := by decide +kernel
theorem dX11_calls_20 : decode cX11_calls 20 = .ok (.iconst (-1), 1) := by decide +kernel
theorem dX11_calls_21 : decode cX11_calls 21 = .ok (.ireturn, 1) := by decide +kernel
theorem dX11_received_0 : decode cX11_received 0 = .ok (.aload_n 0, 1) := by decide +kernel
theorem dX11_received_1 : decode cX11_received 1 = .ok (.iload_n 1, 1) := by decide +kernel
theorem dX11_received_2 : decode cX11_received 2 = .ok (.invokevirtual 223, 3) := by decide +kernel
theorem dX11_received_5 : decode cX11_received 5 = .ok (.ifCond .ne 5, 3) := by decide +kernel
theorem dX11_received_8 : decode cX11_received 8 = .ok (.iconst (-1), 1) := by decide +kernel
theorem dX11_received_9 : decode cX11_received 9 = .ok (.ireturn, 1) := by decide +kernel
theorem dX11_received_10 : decode cX11_received 10 = .ok (.aload_n 0, 1) := by decide +kernel
theorem dX11_received_11 : decode cX11_received 11 = .ok (.getfield 63, 3) := by decide +kernel
theorem dX11_received_14 : decode cX11_received 14 = .ok (.iload_n 1, 1) := by decide +kernel
theorem dX11_received_15 : decode cX11_received 15 = .ok (.aaload, 1) := by decide +kernel
theorem dX11_received_16 : decode cX11_received 16 = .ok (.astore 4, 2) := by decide +kernel
theorem dX11_received_18 : decode cX11_received 18 = .ok (.iload_n 2, 1) := by decide +kernel
theorem dX11_received_19 : decode cX11_received 19 = .ok (.iconst (-1), 1) := by decide +kernel
theorem dX11_received_20 : decode cX11_received 20 = .ok (.if_icmp .ne 17, 3) := by decide +kernel
theorem dX11_received_23 : decode cX11_received 23 = .ok (.iload_n 3, 1) := by decide +kernel
theorem dX11_received_24 : decode cX11_received 24 = .ok (.ifCond .ne 11, 3) := by decide +kernel
theorem dX11_received_27 : decode cX11_received 27 = .ok (.aload 4, 2) := by decide +kernel
theorem dX11_received_29 : decode cX11_received 29 = .ok (.getfield 271, 3) := by decide +kernel
theorem dX11_received_32 : decode cX11_received 32 = .ok (.goto 4, 3) := by decide +kernel
theorem dX11_received_35 : decode cX11_received 35 = .ok (.iconst (-1), 1) := by decide +kernel
theorem dX11_received_36 : decode cX11_received 36 = .ok (.ireturn, 1) := by decide +kernel
theorem dX11_received_37 : decode cX11_received 37 = .ok (.aload 4, 2) := by decide +kernel
theorem dX11_received_39 : decode cX11_received 39 = .ok (.iload_n 2, 1) := by decide +kernel
theorem dX11_received_40 : decode cX11_received 40 = .ok (.invokevirtual 274, 3) := by decide +kernel
theorem dX11_received_43 : decode cX11_received 43 = .ok (.istore 5, 2) := by decide +kernel
theorem dX11_received_45 : decode cX11_received 45 = .ok (.iload 5, 2) := by decide +kernel
theorem dX11_received_47 : decode cX11_received 47 = .ok (.ifCond .ge 5, 3) := by decide +kernel
theorem dX11_received_50 : decode cX11_received 50 = .ok (.iconst (-1), 1) := by decide +kernel
theorem dX11_received_51 : decode cX11_received 51 = .ok (.ireturn, 1) := by decide +kernel
theorem dX11_received_52 : decode cX11_received 52 = .ok (.iload_n 3, 1) := by decide +kernel
theorem dX11_received_53 : decode cX11_received 53 = .ok (.tableswitch 54 0 2 #[27, 36, 45], 27) := by decide +kernel
theorem dX11_received_80 : decode cX11_received 80 = .ok (.aload 4, 2) := by decide +kernel
theorem dX11_received_82 : decode cX11_received 82 = .ok (.getfield 278, 3) := by decide +kernel
theorem dX11_received_85 : decode cX11_received 85 = .ok (.iload 5, 2) := by decide +kernel
theorem dX11_received_87 : decode cX11_received 87 = .ok (.iaload, 1) := by decide +kernel
theorem dX11_received_88 : decode cX11_received 88 = .ok (.ireturn, 1) := by decide +kernel
theorem dX11_received_89 : decode cX11_received 89 = .ok (.aload 4, 2) := by decide +kernel
theorem dX11_received_91 : decode cX11_received 91 = .ok (.getfield 281, 3) := by decide +kernel
theorem dX11_received_94 : decode cX11_received 94 = .ok (.iload 5, 2) := by decide +kernel
theorem dX11_received_96 : decode cX11_received 96 = .ok (.iaload, 1) := by decide +kernel
theorem dX11_received_97 : decode cX11_received 97 = .ok (.ireturn, 1) := by decide +kernel
theorem dX11_received_98 : decode cX11_received 98 = .ok (.aload 4, 2) := by decide +kernel
theorem dX11_received_100 : decode cX11_received 100 = .ok (.getfield 284, 3) := by decide +kernel
theorem dX11_received_103 : decode cX11_received 103 = .ok (.iload 5, 2) := by decide +kernel
theorem dX11_received_105 : decode cX11_received 105 = .ok (.iaload, 1) := by decide +kernel
theorem dX11_received_106 : decode cX11_received 106 = .ok (.ireturn, 1) := by decide +kernel
theorem dX11_received_107 : decode cX11_received 107 = .ok (.iconst (-1), 1) := by decide +kernel
theorem dX11_received_108 : decode cX11_received 108 = .ok (.ireturn, 1) := by decide +kernel
theorem dX11_byteOf_0 : decode cX11_byteOf 0 = .ok (.aload_n 0, 1) := by decide +kernel
theorem dX11_byteOf_1 : decode cX11_byteOf 1 = .ok (.iload_n 1, 1) := by decide +kernel
theorem dX11_byteOf_2 : decode cX11_byteOf 2 = .ok (.invokevirtual 223, 3) := by decide +kernel
theorem dX11_byteOf_5 : decode cX11_byteOf 5 = .ok (.ifCond .ne 5, 3) := by decide +kernel
theorem dX11_byteOf_8 : decode cX11_byteOf 8 = .ok (.iconst (-1), 1) := by decide +kernel
theorem dX11_byteOf_9 : decode cX11_byteOf 9 = .ok (.ireturn, 1) := by decide +kernel
theorem dX11_byteOf_10 : decode cX11_byteOf 10 = .ok (.aload_n 0, 1) := by decide +kernel
theorem dX11_byteOf_11 : decode cX11_byteOf 11 = .ok (.getfield 63, 3) := by decide +kernel
theorem dX11_byteOf_14 : decode cX11_byteOf 14 = .ok (.iload_n 1, 1) := by decide +kernel
theorem dX11_byteOf_15 : decode cX11_byteOf 15 = .ok (.aaload, 1) := by decide +kernel
theorem dX11_byteOf_16 : decode cX11_byteOf 16 = .ok (.astore 4, 2) := by decide +kernel
theorem dX11_byteOf_18 : decode cX11_byteOf 18 = .ok (.aload 4, 2) := by decide +kernel
theorem dX11_byteOf_20 : decode cX11_byteOf 20 = .ok (.iload_n 2, 1) := by decide +kernel
theorem dX11_byteOf_21 : decode cX11_byteOf 21 = .ok (.invokevirtual 274, 3) := by decide +kernel
theorem dX11_byteOf_24 : decode cX11_byteOf 24 = .ok (.istore 5, 2) := by decide +kernel
theorem dX11_byteOf_26 : decode cX11_byteOf 26 = .ok (.iload 5, 2) := by decide +kernel
theorem dX11_byteOf_28 : decode cX11_byteOf 28 = .ok (.ifCond .lt 19, 3) := by decide +kernel
theorem dX11_byteOf_31 : decode cX11_byteOf 31 = .ok (.iload_n 3, 1) := by decide +kernel
theorem dX11_byteOf_32 : decode cX11_byteOf 32 = .ok (.ifCond .lt 15, 3) := by decide +kernel
theorem dX11_byteOf_35 : decode cX11_byteOf 35 = .ok (.iload_n 3, 1) := by decide +kernel
theorem dX11_byteOf_36 : decode cX11_byteOf 36 = .ok (.aload 4, 2) := by decide +kernel
theorem dX11_byteOf_38 : decode cX11_byteOf 38 = .ok (.getfield 281, 3) := by decide +kernel
theorem dX11_byteOf_41 : decode cX11_byteOf 41 = .ok (.iload 5, 2) := by decide +kernel
theorem dX11_byteOf_43 : decode cX11_byteOf 43 = .ok (.iaload, 1) := by decide +kernel
theorem dX11_byteOf_44 : decode cX11_byteOf 44 = .ok (.if_icmp .lt 5, 3) := by decide +kernel
theorem dX11_byteOf_47 : decode cX11_byteOf 47 = .ok (.iconst (-1), 1) := by decide +kernel
theorem dX11_byteOf_48 : decode cX11_byteOf 48 = .ok (.ireturn, 1) := by decide +kernel
theorem dX11_byteOf_49 : decode cX11_byteOf 49 = .ok (.aload 4, 2) := by decide +kernel
theorem dX11_byteOf_51 : decode cX11_byteOf 51 = .ok (.getfield 287, 3) := by decide +kernel
theorem dX11_byteOf_54 : decode cX11_byteOf 54 = .ok (.iload 5, 2) := by decide +kernel
theorem dX11_byteOf_56 : decode cX11_byteOf 56 = .ok (.sipush 200, 3) := by decide +kernel
theorem dX11_byteOf_59 : decode cX11_byteOf 59 = .ok (.imul, 1) := by decide +kernel
theorem dX11_byteOf_60 : decode cX11_byteOf 60 = .ok (.iload_n 3, 1) := by decide +kernel
theorem dX11_byteOf_61 : decode cX11_byteOf 61 = .ok (.iadd, 1) := by decide +kernel
theorem dX11_byteOf_62 : decode cX11_byteOf 62 = .ok (.iaload, 1) := by decide +kernel
theorem dX11_byteOf_63 : decode cX11_byteOf 63 = .ok (.ireturn, 1) := by decide +kernel
theorem dX11_isEnd_0 : decode cX11_isEnd 0 = .ok (.iload_n 1, 1) := by decide +kernel
theorem dX11_isEnd_1 : decode cX11_isEnd 1 = .ok (.ifCond .lt 15, 3) := by decide +kernel
theorem dX11_isEnd_4 : decode cX11_isEnd 4 = .ok (.iload_n 1, 1) := by decide +kernel
theorem dX11_isEnd_5 : decode cX11_isEnd 5 = .ok (.aload_n 0, 1) := by decide +kernel
theorem dX11_isEnd_6 : decode cX11_isEnd 6 = .ok (.getfield 55, 3) := by decide +kernel
theorem dX11_isEnd_9 : decode cX11_isEnd 9 = .ok (.if_icmp .ge 7, 3) := by decide +kernel
theorem dX11_isEnd_12 : decode cX11_isEnd 12 = .ok (.iconst 1, 1) := by decide +kernel
theorem dX11_isEnd_13 : decode cX11_isEnd 13 = .ok (.goto 4, 3) := by decide +kernel
theorem dX11_isEnd_16 : decode cX11_isEnd 16 = .ok (.iconst 0, 1) := by decide +kernel
theorem dX11_isEnd_17 : decode cX11_isEnd 17 = .ok (.ireturn, 1) := by decide +kernel
theorem dX11_callAt_0 : decode cX11_callAt 0 = .ok (.aload_n 0, 1) := by decide +kernel
theorem dX11_callAt_1 : decode cX11_callAt 1 = .ok (.iload_n 1, 1) := by decide +kernel
theorem dX11_callAt_2 : decode cX11_callAt 2 = .ok (.invokevirtual 223, 3) := by decide +kernel
theorem dX11_callAt_5 : decode cX11_callAt 5 = .ok (.ifCond .eq 20, 3) := by decide +kernel
theorem dX11_callAt_8 : decode cX11_callAt 8 = .ok (.iload_n 2, 1) := by decide +kernel
theorem dX11_callAt_9 : decode cX11_callAt 9 = .ok (.ifCond .lt 16, 3) := by decide +kernel
theorem dX11_callAt_12 : decode cX11_callAt 12 = .ok (.iload_n 2, 1) := by decide +kernel
theorem dX11_callAt_13 : decode cX11_callAt 13 = .ok (.aload_n 0, 1) := by decide +kernel
theorem dX11_callAt_14 : decode cX11_callAt 14 = .ok (.getfield 63, 3) := by decide +kernel
theorem dX11_callAt_17 : decode cX11_callAt 17 = .ok (.iload_n 1, 1) := by decide +kernel
theorem dX11_callAt_18 : decode cX11_callAt 18 = .ok (.aaload, 1) := by decide +kernel
theorem dX11_callAt_19 : decode cX11_callAt 19 = .ok (.getfield 268, 3) := by decide +kernel
theorem dX11_callAt_22 : decode cX11_callAt 22 = .ok (.if_icmp .lt 5, 3) := by decide +kernel
theorem dX11_callAt_25 : decode cX11_callAt 25 = .ok (.aconst_null, 1) := by decide +kernel
theorem dX11_callAt_26 : decode cX11_callAt 26 = .ok (.areturn, 1) := by decide +kernel
theorem dX11_callAt_27 : decode cX11_callAt 27 = .ok (.aload_n 0, 1) := by decide +kernel
theorem dX11_callAt_28 : decode cX11_callAt 28 = .ok (.getfield 63, 3) := by decide +kernel
theorem dX11_callAt_31 : decode cX11_callAt 31 = .ok (.iload_n 1, 1) := by decide +kernel
theorem dX11_callAt_32 : decode cX11_callAt 32 = .ok (.aaload, 1) := by decide +kernel
theorem dX11_callAt_33 : decode cX11_callAt 33 = .ok (.getfield 290, 3) := by decide +kernel
theorem dX11_callAt_36 : decode cX11_callAt 36 = .ok (.iload_n 2, 1) := by decide +kernel
theorem dX11_callAt_37 : decode cX11_callAt 37 = .ok (.aaload, 1) := by decide +kernel
theorem dX11_callAt_38 : decode cX11_callAt 38 = .ok (.areturn, 1) := by decide +kernel
theorem dX11_link_0 : decode cX11_link 0 = .ok (.aload_n 0, 1) := by decide +kernel
theorem dX11_link_1 : decode cX11_link 1 = .ok (.iload_n 1, 1) := by decide +kernel
theorem dX11_link_2 : decode cX11_link 2 = .ok (.invokevirtual 223, 3) := by decide +kernel
theorem dX11_link_5 : decode cX11_link 5 = .ok (.ifCond .ne 5, 3) := by decide +kernel
theorem dX11_link_8 : decode cX11_link 8 = .ok (.iconst (-1), 1) := by decide +kernel
theorem dX11_link_9 : decode cX11_link 9 = .ok (.ireturn, 1) := by decide +kernel
theorem dX11_link_10 : decode cX11_link 10 = .ok (.aload_n 0, 1) := by decide +kernel
theorem dX11_link_11 : decode cX11_link 11 = .ok (.getfield 67, 3) := by decide +kernel
theorem dX11_link_14 : decode cX11_link 14 = .ok (.iload_n 1, 1) := by decide +kernel
theorem dX11_link_15 : decode cX11_link 15 = .ok (.aaload, 1) := by decide +kernel
theorem dX11_link_16 : decode cX11_link 16 = .ok (.astore 4, 2) := by decide +kernel
theorem dX11_link_18 : decode cX11_link 18 = .ok (.iload_n 2, 1) := by decide +kernel
theorem dX11_link_19 : decode cX11_link 19 = .ok (.tableswitch 54 0 3 #[29, 35, 41, 47], 29) := by decide +kernel
theorem dX11_link_48 : decode cX11_link 48 = .ok (.aload 4, 2) := by decide +kernel
theorem dX11_link_50 : decode cX11_link 50 = .ok (.invokevirtual 294, 3) := by decide +kernel
theorem dX11_link_53 : decode cX11_link 53 = .ok (.ireturn, 1) := by decide +kernel
theorem dX11_link_54 : decode cX11_link 54 = .ok (.aload 4, 2) := by decide +kernel
theorem dX11_link_56 : decode cX11_link 56 = .ok (.invokevirtual 297, 3) := by decide +kernel
theorem dX11_link_59 : decode cX11_link 59 = .ok (.ireturn, 1) := by decide +kernel
theorem dX11_link_60 : decode cX11_link 60 = .ok (.aload 4, 2) := by decide +kernel
theorem dX11_link_62 : decode cX11_link 62 = .ok (.invokevirtual 300, 3) := by decide +kernel
theorem dX11_link_65 : decode cX11_link 65 = .ok (.ireturn, 1) := by decide +kernel
theorem dX11_link_66 : decode cX11_link 66 = .ok (.aload 4, 2) := by decide +kernel
theorem dX11_link_68 : decode cX11_link 68 = .ok (.iload_n 3, 1) := by decide +kernel
theorem dX11_link_69 : decode cX11_link 69 = .ok (.invokevirtual 303, 3) := by decide +kernel
theorem dX11_link_72 : decode cX11_link 72 = .ok (.ireturn, 1) := by decide +kernel
theorem dX11_link_73 : decode cX11_link 73 = .ok (.iconst (-1), 1) := by decide +kernel
theorem dX11_link_74 : decode cX11_link 74 = .ok (.ireturn, 1) := by decide +kernel
theorem dX11_line_0 : decode cX11_line 0 = .ok (.aload_n 0, 1) := by decide +kernel
theorem dX11_line_1 : decode cX11_line 1 = .ok (.iload_n 1, 1) := by decide +kernel
theorem dX11_line_2 : decode cX11_line 2 = .ok (.invokevirtual 306, 3) := by decide +kernel
theorem dX11_line_5 : decode cX11_line 5 = .ok (.ifCond .eq 19, 3) := by decide +kernel
theorem dX11_line_8 : decode cX11_line 8 = .ok (.aload_n 0, 1) := by decide +kernel
theorem dX11_line_9 : decode cX11_line 9 = .ok (.getfield 71, 3) := by decide +kernel
theorem dX11_line_12 : decode cX11_line 12 = .ok (.iload_n 1, 1) := by decide +kernel
theorem dX11_line_13 : decode cX11_line 13 = .ok (.aaload, 1) := by decide +kernel
theorem dX11_line_14 : decode cX11_line 14 = .ok (.getfield 85, 3) := by decide +kernel
theorem dX11_line_17 : decode cX11_line 17 = .ok (.iload_n 2, 1) := by decide +kernel
theorem dX11_line_18 : decode cX11_line 18 = .ok (.invokevirtual 309, 3) := by decide +kernel
theorem dX11_line_21 : decode cX11_line 21 = .ok (.goto 4, 3) := by decide +kernel
theorem dX11_line_24 : decode cX11_line 24 = .ok (.iconst (-1), 1) := by decide +kernel
theorem dX11_line_25 : decode cX11_line 25 = .ok (.ireturn, 1) := by decide +kernel
theorem dX11_reset_0 : decode cX11_reset 0 = .ok (.aload_n 0, 1) := by decide +kernel
theorem dX11_reset_1 : decode cX11_reset 1 = .ok (.iload_n 1, 1) := by decide +kernel
theorem dX11_reset_2 : decode cX11_reset 2 = .ok (.invokevirtual 306, 3) := by decide +kernel
theorem dX11_reset_5 : decode cX11_reset 5 = .ok (.ifCond .ne 5, 3) := by decide +kernel
theorem dX11_reset_8 : decode cX11_reset 8 = .ok (.iconst (-1), 1) := by decide +kernel
theorem dX11_reset_9 : decode cX11_reset 9 = .ok (.ireturn, 1) := by decide +kernel
theorem dX11_reset_10 : decode cX11_reset 10 = .ok (.aload_n 0, 1) := by decide +kernel
theorem dX11_reset_11 : decode cX11_reset 11 = .ok (.getfield 71, 3) := by decide +kernel
theorem dX11_reset_14 : decode cX11_reset 14 = .ok (.iload_n 1, 1) := by decide +kernel
theorem dX11_reset_15 : decode cX11_reset 15 = .ok (.aaload, 1) := by decide +kernel
theorem dX11_reset_16 : decode cX11_reset 16 = .ok (.getfield 85, 3) := by decide +kernel
theorem dX11_reset_19 : decode cX11_reset 19 = .ok (.astore_n 2, 1) := by decide +kernel
theorem dX11_reset_20 : decode cX11_reset 20 = .ok (.aload_n 2, 1) := by decide +kernel
theorem dX11_reset_21 : decode cX11_reset 21 = .ok (.getfield 312, 3) := by decide +kernel
theorem dX11_reset_24 : decode cX11_reset 24 = .ok (.iconst 2, 1) := by decide +kernel
theorem dX11_reset_25 : decode cX11_reset 25 = .ok (.if_icmp .eq 5, 3) := by decide +kernel
theorem dX11_reset_28 : decode cX11_reset 28 = .ok (.iconst 0, 1) := by decide +kernel
theorem dX11_reset_29 : decode cX11_reset 29 = .ok (.ireturn, 1) := by decide +kernel
theorem dX11_reset_30 : decode cX11_reset 30 = .ok (.aload_n 2, 1) := by decide +kernel
theorem dX11_reset_31 : decode cX11_reset 31 = .ok (.iconst 3, 1) := by decide +kernel
theorem dX11_reset_32 : decode cX11_reset 32 = .ok (.iconst 5, 1) := by decide +kernel
theorem dX11_reset_33 : decode cX11_reset 33 = .ok (.aload_n 0, 1) := by decide +kernel
theorem dX11_reset_34 : decode cX11_reset 34 = .ok (.getfield 82, 3) := by decide +kernel
theorem dX11_reset_37 : decode cX11_reset 37 = .ok (.invokevirtual 155, 3) := by decide +kernel
theorem dX11_reset_40 : decode cX11_reset 40 = .ok (.iconst 1, 1) := by decide +kernel
theorem dX11_reset_41 : decode cX11_reset 41 = .ok (.ireturn, 1) := by decide +kernel
theorem dX11_quit_0 : decode cX11_quit 0 = .ok (.aload_n 0, 1) := by decide +kernel
theorem dX11_quit_1 : decode cX11_quit 1 = .ok (.iload_n 1, 1) := by decide +kernel
theorem dX11_quit_2 : decode cX11_quit 2 = .ok (.invokevirtual 306, 3) := by decide +kernel
theorem dX11_quit_5 : decode cX11_quit 5 = .ok (.ifCond .ne 5, 3) := by decide +kernel
theorem dX11_quit_8 : decode cX11_quit 8 = .ok (.iconst (-1), 1) := by decide +kernel
theorem dX11_quit_9 : decode cX11_quit 9 = .ok (.ireturn, 1) := by decide +kernel
theorem dX11_quit_10 : decode cX11_quit 10 = .ok (.aload_n 0, 1) := by decide +kernel
theorem dX11_quit_11 : decode cX11_quit 11 = .ok (.getfield 71, 3) := by decide +kernel
theorem dX11_quit_14 : decode cX11_quit 14 = .ok (.iload_n 1, 1) := by decide +kernel
theorem dX11_quit_15 : decode cX11_quit 15 = .ok (.aaload, 1) := by decide +kernel
theorem dX11_quit_16 : decode cX11_quit 16 = .ok (.getfield 85, 3) := by decide +kernel
theorem dX11_quit_19 : decode cX11_quit 19 = .ok (.astore_n 2, 1) := by decide +kernel
theorem dX11_quit_20 : decode cX11_quit 20 = .ok (.aload_n 2, 1) := by decide +kernel
theorem dX11_quit_21 : decode cX11_quit 21 = .ok (.getfield 312, 3) := by decide +kernel
theorem dX11_quit_24 : decode cX11_quit 24 = .ok (.iconst 2, 1) := by decide +kernel
theorem dX11_quit_25 : decode cX11_quit 25 = .ok (.if_icmp .eq 5, 3) := by decide +kernel
theorem dX11_quit_28 : decode cX11_quit 28 = .ok (.iconst 0, 1) := by decide +kernel
theorem dX11_quit_29 : decode cX11_quit 29 = .ok (.ireturn, 1) := by decide +kernel
theorem dX11_quit_30 : decode cX11_quit 30 = .ok (.aload_n 2, 1) := by decide +kernel
theorem dX11_quit_31 : decode cX11_quit 31 = .ok (.getfield 313, 3) := by decide +kernel
theorem dX11_quit_34 : decode cX11_quit 34 = .ok (.invokevirtual 317, 3) := by decide +kernel
theorem dX11_quit_37 : decode cX11_quit 37 = .ok (.aload_n 2, 1) := by decide +kernel
theorem dX11_quit_38 : decode cX11_quit 38 = .ok (.iconst 4, 1) := by decide +kernel
theorem dX11_quit_39 : decode cX11_quit 39 = .ok (.iconst 3, 1) := by decide +kernel
theorem dX11_quit_40 : decode cX11_quit 40 = .ok (.aload_n 0, 1) := by decide +kernel
theorem dX11_quit_41 : decode cX11_quit 41 = .ok (.getfield 82, 3) := by decide +kernel
theorem dX11_quit_44 : decode cX11_quit 44 = .ok (.invokevirtual 155, 3) := by decide +kernel
theorem dX11_quit_47 : decode cX11_quit 47 = .ok (.aload_n 0, 1) := by decide +kernel
theorem dX11_quit_48 : decode cX11_quit 48 = .ok (.getfield 71, 3) := by decide +kernel
theorem dX11_quit_51 : decode cX11_quit 51 = .ok (.iload_n 1, 1) := by decide +kernel
theorem dX11_quit_52 : decode cX11_quit 52 = .ok (.aaload, 1) := by decide +kernel
theorem dX11_quit_53 : decode cX11_quit 53 = .ok (.aload_n 0, 1) := by decide +kernel
theorem dX11_quit_54 : decode cX11_quit 54 = .ok (.getfield 82, 3) := by decide +kernel
theorem dX11_quit_57 : decode cX11_quit 57 = .ok (.invokevirtual 93, 3) := by decide +kernel
theorem dX11_quit_60 : decode cX11_quit 60 = .ok (.iconst 1, 1) := by decide +kernel
theorem dX11_quit_61 : decode cX11_quit 61 = .ok (.ireturn, 1) := by decide +kernel
theorem dX11_isSide_0 : decode cX11_isSide 0 = .ok (.iload_n 1, 1) := by decide +kernel
theorem dX11_isSide_1 : decode cX11_isSide 1 = .ok (.ifCond .lt 16, 3) := by decide +kernel
theorem dX11_isSide_4 : decode cX11_isSide 4 = .ok (.iload_n 1, 1) := by decide +kernel
theorem dX11_isSide_5 : decode cX11_isSide 5 = .ok (.aload_n 0, 1) := by decide +kernel
theorem dX11_isSide_6 : decode cX11_isSide 6 = .ok (.getfield 71, 3) := by decide +kernel
theorem dX11_isSide_9 : decode cX11_isSide 9 = .ok (.arraylength, 1) := by decide +kernel
theorem dX11_isSide_10 : decode cX11_isSide 10 = .ok (.if_icmp .ge 7, 3) := by decide +kernel
theorem dX11_isSide_13 : decode cX11_isSide 13 = .ok (.iconst 1, 1) := by decide +kernel
theorem dX11_isSide_14 : decode cX11_isSide 14 = .ok (.goto 4, 3) := by decide +kernel
theorem dX11_isSide_17 : decode cX11_isSide 17 = .ok (.iconst 0, 1) := by decide +kernel
theorem dX11_isSide_18 : decode cX11_isSide 18 = .ok (.ireturn, 1) := by decide +kernel
theorem dX11_damage_0 : decode cX11_damage 0 = .ok (.aload_n 0, 1) := by decide +kernel
theorem dX11_damage_1 : decode cX11_damage 1 = .ok (.iload_n 1, 1) := by decide +kernel
theorem dX11_damage_2 : decode cX11_damage 2 = .ok (.invokevirtual 322, 3) := by decide +kernel
theorem dX11_damage_5 : decode cX11_damage 5 = .ok (.ifCond .eq 23, 3) := by decide +kernel
theorem dX11_damage_8 : decode cX11_damage 8 = .ok (.iload_n 2, 1) := by decide +kernel
theorem dX11_damage_9 : decode cX11_damage 9 = .ok (.ifCond .lt 19, 3) := by decide +kernel
theorem dX11_damage_12 : decode cX11_damage 12 = .ok (.iload_n 2, 1) := by decide +kernel
theorem dX11_damage_13 : decode cX11_damage 13 = .ok (.iconst 2, 1) := by decide +kernel
theorem dX11_damage_14 : decode cX11_damage 14 = .ok (.if_icmp .gt 14, 3) := by decide +kernel
theorem dX11_damage_17 : decode cX11_damage 17 = .ok (.iload_n 3, 1) := by decide +kernel
theorem dX11_damage_18 : decode cX11_damage 18 = .ok (.ifCond .lt 10, 3) := by decide +kernel
theorem dX11_damage_21 : decode cX11_damage 21 = .ok (.iload_n 3, 1) := by decide +kernel
theorem dX11_damage_22 : decode cX11_damage 22 = .ok (.sipush 999, 3) := by decide +kernel
theorem dX11_damage_25 : decode cX11_damage 25 = .ok (.if_icmp .le 5, 3) := by decide +kernel
theorem dX11_damage_28 : decode cX11_damage 28 = .ok (.iconst (-1), 1) := by decide +kernel
theorem dX11_damage_29 : decode cX11_damage 29 = .ok (.ireturn, 1) := by decide +kernel
theorem dX11_damage_30 : decode cX11_damage 30 = .ok (.iload_n 2, 1) := by decide +kernel
theorem dX11_damage_31 : decode cX11_damage 31 = .ok (.iconst 1, 1) := by decide +kernel
theorem dX11_damage_32 : decode cX11_damage 32 = .ok (.if_icmp .ne 31, 3) := by decide +kernel
theorem dX11_damage_35 : decode cX11_damage 35 = .ok (.iload 4, 2) := by decide +kernel
theorem dX11_damage_37 : decode cX11_damage 37 = .ok (.ifCond .lt 24, 3) := by decide +kernel
theorem dX11_damage_40 : decode cX11_damage 40 = .ok (.iload 4, 2) := by decide +kernel
theorem dX11_damage_42 : decode cX11_damage 42 = .ok (.bipush 53, 2) := by decide +kernel
theorem dX11_damage_44 : decode cX11_damage 44 = .ok (.if_icmp .ge 17, 3) := by decide +kernel
theorem dX11_damage_47 : decode cX11_damage 47 = .ok (.iload 5, 2) := by decide +kernel
theorem dX11_damage_49 : decode cX11_damage 49 = .ok (.iconst 1, 1) := by decide +kernel
theorem dX11_damage_50 : decode cX11_damage 50 = .ok (.if_icmp .lt 11, 3) := by decide +kernel
theorem dX11_damage_53 : decode cX11_damage 53 = .ok (.iload 5, 2) := by decide +kernel
theorem dX11_damage_55 : decode cX11_damage 55 = .ok (.sipush 255, 3) := by decide +kernel
theorem dX11_damage_58 : decode cX11_damage 58 = .ok (.if_icmp .le 5, 3) := by decide +kernel
theorem dX11_damage_61 : decode cX11_damage 61 = .ok (.iconst (-1), 1) := by decide +kernel
theorem dX11_damage_62 : decode cX11_damage 62 = .ok (.ireturn, 1) := by decide +kernel
theorem dX11_damage_63 : decode cX11_damage 63 = .ok (.aload_n 0, 1) := by decide +kernel
theorem dX11_damage_64 : decode cX11_damage 64 = .ok (.getfield 59, 3) := by decide +kernel
theorem dX11_damage_67 : decode cX11_damage 67 = .ok (.iload_n 1, 1) := by decide +kernel
theorem dX11_damage_68 : decode cX11_damage 68 = .ok (.aaload, 1) := by decide +kernel
theorem dX11_damage_69 : decode cX11_damage 69 = .ok (.iload_n 2, 1) := by decide +kernel
theorem dX11_damage_70 : decode cX11_damage 70 = .ok (.iload_n 3, 1) := by decide +kernel
theorem dX11_damage_71 : decode cX11_damage 71 = .ok (.iload 4, 2) := by decide +kernel
theorem dX11_damage_73 : decode cX11_damage 73 = .ok (.iload 5, 2) := by decide +kernel
theorem dX11_damage_75 : decode cX11_damage 75 = .ok (.invokevirtual 325, 3) := by decide +kernel
theorem dX11_damage_78 : decode cX11_damage 78 = .ok (.ireturn, 1) := by decide +kernel
theorem dX11_direction_0 : decode cX11_direction 0 = .ok (.aload_n 0, 1) := by decide +kernel
theorem dX11_direction_1 : decode cX11_direction 1 = .ok (.iload_n 1, 1) := by decide +kernel
theorem dX11_direction_2 : decode cX11_direction 2 = .ok (.invokevirtual 322, 3) := by decide +kernel
theorem dX11_direction_5 : decode cX11_direction 5 = .ok (.ifCond .eq 16, 3) := by decide +kernel
theorem dX11_direction_8 : decode cX11_direction 8 = .ok (.aload_n 0, 1) := by decide +kernel
theorem dX11_direction_9 : decode cX11_direction 9 = .ok (.getfield 59, 3) := by decide +kernel
theorem dX11_direction_12 : decode cX11_direction 12 = .ok (.iload_n 1, 1) := by decide +kernel
theorem dX11_direction_13 : decode cX11_direction 13 = .ok (.aaload, 1) := by decide +kernel
theorem dX11_direction_14 : decode cX11_direction 14 = .ok (.iload_n 2, 1) := by decide +kernel
theorem dX11_direction_15 : decode cX11_direction 15 = .ok (.invokevirtual 329, 3) := by decide +kernel
theorem dX11_direction_18 : decode cX11_direction 18 = .ok (.goto 4, 3) := by decide +kernel
theorem dX11_direction_21 : decode cX11_direction 21 = .ok (.iconst (-1), 1) := by decide +kernel
theorem dX11_direction_22 : decode cX11_direction 22 = .ok (.ireturn, 1) := by decide +kernel
theorem dX11_crc_0 : decode cX11_crc 0 = .ok (.aload_n 0, 1) := by decide +kernel
theorem dX11_crc_1 : decode cX11_crc 1 = .ok (.getfield 75, 3) := by decide +kernel
theorem dX11_crc_4 : decode cX11_crc 4 = .ok (.iconst 1, 1) := by decide +kernel
theorem dX11_crc_5 : decode cX11_crc 5 = .ok (.if_icmp .ge 5, 3) := by decide +kernel
theorem dX11_crc_8 : decode cX11_crc 8 = .ok (.iconst 0, 1) := by decide +kernel
theorem dX11_crc_9 : decode cX11_crc 9 = .ok (.ireturn, 1) := by decide +kernel
theorem dX11_crc_10 : decode cX11_crc 10 = .ok (.aload_n 0, 1) := by decide +kernel
theorem dX11_crc_11 : decode cX11_crc 11 = .ok (.getfield 23, 3) := by decide +kernel
theorem dX11_crc_14 : decode cX11_crc 14 = .ok (.iconst 0, 1) := by decide +kernel
theorem dX11_crc_15 : decode cX11_crc 15 = .ok (.aload_n 0, 1) := by decide +kernel
theorem dX11_crc_16 : decode cX11_crc 16 = .ok (.getfield 20, 3) := by decide +kernel
theorem dX11_crc_19 : decode cX11_crc 19 = .ok (.iconst 0, 1) := by decide +kernel
theorem dX11_crc_20 : decode cX11_crc 20 = .ok (.aload_n 0, 1) := by decide +kernel
theorem dX11_crc_21 : decode cX11_crc 21 = .ok (.getfield 75, 3) := by decide +kernel
theorem dX11_crc_24 : decode cX11_crc 24 = .ok (.invokestatic 336, 3) := by decide +kernel
theorem dX11_crc_27 : decode cX11_crc 27 = .ok (.aload_n 0, 1) := by decide +kernel
theorem dX11_crc_28 : decode cX11_crc 28 = .ok (.getfield 20, 3) := by decide +kernel
theorem dX11_crc_31 : decode cX11_crc 31 = .ok (.aload_n 0, 1) := by decide +kernel
theorem dX11_crc_32 : decode cX11_crc 32 = .ok (.getfield 75, 3) := by decide +kernel
theorem dX11_crc_35 : decode cX11_crc 35 = .ok (.invokestatic 342, 3) := by decide +kernel
theorem dX11_crc_38 : decode cX11_crc 38 = .ok (.bipush 48, 2) := by decide +kernel
theorem dX11_crc_40 : decode cX11_crc 40 = .ok (.imul, 1) := by decide +kernel
theorem dX11_crc_41 : decode cX11_crc 41 = .ok (.istore_n 1, 1) := by decide +kernel
theorem dX11_crc_42 : decode cX11_crc 42 = .ok (.aload_n 0, 1) := by decide +kernel
theorem dX11_crc_43 : decode cX11_crc 43 = .ok (.getfield 20, 3) := by decide +kernel
theorem dX11_crc_46 : decode cX11_crc 46 = .ok (.iload_n 1, 1) := by decide +kernel
theorem dX11_crc_47 : decode cX11_crc 47 = .ok (.iconst 4, 1) := by decide +kernel
theorem dX11_crc_48 : decode cX11_crc 48 = .ok (.isub, 1) := by decide +kernel
theorem dX11_crc_49 : decode cX11_crc 49 = .ok (.invokestatic 346, 3) := by decide +kernel
theorem dX11_crc_52 : decode cX11_crc 52 = .ok (.ireturn, 1) := by decide +kernel
theorem dX11_count_0 : decode cX11_count 0 = .ok (.iload_n 1, 1) := by decide +kernel
theorem dX11_count_1 : decode cX11_count 1 = .ok (.tableswitch 59 0 3 #[31, 36, 41, 54], 31) := by decide +kernel
theorem dX11_count_32 : decode cX11_count 32 = .ok (.aload_n 0, 1) := by decide +kernel
theorem dX11_count_33 : decode cX11_count 33 = .ok (.getfield 55, 3) := by decide +kernel
theorem dX11_count_36 : decode cX11_count 36 = .ok (.ireturn, 1) := by decide +kernel
theorem dX11_count_37 : decode cX11_count 37 = .ok (.aload_n 0, 1) := by decide +kernel
theorem dX11_count_38 : decode cX11_count 38 = .ok (.getfield 82, 3) := by decide +kernel
theorem dX11_count_41 : decode cX11_count 41 = .ok (.ireturn, 1) := by decide +kernel
theorem dX11_count_42 : decode cX11_count 42 = .ok (.aload_n 0, 1) := by decide +kernel
theorem dX11_count_43 : decode cX11_count 43 = .ok (.getfield 82, 3) := by decide +kernel
theorem dX11_count_46 : decode cX11_count 46 = .ok (.iconst 4, 1) := by decide +kernel
theorem dX11_count_47 : decode cX11_count 47 = .ok (.imul, 1) := by decide +kernel
theorem dX11_count_48 : decode cX11_count 48 = .ok (.aload_n 0, 1) := by decide +kernel
theorem dX11_count_49 : decode cX11_count 49 = .ok (.getfield 59, 3) := by decide +kernel
theorem dX11_count_52 : decode cX11_count 52 = .ok (.arraylength, 1) := by decide +kernel
theorem dX11_count_53 : decode cX11_count 53 = .ok (.imul, 1) := by decide +kernel
theorem dX11_count_54 : decode cX11_count 54 = .ok (.ireturn, 1) := by decide +kernel
theorem dX11_count_55 : decode cX11_count 55 = .ok (.aload_n 0, 1) := by decide +kernel
theorem dX11_count_56 : decode cX11_count 56 = .ok (.getfield 105, 3) := by decide +kernel
theorem dX11_count_59 : decode cX11_count 59 = .ok (.ireturn, 1) := by decide +kernel
theorem dX11_count_60 : decode cX11_count 60 = .ok (.iconst (-1), 1) := by decide +kernel
theorem dX11_count_61 : decode cX11_count 61 = .ok (.ireturn, 1) := by decide +kernel
theorem dX11_isDirection_0 : decode cX11_isDirection 0 = .ok (.iload_n 1, 1) := by decide +kernel
theorem dX11_isDirection_1 : decode cX11_isDirection 1 = .ok (.ifCond .lt 16, 3) := by decide +kernel
theorem dX11_isDirection_4 : decode cX11_isDirection 4 = .ok (.iload_n 1, 1) := by decide +kernel
theorem dX11_isDirection_5 : decode cX11_isDirection 5 = .ok (.aload_n 0, 1) := by decide +kernel
theorem dX11_isDirection_6 : decode cX11_isDirection 6 = .ok (.getfield 59, 3) := by decide +kernel
theorem dX11_isDirection_9 : decode cX11_isDirection 9 = .ok (.arraylength, 1) := by decide +kernel
theorem dX11_isDirection_10 : decode cX11_isDirection 10 = .ok (.if_icmp .ge 7, 3) := by decide +kernel
theorem dX11_isDirection_13 : decode cX11_isDirection 13 = .ok (.iconst 1, 1) := by decide +kernel
theorem dX11_isDirection_14 : decode cX11_isDirection 14 = .ok (.goto 4, 3) := by decide +kernel
theorem dX11_isDirection_17 : decode cX11_isDirection 17 = .ok (.iconst 0, 1) := by decide +kernel
theorem dX11_isDirection_18 : decode cX11_isDirection 18 = .ok (.ireturn, 1) := by decide +kernel
theorem dX11_crcOf_0 : decode cX11_crcOf 0 = .ok (.iconst (-1), 1) := by decide +kernel
theorem dX11_crcOf_1 : decode cX11_crcOf 1 = .ok (.istore_n 2, 1) := by decide +kernel
theorem dX11_crcOf_2 : decode cX11_crcOf 2 = .ok (.iconst 0, 1) := by decide +kernel
theorem dX11_crcOf_3 : decode cX11_crcOf 3 = .ok (.istore_n 3, 1) := by decide +kernel
theorem dX11_crcOf_4 : decode cX11_crcOf 4 = .ok (.iload_n 3, 1) := by decide +kernel
theorem dX11_crcOf_5 : decode cX11_crcOf 5 = .ok (.iload_n 1, 1) := by decide +kernel
theorem dX11_crcOf_6 : decode cX11_crcOf 6 = .ok (.if_icmp .ge 58, 3) := by decide +kernel
theorem dX11_crcOf_9 : decode cX11_crcOf 9 = .ok (.iload_n 3, 1) := by decide +kernel
theorem dX11_crcOf_10 : decode cX11_crcOf 10 = .ok (.aload_n 0, 1) := by decide +kernel
theorem dX11_crcOf_11 : decode cX11_crcOf 11 = .ok (.arraylength, 1) := by decide +kernel
theorem dX11_crcOf_12 : decode cX11_crcOf 12 = .ok (.if_icmp .ge 52, 3) := by decide +kernel
theorem dX11_crcOf_15 : decode cX11_crcOf 15 = .ok (.iload_n 2, 1) := by decide +kernel
theorem dX11_crcOf_16 : decode cX11_crcOf 16 = .ok (.aload_n 0, 1) := by decide +kernel
theorem dX11_crcOf_17 : decode cX11_crcOf 17 = .ok (.iload_n 3, 1) := by decide +kernel
theorem dX11_crcOf_18 : decode cX11_crcOf 18 = .ok (.iaload, 1) := by decide +kernel
theorem dX11_crcOf_19 : decode cX11_crcOf 19 = .ok (.bipush 24, 2) := by decide +kernel
theorem dX11_crcOf_21 : decode cX11_crcOf 21 = .ok (.ishl, 1) := by decide +kernel
theorem dX11_crcOf_22 : decode cX11_crcOf 22 = .ok (.ixor, 1) := by decide +kernel
theorem dX11_crcOf_23 : decode cX11_crcOf 23 = .ok (.istore_n 2, 1) := by decide +kernel
theorem dX11_crcOf_24 : decode cX11_crcOf 24 = .ok (.iconst 0, 1) := by decide +kernel
theorem dX11_crcOf_25 : decode cX11_crcOf 25 = .ok (.istore 4, 2) := by decide +kernel
theorem dX11_crcOf_27 : decode cX11_crcOf 27 = .ok (.iload 4, 2) := by decide +kernel
theorem dX11_crcOf_29 : decode cX11_crcOf 29 = .ok (.bipush 8, 2) := by decide +kernel
theorem dX11_crcOf_31 : decode cX11_crcOf 31 = .ok (.if_icmp .ge 27, 3) := by decide +kernel
theorem dX11_crcOf_34 : decode cX11_crcOf 34 = .ok (.iload_n 2, 1) := by decide +kernel
theorem dX11_crcOf_35 : decode cX11_crcOf 35 = .ok (.ifCond .ge 13, 3) := by decide +kernel
theorem dX11_crcOf_38 : decode cX11_crcOf 38 = .ok (.iload_n 2, 1) := by decide +kernel
theorem dX11_crcOf_39 : decode cX11_crcOf 39 = .ok (.iconst 1, 1) := by decide +kernel
theorem dX11_crcOf_40 : decode cX11_crcOf 40 = .ok (.ishl, 1) := by decide +kernel
theorem dX11_crcOf_41 : decode cX11_crcOf 41 = .ok (.ldc_w 360, 3) := by decide +kernel
theorem dX11_crcOf_44 : decode cX11_crcOf 44 = .ok (.ixor, 1) := by decide +kernel
theorem dX11_crcOf_45 : decode cX11_crcOf 45 = .ok (.goto 6, 3) := by decide +kernel
theorem dX11_crcOf_48 : decode cX11_crcOf 48 = .ok (.iload_n 2, 1) := by decide +kernel
theorem dX11_crcOf_49 : decode cX11_crcOf 49 = .ok (.iconst 1, 1) := by decide +kernel
theorem dX11_crcOf_50 : decode cX11_crcOf 50 = .ok (.ishl, 1) := by decide +kernel
theorem dX11_crcOf_51 : decode cX11_crcOf 51 = .ok (.istore_n 2, 1) := by decide +kernel
theorem dX11_crcOf_52 : decode cX11_crcOf 52 = .ok (.iinc 4 1, 3) := by decide +kernel
theorem dX11_crcOf_55 : decode cX11_crcOf 55 = .ok (.goto (-28), 3) := by decide +kernel
theorem dX11_crcOf_58 : decode cX11_crcOf 58 = .ok (.iinc 3 1, 3) := by decide +kernel
theorem dX11_crcOf_61 : decode cX11_crcOf 61 = .ok (.goto (-57), 3) := by decide +kernel
theorem dX11_crcOf_64 : decode cX11_crcOf 64 = .ok (.iload_n 2, 1) := by decide +kernel
theorem dX11_crcOf_65 : decode cX11_crcOf 65 = .ok (.iconst (-1), 1) := by decide +kernel
theorem dX11_crcOf_66 : decode cX11_crcOf 66 = .ok (.ixor, 1) := by decide +kernel
theorem dX11_crcOf_67 : decode cX11_crcOf 67 = .ok (.ireturn, 1) := by decide +kernel
theorem dX11_cellsFor_0 : decode cX11_cellsFor 0 = .ok (.iload_n 0, 1) := by decide +kernel
theorem dX11_cellsFor_1 : decode cX11_cellsFor 1 = .ok (.bipush 8, 2) := by decide +kernel
theorem dX11_cellsFor_3 : decode cX11_cellsFor 3 = .ok (.iadd, 1) := by decide +kernel
theorem dX11_cellsFor_4 : decode cX11_cellsFor 4 = .ok (.bipush 48, 2) := by decide +kernel
theorem dX11_cellsFor_6 : decode cX11_cellsFor 6 = .ok (.iadd, 1) := by decide +kernel
theorem dX11_cellsFor_7 : decode cX11_cellsFor 7 = .ok (.iconst 1, 1) := by decide +kernel
theorem dX11_cellsFor_8 : decode cX11_cellsFor 8 = .ok (.isub, 1) := by decide +kernel
theorem dX11_cellsFor_9 : decode cX11_cellsFor 9 = .ok (.bipush 48, 2) := by decide +kernel
theorem dX11_cellsFor_11 : decode cX11_cellsFor 11 = .ok (.idiv, 1) := by decide +kernel
theorem dX11_cellsFor_12 : decode cX11_cellsFor 12 = .ok (.ireturn, 1) := by decide +kernel
theorem dX11_closeFrame_0 : decode cX11_closeFrame 0 = .ok (.iload_n 1, 1) := by decide +kernel
theorem dX11_closeFrame_1 : decode cX11_closeFrame 1 = .ok (.iconst 1, 1) := by decide +kernel
theorem dX11_closeFrame_2 : decode cX11_closeFrame 2 = .ok (.if_icmp .lt 18, 3) := by decide +kernel
theorem dX11_closeFrame_5 : decode cX11_closeFrame 5 = .ok (.iload_n 1, 1) := by decide +kernel
theorem dX11_closeFrame_6 : decode cX11_closeFrame 6 = .ok (.sipush 200, 3) := by decide +kernel
theorem dX11_closeFrame_9 : decode cX11_closeFrame 9 = .ok (.if_icmp .gt 11, 3) := by decide +kernel
theorem dX11_closeFrame_12 : decode cX11_closeFrame 12 = .ok (.aload_n 0, 1) := by decide +kernel
theorem dX11_closeFrame_13 : decode cX11_closeFrame 13 = .ok (.arraylength, 1) := by decide +kernel
theorem dX11_closeFrame_14 : decode cX11_closeFrame 14 = .ok (.sipush 240, 3) := by decide +kernel
theorem dX11_closeFrame_17 : decode cX11_closeFrame 17 = .ok (.if_icmp .ge 5, 3) := by decide +kernel
theorem dX11_closeFrame_20 : decode cX11_closeFrame 20 = .ok (.iconst 0, 1) := by decide +kernel
theorem dX11_closeFrame_21 : decode cX11_closeFrame 21 = .ok (.ireturn, 1) := by decide +kernel
theorem dX11_closeFrame_22 : decode cX11_closeFrame 22 = .ok (.iload_n 1, 1) := by decide +kernel
theorem dX11_closeFrame_23 : decode cX11_closeFrame 23 = .ok (.invokestatic 361, 3) := by decide +kernel
theorem dX11_closeFrame_26 : decode cX11_closeFrame 26 = .ok (.istore_n 2, 1) := by decide +kernel
theorem dX11_closeFrame_27 : decode cX11_closeFrame 27 = .ok (.iload_n 2, 1) := by decide +kernel
theorem dX11_closeFrame_28 : decode cX11_closeFrame 28 = .ok (.bipush 48, 2) := by decide +kernel
theorem dX11_closeFrame_30 : decode cX11_closeFrame 30 = .ok (.imul, 1) := by decide +kernel
theorem dX11_closeFrame_31 : decode cX11_closeFrame 31 = .ok (.istore_n 3, 1) := by decide +kernel
theorem dX11_closeFrame_32 : decode cX11_closeFrame 32 = .ok (.aload_n 0, 1) := by decide +kernel
theorem dX11_closeFrame_33 : decode cX11_closeFrame 33 = .ok (.iload_n 1, 1) := by decide +kernel
theorem dX11_closeFrame_34 : decode cX11_closeFrame 34 = .ok (.iload_n 3, 1) := by decide +kernel
theorem dX11_closeFrame_35 : decode cX11_closeFrame 35 = .ok (.iconst 0, 1) := by decide +kernel
theorem dX11_closeFrame_36 : decode cX11_closeFrame 36 = .ok (.invokestatic 364, 3) := by decide +kernel
theorem dX11_closeFrame_39 : decode cX11_closeFrame 39 = .ok (.aload_n 0, 1) := by decide +kernel
theorem dX11_closeFrame_40 : decode cX11_closeFrame 40 = .ok (.iload_n 3, 1) := by decide +kernel
theorem dX11_closeFrame_41 : decode cX11_closeFrame 41 = .ok (.bipush 6, 2) := by decide +kernel
theorem dX11_closeFrame_43 : decode cX11_closeFrame 43 = .ok (.isub, 1) := by decide +kernel
theorem dX11_closeFrame_44 : decode cX11_closeFrame 44 = .ok (.iload_n 1, 1) := by decide +kernel
theorem dX11_closeFrame_45 : decode cX11_closeFrame 45 = .ok (.bipush 8, 2) := by decide +kernel
theorem dX11_closeFrame_47 : decode cX11_closeFrame 47 = .ok (.iushr, 1) := by decide +kernel
theorem dX11_closeFrame_48 : decode cX11_closeFrame 48 = .ok (.iastore, 1) := by decide +kernel
theorem dX11_closeFrame_49 : decode cX11_closeFrame 49 = .ok (.aload_n 0, 1) := by decide +kernel
theorem dX11_closeFrame_50 : decode cX11_closeFrame 50 = .ok (.iload_n 3, 1) := by decide +kernel
theorem dX11_closeFrame_51 : decode cX11_closeFrame 51 = .ok (.iconst 5, 1) := by decide +kernel
theorem dX11_closeFrame_52 : decode cX11_closeFrame 52 = .ok (.isub, 1) := by decide +kernel
theorem dX11_closeFrame_53 : decode cX11_closeFrame 53 = .ok (.iload_n 1, 1) := by decide +kernel
theorem dX11_closeFrame_54 : decode cX11_closeFrame 54 = .ok (.sipush 255, 3) := by decide +kernel
theorem dX11_closeFrame_57 : decode cX11_closeFrame 57 = .ok (.iand, 1) := by decide +kernel
theorem dX11_closeFrame_58 : decode cX11_closeFrame 58 = .ok (.iastore, 1) := by decide +kernel
theorem dX11_closeFrame_59 : decode cX11_closeFrame 59 = .ok (.aload_n 0, 1) := by decide +kernel
theorem dX11_closeFrame_60 : decode cX11_closeFrame 60 = .ok (.iload_n 3, 1) := by decide +kernel
theorem dX11_closeFrame_61 : decode cX11_closeFrame 61 = .ok (.iconst 4, 1) := by decide +kernel
theorem dX11_closeFrame_62 : decode cX11_closeFrame 62 = .ok (.isub, 1) := by decide +kernel
theorem dX11_closeFrame_63 : decode cX11_closeFrame 63 = .ok (.invokestatic 346, 3) := by decide +kernel
theorem dX11_closeFrame_66 : decode cX11_closeFrame 66 = .ok (.istore 4, 2) := by decide +kernel
theorem dX11_closeFrame_68 : decode cX11_closeFrame 68 = .ok (.iconst 1, 1) := by decide +kernel
theorem dX11_closeFrame_69 : decode cX11_closeFrame 69 = .ok (.istore 5, 2) := by decide +kernel
theorem dX11_closeFrame_71 : decode cX11_closeFrame 71 = .ok (.iload 5, 2) := by decide +kernel
theorem dX11_closeFrame_73 : decode cX11_closeFrame 73 = .ok (.iconst 4, 1) := by decide +kernel
theorem dX11_closeFrame_74 : decode cX11_closeFrame 74 = .ok (.if_icmp .gt 28, 3) := by decide +kernel
theorem dX11_closeFrame_77 : decode cX11_closeFrame 77 = .ok (.aload_n 0, 1) := by decide +kernel
theorem dX11_closeFrame_78 : decode cX11_closeFrame 78 = .ok (.iload_n 3, 1) := by decide +kernel
theorem dX11_closeFrame_79 : decode cX11_closeFrame 79 = .ok (.iload 5, 2) := by decide +kernel
theorem dX11_closeFrame_81 : decode cX11_closeFrame 81 = .ok (.isub, 1) := by decide +kernel
theorem dX11_closeFrame_82 : decode cX11_closeFrame 82 = .ok (.iload 4, 2) := by decide +kernel
theorem dX11_closeFrame_84 : decode cX11_closeFrame 84 = .ok (.sipush 255, 3) := by decide +kernel
theorem dX11_closeFrame_87 : decode cX11_closeFrame 87 = .ok (.iand, 1) := by decide +kernel
theorem dX11_closeFrame_88 : decode cX11_closeFrame 88 = .ok (.iastore, 1) := by decide +kernel
theorem dX11_closeFrame_89 : decode cX11_closeFrame 89 = .ok (.iload 4, 2) := by decide +kernel
theorem dX11_closeFrame_91 : decode cX11_closeFrame 91 = .ok (.bipush 8, 2) := by decide +kernel
theorem dX11_closeFrame_93 : decode cX11_closeFrame 93 = .ok (.iushr, 1) := by decide +kernel
theorem dX11_closeFrame_94 : decode cX11_closeFrame 94 = .ok (.istore 4, 2) := by decide +kernel
theorem dX11_closeFrame_96 : decode cX11_closeFrame 96 = .ok (.iinc 5 1, 3) := by decide +kernel
theorem dX11_closeFrame_99 : decode cX11_closeFrame 99 = .ok (.goto (-28), 3) := by decide +kernel
theorem dX11_closeFrame_102 : decode cX11_closeFrame 102 = .ok (.iload_n 2, 1) := by decide +kernel
theorem dX11_closeFrame_103 : decode cX11_closeFrame 103 = .ok (.ireturn, 1) := by decide +kernel
theorem dX11_wordAt_0 : decode cX11_wordAt 0 = .ok (.iload_n 1, 1) := by decide +kernel
theorem dX11_wordAt_1 : decode cX11_wordAt 1 = .ok (.ifCond .lt 11, 3) := by decide +kernel
theorem dX11_wordAt_4 : decode cX11_wordAt 4 = .ok (.iload_n 1, 1) := by decide +kernel
theorem dX11_wordAt_5 : decode cX11_wordAt 5 = .ok (.iconst 4, 1) := by decide +kernel
theorem dX11_wordAt_6 : decode cX11_wordAt 6 = .ok (.iadd, 1) := by decide +kernel
theorem dX11_wordAt_7 : decode cX11_wordAt 7 = .ok (.aload_n 0, 1) := by decide +kernel
theorem dX11_wordAt_8 : decode cX11_wordAt 8 = .ok (.arraylength, 1) := by decide +kernel
theorem dX11_wordAt_9 : decode cX11_wordAt 9 = .ok (.if_icmp .le 5, 3) := by decide +kernel
theorem dX11_wordAt_12 : decode cX11_wordAt 12 = .ok (.iconst 0, 1) := by decide +kernel
theorem dX11_wordAt_13 : decode cX11_wordAt 13 = .ok (.ireturn, 1) := by decide +kernel
theorem dX11_wordAt_14 : decode cX11_wordAt 14 = .ok (.aload_n 0, 1) := by decide +kernel
theorem dX11_wordAt_15 : decode cX11_wordAt 15 = .ok (.iload_n 1, 1) := by decide +kernel
theorem dX11_wordAt_16 : decode cX11_wordAt 16 = .ok (.iaload, 1) := by decide +kernel
theorem dX11_wordAt_17 : decode cX11_wordAt 17 = .ok (.bipush 24, 2) := by decide +kernel
theorem dX11_wordAt_19 : decode cX11_wordAt 19 = .ok (.ishl, 1) := by decide +kernel
theorem dX11_wordAt_20 : decode cX11_wordAt 20 = .ok (.aload_n 0, 1) := by decide +kernel
theorem dX11_wordAt_21 : decode cX11_wordAt 21 = .ok (.iload_n 1, 1) := by decide +kernel
theorem dX11_wordAt_22 : decode cX11_wordAt 22 = .ok (.iconst 1, 1) := by decide +kernel
theorem dX11_wordAt_23 : decode cX11_wordAt 23 = .ok (.iadd, 1) := by decide +kernel
theorem dX11_wordAt_24 : decode cX11_wordAt 24 = .ok (.iaload, 1) := by decide +kernel
theorem dX11_wordAt_25 : decode cX11_wordAt 25 = .ok (.bipush 16, 2) := by decide +kernel
theorem dX11_wordAt_27 : decode cX11_wordAt 27 = .ok (.ishl, 1) := by decide +kernel
theorem dX11_wordAt_28 : decode cX11_wordAt 28 = .ok (.ior, 1) := by decide +kernel
theorem dX11_wordAt_29 : decode cX11_wordAt 29 = .ok (.aload_n 0, 1) := by decide +kernel
theorem dX11_wordAt_30 : decode cX11_wordAt 30 = .ok (.iload_n 1, 1) := by decide +kernel
theorem dX11_wordAt_31 : decode cX11_wordAt 31 = .ok (.iconst 2, 1) := by decide +kernel
theorem dX11_wordAt_32 : decode cX11_wordAt 32 = .ok (.iadd, 1) := by decide +kernel
theorem dX11_wordAt_33 : decode cX11_wordAt 33 = .ok (.iaload, 1) := by decide +kernel
theorem dX11_wordAt_34 : decode cX11_wordAt 34 = .ok (.bipush 8, 2) := by decide +kernel
theorem dX11_wordAt_36 : decode cX11_wordAt 36 = .ok (.ishl, 1) := by decide +kernel
theorem dX11_wordAt_37 : decode cX11_wordAt 37 = .ok (.ior, 1) := by decide +kernel
theorem dX11_wordAt_38 : decode cX11_wordAt 38 = .ok (.aload_n 0, 1) := by decide +kernel
theorem dX11_wordAt_39 : decode cX11_wordAt 39 = .ok (.iload_n 1, 1) := by decide +kernel
theorem dX11_wordAt_40 : decode cX11_wordAt 40 = .ok (.iconst 3, 1) := by decide +kernel
theorem dX11_wordAt_41 : decode cX11_wordAt 41 = .ok (.iadd, 1) := by decide +kernel
theorem dX11_wordAt_42 : decode cX11_wordAt 42 = .ok (.iaload, 1) := by decide +kernel
theorem dX11_wordAt_43 : decode cX11_wordAt 43 = .ok (.ior, 1) := by decide +kernel
theorem dX11_wordAt_44 : decode cX11_wordAt 44 = .ok (.ireturn, 1) := by decide +kernel
theorem dJ9_max_7cf53_0 : decode cJ9_max_7cf53 0 = .ok (.iload_n 0, 1) := by decide +kernel
theorem dJ9_max_7cf53_1 : decode cJ9_max_7cf53 1 = .ok (.iload_n 1, 1) := by decide +kernel
theorem dJ9_max_7cf53_2 : decode cJ9_max_7cf53 2 = .ok (.if_icmp .lt 7, 3) := by decide +kernel
theorem dJ9_max_7cf53_5 : decode cJ9_max_7cf53 5 = .ok (.iload_n 0, 1) := by decide +kernel
theorem dJ9_max_7cf53_6 : decode cJ9_max_7cf53 6 = .ok (.goto 4, 3) := by decide +kernel
theorem dJ9_max_7cf53_9 : decode cJ9_max_7cf53 9 = .ok (.iload_n 1, 1) := by decide +kernel
theorem dJ9_max_7cf53_10 : decode cJ9_max_7cf53 10 = .ok (.ireturn, 1) := by decide +kernel
theorem dJ9_min_7cf53_0 : decode cJ9_min_7cf53 0 = .ok (.iload_n 0, 1) := by decide +kernel
theorem dJ9_min_7cf53_1 : decode cJ9_min_7cf53 1 = .ok (.iload_n 1, 1) := by decide +kernel
theorem dJ9_min_7cf53_2 : decode cJ9_min_7cf53 2 = .ok (.if_icmp .gt 7, 3) := by decide +kernel
theorem dJ9_min_7cf53_5 : decode cJ9_min_7cf53 5 = .ok (.iload_n 0, 1) := by decide +kernel
theorem dJ9_min_7cf53_6 : decode cJ9_min_7cf53 6 = .ok (.goto 4, 3) := by decide +kernel
theorem dJ9_min_7cf53_9 : decode cJ9_min_7cf53 9 = .ok (.iload_n 1, 1) := by decide +kernel
theorem dJ9_min_7cf53_10 : decode cJ9_min_7cf53 10 = .ok (.ireturn, 1) := by decide +kernel
theorem dJxa1e45_init_da8c8_0 : decode cJxa1e45_init_da8c8 0 = .ok (.aload_n 0, 1) := by decide +kernel
theorem dJxa1e45_init_da8c8_1 : decode cJxa1e45_init_da8c8 1 = .ok (.invokespecial 1, 3) := by decide +kernel
theorem dJxa1e45_init_da8c8_4 : decode cJxa1e45_init_da8c8 4 = .ok (.return_, 1) := by decide +kernel
theorem dJxc12de_init_da8c8_0 : decode cJxc12de_init_da8c8 0 = .ok (.aload_n 0, 1) := by decide +kernel
theorem dJxc12de_init_da8c8_1 : decode cJxc12de_init_da8c8 1 = .ok (.invokespecial 1, 3) := by decide +kernel
theorem dJxc12de_init_da8c8_4 : decode cJxc12de_init_da8c8 4 = .ok (.aload_n 0, 1) := by decide +kernel
theorem dJxc12de_init_da8c8_5 : decode cJxc12de_init_da8c8 5 = .ok (.iconst 0, 1) := by decide +kernel
theorem dJxc12de_init_da8c8_6 : decode cJxc12de_init_da8c8 6 = .ok (.putfield 7, 3) := by decide +kernel
theorem dJxc12de_init_da8c8_9 : decode cJxc12de_init_da8c8 9 = .ok (.return_, 1) := by decide +kernel
theorem dJx4a65c_init_da8c8_0 : decode cJx4a65c_init_da8c8 0 = .ok (.aload_n 0, 1) := by decide +kernel
theorem dJx4a65c_init_da8c8_1 : decode cJx4a65c_init_da8c8 1 = .ok (.invokespecial 1, 3) := by decide +kernel
theorem dJx4a65c_init_da8c8_4 : decode cJx4a65c_init_da8c8 4 = .ok (.aload_n 0, 1) := by decide +kernel
theorem dJx4a65c_init_da8c8_5 : decode cJx4a65c_init_da8c8 5 = .ok (.getstatic 39, 3) := by decide +kernel
theorem dJx4a65c_init_da8c8_8 : decode cJx4a65c_init_da8c8 8 = .ok (.putfield 9, 3) := by decide +kernel
theorem dJx4a65c_init_da8c8_11 : decode cJx4a65c_init_da8c8 11 = .ok (.return_, 1) := by decide +kernel
theorem dJx4a65c_grow_92f84_0 : decode cJx4a65c_grow_92f84 0 = .ok (.aload_n 0, 1) := by decide +kernel
theorem dJx4a65c_grow_92f84_1 : decode cJx4a65c_grow_92f84 1 = .ok (.getfield 9, 3) := by decide +kernel
theorem dJx4a65c_grow_92f84_4 : decode cJx4a65c_grow_92f84 4 = .ok (.arraylength, 1) := by decide +kernel
theorem dJx4a65c_grow_92f84_5 : decode cJx4a65c_grow_92f84 5 = .ok (.istore_n 2, 1) := by decide +kernel
theorem dJx4a65c_grow_92f84_6 : decode cJx4a65c_grow_92f84 6 = .ok (.iload_n 2, 1) := by decide +kernel
theorem dJx4a65c_grow_92f84_7 : decode cJx4a65c_grow_92f84 7 = .ok (.ifCond .gt 13, 3) := by decide +kernel
theorem dJx4a65c_grow_92f84_10 : decode cJx4a65c_grow_92f84 10 = .ok (.aload_n 0, 1) := by decide +kernel
theorem dJx4a65c_grow_92f84_11 : decode cJx4a65c_grow_92f84 11 = .ok (.getfield 9, 3) := by decide +kernel
theorem dJx4a65c_grow_92f84_14 : decode cJx4a65c_grow_92f84 14 = .ok (.getstatic 39, 3) := by decide +kernel
theorem dJx4a65c_grow_92f84_17 : decode cJx4a65c_grow_92f84 17 = .ok (.if_acmp .eq 28, 3) := by decide +kernel
theorem dJx4a65c_grow_92f84_20 : decode cJx4a65c_grow_92f84 20 = .ok (.iload_n 2, 1) := by decide +kernel
theorem dJx4a65c_grow_92f84_21 : decode cJx4a65c_grow_92f84 21 = .ok (.iload_n 1, 1) := by decide +kernel
theorem dJx4a65c_grow_92f84_22 : decode cJx4a65c_grow_92f84 22 = .ok (.iload_n 2, 1) := by decide +kernel
theorem dJx4a65c_grow_92f84_23 : decode cJx4a65c_grow_92f84 23 = .ok (.isub, 1) := by decide +kernel
theorem dJx4a65c_grow_92f84_24 : decode cJx4a65c_grow_92f84 24 = .ok (.iload_n 2, 1) := by decide +kernel
theorem dJx4a65c_grow_92f84_25 : decode cJx4a65c_grow_92f84 25 = .ok (.iconst 1, 1) := by decide +kernel
theorem dJx4a65c_grow_92f84_26 : decode cJx4a65c_grow_92f84 26 = .ok (.ishr, 1) := by decide +kernel
theorem dJx4a65c_grow_92f84_27 : decode cJx4a65c_grow_92f84 27 = .ok (.invokestatic 73, 3) := by decide +kernel
theorem dJx4a65c_grow_92f84_30 : decode cJx4a65c_grow_92f84 30 = .ok (.istore_n 3, 1) := by decide +kernel
theorem dJx4a65c_grow_92f84_31 : decode cJx4a65c_grow_92f84 31 = .ok (.aload_n 0, 1) := by decide +kernel
theorem dJx4a65c_grow_92f84_32 : decode cJx4a65c_grow_92f84 32 = .ok (.aload_n 0, 1) := by decide +kernel
theorem dJx4a65c_grow_92f84_33 : decode cJx4a65c_grow_92f84 33 = .ok (.getfield 9, 3) := by decide +kernel
theorem dJx4a65c_grow_92f84_36 : decode cJx4a65c_grow_92f84 36 = .ok (.iload_n 3, 1) := by decide +kernel
theorem dJx4a65c_grow_92f84_37 : decode cJx4a65c_grow_92f84 37 = .ok (.invokestatic 66, 3) := by decide +kernel
theorem dJx4a65c_grow_92f84_40 : decode cJx4a65c_grow_92f84 40 = .ok (.dup_x1, 1) := by decide +kernel
theorem dJx4a65c_grow_92f84_41 : decode cJx4a65c_grow_92f84 41 = .ok (.putfield 9, 3) := by decide +kernel
theorem dJx4a65c_grow_92f84_44 : decode cJx4a65c_grow_92f84 44 = .ok (.areturn, 1) := by decide +kernel
theorem dJx4a65c_grow_92f84_45 : decode cJx4a65c_grow_92f84 45 = .ok (.aload_n 0, 1) := by decide +kernel
theorem dJx4a65c_grow_92f84_46 : decode cJx4a65c_grow_92f84 46 = .ok (.bipush 10, 2) := by decide +kernel
theorem dJx4a65c_grow_92f84_48 : decode cJx4a65c_grow_92f84 48 = .ok (.iload_n 1, 1) := by decide +kernel
theorem dJx4a65c_grow_92f84_49 : decode cJx4a65c_grow_92f84 49 = .ok (.invokestatic 79, 3) := by decide +kernel
theorem dJx4a65c_grow_92f84_52 : decode cJx4a65c_grow_92f84 52 = .ok (.anewarray 7, 3) := by decide +kernel
theorem dJx4a65c_grow_92f84_55 : decode cJx4a65c_grow_92f84 55 = .ok (.dup_x1, 1) := by decide +kernel
theorem dJx4a65c_grow_92f84_56 : decode cJx4a65c_grow_92f84 56 = .ok (.putfield 9, 3) := by decide +kernel
theorem dJx4a65c_grow_92f84_59 : decode cJx4a65c_grow_92f84 59 = .ok (.areturn, 1) := by decide +kernel
theorem dJx4a65c_grow_d5877_0 : decode cJx4a65c_grow_d5877 0 = .ok (.aload_n 0, 1) := by decide +kernel
theorem dJx4a65c_grow_d5877_1 : decode cJx4a65c_grow_d5877 1 = .ok (.aload_n 0, 1) := by decide +kernel
theorem dJx4a65c_grow_d5877_2 : decode cJx4a65c_grow_d5877 2 = .ok (.getfield 48, 3) := by decide +kernel
theorem dJx4a65c_grow_d5877_5 : decode cJx4a65c_grow_d5877 5 = .ok (.iconst 1, 1) := by decide +kernel
theorem dJx4a65c_grow_d5877_6 : decode cJx4a65c_grow_d5877 6 = .ok (.iadd, 1) := by decide +kernel
theorem dJx4a65c_grow_d5877_7 : decode cJx4a65c_grow_d5877 7 = .ok (.invokevirtual 69, 3) := by decide +kernel
theorem dJx4a65c_grow_d5877_10 : decode cJx4a65c_grow_d5877 10 = .ok (.areturn, 1) := by decide +kernel
theorem dJx4a65c_size_8abf5_0 : decode cJx4a65c_size_8abf5 0 = .ok (.aload_n 0, 1) := by decide +kernel
theorem dJx4a65c_size_8abf5_1 : decode cJx4a65c_size_8abf5 1 = .ok (.getfield 48, 3) := by decide +kernel
theorem dJx4a65c_size_8abf5_4 : decode cJx4a65c_size_8abf5 4 = .ok (.ireturn, 1) := by decide +kernel
theorem dJx4a65c_elementData_915e3_0 : decode cJx4a65c_elementData_915e3 0 = .ok (.aload_n 0, 1) := by decide +kernel
theorem dJx4a65c_elementData_915e3_1 : decode cJx4a65c_elementData_915e3 1 = .ok (.getfield 9, 3) := by decide +kernel
theorem dJx4a65c_elementData_915e3_4 : decode cJx4a65c_elementData_915e3 4 = .ok (.iload_n 1, 1) := by decide +kernel
theorem dJx4a65c_elementData_915e3_5 : decode cJx4a65c_elementData_915e3 5 = .ok (.aaload, 1) := by decide +kernel
theorem dJx4a65c_elementData_915e3_6 : decode cJx4a65c_elementData_915e3 6 = .ok (.areturn, 1) := by decide +kernel
theorem dJx4a65c_get_915e3_0 : decode cJx4a65c_get_915e3 0 = .ok (.iload_n 1, 1) := by decide +kernel
theorem dJx4a65c_get_915e3_1 : decode cJx4a65c_get_915e3 1 = .ok (.aload_n 0, 1) := by decide +kernel
theorem dJx4a65c_get_915e3_2 : decode cJx4a65c_get_915e3 2 = .ok (.getfield 48, 3) := by decide +kernel
theorem dJx4a65c_get_915e3_5 : decode cJx4a65c_get_915e3 5 = .ok (.invokestatic 118, 3) := by decide +kernel
theorem dJx4a65c_get_915e3_8 : decode cJx4a65c_get_915e3 8 = .ok (.pop, 1) := by decide +kernel
theorem dJx4a65c_get_915e3_9 : decode cJx4a65c_get_915e3 9 = .ok (.aload_n 0, 1) := by decide +kernel
theorem dJx4a65c_get_915e3_10 : decode cJx4a65c_get_915e3 10 = .ok (.iload_n 1, 1) := by decide +kernel
theorem dJx4a65c_get_915e3_11 : decode cJx4a65c_get_915e3 11 = .ok (.invokevirtual 123, 3) := by decide +kernel
theorem dJx4a65c_get_915e3_14 : decode cJx4a65c_get_915e3 14 = .ok (.areturn, 1) := by decide +kernel
theorem dJx4a65c_set_bcc79_0 : decode cJx4a65c_set_bcc79 0 = .ok (.iload_n 1, 1) := by decide +kernel
theorem dJx4a65c_set_bcc79_1 : decode cJx4a65c_set_bcc79 1 = .ok (.aload_n 0, 1) := by decide +kernel
theorem dJx4a65c_set_bcc79_2 : decode cJx4a65c_set_bcc79 2 = .ok (.getfield 48, 3) := by decide +kernel
theorem dJx4a65c_set_bcc79_5 : decode cJx4a65c_set_bcc79 5 = .ok (.invokestatic 118, 3) := by decide +kernel
theorem dJx4a65c_set_bcc79_8 : decode cJx4a65c_set_bcc79 8 = .ok (.pop, 1) := by decide +kernel
theorem dJx4a65c_set_bcc79_9 : decode cJx4a65c_set_bcc79 9 = .ok (.aload_n 0, 1) := by decide +kernel
theorem dJx4a65c_set_bcc79_10 : decode cJx4a65c_set_bcc79 10 = .ok (.iload_n 1, 1) := by decide +kernel
theorem dJx4a65c_set_bcc79_11 : decode cJx4a65c_set_bcc79 11 = .ok (.invokevirtual 123, 3) := by decide +kernel
theorem dJx4a65c_set_bcc79_14 : decode cJx4a65c_set_bcc79 14 = .ok (.astore_n 3, 1) := by decide +kernel
theorem dJx4a65c_set_bcc79_15 : decode cJx4a65c_set_bcc79 15 = .ok (.aload_n 0, 1) := by decide +kernel
theorem dJx4a65c_set_bcc79_16 : decode cJx4a65c_set_bcc79 16 = .ok (.getfield 9, 3) := by decide +kernel
theorem dJx4a65c_set_bcc79_19 : decode cJx4a65c_set_bcc79 19 = .ok (.iload_n 1, 1) := by decide +kernel
theorem dJx4a65c_set_bcc79_20 : decode cJx4a65c_set_bcc79 20 = .ok (.aload_n 2, 1) := by decide +kernel
theorem dJx4a65c_set_bcc79_21 : decode cJx4a65c_set_bcc79 21 = .ok (.aastore, 1) := by decide +kernel
theorem dJx4a65c_set_bcc79_22 : decode cJx4a65c_set_bcc79 22 = .ok (.aload_n 3, 1) := by decide +kernel
theorem dJx4a65c_set_bcc79_23 : decode cJx4a65c_set_bcc79 23 = .ok (.areturn, 1) := by decide +kernel
theorem dJx4a65c_add_72be8_0 : decode cJx4a65c_add_72be8 0 = .ok (.iload_n 3, 1) := by decide +kernel
theorem dJx4a65c_add_72be8_1 : decode cJx4a65c_add_72be8 1 = .ok (.aload_n 2, 1) := by decide +kernel
theorem dJx4a65c_add_72be8_2 : decode cJx4a65c_add_72be8 2 = .ok (.arraylength, 1) := by decide +kernel
theorem dJx4a65c_add_72be8_3 : decode cJx4a65c_add_72be8 3 = .ok (.if_icmp .ne 8, 3) := by decide +kernel
theorem dJx4a65c_add_72be8_6 : decode cJx4a65c_add_72be8 6 = .ok (.aload_n 0, 1) := by decide +kernel
theorem dJx4a65c_add_72be8_7 : decode cJx4a65c_add_72be8 7 = .ok (.invokevirtual 129, 3) := by decide +kernel
theorem dJx4a65c_add_72be8_10 : decode cJx4a65c_add_72be8 10 = .ok (.astore_n 2, 1) := by decide +kernel
theorem dJx4a65c_add_72be8_11 : decode cJx4a65c_add_72be8 11 = .ok (.aload_n 2, 1) := by decide +kernel
theorem dJx4a65c_add_72be8_12 : decode cJx4a65c_add_72be8 12 = .ok (.iload_n 3, 1) := by decide +kernel
theorem dJx4a65c_add_72be8_13 : decode cJx4a65c_add_72be8 13 = .ok (.aload_n 1, 1) := by decide +kernel
theorem dJx4a65c_add_72be8_14 : decode cJx4a65c_add_72be8 14 = .ok (.aastore, 1) := by decide +kernel
theorem dJx4a65c_add_72be8_15 : decode cJx4a65c_add_72be8 15 = .ok (.aload_n 0, 1) := by decide +kernel
theorem dJx4a65c_add_72be8_16 : decode cJx4a65c_add_72be8 16 = .ok (.iload_n 3, 1) := by decide +kernel
theorem dJx4a65c_add_72be8_17 : decode cJx4a65c_add_72be8 17 = .ok (.iconst 1, 1) := by decide +kernel
theorem dJx4a65c_add_72be8_18 : decode cJx4a65c_add_72be8 18 = .ok (.iadd, 1) := by decide +kernel
theorem dJx4a65c_add_72be8_19 : decode cJx4a65c_add_72be8 19 = .ok (.putfield 48, 3) := by decide +kernel
theorem dJx4a65c_add_72be8_22 : decode cJx4a65c_add_72be8 22 = .ok (.return_, 1) := by decide +kernel
theorem dJx4a65c_add_9ea2d_0 : decode cJx4a65c_add_9ea2d 0 = .ok (.aload_n 0, 1) := by decide +kernel
theorem dJx4a65c_add_9ea2d_1 : decode cJx4a65c_add_9ea2d 1 = .ok (.dup, 1) := by decide +kernel
theorem dJx4a65c_add_9ea2d_2 : decode cJx4a65c_add_9ea2d 2 = .ok (.getfield 63, 3) := by decide +kernel
theorem dJx4a65c_add_9ea2d_5 : decode cJx4a65c_add_9ea2d 5 = .ok (.iconst 1, 1) := by decide +kernel
theorem dJx4a65c_add_9ea2d_6 : decode cJx4a65c_add_9ea2d 6 = .ok (.iadd, 1) := by decide +kernel
theorem dJx4a65c_add_9ea2d_7 : decode cJx4a65c_add_9ea2d 7 = .ok (.putfield 63, 3) := by decide +kernel
theorem dJx4a65c_add_9ea2d_10 : decode cJx4a65c_add_9ea2d 10 = .ok (.aload_n 0, 1) := by decide +kernel
theorem dJx4a65c_add_9ea2d_11 : decode cJx4a65c_add_9ea2d 11 = .ok (.aload_n 1, 1) := by decide +kernel
theorem dJx4a65c_add_9ea2d_12 : decode cJx4a65c_add_9ea2d 12 = .ok (.aload_n 0, 1) := by decide +kernel
theorem dJx4a65c_add_9ea2d_13 : decode cJx4a65c_add_9ea2d 13 = .ok (.getfield 9, 3) := by decide +kernel
theorem dJx4a65c_add_9ea2d_16 : decode cJx4a65c_add_9ea2d 16 = .ok (.aload_n 0, 1) := by decide +kernel
theorem dJx4a65c_add_9ea2d_17 : decode cJx4a65c_add_9ea2d 17 = .ok (.getfield 48, 3) := by decide +kernel
theorem dJx4a65c_add_9ea2d_20 : decode cJx4a65c_add_9ea2d 20 = .ok (.invokevirtual 131, 3) := by decide +kernel
theorem dJx4a65c_add_9ea2d_23 : decode cJx4a65c_add_9ea2d 23 = .ok (.iconst 1, 1) := by decide +kernel
theorem dJx4a65c_add_9ea2d_24 : decode cJx4a65c_add_9ea2d 24 = .ok (.ireturn, 1) := by decide +kernel
theorem dJ7_rangeCheck_23922_0 : decode cJ7_rangeCheck_23922 0 = .ok (.iload_n 1, 1) := by decide +kernel
theorem dJ7_rangeCheck_23922_1 : decode cJ7_rangeCheck_23922 1 = .ok (.iload_n 2, 1) := by decide +kernel
theorem dJ7_rangeCheck_23922_2 : decode cJ7_rangeCheck_23922 2 = .ok (.if_icmp .le 44, 3) := by decide +kernel
theorem dJ7_rangeCheck_23922_5 : decode cJ7_rangeCheck_23922 5 = .ok (.new 43, 3) := by decide +kernel
theorem dJ7_rangeCheck_23922_8 : decode cJ7_rangeCheck_23922 8 = .ok (.dup, 1) := by decide +kernel
theorem dJ7_rangeCheck_23922_9 : decode cJ7_rangeCheck_23922 9 = .ok (.new 45, 3) := by decide +kernel
theorem dJ7_rangeCheck_23922_12 : decode cJ7_rangeCheck_23922 12 = .ok (.dup, 1) := by decide +kernel
theorem dJ7_rangeCheck_23922_13 : decode cJ7_rangeCheck_23922 13 = .ok (.invokespecial 47, 3) := by decide +kernel
theorem dJ7_rangeCheck_23922_16 : decode cJ7_rangeCheck_23922 16 = .ok (.ldc 48, 2) := by decide +kernel
theorem dJ7_rangeCheck_23922_18 : decode cJ7_rangeCheck_23922 18 = .ok (.invokevirtual 50, 3) := by decide +kernel
theorem dJ7_rangeCheck_23922_21 : decode cJ7_rangeCheck_23922 21 = .ok (.iload_n 1, 1) := by decide +kernel
theorem dJ7_rangeCheck_23922_22 : decode cJ7_rangeCheck_23922 22 = .ok (.invokevirtual 54, 3) := by decide +kernel
theorem dJ7_rangeCheck_23922_25 : decode cJ7_rangeCheck_23922 25 = .ok (.ldc 57, 2) := by decide +kernel
theorem dJ7_rangeCheck_23922_27 : decode cJ7_rangeCheck_23922 27 = .ok (.invokevirtual 50, 3) := by decide +kernel
theorem dJ7_rangeCheck_23922_30 : decode cJ7_rangeCheck_23922 30 = .ok (.iload_n 2, 1) := by decide +kernel
theorem dJ7_rangeCheck_23922_31 : decode cJ7_rangeCheck_23922 31 = .ok (.invokevirtual 54, 3) := by decide +kernel
theorem dJ7_rangeCheck_23922_34 : decode cJ7_rangeCheck_23922 34 = .ok (.ldc 59, 2) := by decide +kernel
theorem dJ7_rangeCheck_23922_36 : decode cJ7_rangeCheck_23922 36 = .ok (.invokevirtual 50, 3) := by decide +kernel
theorem dJ7_rangeCheck_23922_39 : decode cJ7_rangeCheck_23922 39 = .ok (.invokevirtual 61, 3) := by decide +kernel
theorem dJ7_rangeCheck_23922_42 : decode cJ7_rangeCheck_23922 42 = .ok (.invokespecial 65, 3) := by decide +kernel
theorem dJ7_rangeCheck_23922_45 : decode cJ7_rangeCheck_23922 45 = .ok (.athrow, 1) := by decide +kernel
theorem dJ7_rangeCheck_23922_46 : decode cJ7_rangeCheck_23922 46 = .ok (.iload_n 1, 1) := by decide +kernel
theorem dJ7_rangeCheck_23922_47 : decode cJ7_rangeCheck_23922 47 = .ok (.ifCond .ge 12, 3) := by decide +kernel
theorem dJ7_rangeCheck_23922_50 : decode cJ7_rangeCheck_23922 50 = .ok (.new 68, 3) := by decide +kernel
theorem dJ7_rangeCheck_23922_53 : decode cJ7_rangeCheck_23922 53 = .ok (.dup, 1) := by decide +kernel
theorem dJ7_rangeCheck_23922_54 : decode cJ7_rangeCheck_23922 54 = .ok (.iload_n 1, 1) := by decide +kernel
theorem dJ7_rangeCheck_23922_55 : decode cJ7_rangeCheck_23922 55 = .ok (.invokespecial 70, 3) := by decide +kernel
theorem dJ7_rangeCheck_23922_58 : decode cJ7_rangeCheck_23922 58 = .ok (.athrow, 1) := by decide +kernel
theorem dJ7_rangeCheck_23922_59 : decode cJ7_rangeCheck_23922 59 = .ok (.iload_n 2, 1) := by decide +kernel
theorem dJ7_rangeCheck_23922_60 : decode cJ7_rangeCheck_23922 60 = .ok (.iload_n 0, 1) := by decide +kernel
theorem dJ7_rangeCheck_23922_61 : decode cJ7_rangeCheck_23922 61 = .ok (.if_icmp .le 12, 3) := by decide +kernel
theorem dJ7_rangeCheck_23922_64 : decode cJ7_rangeCheck_23922 64 = .ok (.new 68, 3) := by decide +kernel
theorem dJ7_rangeCheck_23922_67 : decode cJ7_rangeCheck_23922 67 = .ok (.dup, 1) := by decide +kernel
theorem dJ7_rangeCheck_23922_68 : decode cJ7_rangeCheck_23922 68 = .ok (.iload_n 2, 1) := by decide +kernel
theorem dJ7_rangeCheck_23922_69 : decode cJ7_rangeCheck_23922 69 = .ok (.invokespecial 70, 3) := by decide +kernel
theorem dJ7_rangeCheck_23922_72 : decode cJ7_rangeCheck_23922 72 = .ok (.athrow, 1) := by decide +kernel
theorem dJ7_rangeCheck_23922_73 : decode cJ7_rangeCheck_23922 73 = .ok (.return_, 1) := by decide +kernel
theorem dJ7_fill_fda19_0 : decode cJ7_fill_fda19 0 = .ok (.aload_n 0, 1) := by decide +kernel
theorem dJ7_fill_fda19_1 : decode cJ7_fill_fda19 1 = .ok (.arraylength, 1) := by decide +kernel
theorem dJ7_fill_fda19_2 : decode cJ7_fill_fda19 2 = .ok (.iload_n 1, 1) := by decide +kernel
theorem dJ7_fill_fda19_3 : decode cJ7_fill_fda19 3 = .ok (.iload_n 2, 1) := by decide +kernel
theorem dJ7_fill_fda19_4 : decode cJ7_fill_fda19 4 = .ok (.invokestatic 13, 3) := by decide +kernel
theorem dJ7_fill_fda19_7 : decode cJ7_fill_fda19 7 = .ok (.iload_n 1, 1) := by decide +kernel
theorem dJ7_fill_fda19_8 : decode cJ7_fill_fda19 8 = .ok (.istore 4, 2) := by decide +kernel
theorem dJ7_fill_fda19_10 : decode cJ7_fill_fda19 10 = .ok (.iload 4, 2) := by decide +kernel
theorem dJ7_fill_fda19_12 : decode cJ7_fill_fda19 12 = .ok (.iload_n 2, 1) := by decide +kernel
theorem dJ7_fill_fda19_13 : decode cJ7_fill_fda19 13 = .ok (.if_icmp .ge 14, 3) := by decide +kernel
theorem dJ7_fill_fda19_16 : decode cJ7_fill_fda19 16 = .ok (.aload_n 0, 1) := by decide +kernel
theorem dJ7_fill_fda19_17 : decode cJ7_fill_fda19 17 = .ok (.iload 4, 2) := by decide +kernel
theorem dJ7_fill_fda19_19 : decode cJ7_fill_fda19 19 = .ok (.iload_n 3, 1) := by decide +kernel
theorem dJ7_fill_fda19_20 : decode cJ7_fill_fda19 20 = .ok (.iastore, 1) := by decide +kernel
theorem dJ7_fill_fda19_21 : decode cJ7_fill_fda19 21 = .ok (.iinc 4 1, 3) := by decide +kernel
theorem dJ7_fill_fda19_24 : decode cJ7_fill_fda19 24 = .ok (.goto (-14), 3) := by decide +kernel
theorem dJ7_fill_fda19_27 : decode cJ7_fill_fda19 27 = .ok (.return_, 1) := by decide +kernel
theorem dJ7_copyOf_1904c_0 : decode cJ7_copyOf_1904c 0 = .ok (.aload_n 0, 1) := by decide +kernel
theorem dJ7_copyOf_1904c_1 : decode cJ7_copyOf_1904c 1 = .ok (.iload_n 1, 1) := by decide +kernel
theorem dJ7_copyOf_1904c_2 : decode cJ7_copyOf_1904c 2 = .ok (.aload_n 0, 1) := by decide +kernel
theorem dJ7_copyOf_1904c_3 : decode cJ7_copyOf_1904c 3 = .ok (.invokevirtual 86, 3) := by decide +kernel
theorem dJ7_copyOf_1904c_6 : decode cJ7_copyOf_1904c 6 = .ok (.invokestatic 300, 3) := by decide +kernel
theorem dJ7_copyOf_1904c_9 : decode cJ7_copyOf_1904c 9 = .ok (.areturn, 1) := by decide +kernel
theorem dJ7_copyOf_6403c_0 : decode cJ7_copyOf_6403c 0 = .ok (.aload_n 2, 1) := by decide +kernel
theorem dJ7_copyOf_6403c_1 : decode cJ7_copyOf_6403c 1 = .ok (.ldc 110, 2) := by decide +kernel
theorem dJ7_copyOf_6403c_3 : decode cJ7_copyOf_6403c 3 = .ok (.if_acmp .ne 10, 3) := by decide +kernel
theorem dJ7_copyOf_6403c_6 : decode cJ7_copyOf_6403c 6 = .ok (.iload_n 1, 1) := by decide +kernel
theorem dJ7_copyOf_6403c_7 : decode cJ7_copyOf_6403c 7 = .ok (.anewarray 2, 3) := by decide +kernel
theorem dJ7_copyOf_6403c_10 : decode cJ7_copyOf_6403c 10 = .ok (.goto 14, 3) := by decide +kernel
theorem dJ7_copyOf_6403c_13 : decode cJ7_copyOf_6403c 13 = .ok (.aload_n 2, 1) := by decide +kernel
theorem dJ7_copyOf_6403c_14 : decode cJ7_copyOf_6403c 14 = .ok (.invokevirtual 90, 3) := by decide +kernel
theorem dJ7_copyOf_6403c_17 : decode cJ7_copyOf_6403c 17 = .ok (.iload_n 1, 1) := by decide +kernel
theorem dJ7_copyOf_6403c_18 : decode cJ7_copyOf_6403c 18 = .ok (.invokestatic 95, 3) := by decide +kernel
theorem dJ7_copyOf_6403c_21 : decode cJ7_copyOf_6403c 21 = .ok (.checkcast 110, 3) := by decide +kernel
theorem dJ7_copyOf_6403c_24 : decode cJ7_copyOf_6403c 24 = .ok (.astore_n 3, 1) := by decide +kernel
theorem dJ7_copyOf_6403c_25 : decode cJ7_copyOf_6403c 25 = .ok (.aload_n 0, 1) := by decide +kernel
theorem dJ7_copyOf_6403c_26 : decode cJ7_copyOf_6403c 26 = .ok (.iconst 0, 1) := by decide +kernel
theorem dJ7_copyOf_6403c_27 : decode cJ7_copyOf_6403c 27 = .ok (.aload_n 3, 1) := by decide +kernel
theorem dJ7_copyOf_6403c_28 : decode cJ7_copyOf_6403c 28 = .ok (.iconst 0, 1) := by decide +kernel
theorem dJ7_copyOf_6403c_29 : decode cJ7_copyOf_6403c 29 = .ok (.aload_n 0, 1) := by decide +kernel
theorem dJ7_copyOf_6403c_30 : decode cJ7_copyOf_6403c 30 = .ok (.arraylength, 1) := by decide +kernel
theorem dJ7_copyOf_6403c_31 : decode cJ7_copyOf_6403c 31 = .ok (.iload_n 1, 1) := by decide +kernel
theorem dJ7_copyOf_6403c_32 : decode cJ7_copyOf_6403c 32 = .ok (.invokestatic 304, 3) := by decide +kernel
theorem dJ7_copyOf_6403c_35 : decode cJ7_copyOf_6403c 35 = .ok (.invokestatic 150, 3) := by decide +kernel
theorem dJ7_copyOf_6403c_38 : decode cJ7_copyOf_6403c 38 = .ok (.aload_n 3, 1) := by decide +kernel
theorem dJ7_copyOf_6403c_39 : decode cJ7_copyOf_6403c 39 = .ok (.areturn, 1) := by decide +kernel
theorem dJ15_checkIndex_7cf53_0 : decode cJ15_checkIndex_7cf53 0 = .ok (.iload_n 0, 1) := by decide +kernel
theorem dJ15_checkIndex_7cf53_1 : decode cJ15_checkIndex_7cf53 1 = .ok (.iload_n 1, 1) := by decide +kernel
theorem dJ15_checkIndex_7cf53_2 : decode cJ15_checkIndex_7cf53 2 = .ok (.aconst_null, 1) := by decide +kernel
theorem dJ15_checkIndex_7cf53_3 : decode cJ15_checkIndex_7cf53 3 = .ok (.invokestatic 105, 3) := by decide +kernel
theorem dJ15_checkIndex_7cf53_6 : decode cJ15_checkIndex_7cf53 6 = .ok (.ireturn, 1) := by decide +kernel
theorem dJ8_newLength_cabcc_0 : decode cJ8_newLength_cabcc 0 = .ok (.iload_n 0, 1) := by decide +kernel
theorem dJ8_newLength_cabcc_1 : decode cJ8_newLength_cabcc 1 = .ok (.iload_n 1, 1) := by decide +kernel
theorem dJ8_newLength_cabcc_2 : decode cJ8_newLength_cabcc 2 = .ok (.iload_n 2, 1) := by decide +kernel
theorem dJ8_newLength_cabcc_3 : decode cJ8_newLength_cabcc 3 = .ok (.invokestatic 194, 3) := by decide +kernel
theorem dJ8_newLength_cabcc_6 : decode cJ8_newLength_cabcc 6 = .ok (.iadd, 1) := by decide +kernel
theorem dJ8_newLength_cabcc_7 : decode cJ8_newLength_cabcc 7 = .ok (.istore_n 3, 1) := by decide +kernel
theorem dJ8_newLength_cabcc_8 : decode cJ8_newLength_cabcc 8 = .ok (.iconst 0, 1) := by decide +kernel
theorem dJ8_newLength_cabcc_9 : decode cJ8_newLength_cabcc 9 = .ok (.iload_n 3, 1) := by decide +kernel
theorem dJ8_newLength_cabcc_10 : decode cJ8_newLength_cabcc 10 = .ok (.if_icmp .ge 11, 3) := by decide +kernel
theorem dJ8_newLength_cabcc_13 : decode cJ8_newLength_cabcc 13 = .ok (.iload_n 3, 1) := by decide +kernel
theorem dJ8_newLength_cabcc_14 : decode cJ8_newLength_cabcc 14 = .ok (.ldc 200, 2) := by decide +kernel
theorem dJ8_newLength_cabcc_16 : decode cJ8_newLength_cabcc 16 = .ok (.if_icmp .gt 5, 3) := by decide +kernel
theorem dJ8_newLength_cabcc_19 : decode cJ8_newLength_cabcc 19 = .ok (.iload_n 3, 1) := by decide +kernel
theorem dJ8_newLength_cabcc_20 : decode cJ8_newLength_cabcc 20 = .ok (.ireturn, 1) := by decide +kernel
theorem dJ8_newLength_cabcc_21 : decode cJ8_newLength_cabcc 21 = .ok (.iload_n 0, 1) := by decide +kernel
theorem dJ8_newLength_cabcc_22 : decode cJ8_newLength_cabcc 22 = .ok (.iload_n 1, 1) := by decide +kernel
theorem dJ8_newLength_cabcc_23 : decode cJ8_newLength_cabcc 23 = .ok (.invokestatic 201, 3) := by decide +kernel
theorem dJ8_newLength_cabcc_26 : decode cJ8_newLength_cabcc 26 = .ok (.ireturn, 1) := by decide +kernel
theorem dJ8_hugeLength_7cf53_0 : decode cJ8_hugeLength_7cf53 0 = .ok (.iload_n 0, 1) := by decide +kernel
theorem dJ8_hugeLength_7cf53_1 : decode cJ8_hugeLength_7cf53 1 = .ok (.iload_n 1, 1) := by decide +kernel
theorem dJ8_hugeLength_7cf53_2 : decode cJ8_hugeLength_7cf53 2 = .ok (.iadd, 1) := by decide +kernel
theorem dJ8_hugeLength_7cf53_3 : decode cJ8_hugeLength_7cf53 3 = .ok (.istore_n 2, 1) := by decide +kernel
theorem dJ8_hugeLength_7cf53_4 : decode cJ8_hugeLength_7cf53 4 = .ok (.iload_n 2, 1) := by decide +kernel
theorem dJ8_hugeLength_7cf53_5 : decode cJ8_hugeLength_7cf53 5 = .ok (.ifCond .ge 44, 3) := by decide +kernel
theorem dJ8_hugeLength_7cf53_8 : decode cJ8_hugeLength_7cf53 8 = .ok (.new 204, 3) := by decide +kernel
theorem dJ8_hugeLength_7cf53_11 : decode cJ8_hugeLength_7cf53 11 = .ok (.dup, 1) := by decide +kernel
theorem dJ8_hugeLength_7cf53_12 : decode cJ8_hugeLength_7cf53 12 = .ok (.new 89, 3) := by decide +kernel
theorem dJ8_hugeLength_7cf53_15 : decode cJ8_hugeLength_7cf53 15 = .ok (.dup, 1) := by decide +kernel
theorem dJ8_hugeLength_7cf53_16 : decode cJ8_hugeLength_7cf53 16 = .ok (.invokespecial 91, 3) := by decide +kernel
theorem dJ8_hugeLength_7cf53_19 : decode cJ8_hugeLength_7cf53 19 = .ok (.ldc 206, 2) := by decide +kernel
theorem dJ8_hugeLength_7cf53_21 : decode cJ8_hugeLength_7cf53 21 = .ok (.invokevirtual 94, 3) := by decide +kernel
theorem dJ8_hugeLength_7cf53_24 : decode cJ8_hugeLength_7cf53 24 = .ok (.iload_n 0, 1) := by decide +kernel
theorem dJ8_hugeLength_7cf53_25 : decode cJ8_hugeLength_7cf53 25 = .ok (.invokevirtual 98, 3) := by decide +kernel
theorem dJ8_hugeLength_7cf53_28 : decode cJ8_hugeLength_7cf53 28 = .ok (.ldc 208, 2) := by decide +kernel
theorem dJ8_hugeLength_7cf53_30 : decode cJ8_hugeLength_7cf53 30 = .ok (.invokevirtual 94, 3) := by decide +kernel
theorem dJ8_hugeLength_7cf53_33 : decode cJ8_hugeLength_7cf53 33 = .ok (.iload_n 1, 1) := by decide +kernel
theorem dJ8_hugeLength_7cf53_34 : decode cJ8_hugeLength_7cf53 34 = .ok (.invokevirtual 98, 3) := by decide +kernel
theorem dJ8_hugeLength_7cf53_37 : decode cJ8_hugeLength_7cf53 37 = .ok (.ldc 210, 2) := by decide +kernel
theorem dJ8_hugeLength_7cf53_39 : decode cJ8_hugeLength_7cf53 39 = .ok (.invokevirtual 94, 3) := by decide +kernel
theorem dJ8_hugeLength_7cf53_42 : decode cJ8_hugeLength_7cf53 42 = .ok (.invokevirtual 101, 3) := by decide +kernel
theorem dJ8_hugeLength_7cf53_45 : decode cJ8_hugeLength_7cf53 45 = .ok (.invokespecial 212, 3) := by decide +kernel
theorem dJ8_hugeLength_7cf53_48 : decode cJ8_hugeLength_7cf53 48 = .ok (.athrow, 1) := by decide +kernel
theorem dJ8_hugeLength_7cf53_49 : decode cJ8_hugeLength_7cf53 49 = .ok (.iload_n 2, 1) := by decide +kernel
theorem dJ8_hugeLength_7cf53_50 : decode cJ8_hugeLength_7cf53 50 = .ok (.ldc 200, 2) := by decide +kernel
theorem dJ8_hugeLength_7cf53_52 : decode cJ8_hugeLength_7cf53 52 = .ok (.if_icmp .gt 6, 3) := by decide +kernel
theorem dJ8_hugeLength_7cf53_55 : decode cJ8_hugeLength_7cf53 55 = .ok (.ldc 200, 2) := by decide +kernel
theorem dJ8_hugeLength_7cf53_57 : decode cJ8_hugeLength_7cf53 57 = .ok (.ireturn, 1) := by decide +kernel
theorem dJ8_hugeLength_7cf53_58 : decode cJ8_hugeLength_7cf53 58 = .ok (.iload_n 2, 1) := by decide +kernel
theorem dJ8_hugeLength_7cf53_59 : decode cJ8_hugeLength_7cf53 59 = .ok (.ireturn, 1) := by decide +kernel
theorem dJ3_checkIndex_8e157_0 : decode cJ3_checkIndex_8e157 0 = .ok (.iload_n 0, 1) := by decide +kernel
theorem dJ3_checkIndex_8e157_1 : decode cJ3_checkIndex_8e157 1 = .ok (.ifCond .lt 8, 3) := by decide +kernel
theorem dJ3_checkIndex_8e157_4 : decode cJ3_checkIndex_8e157 4 = .ok (.iload_n 0, 1) := by decide +kernel
theorem dJ3_checkIndex_8e157_5 : decode cJ3_checkIndex_8e157 5 = .ok (.iload_n 1, 1) := by decide +kernel
theorem dJ3_checkIndex_8e157_6 : decode cJ3_checkIndex_8e157 6 = .ok (.if_icmp .lt 10, 3) := by decide +kernel
theorem dJ3_checkIndex_8e157_9 : decode cJ3_checkIndex_8e157 9 = .ok (.aload_n 2, 1) := by decide +kernel
theorem dJ3_checkIndex_8e157_10 : decode cJ3_checkIndex_8e157 10 = .ok (.iload_n 0, 1) := by decide +kernel
theorem dJ3_checkIndex_8e157_11 : decode cJ3_checkIndex_8e157 11 = .ok (.iload_n 1, 1) := by decide +kernel
theorem dJ3_checkIndex_8e157_12 : decode cJ3_checkIndex_8e157 12 = .ok (.invokestatic 95, 3) := by decide +kernel
theorem dJ3_checkIndex_8e157_15 : decode cJ3_checkIndex_8e157 15 = .ok (.athrow, 1) := by decide +kernel
theorem dJ3_checkIndex_8e157_16 : decode cJ3_checkIndex_8e157 16 = .ok (.iload_n 0, 1) := by decide +kernel
theorem dJ3_checkIndex_8e157_17 : decode cJ3_checkIndex_8e157 17 = .ok (.ireturn, 1) := by decide +kernel
