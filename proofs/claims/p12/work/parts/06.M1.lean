theorem d_M_feed_0 : decode prog_9_method_3_code 0 = .ok (.iload 5, 2) := by decide +kernel
theorem d_M_feed_2 : decode prog_9_method_3_code 2 = .ok (.iconst 1, 1) := by decide +kernel
theorem d_M_feed_3 : decode prog_9_method_3_code 3 = .ok (.if_icmp .lt 10, 3) := by decide +kernel
theorem d_M_feed_6 : decode prog_9_method_3_code 6 = .ok (.iload 5, 2) := by decide +kernel
theorem d_M_feed_8 : decode prog_9_method_3_code 8 = .ok (.bipush 16, 2) := by decide +kernel
theorem d_M_feed_10 : decode prog_9_method_3_code 10 = .ok (.if_icmp .le 5, 3) := by decide +kernel
theorem d_M_feed_13 : decode prog_9_method_3_code 13 = .ok (.iconst (-1), 1) := by decide +kernel
theorem d_M_feed_14 : decode prog_9_method_3_code 14 = .ok (.ireturn, 1) := by decide +kernel
theorem d_M_feed_15 : decode prog_9_method_3_code 15 = .ok (.aload_n 0, 1) := by decide +kernel
theorem d_M_feed_16 : decode prog_9_method_3_code 16 = .ok (.getfield 45, 3) := by decide +kernel
theorem d_M_feed_19 : decode prog_9_method_3_code 19 = .ok (.iload 5, 2) := by decide +kernel
theorem d_M_feed_21 : decode prog_9_method_3_code 21 = .ok (.iadd, 1) := by decide +kernel
theorem d_M_feed_22 : decode prog_9_method_3_code 22 = .ok (.sipush 4000, 3) := by decide +kernel
theorem d_M_feed_25 : decode prog_9_method_3_code 25 = .ok (.if_icmp .le 6, 3) := by decide +kernel
theorem d_M_feed_28 : decode prog_9_method_3_code 28 = .ok (.bipush (-2), 2) := by decide +kernel
theorem d_M_feed_30 : decode prog_9_method_3_code 30 = .ok (.ireturn, 1) := by decide +kernel
theorem d_M_feed_31 : decode prog_9_method_3_code 31 = .ok (.iconst 0, 1) := by decide +kernel
theorem d_M_feed_32 : decode prog_9_method_3_code 32 = .ok (.istore 6, 2) := by decide +kernel
theorem d_M_feed_34 : decode prog_9_method_3_code 34 = .ok (.iload 6, 2) := by decide +kernel
theorem d_M_feed_36 : decode prog_9_method_3_code 36 = .ok (.iload 5, 2) := by decide +kernel
theorem d_M_feed_38 : decode prog_9_method_3_code 38 = .ok (.if_icmp .ge 71, 3) := by decide +kernel
theorem d_M_feed_41 : decode prog_9_method_3_code 41 = .ok (.iload 6, 2) := by decide +kernel
theorem d_M_feed_43 : decode prog_9_method_3_code 43 = .ok (.iconst 4, 1) := by decide +kernel
theorem d_M_feed_44 : decode prog_9_method_3_code 44 = .ok (.if_icmp .ge 7, 3) := by decide +kernel
theorem d_M_feed_47 : decode prog_9_method_3_code 47 = .ok (.iload_n 1, 1) := by decide +kernel
theorem d_M_feed_48 : decode prog_9_method_3_code 48 = .ok (.goto 27, 3) := by decide +kernel
theorem d_M_feed_51 : decode prog_9_method_3_code 51 = .ok (.iload 6, 2) := by decide +kernel
theorem d_M_feed_53 : decode prog_9_method_3_code 53 = .ok (.bipush 8, 2) := by decide +kernel
theorem d_M_feed_55 : decode prog_9_method_3_code 55 = .ok (.if_icmp .ge 7, 3) := by decide +kernel
theorem d_M_feed_58 : decode prog_9_method_3_code 58 = .ok (.iload_n 2, 1) := by decide +kernel
theorem d_M_feed_59 : decode prog_9_method_3_code 59 = .ok (.goto 16, 3) := by decide +kernel
theorem d_M_feed_62 : decode prog_9_method_3_code 62 = .ok (.iload 6, 2) := by decide +kernel
theorem d_M_feed_64 : decode prog_9_method_3_code 64 = .ok (.bipush 12, 2) := by decide +kernel
theorem d_M_feed_66 : decode prog_9_method_3_code 66 = .ok (.if_icmp .ge 7, 3) := by decide +kernel
theorem d_M_feed_69 : decode prog_9_method_3_code 69 = .ok (.iload_n 3, 1) := by decide +kernel
theorem d_M_feed_70 : decode prog_9_method_3_code 70 = .ok (.goto 5, 3) := by decide +kernel
theorem d_M_feed_73 : decode prog_9_method_3_code 73 = .ok (.iload 4, 2) := by decide +kernel
theorem d_M_feed_75 : decode prog_9_method_3_code 75 = .ok (.istore 7, 2) := by decide +kernel
theorem d_M_feed_77 : decode prog_9_method_3_code 77 = .ok (.aload_n 0, 1) := by decide +kernel
theorem d_M_feed_78 : decode prog_9_method_3_code 78 = .ok (.getfield 7, 3) := by decide +kernel
theorem d_M_feed_81 : decode prog_9_method_3_code 81 = .ok (.aload_n 0, 1) := by decide +kernel
theorem d_M_feed_82 : decode prog_9_method_3_code 82 = .ok (.getfield 45, 3) := by decide +kernel
theorem d_M_feed_85 : decode prog_9_method_3_code 85 = .ok (.iload 6, 2) := by decide +kernel
theorem d_M_feed_87 : decode prog_9_method_3_code 87 = .ok (.iadd, 1) := by decide +kernel
theorem d_M_feed_88 : decode prog_9_method_3_code 88 = .ok (.iload 7, 2) := by decide +kernel
theorem d_M_feed_90 : decode prog_9_method_3_code 90 = .ok (.bipush 24, 2) := by decide +kernel
theorem d_M_feed_92 : decode prog_9_method_3_code 92 = .ok (.bipush 8, 2) := by decide +kernel
theorem d_M_feed_94 : decode prog_9_method_3_code 94 = .ok (.iload 6, 2) := by decide +kernel
theorem d_M_feed_96 : decode prog_9_method_3_code 96 = .ok (.iconst 4, 1) := by decide +kernel
theorem d_M_feed_97 : decode prog_9_method_3_code 97 = .ok (.irem, 1) := by decide +kernel
theorem d_M_feed_98 : decode prog_9_method_3_code 98 = .ok (.imul, 1) := by decide +kernel
theorem d_M_feed_99 : decode prog_9_method_3_code 99 = .ok (.isub, 1) := by decide +kernel
theorem d_M_feed_100 : decode prog_9_method_3_code 100 = .ok (.ishr, 1) := by decide +kernel
theorem d_M_feed_101 : decode prog_9_method_3_code 101 = .ok (.i2b, 1) := by decide +kernel
theorem d_M_feed_102 : decode prog_9_method_3_code 102 = .ok (.bastore, 1) := by decide +kernel
theorem d_M_feed_103 : decode prog_9_method_3_code 103 = .ok (.iinc 6 1, 3) := by decide +kernel
theorem d_M_feed_106 : decode prog_9_method_3_code 106 = .ok (.goto (-72), 3) := by decide +kernel
theorem d_M_feed_109 : decode prog_9_method_3_code 109 = .ok (.aload_n 0, 1) := by decide +kernel
theorem d_M_feed_110 : decode prog_9_method_3_code 110 = .ok (.dup, 1) := by decide +kernel
theorem d_M_feed_111 : decode prog_9_method_3_code 111 = .ok (.getfield 45, 3) := by decide +kernel
theorem d_M_feed_114 : decode prog_9_method_3_code 114 = .ok (.iload 5, 2) := by decide +kernel
theorem d_M_feed_116 : decode prog_9_method_3_code 116 = .ok (.iadd, 1) := by decide +kernel
theorem d_M_feed_117 : decode prog_9_method_3_code 117 = .ok (.putfield 45, 3) := by decide +kernel
theorem d_M_feed_120 : decode prog_9_method_3_code 120 = .ok (.aload_n 0, 1) := by decide +kernel
theorem d_M_feed_121 : decode prog_9_method_3_code 121 = .ok (.getfield 45, 3) := by decide +kernel
theorem d_M_feed_124 : decode prog_9_method_3_code 124 = .ok (.ireturn, 1) := by decide +kernel
theorem d_M_cut_0 : decode prog_9_method_4_code 0 = .ok (.iload_n 1, 1) := by decide +kernel
theorem d_M_cut_1 : decode prog_9_method_4_code 1 = .ok (.ifCond .lt 11, 3) := by decide +kernel
theorem d_M_cut_4 : decode prog_9_method_4_code 4 = .ok (.iload_n 1, 1) := by decide +kernel
theorem d_M_cut_5 : decode prog_9_method_4_code 5 = .ok (.aload_n 0, 1) := by decide +kernel
theorem d_M_cut_6 : decode prog_9_method_4_code 6 = .ok (.getfield 45, 3) := by decide +kernel
theorem d_M_cut_9 : decode prog_9_method_4_code 9 = .ok (.if_icmp .le 5, 3) := by decide +kernel
theorem d_M_cut_12 : decode prog_9_method_4_code 12 = .ok (.iconst (-1), 1) := by decide +kernel
theorem d_M_cut_13 : decode prog_9_method_4_code 13 = .ok (.ireturn, 1) := by decide +kernel
theorem d_M_cut_14 : decode prog_9_method_4_code 14 = .ok (.aload_n 0, 1) := by decide +kernel
theorem d_M_cut_15 : decode prog_9_method_4_code 15 = .ok (.dup, 1) := by decide +kernel
theorem d_M_cut_16 : decode prog_9_method_4_code 16 = .ok (.getfield 45, 3) := by decide +kernel
theorem d_M_cut_19 : decode prog_9_method_4_code 19 = .ok (.iload_n 1, 1) := by decide +kernel
theorem d_M_cut_20 : decode prog_9_method_4_code 20 = .ok (.isub, 1) := by decide +kernel
theorem d_M_cut_21 : decode prog_9_method_4_code 21 = .ok (.putfield 45, 3) := by decide +kernel
theorem d_M_cut_24 : decode prog_9_method_4_code 24 = .ok (.aload_n 0, 1) := by decide +kernel
theorem d_M_cut_25 : decode prog_9_method_4_code 25 = .ok (.getfield 45, 3) := by decide +kernel
theorem d_M_cut_28 : decode prog_9_method_4_code 28 = .ok (.ireturn, 1) := by decide +kernel
theorem d_M_turn_0 : decode prog_9_method_5_code 0 = .ok (.iload_n 1, 1) := by decide +kernel
theorem d_M_turn_1 : decode prog_9_method_5_code 1 = .ok (.ifCond .lt 11, 3) := by decide +kernel
theorem d_M_turn_4 : decode prog_9_method_5_code 4 = .ok (.iload_n 1, 1) := by decide +kernel
theorem d_M_turn_5 : decode prog_9_method_5_code 5 = .ok (.aload_n 0, 1) := by decide +kernel
theorem d_M_turn_6 : decode prog_9_method_5_code 6 = .ok (.getfield 45, 3) := by decide +kernel
theorem d_M_turn_9 : decode prog_9_method_5_code 9 = .ok (.if_icmp .lt 5, 3) := by decide +kernel
theorem d_M_turn_12 : decode prog_9_method_5_code 12 = .ok (.iconst (-1), 1) := by decide +kernel
theorem d_M_turn_13 : decode prog_9_method_5_code 13 = .ok (.ireturn, 1) := by decide +kernel
theorem d_M_turn_14 : decode prog_9_method_5_code 14 = .ok (.aload_n 0, 1) := by decide +kernel
theorem d_M_turn_15 : decode prog_9_method_5_code 15 = .ok (.getfield 7, 3) := by decide +kernel
theorem d_M_turn_18 : decode prog_9_method_5_code 18 = .ok (.iload_n 1, 1) := by decide +kernel
theorem d_M_turn_19 : decode prog_9_method_5_code 19 = .ok (.dup2, 1) := by decide +kernel
theorem d_M_turn_20 : decode prog_9_method_5_code 20 = .ok (.baload, 1) := by decide +kernel
theorem d_M_turn_21 : decode prog_9_method_5_code 21 = .ok (.iload_n 2, 1) := by decide +kernel
theorem d_M_turn_22 : decode prog_9_method_5_code 22 = .ok (.i2b, 1) := by decide +kernel
theorem d_M_turn_23 : decode prog_9_method_5_code 23 = .ok (.ixor, 1) := by decide +kernel
theorem d_M_turn_24 : decode prog_9_method_5_code 24 = .ok (.i2b, 1) := by decide +kernel
theorem d_M_turn_25 : decode prog_9_method_5_code 25 = .ok (.bastore, 1) := by decide +kernel
theorem d_M_turn_26 : decode prog_9_method_5_code 26 = .ok (.aload_n 0, 1) := by decide +kernel
theorem d_M_turn_27 : decode prog_9_method_5_code 27 = .ok (.getfield 7, 3) := by decide +kernel
theorem d_M_turn_30 : decode prog_9_method_5_code 30 = .ok (.iload_n 1, 1) := by decide +kernel
theorem d_M_turn_31 : decode prog_9_method_5_code 31 = .ok (.baload, 1) := by decide +kernel
theorem d_M_turn_32 : decode prog_9_method_5_code 32 = .ok (.sipush 255, 3) := by decide +kernel
theorem d_M_turn_35 : decode prog_9_method_5_code 35 = .ok (.iand, 1) := by decide +kernel
theorem d_M_turn_36 : decode prog_9_method_5_code 36 = .ok (.ireturn, 1) := by decide +kernel
theorem d_M_byteAt_0 : decode prog_9_method_6_code 0 = .ok (.iload_n 1, 1) := by decide +kernel
theorem d_M_byteAt_1 : decode prog_9_method_6_code 1 = .ok (.ifCond .lt 11, 3) := by decide +kernel
theorem d_M_byteAt_4 : decode prog_9_method_6_code 4 = .ok (.iload_n 1, 1) := by decide +kernel
theorem d_M_byteAt_5 : decode prog_9_method_6_code 5 = .ok (.aload_n 0, 1) := by decide +kernel
theorem d_M_byteAt_6 : decode prog_9_method_6_code 6 = .ok (.getfield 45, 3) := by decide +kernel
theorem d_M_byteAt_9 : decode prog_9_method_6_code 9 = .ok (.if_icmp .lt 7, 3) := by decide +kernel
theorem d_M_byteAt_12 : decode prog_9_method_6_code 12 = .ok (.iconst (-1), 1) := by decide +kernel
theorem d_M_byteAt_13 : decode prog_9_method_6_code 13 = .ok (.goto 13, 3) := by decide +kernel
theorem d_M_byteAt_16 : decode prog_9_method_6_code 16 = .ok (.aload_n 0, 1) := by decide +kernel
theorem d_M_byteAt_17 : decode prog_9_method_6_code 17 = .ok (.getfield 7, 3) := by decide +kernel
theorem d_M_byteAt_20 : decode prog_9_method_6_code 20 = .ok (.iload_n 1, 1) := by decide +kernel
theorem d_M_byteAt_21 : decode prog_9_method_6_code 21 = .ok (.baload, 1) := by decide +kernel
theorem d_M_byteAt_22 : decode prog_9_method_6_code 22 = .ok (.sipush 255, 3) := by decide +kernel
theorem d_M_byteAt_25 : decode prog_9_method_6_code 25 = .ok (.iand, 1) := by decide +kernel
theorem d_M_byteAt_26 : decode prog_9_method_6_code 26 = .ok (.ireturn, 1) := by decide +kernel
theorem d_M_fails_0 : decode prog_9_method_7_code 0 = .ok (.aload_n 0, 1) := by decide +kernel
theorem d_M_fails_1 : decode prog_9_method_7_code 1 = .ok (.getfield 49, 3) := by decide +kernel
theorem d_M_fails_4 : decode prog_9_method_7_code 4 = .ok (.ifCond .ne 13, 3) := by decide +kernel
theorem d_M_fails_7 : decode prog_9_method_7_code 7 = .ok (.aload_n 0, 1) := by decide +kernel
theorem d_M_fails_8 : decode prog_9_method_7_code 8 = .ok (.iload_n 1, 1) := by decide +kernel
theorem d_M_fails_9 : decode prog_9_method_7_code 9 = .ok (.putfield 49, 3) := by decide +kernel
theorem d_M_fails_12 : decode prog_9_method_7_code 12 = .ok (.aload_n 0, 1) := by decide +kernel
theorem d_M_fails_13 : decode prog_9_method_7_code 13 = .ok (.iload_n 2, 1) := by decide +kernel
theorem d_M_fails_14 : decode prog_9_method_7_code 14 = .ok (.putfield 52, 3) := by decide +kernel
theorem d_M_fails_17 : decode prog_9_method_7_code 17 = .ok (.iconst 1, 1) := by decide +kernel
theorem d_M_fails_18 : decode prog_9_method_7_code 18 = .ok (.ireturn, 1) := by decide +kernel
theorem d_M_ok_0 : decode prog_9_method_8_code 0 = .ok (.aload_n 0, 1) := by decide +kernel
theorem d_M_ok_1 : decode prog_9_method_8_code 1 = .ok (.getfield 49, 3) := by decide +kernel
theorem d_M_ok_4 : decode prog_9_method_8_code 4 = .ok (.ifCond .ne 7, 3) := by decide +kernel
theorem d_M_ok_7 : decode prog_9_method_8_code 7 = .ok (.iconst 1, 1) := by decide +kernel
theorem d_M_ok_8 : decode prog_9_method_8_code 8 = .ok (.goto 4, 3) := by decide +kernel
theorem d_M_ok_11 : decode prog_9_method_8_code 11 = .ok (.iconst 0, 1) := by decide +kernel
theorem d_M_ok_12 : decode prog_9_method_8_code 12 = .ok (.ireturn, 1) := by decide +kernel
theorem d_M_must_0 : decode prog_9_method_9_code 0 = .ok (.aload_n 0, 1) := by decide +kernel
theorem d_M_must_1 : decode prog_9_method_9_code 1 = .ok (.invokevirtual 55, 3) := by decide +kernel
theorem d_M_must_4 : decode prog_9_method_9_code 4 = .ok (.ifCond .eq 14, 3) := by decide +kernel
theorem d_M_must_7 : decode prog_9_method_9_code 7 = .ok (.iload_n 1, 1) := by decide +kernel
theorem d_M_must_8 : decode prog_9_method_9_code 8 = .ok (.ifCond .ne 10, 3) := by decide +kernel
theorem d_M_must_11 : decode prog_9_method_9_code 11 = .ok (.aload_n 0, 1) := by decide +kernel
theorem d_M_must_12 : decode prog_9_method_9_code 12 = .ok (.iload_n 2, 1) := by decide +kernel
theorem d_M_must_13 : decode prog_9_method_9_code 13 = .ok (.iload_n 3, 1) := by decide +kernel
theorem d_M_must_14 : decode prog_9_method_9_code 14 = .ok (.invokevirtual 59, 3) := by decide +kernel
theorem d_M_must_17 : decode prog_9_method_9_code 17 = .ok (.pop, 1) := by decide +kernel
theorem d_M_must_18 : decode prog_9_method_9_code 18 = .ok (.aload_n 0, 1) := by decide +kernel
theorem d_M_must_19 : decode prog_9_method_9_code 19 = .ok (.invokevirtual 55, 3) := by decide +kernel
theorem d_M_must_22 : decode prog_9_method_9_code 22 = .ok (.ireturn, 1) := by decide +kernel
theorem d_M_u1_0 : decode prog_9_method_10_code 0 = .ok (.aload_n 0, 1) := by decide +kernel
theorem d_M_u1_1 : decode prog_9_method_10_code 1 = .ok (.invokevirtual 55, 3) := by decide +kernel
theorem d_M_u1_4 : decode prog_9_method_10_code 4 = .ok (.ifCond .ne 5, 3) := by decide +kernel
theorem d_M_u1_7 : decode prog_9_method_10_code 7 = .ok (.iconst 0, 1) := by decide +kernel
theorem d_M_u1_8 : decode prog_9_method_10_code 8 = .ok (.ireturn, 1) := by decide +kernel
theorem d_M_u1_9 : decode prog_9_method_10_code 9 = .ok (.aload_n 0, 1) := by decide +kernel
theorem d_M_u1_10 : decode prog_9_method_10_code 10 = .ok (.getfield 63, 3) := by decide +kernel
theorem d_M_u1_13 : decode prog_9_method_10_code 13 = .ok (.aload_n 0, 1) := by decide +kernel
theorem d_M_u1_14 : decode prog_9_method_10_code 14 = .ok (.getfield 66, 3) := by decide +kernel
theorem d_M_u1_17 : decode prog_9_method_10_code 17 = .ok (.if_icmp .lt 15, 3) := by decide +kernel
theorem d_M_u1_20 : decode prog_9_method_10_code 20 = .ok (.aload_n 0, 1) := by decide +kernel
theorem d_M_u1_21 : decode prog_9_method_10_code 21 = .ok (.iconst 1, 1) := by decide +kernel
theorem d_M_u1_22 : decode prog_9_method_10_code 22 = .ok (.aload_n 0, 1) := by decide +kernel
theorem d_M_u1_23 : decode prog_9_method_10_code 23 = .ok (.getfield 66, 3) := by decide +kernel
theorem d_M_u1_26 : decode prog_9_method_10_code 26 = .ok (.invokevirtual 59, 3) := by decide +kernel
theorem d_M_u1_29 : decode prog_9_method_10_code 29 = .ok (.pop, 1) := by decide +kernel
theorem d_M_u1_30 : decode prog_9_method_10_code 30 = .ok (.iconst 0, 1) := by decide +kernel
theorem d_M_u1_31 : decode prog_9_method_10_code 31 = .ok (.ireturn, 1) := by decide +kernel
theorem d_M_u1_32 : decode prog_9_method_10_code 32 = .ok (.aload_n 0, 1) := by decide +kernel
theorem d_M_u1_33 : decode prog_9_method_10_code 33 = .ok (.dup, 1) := by decide +kernel
theorem d_M_u1_34 : decode prog_9_method_10_code 34 = .ok (.getfield 63, 3) := by decide +kernel
theorem d_M_u1_37 : decode prog_9_method_10_code 37 = .ok (.iconst 1, 1) := by decide +kernel
theorem d_M_u1_38 : decode prog_9_method_10_code 38 = .ok (.iadd, 1) := by decide +kernel
theorem d_M_u1_39 : decode prog_9_method_10_code 39 = .ok (.putfield 63, 3) := by decide +kernel
theorem d_M_u1_42 : decode prog_9_method_10_code 42 = .ok (.aload_n 0, 1) := by decide +kernel
theorem d_M_u1_43 : decode prog_9_method_10_code 43 = .ok (.getfield 7, 3) := by decide +kernel
theorem d_M_u1_46 : decode prog_9_method_10_code 46 = .ok (.aload_n 0, 1) := by decide +kernel
theorem d_M_u1_47 : decode prog_9_method_10_code 47 = .ok (.getfield 63, 3) := by decide +kernel
theorem d_M_u1_50 : decode prog_9_method_10_code 50 = .ok (.iconst 1, 1) := by decide +kernel
theorem d_M_u1_51 : decode prog_9_method_10_code 51 = .ok (.isub, 1) := by decide +kernel
theorem d_M_u1_52 : decode prog_9_method_10_code 52 = .ok (.baload, 1) := by decide +kernel
theorem d_M_u1_53 : decode prog_9_method_10_code 53 = .ok (.sipush 255, 3) := by decide +kernel
theorem d_M_u1_56 : decode prog_9_method_10_code 56 = .ok (.iand, 1) := by decide +kernel
theorem d_M_u1_57 : decode prog_9_method_10_code 57 = .ok (.ireturn, 1) := by decide +kernel
theorem d_M_u2_0 : decode prog_9_method_11_code 0 = .ok (.aload_n 0, 1) := by decide +kernel
theorem d_M_u2_1 : decode prog_9_method_11_code 1 = .ok (.invokevirtual 69, 3) := by decide +kernel
theorem d_M_u2_4 : decode prog_9_method_11_code 4 = .ok (.istore_n 1, 1) := by decide +kernel
theorem d_M_u2_5 : decode prog_9_method_11_code 5 = .ok (.iload_n 1, 1) := by decide +kernel
theorem d_M_u2_6 : decode prog_9_method_11_code 6 = .ok (.bipush 8, 2) := by decide +kernel
theorem d_M_u2_8 : decode prog_9_method_11_code 8 = .ok (.ishl, 1) := by decide +kernel
theorem d_M_u2_9 : decode prog_9_method_11_code 9 = .ok (.aload_n 0, 1) := by decide +kernel
theorem d_M_u2_10 : decode prog_9_method_11_code 10 = .ok (.invokevirtual 69, 3) := by decide +kernel
theorem d_M_u2_13 : decode prog_9_method_11_code 13 = .ok (.ior, 1) := by decide +kernel
theorem d_M_u2_14 : decode prog_9_method_11_code 14 = .ok (.ireturn, 1) := by decide +kernel
theorem d_M_u4_0 : decode prog_9_method_12_code 0 = .ok (.aload_n 0, 1) := by decide +kernel
theorem d_M_u4_1 : decode prog_9_method_12_code 1 = .ok (.invokevirtual 73, 3) := by decide +kernel
theorem d_M_u4_4 : decode prog_9_method_12_code 4 = .ok (.i2l, 1) := by decide +kernel
theorem d_M_u4_5 : decode prog_9_method_12_code 5 = .ok (.lstore_n 1, 1) := by decide +kernel
theorem d_M_u4_6 : decode prog_9_method_12_code 6 = .ok (.lload_n 1, 1) := by decide +kernel
theorem d_M_u4_7 : decode prog_9_method_12_code 7 = .ok (.bipush 16, 2) := by decide +kernel
theorem d_M_u4_9 : decode prog_9_method_12_code 9 = .ok (.lshl, 1) := by decide +kernel
theorem d_M_u4_10 : decode prog_9_method_12_code 10 = .ok (.aload_n 0, 1) := by decide +kernel
theorem d_M_u4_11 : decode prog_9_method_12_code 11 = .ok (.invokevirtual 73, 3) := by decide +kernel
theorem d_M_u4_14 : decode prog_9_method_12_code 14 = .ok (.i2l, 1) := by decide +kernel
theorem d_M_u4_15 : decode prog_9_method_12_code 15 = .ok (.lor, 1) := by decide +kernel
theorem d_M_u4_16 : decode prog_9_method_12_code 16 = .ok (.lreturn, 1) := by decide +kernel
theorem d_M_two_0 : decode prog_9_method_13_code 0 = .ok (.aload_n 0, 1) := by decide +kernel
theorem d_M_two_1 : decode prog_9_method_13_code 1 = .ok (.getfield 7, 3) := by decide +kernel
theorem d_M_two_4 : decode prog_9_method_13_code 4 = .ok (.iload_n 1, 1) := by decide +kernel
theorem d_M_two_5 : decode prog_9_method_13_code 5 = .ok (.baload, 1) := by decide +kernel
theorem d_M_two_6 : decode prog_9_method_13_code 6 = .ok (.sipush 255, 3) := by decide +kernel
theorem d_M_two_9 : decode prog_9_method_13_code 9 = .ok (.iand, 1) := by decide +kernel
theorem d_M_two_10 : decode prog_9_method_13_code 10 = .ok (.bipush 8, 2) := by decide +kernel
theorem d_M_two_12 : decode prog_9_method_13_code 12 = .ok (.ishl, 1) := by decide +kernel
theorem d_M_two_13 : decode prog_9_method_13_code 13 = .ok (.aload_n 0, 1) := by decide +kernel
theorem d_M_two_14 : decode prog_9_method_13_code 14 = .ok (.getfield 7, 3) := by decide +kernel
theorem d_M_two_17 : decode prog_9_method_13_code 17 = .ok (.iload_n 1, 1) := by decide +kernel
theorem d_M_two_18 : decode prog_9_method_13_code 18 = .ok (.iconst 1, 1) := by decide +kernel
theorem d_M_two_19 : decode prog_9_method_13_code 19 = .ok (.iadd, 1) := by decide +kernel
theorem d_M_two_20 : decode prog_9_method_13_code 20 = .ok (.baload, 1) := by decide +kernel
theorem d_M_two_21 : decode prog_9_method_13_code 21 = .ok (.sipush 255, 3) := by decide +kernel
theorem d_M_two_24 : decode prog_9_method_13_code 24 = .ok (.iand, 1) := by decide +kernel
theorem d_M_two_25 : decode prog_9_method_13_code 25 = .ok (.ior, 1) := by decide +kernel
theorem d_M_two_26 : decode prog_9_method_13_code 26 = .ok (.ireturn, 1) := by decide +kernel
theorem d_M_textAt_0 : decode prog_9_method_14_code 0 = .ok (.aload_n 0, 1) := by decide +kernel
theorem d_M_textAt_1 : decode prog_9_method_14_code 1 = .ok (.getfield 17, 3) := by decide +kernel
theorem d_M_textAt_4 : decode prog_9_method_14_code 4 = .ok (.iload_n 1, 1) := by decide +kernel
theorem d_M_textAt_5 : decode prog_9_method_14_code 5 = .ok (.iaload, 1) := by decide +kernel
theorem d_M_textAt_6 : decode prog_9_method_14_code 6 = .ok (.iconst 3, 1) := by decide +kernel
theorem d_M_textAt_7 : decode prog_9_method_14_code 7 = .ok (.iadd, 1) := by decide +kernel
theorem d_M_textAt_8 : decode prog_9_method_14_code 8 = .ok (.ireturn, 1) := by decide +kernel
theorem d_M_textSize_0 : decode prog_9_method_15_code 0 = .ok (.aload_n 0, 1) := by decide +kernel
theorem d_M_textSize_1 : decode prog_9_method_15_code 1 = .ok (.aload_n 0, 1) := by decide +kernel
theorem d_M_textSize_2 : decode prog_9_method_15_code 2 = .ok (.getfield 17, 3) := by decide +kernel
theorem d_M_textSize_5 : decode prog_9_method_15_code 5 = .ok (.iload_n 1, 1) := by decide +kernel
theorem d_M_textSize_6 : decode prog_9_method_15_code 6 = .ok (.iaload, 1) := by decide +kernel
theorem d_M_textSize_7 : decode prog_9_method_15_code 7 = .ok (.iconst 1, 1) := by decide +kernel
theorem d_M_textSize_8 : decode prog_9_method_15_code 8 = .ok (.iadd, 1) := by decide +kernel
theorem d_M_textSize_9 : decode prog_9_method_15_code 9 = .ok (.invokevirtual 76, 3) := by decide +kernel
theorem d_M_textSize_12 : decode prog_9_method_15_code 12 = .ok (.ireturn, 1) := by decide +kernel
theorem d_M_letter_0 : decode prog_9_method_16_code 0 = .ok (.iload_n 2, 1) := by decide +kernel
theorem d_M_letter_1 : decode prog_9_method_16_code 1 = .ok (.aload_n 0, 1) := by decide +kernel
theorem d_M_letter_2 : decode prog_9_method_16_code 2 = .ok (.iload_n 1, 1) := by decide +kernel
theorem d_M_letter_3 : decode prog_9_method_16_code 3 = .ok (.invokevirtual 80, 3) := by decide +kernel
theorem d_M_letter_6 : decode prog_9_method_16_code 6 = .ok (.if_icmp .ge 22, 3) := by decide +kernel
theorem d_M_letter_9 : decode prog_9_method_16_code 9 = .ok (.aload_n 0, 1) := by decide +kernel
theorem d_M_letter_10 : decode prog_9_method_16_code 10 = .ok (.getfield 7, 3) := by decide +kernel
theorem d_M_letter_13 : decode prog_9_method_16_code 13 = .ok (.aload_n 0, 1) := by decide +kernel
theorem d_M_letter_14 : decode prog_9_method_16_code 14 = .ok (.iload_n 1, 1) := by decide +kernel
theorem d_M_letter_15 : decode prog_9_method_16_code 15 = .ok (.invokevirtual 83, 3) := by decide +kernel
theorem d_M_letter_18 : decode prog_9_method_16_code 18 = .ok (.iload_n 2, 1) := by decide +kernel
theorem d_M_letter_19 : decode prog_9_method_16_code 19 = .ok (.iadd, 1) := by decide +kernel
theorem d_M_letter_20 : decode prog_9_method_16_code 20 = .ok (.baload, 1) := by decide +kernel
theorem d_M_letter_21 : decode prog_9_method_16_code 21 = .ok (.sipush 255, 3) := by decide +kernel
theorem d_M_letter_24 : decode prog_9_method_16_code 24 = .ok (.iand, 1) := by decide +kernel
theorem d_M_letter_25 : decode prog_9_method_16_code 25 = .ok (.goto 6, 3) := by decide +kernel
theorem d_M_letter_28 : decode prog_9_method_16_code 28 = .ok (.sipush 256, 3) := by decide +kernel
theorem d_M_letter_31 : decode prog_9_method_16_code 31 = .ok (.ireturn, 1) := by decide +kernel
theorem d_M_same_0 : decode prog_9_method_17_code 0 = .ok (.aload_n 0, 1) := by decide +kernel
theorem d_M_same_1 : decode prog_9_method_17_code 1 = .ok (.iload_n 1, 1) := by decide +kernel
theorem d_M_same_2 : decode prog_9_method_17_code 2 = .ok (.invokevirtual 80, 3) := by decide +kernel
theorem d_M_same_5 : decode prog_9_method_17_code 5 = .ok (.aload_n 0, 1) := by decide +kernel
theorem d_M_same_6 : decode prog_9_method_17_code 6 = .ok (.iload_n 2, 1) := by decide +kernel
theorem d_M_same_7 : decode prog_9_method_17_code 7 = .ok (.invokevirtual 80, 3) := by decide +kernel
theorem d_M_same_10 : decode prog_9_method_17_code 10 = .ok (.if_icmp .ne 7, 3) := by decide +kernel
theorem d_M_same_13 : decode prog_9_method_17_code 13 = .ok (.iconst 1, 1) := by decide +kernel
theorem d_M_same_14 : decode prog_9_method_17_code 14 = .ok (.goto 4, 3) := by decide +kernel
theorem d_M_same_17 : decode prog_9_method_17_code 17 = .ok (.iconst 0, 1) := by decide +kernel
theorem d_M_same_18 : decode prog_9_method_17_code 18 = .ok (.istore_n 3, 1) := by decide +kernel
theorem d_M_same_19 : decode prog_9_method_17_code 19 = .ok (.iconst 0, 1) := by decide +kernel
theorem d_M_same_20 : decode prog_9_method_17_code 20 = .ok (.istore 4, 2) := by decide +kernel
theorem d_M_same_22 : decode prog_9_method_17_code 22 = .ok (.iload_n 3, 1) := by decide +kernel
theorem d_M_same_23 : decode prog_9_method_17_code 23 = .ok (.ifCond .eq 42, 3) := by decide +kernel
theorem d_M_same_26 : decode prog_9_method_17_code 26 = .ok (.iload 4, 2) := by decide +kernel
theorem d_M_same_28 : decode prog_9_method_17_code 28 = .ok (.aload_n 0, 1) := by decide +kernel
theorem d_M_same_29 : decode prog_9_method_17_code 29 = .ok (.iload_n 1, 1) := by decide +kernel
theorem d_M_same_30 : decode prog_9_method_17_code 30 = .ok (.invokevirtual 80, 3) := by decide +kernel
theorem d_M_same_33 : decode prog_9_method_17_code 33 = .ok (.if_icmp .ge 32, 3) := by decide +kernel
theorem d_M_same_36 : decode prog_9_method_17_code 36 = .ok (.aload_n 0, 1) := by decide +kernel
theorem d_M_same_37 : decode prog_9_method_17_code 37 = .ok (.iload_n 1, 1) := by decide +kernel
theorem d_M_same_38 : decode prog_9_method_17_code 38 = .ok (.iload 4, 2) := by decide +kernel
theorem d_M_same_40 : decode prog_9_method_17_code 40 = .ok (.invokevirtual 86, 3) := by decide +kernel
theorem d_M_same_43 : decode prog_9_method_17_code 43 = .ok (.aload_n 0, 1) := by decide +kernel
theorem d_M_same_44 : decode prog_9_method_17_code 44 = .ok (.iload_n 2, 1) := by decide +kernel
theorem d_M_same_45 : decode prog_9_method_17_code 45 = .ok (.iload 4, 2) := by decide +kernel
theorem d_M_same_47 : decode prog_9_method_17_code 47 = .ok (.invokevirtual 86, 3) := by decide +kernel
theorem d_M_same_50 : decode prog_9_method_17_code 50 = .ok (.if_icmp .ne 7, 3) := by decide +kernel
theorem d_M_same_53 : decode prog_9_method_17_code 53 = .ok (.iconst 1, 1) := by decide +kernel
theorem d_M_same_54 : decode prog_9_method_17_code 54 = .ok (.goto 4, 3) := by decide +kernel
theorem d_M_same_57 : decode prog_9_method_17_code 57 = .ok (.iconst 0, 1) := by decide +kernel
theorem d_M_same_58 : decode prog_9_method_17_code 58 = .ok (.istore_n 3, 1) := by decide +kernel
theorem d_M_same_59 : decode prog_9_method_17_code 59 = .ok (.iinc 4 1, 3) := by decide +kernel
theorem d_M_same_62 : decode prog_9_method_17_code 62 = .ok (.goto (-40), 3) := by decide +kernel
theorem d_M_same_65 : decode prog_9_method_17_code 65 = .ok (.iload_n 3, 1) := by decide +kernel
theorem d_M_same_66 : decode prog_9_method_17_code 66 = .ok (.ireturn, 1) := by decide +kernel
theorem d_M_is_0 : decode prog_9_method_18_code 0 = .ok (.aload_n 0, 1) := by decide +kernel
theorem d_M_is_1 : decode prog_9_method_18_code 1 = .ok (.iload_n 1, 1) := by decide +kernel
theorem d_M_is_2 : decode prog_9_method_18_code 2 = .ok (.invokevirtual 80, 3) := by decide +kernel
theorem d_M_is_5 : decode prog_9_method_18_code 5 = .ok (.iload_n 2, 1) := by decide +kernel
theorem d_M_is_6 : decode prog_9_method_18_code 6 = .ok (.if_icmp .ne 7, 3) := by decide +kernel
theorem d_M_is_9 : decode prog_9_method_18_code 9 = .ok (.iconst 1, 1) := by decide +kernel
theorem d_M_is_10 : decode prog_9_method_18_code 10 = .ok (.goto 4, 3) := by decide +kernel
theorem d_M_is_13 : decode prog_9_method_18_code 13 = .ok (.iconst 0, 1) := by decide +kernel
theorem d_M_is_14 : decode prog_9_method_18_code 14 = .ok (.istore 9, 2) := by decide +kernel
theorem d_M_is_16 : decode prog_9_method_18_code 16 = .ok (.iconst 0, 1) := by decide +kernel
theorem d_M_is_17 : decode prog_9_method_18_code 17 = .ok (.istore 10, 2) := by decide +kernel
theorem d_M_is_19 : decode prog_9_method_18_code 19 = .ok (.iload 9, 2) := by decide +kernel
theorem d_M_is_21 : decode prog_9_method_18_code 21 = .ok (.ifCond .eq 112, 3) := by decide +kernel
theorem d_M_is_24 : decode prog_9_method_18_code 24 = .ok (.iload 10, 2) := by decide +kernel
theorem d_M_is_26 : decode prog_9_method_18_code 26 = .ok (.iload_n 2, 1) := by decide +kernel
theorem d_M_is_27 : decode prog_9_method_18_code 27 = .ok (.if_icmp .ge 106, 3) := by decide +kernel
theorem d_M_is_30 : decode prog_9_method_18_code 30 = .ok (.iload_n 2, 1) := by decide +kernel
theorem d_M_is_31 : decode prog_9_method_18_code 31 = .ok (.iload 10, 2) := by decide +kernel
theorem d_M_is_33 : decode prog_9_method_18_code 33 = .ok (.bipush 8, 2) := by decide +kernel
theorem d_M_is_35 : decode prog_9_method_18_code 35 = .ok (.idiv, 1) := by decide +kernel
theorem d_M_is_36 : decode prog_9_method_18_code 36 = .ok (.bipush 8, 2) := by decide +kernel
theorem d_M_is_38 : decode prog_9_method_18_code 38 = .ok (.imul, 1) := by decide +kernel
theorem d_M_is_39 : decode prog_9_method_18_code 39 = .ok (.isub, 1) := by decide +kernel
theorem d_M_is_40 : decode prog_9_method_18_code 40 = .ok (.bipush 8, 2) := by decide +kernel
theorem d_M_is_42 : decode prog_9_method_18_code 42 = .ok (.if_icmp .ge 16, 3) := by decide +kernel
theorem d_M_is_45 : decode prog_9_method_18_code 45 = .ok (.iload_n 2, 1) := by decide +kernel
theorem d_M_is_46 : decode prog_9_method_18_code 46 = .ok (.iload 10, 2) := by decide +kernel
theorem d_M_is_48 : decode prog_9_method_18_code 48 = .ok (.bipush 8, 2) := by decide +kernel
theorem d_M_is_50 : decode prog_9_method_18_code 50 = .ok (.idiv, 1) := by decide +kernel
theorem d_M_is_51 : decode prog_9_method_18_code 51 = .ok (.bipush 8, 2) := by decide +kernel
theorem d_M_is_53 : decode prog_9_method_18_code 53 = .ok (.imul, 1) := by decide +kernel
theorem d_M_is_54 : decode prog_9_method_18_code 54 = .ok (.isub, 1) := by decide +kernel
theorem d_M_is_55 : decode prog_9_method_18_code 55 = .ok (.goto 5, 3) := by decide +kernel
theorem d_M_is_58 : decode prog_9_method_18_code 58 = .ok (.bipush 8, 2) := by decide +kernel
theorem d_M_is_60 : decode prog_9_method_18_code 60 = .ok (.istore 11, 2) := by decide +kernel
theorem d_M_is_62 : decode prog_9_method_18_code 62 = .ok (.iload 10, 2) := by decide +kernel
theorem d_M_is_64 : decode prog_9_method_18_code 64 = .ok (.bipush 8, 2) := by decide +kernel
theorem d_M_is_66 : decode prog_9_method_18_code 66 = .ok (.if_icmp .ge 7, 3) := by decide +kernel
theorem d_M_is_69 : decode prog_9_method_18_code 69 = .ok (.lload_n 3, 1) := by decide +kernel
theorem d_M_is_70 : decode prog_9_method_18_code 70 = .ok (.goto 17, 3) := by decide +kernel
theorem d_M_is_73 : decode prog_9_method_18_code 73 = .ok (.iload 10, 2) := by decide +kernel
theorem d_M_is_75 : decode prog_9_method_18_code 75 = .ok (.bipush 16, 2) := by decide +kernel
theorem d_M_is_77 : decode prog_9_method_18_code 77 = .ok (.if_icmp .ge 8, 3) := by decide +kernel
theorem d_M_is_80 : decode prog_9_method_18_code 80 = .ok (.lload 5, 2) := by decide +kernel
theorem d_M_is_82 : decode prog_9_method_18_code 82 = .ok (.goto 5, 3) := by decide +kernel
theorem d_M_is_85 : decode prog_9_method_18_code 85 = .ok (.lload 7, 2) := by decide +kernel
theorem d_M_is_87 : decode prog_9_method_18_code 87 = .ok (.lstore 12, 2) := by decide +kernel
theorem d_M_is_89 : decode prog_9_method_18_code 89 = .ok (.aload_n 0, 1) := by decide +kernel
theorem d_M_is_90 : decode prog_9_method_18_code 90 = .ok (.iload_n 1, 1) := by decide +kernel
theorem d_M_is_91 : decode prog_9_method_18_code 91 = .ok (.iload 10, 2) := by decide +kernel
theorem d_M_is_93 : decode prog_9_method_18_code 93 = .ok (.invokevirtual 86, 3) := by decide +kernel
theorem d_M_is_96 : decode prog_9_method_18_code 96 = .ok (.lload 12, 2) := by decide +kernel
theorem d_M_is_98 : decode prog_9_method_18_code 98 = .ok (.bipush 8, 2) := by decide +kernel
theorem d_M_is_100 : decode prog_9_method_18_code 100 = .ok (.iload 11, 2) := by decide +kernel
theorem d_M_is_102 : decode prog_9_method_18_code 102 = .ok (.iconst 1, 1) := by decide +kernel
theorem d_M_is_103 : decode prog_9_method_18_code 103 = .ok (.isub, 1) := by decide +kernel
theorem d_M_is_104 : decode prog_9_method_18_code 104 = .ok (.iload 10, 2) := by decide +kernel
theorem d_M_is_106 : decode prog_9_method_18_code 106 = .ok (.bipush 8, 2) := by decide +kernel
theorem d_M_is_108 : decode prog_9_method_18_code 108 = .ok (.irem, 1) := by decide +kernel
theorem d_M_is_109 : decode prog_9_method_18_code 109 = .ok (.isub, 1) := by decide +kernel
theorem d_M_is_110 : decode prog_9_method_18_code 110 = .ok (.imul, 1) := by decide +kernel
theorem d_M_is_111 : decode prog_9_method_18_code 111 = .ok (.lshr, 1) := by decide +kernel
theorem d_M_is_112 : decode prog_9_method_18_code 112 = .ok (.ldc2_w 90, 3) := by decide +kernel
theorem d_M_is_115 : decode prog_9_method_18_code 115 = .ok (.land, 1) := by decide +kernel
theorem d_M_is_116 : decode prog_9_method_18_code 116 = .ok (.l2i, 1) := by decide +kernel
theorem d_M_is_117 : decode prog_9_method_18_code 117 = .ok (.if_icmp .ne 7, 3) := by decide +kernel
theorem d_M_is_120 : decode prog_9_method_18_code 120 = .ok (.iconst 1, 1) := by decide +kernel
theorem d_M_is_121 : decode prog_9_method_18_code 121 = .ok (.goto 4, 3) := by decide +kernel
theorem d_M_is_124 : decode prog_9_method_18_code 124 = .ok (.iconst 0, 1) := by decide +kernel
theorem d_M_is_125 : decode prog_9_method_18_code 125 = .ok (.istore 9, 2) := by decide +kernel
theorem d_M_is_127 : decode prog_9_method_18_code 127 = .ok (.iinc 10 1, 3) := by decide +kernel
theorem d_M_is_130 : decode prog_9_method_18_code 130 = .ok (.goto (-111), 3) := by decide +kernel
theorem d_M_is_133 : decode prog_9_method_18_code 133 = .ok (.iload 9, 2) := by decide +kernel
theorem d_M_is_135 : decode prog_9_method_18_code 135 = .ok (.ireturn, 1) := by decide +kernel
theorem d_M_isPlain_0 : decode prog_9_method_19_code 0 = .ok (.iload_n 0, 1) := by decide +kernel
theorem d_M_isPlain_1 : decode prog_9_method_19_code 1 = .ok (.bipush 46, 2) := by decide +kernel
theorem d_M_isPlain_3 : decode prog_9_method_19_code 3 = .ok (.if_icmp .eq 44, 3) := by decide +kernel
theorem d_M_isPlain_6 : decode prog_9_method_19_code 6 = .ok (.iload_n 0, 1) := by decide +kernel
theorem d_M_isPlain_7 : decode prog_9_method_19_code 7 = .ok (.bipush 59, 2) := by decide +kernel
theorem d_M_isPlain_9 : decode prog_9_method_19_code 9 = .ok (.if_icmp .eq 38, 3) := by decide +kernel
theorem d_M_isPlain_12 : decode prog_9_method_19_code 12 = .ok (.iload_n 0, 1) := by decide +kernel
theorem d_M_isPlain_13 : decode prog_9_method_19_code 13 = .ok (.bipush 91, 2) := by decide +kernel
theorem d_M_isPlain_15 : decode prog_9_method_19_code 15 = .ok (.if_icmp .eq 32, 3) := by decide +kernel
theorem d_M_isPlain_18 : decode prog_9_method_19_code 18 = .ok (.iload_n 0, 1) := by decide +kernel
theorem d_M_isPlain_19 : decode prog_9_method_19_code 19 = .ok (.bipush 47, 2) := by decide +kernel
theorem d_M_isPlain_21 : decode prog_9_method_19_code 21 = .ok (.if_icmp .eq 26, 3) := by decide +kernel
theorem d_M_isPlain_24 : decode prog_9_method_19_code 24 = .ok (.iload_n 0, 1) := by decide +kernel
theorem d_M_isPlain_25 : decode prog_9_method_19_code 25 = .ok (.bipush 60, 2) := by decide +kernel
theorem d_M_isPlain_27 : decode prog_9_method_19_code 27 = .ok (.if_icmp .eq 20, 3) := by decide +kernel
theorem d_M_isPlain_30 : decode prog_9_method_19_code 30 = .ok (.iload_n 0, 1) := by decide +kernel
theorem d_M_isPlain_31 : decode prog_9_method_19_code 31 = .ok (.bipush 62, 2) := by decide +kernel
theorem d_M_isPlain_33 : decode prog_9_method_19_code 33 = .ok (.if_icmp .eq 14, 3) := by decide +kernel
theorem d_M_isPlain_36 : decode prog_9_method_19_code 36 = .ok (.iload_n 0, 1) := by decide +kernel
theorem d_M_isPlain_37 : decode prog_9_method_19_code 37 = .ok (.sipush 256, 3) := by decide +kernel
theorem d_M_isPlain_40 : decode prog_9_method_19_code 40 = .ok (.if_icmp .eq 7, 3) := by decide +kernel
theorem d_M_isPlain_43 : decode prog_9_method_19_code 43 = .ok (.iconst 1, 1) := by decide +kernel
theorem d_M_isPlain_44 : decode prog_9_method_19_code 44 = .ok (.goto 4, 3) := by decide +kernel
theorem d_M_isPlain_47 : decode prog_9_method_19_code 47 = .ok (.iconst 0, 1) := by decide +kernel
theorem d_M_isPlain_48 : decode prog_9_method_19_code 48 = .ok (.ireturn, 1) := by decide +kernel
theorem d_M_isPlainName_0 : decode prog_9_method_20_code 0 = .ok (.aload_n 0, 1) := by decide +kernel
theorem d_M_isPlainName_1 : decode prog_9_method_20_code 1 = .ok (.iload_n 1, 1) := by decide +kernel
theorem d_M_isPlainName_2 : decode prog_9_method_20_code 2 = .ok (.invokevirtual 80, 3) := by decide +kernel
theorem d_M_isPlainName_5 : decode prog_9_method_20_code 5 = .ok (.ifCond .le 7, 3) := by decide +kernel
theorem d_M_isPlainName_8 : decode prog_9_method_20_code 8 = .ok (.iconst 1, 1) := by decide +kernel
theorem d_M_isPlainName_9 : decode prog_9_method_20_code 9 = .ok (.goto 4, 3) := by decide +kernel
theorem d_M_isPlainName_12 : decode prog_9_method_20_code 12 = .ok (.iconst 0, 1) := by decide +kernel
theorem d_M_isPlainName_13 : decode prog_9_method_20_code 13 = .ok (.istore_n 2, 1) := by decide +kernel
theorem d_M_isPlainName_14 : decode prog_9_method_20_code 14 = .ok (.iconst 0, 1) := by decide +kernel
theorem d_M_isPlainName_15 : decode prog_9_method_20_code 15 = .ok (.istore_n 3, 1) := by decide +kernel
theorem d_M_isPlainName_16 : decode prog_9_method_20_code 16 = .ok (.iload_n 3, 1) := by decide +kernel
theorem d_M_isPlainName_17 : decode prog_9_method_20_code 17 = .ok (.aload_n 0, 1) := by decide +kernel
theorem d_M_isPlainName_18 : decode prog_9_method_20_code 18 = .ok (.iload_n 1, 1) := by decide +kernel
theorem d_M_isPlainName_19 : decode prog_9_method_20_code 19 = .ok (.invokevirtual 80, 3) := by decide +kernel
theorem d_M_isPlainName_22 : decode prog_9_method_20_code 22 = .ok (.if_icmp .ge 21, 3) := by decide +kernel
theorem d_M_isPlainName_25 : decode prog_9_method_20_code 25 = .ok (.iload_n 2, 1) := by decide +kernel
theorem d_M_isPlainName_26 : decode prog_9_method_20_code 26 = .ok (.aload_n 0, 1) := by decide +kernel
theorem d_M_isPlainName_27 : decode prog_9_method_20_code 27 = .ok (.iload_n 1, 1) := by decide +kernel
theorem d_M_isPlainName_28 : decode prog_9_method_20_code 28 = .ok (.iload_n 3, 1) := by decide +kernel
theorem d_M_isPlainName_29 : decode prog_9_method_20_code 29 = .ok (.invokevirtual 86, 3) := by decide +kernel
theorem d_M_isPlainName_32 : decode prog_9_method_20_code 32 = .ok (.invokestatic 92, 3) := by decide +kernel
theorem d_M_isPlainName_35 : decode prog_9_method_20_code 35 = .ok (.iand, 1) := by decide +kernel
theorem d_M_isPlainName_36 : decode prog_9_method_20_code 36 = .ok (.istore_n 2, 1) := by decide +kernel
theorem d_M_isPlainName_37 : decode prog_9_method_20_code 37 = .ok (.iinc 3 1, 3) := by decide +kernel
theorem d_M_isPlainName_40 : decode prog_9_method_20_code 40 = .ok (.goto (-24), 3) := by decide +kernel
theorem d_M_isPlainName_43 : decode prog_9_method_20_code 43 = .ok (.iload_n 2, 1) := by decide +kernel
theorem d_M_isPlainName_44 : decode prog_9_method_20_code 44 = .ok (.ireturn, 1) := by decide +kernel
theorem d_M_classEnd_0 : decode prog_9_method_21_code 0 = .ok (.iload_n 2, 1) := by decide +kernel
theorem d_M_classEnd_1 : decode prog_9_method_21_code 1 = .ok (.istore_n 3, 1) := by decide +kernel
theorem d_M_classEnd_2 : decode prog_9_method_21_code 2 = .ok (.iload_n 3, 1) := by decide +kernel
theorem d_M_classEnd_3 : decode prog_9_method_21_code 3 = .ok (.istore 4, 2) := by decide +kernel
theorem d_M_classEnd_5 : decode prog_9_method_21_code 5 = .ok (.aload_n 0, 1) := by decide +kernel
theorem d_M_classEnd_6 : decode prog_9_method_21_code 6 = .ok (.iload_n 1, 1) := by decide +kernel
theorem d_M_classEnd_7 : decode prog_9_method_21_code 7 = .ok (.iload_n 3, 1) := by decide +kernel
theorem d_M_classEnd_8 : decode prog_9_method_21_code 8 = .ok (.invokevirtual 86, 3) := by decide +kernel
theorem d_M_classEnd_11 : decode prog_9_method_21_code 11 = .ok (.invokestatic 92, 3) := by decide +kernel
theorem d_M_classEnd_14 : decode prog_9_method_21_code 14 = .ok (.ifCond .eq 9, 3) := by decide +kernel
theorem d_M_classEnd_17 : decode prog_9_method_21_code 17 = .ok (.iinc 3 1, 3) := by decide +kernel
theorem d_M_classEnd_20 : decode prog_9_method_21_code 20 = .ok (.goto (-15), 3) := by decide +kernel
theorem d_M_classEnd_23 : decode prog_9_method_21_code 23 = .ok (.iload_n 3, 1) := by decide +kernel
theorem d_M_classEnd_24 : decode prog_9_method_21_code 24 = .ok (.iload 4, 2) := by decide +kernel
theorem d_M_classEnd_26 : decode prog_9_method_21_code 26 = .ok (.if_icmp .ne 5, 3) := by decide +kernel
theorem d_M_classEnd_29 : decode prog_9_method_21_code 29 = .ok (.iconst (-1), 1) := by decide +kernel
theorem d_M_classEnd_30 : decode prog_9_method_21_code 30 = .ok (.ireturn, 1) := by decide +kernel
theorem d_M_classEnd_31 : decode prog_9_method_21_code 31 = .ok (.aload_n 0, 1) := by decide +kernel
theorem d_M_classEnd_32 : decode prog_9_method_21_code 32 = .ok (.iload_n 1, 1) := by decide +kernel
theorem d_M_classEnd_33 : decode prog_9_method_21_code 33 = .ok (.iload_n 3, 1) := by decide +kernel
theorem d_M_classEnd_34 : decode prog_9_method_21_code 34 = .ok (.invokevirtual 86, 3) := by decide +kernel
theorem d_M_classEnd_37 : decode prog_9_method_21_code 37 = .ok (.bipush 47, 2) := by decide +kernel
theorem d_M_classEnd_39 : decode prog_9_method_21_code 39 = .ok (.if_icmp .eq 5, 3) := by decide +kernel
theorem d_M_classEnd_42 : decode prog_9_method_21_code 42 = .ok (.iload_n 3, 1) := by decide +kernel
theorem d_M_classEnd_43 : decode prog_9_method_21_code 43 = .ok (.ireturn, 1) := by decide +kernel
theorem d_M_classEnd_44 : decode prog_9_method_21_code 44 = .ok (.iinc 3 1, 3) := by decide +kernel
theorem d_M_classEnd_47 : decode prog_9_method_21_code 47 = .ok (.goto (-45), 3) := by decide +kernel
theorem d_M_isClassName_0 : decode prog_9_method_22_code 0 = .ok (.aload_n 0, 1) := by decide +kernel
theorem d_M_isClassName_1 : decode prog_9_method_22_code 1 = .ok (.iload_n 1, 1) := by decide +kernel
theorem d_M_isClassName_2 : decode prog_9_method_22_code 2 = .ok (.iconst 0, 1) := by decide +kernel
theorem d_M_isClassName_3 : decode prog_9_method_22_code 3 = .ok (.invokevirtual 96, 3) := by decide +kernel
theorem d_M_isClassName_6 : decode prog_9_method_22_code 6 = .ok (.aload_n 0, 1) := by decide +kernel
theorem d_M_isClassName_7 : decode prog_9_method_22_code 7 = .ok (.iload_n 1, 1) := by decide +kernel
theorem d_M_isClassName_8 : decode prog_9_method_22_code 8 = .ok (.invokevirtual 80, 3) := by decide +kernel
theorem d_M_isClassName_11 : decode prog_9_method_22_code 11 = .ok (.if_icmp .ne 7, 3) := by decide +kernel
theorem d_M_isClassName_14 : decode prog_9_method_22_code 14 = .ok (.iconst 1, 1) := by decide +kernel
theorem d_M_isClassName_15 : decode prog_9_method_22_code 15 = .ok (.goto 4, 3) := by decide +kernel
theorem d_M_isClassName_18 : decode prog_9_method_22_code 18 = .ok (.iconst 0, 1) := by decide +kernel
theorem d_M_isClassName_19 : decode prog_9_method_22_code 19 = .ok (.ireturn, 1) := by decide +kernel
theorem d_M_typeEnd_0 : decode prog_9_method_23_code 0 = .ok (.iload_n 2, 1) := by decide +kernel
theorem d_M_typeEnd_1 : decode prog_9_method_23_code 1 = .ok (.istore_n 3, 1) := by decide +kernel
theorem d_M_typeEnd_2 : decode prog_9_method_23_code 2 = .ok (.aload_n 0, 1) := by decide +kernel
theorem d_M_typeEnd_3 : decode prog_9_method_23_code 3 = .ok (.iload_n 1, 1) := by decide +kernel
theorem d_M_typeEnd_4 : decode prog_9_method_23_code 4 = .ok (.iload_n 3, 1) := by decide +kernel
theorem d_M_typeEnd_5 : decode prog_9_method_23_code 5 = .ok (.invokevirtual 86, 3) := by decide +kernel
theorem d_M_typeEnd_8 : decode prog_9_method_23_code 8 = .ok (.bipush 91, 2) := by decide +kernel
theorem d_M_typeEnd_10 : decode prog_9_method_23_code 10 = .ok (.if_icmp .ne 9, 3) := by decide +kernel
theorem d_M_typeEnd_13 : decode prog_9_method_23_code 13 = .ok (.iinc 3 1, 3) := by decide +kernel
theorem d_M_typeEnd_16 : decode prog_9_method_23_code 16 = .ok (.goto (-14), 3) := by decide +kernel
theorem d_M_typeEnd_19 : decode prog_9_method_23_code 19 = .ok (.iload_n 3, 1) := by decide +kernel
theorem d_M_typeEnd_20 : decode prog_9_method_23_code 20 = .ok (.iload_n 2, 1) := by decide +kernel
theorem d_M_typeEnd_21 : decode prog_9_method_23_code 21 = .ok (.isub, 1) := by decide +kernel
theorem d_M_typeEnd_22 : decode prog_9_method_23_code 22 = .ok (.bipush 8, 2) := by decide +kernel
theorem d_M_typeEnd_24 : decode prog_9_method_23_code 24 = .ok (.if_icmp .le 5, 3) := by decide +kernel
theorem d_M_typeEnd_27 : decode prog_9_method_23_code 27 = .ok (.iconst (-1), 1) := by decide +kernel
theorem d_M_typeEnd_28 : decode prog_9_method_23_code 28 = .ok (.ireturn, 1) := by decide +kernel
theorem d_M_typeEnd_29 : decode prog_9_method_23_code 29 = .ok (.aload_n 0, 1) := by decide +kernel
theorem d_M_typeEnd_30 : decode prog_9_method_23_code 30 = .ok (.iload_n 1, 1) := by decide +kernel
theorem d_M_typeEnd_31 : decode prog_9_method_23_code 31 = .ok (.iload_n 3, 1) := by decide +kernel
theorem d_M_typeEnd_32 : decode prog_9_method_23_code 32 = .ok (.invokevirtual 86, 3) := by decide +kernel
theorem d_M_typeEnd_35 : decode prog_9_method_23_code 35 = .ok (.istore 4, 2) := by decide +kernel
theorem d_M_typeEnd_37 : decode prog_9_method_23_code 37 = .ok (.iload 4, 2) := by decide +kernel
theorem d_M_typeEnd_39 : decode prog_9_method_23_code 39 = .ok (.bipush 70, 2) := by decide +kernel
theorem d_M_typeEnd_41 : decode prog_9_method_23_code 41 = .ok (.if_icmp .eq 10, 3) := by decide +kernel
theorem d_M_typeEnd_44 : decode prog_9_method_23_code 44 = .ok (.iload 4, 2) := by decide +kernel
theorem d_M_typeEnd_46 : decode prog_9_method_23_code 46 = .ok (.bipush 68, 2) := by decide +kernel
theorem d_M_typeEnd_48 : decode prog_9_method_23_code 48 = .ok (.if_icmp .ne 8, 3) := by decide +kernel
theorem d_M_typeEnd_51 : decode prog_9_method_23_code 51 = .ok (.aload_n 0, 1) := by decide +kernel
theorem d_M_typeEnd_52 : decode prog_9_method_23_code 52 = .ok (.iconst 1, 1) := by decide +kernel
theorem d_M_typeEnd_53 : decode prog_9_method_23_code 53 = .ok (.putfield 99, 3) := by decide +kernel
theorem d_M_typeEnd_56 : decode prog_9_method_23_code 56 = .ok (.iload 4, 2) := by decide +kernel
theorem d_M_typeEnd_58 : decode prog_9_method_23_code 58 = .ok (.bipush 66, 2) := by decide +kernel
theorem d_M_typeEnd_60 : decode prog_9_method_23_code 60 = .ok (.if_icmp .eq 52, 3) := by decide +kernel
theorem d_M_typeEnd_63 : decode prog_9_method_23_code 63 = .ok (.iload 4, 2) := by decide +kernel
theorem d_M_typeEnd_65 : decode prog_9_method_23_code 65 = .ok (.bipush 67, 2) := by decide +kernel
theorem d_M_typeEnd_67 : decode prog_9_method_23_code 67 = .ok (.if_icmp .eq 45, 3) := by decide +kernel
theorem d_M_typeEnd_70 : decode prog_9_method_23_code 70 = .ok (.iload 4, 2) := by decide +kernel
theorem d_M_typeEnd_72 : decode prog_9_method_23_code 72 = .ok (.bipush 73, 2) := by decide +kernel
theorem d_M_typeEnd_74 : decode prog_9_method_23_code 74 = .ok (.if_icmp .eq 38, 3) := by decide +kernel
theorem d_M_typeEnd_77 : decode prog_9_method_23_code 77 = .ok (.iload 4, 2) := by decide +kernel
theorem d_M_typeEnd_79 : decode prog_9_method_23_code 79 = .ok (.bipush 74, 2) := by decide +kernel
theorem d_M_typeEnd_81 : decode prog_9_method_23_code 81 = .ok (.if_icmp .eq 31, 3) := by decide +kernel
theorem d_M_typeEnd_84 : decode prog_9_method_23_code 84 = .ok (.iload 4, 2) := by decide +kernel
theorem d_M_typeEnd_86 : decode prog_9_method_23_code 86 = .ok (.bipush 83, 2) := by decide +kernel
theorem d_M_typeEnd_88 : decode prog_9_method_23_code 88 = .ok (.if_icmp .eq 24, 3) := by decide +kernel
theorem d_M_typeEnd_91 : decode prog_9_method_23_code 91 = .ok (.iload 4, 2) := by decide +kernel
theorem d_M_typeEnd_93 : decode prog_9_method_23_code 93 = .ok (.bipush 90, 2) := by decide +kernel
theorem d_M_typeEnd_95 : decode prog_9_method_23_code 95 = .ok (.if_icmp .eq 17, 3) := by decide +kernel
theorem d_M_typeEnd_98 : decode prog_9_method_23_code 98 = .ok (.iload 4, 2) := by decide +kernel
theorem d_M_typeEnd_100 : decode prog_9_method_23_code 100 = .ok (.bipush 70, 2) := by decide +kernel
theorem d_M_typeEnd_102 : decode prog_9_method_23_code 102 = .ok (.if_icmp .eq 10, 3) := by decide +kernel
theorem d_M_typeEnd_105 : decode prog_9_method_23_code 105 = .ok (.iload 4, 2) := by decide +kernel
theorem d_M_typeEnd_107 : decode prog_9_method_23_code 107 = .ok (.bipush 68, 2) := by decide +kernel
theorem d_M_typeEnd_109 : decode prog_9_method_23_code 109 = .ok (.if_icmp .ne 7, 3) := by decide +kernel
theorem d_M_typeEnd_112 : decode prog_9_method_23_code 112 = .ok (.iload_n 3, 1) := by decide +kernel
theorem d_M_typeEnd_113 : decode prog_9_method_23_code 113 = .ok (.iconst 1, 1) := by decide +kernel
theorem d_M_typeEnd_114 : decode prog_9_method_23_code 114 = .ok (.iadd, 1) := by decide +kernel
theorem d_M_typeEnd_115 : decode prog_9_method_23_code 115 = .ok (.ireturn, 1) := by decide +kernel
theorem d_M_typeEnd_116 : decode prog_9_method_23_code 116 = .ok (.iload 4, 2) := by decide +kernel
theorem d_M_typeEnd_118 : decode prog_9_method_23_code 118 = .ok (.bipush 76, 2) := by decide +kernel
theorem d_M_typeEnd_120 : decode prog_9_method_23_code 120 = .ok (.if_icmp .eq 5, 3) := by decide +kernel
theorem d_M_typeEnd_123 : decode prog_9_method_23_code 123 = .ok (.iconst (-1), 1) := by decide +kernel
theorem d_M_typeEnd_124 : decode prog_9_method_23_code 124 = .ok (.ireturn, 1) := by decide +kernel
theorem d_M_typeEnd_125 : decode prog_9_method_23_code 125 = .ok (.aload_n 0, 1) := by decide +kernel
theorem d_M_typeEnd_126 : decode prog_9_method_23_code 126 = .ok (.iload_n 1, 1) := by decide +kernel
theorem d_M_typeEnd_127 : decode prog_9_method_23_code 127 = .ok (.iload_n 3, 1) := by decide +kernel
theorem d_M_typeEnd_128 : decode prog_9_method_23_code 128 = .ok (.iconst 1, 1) := by decide +kernel
theorem d_M_typeEnd_129 : decode prog_9_method_23_code 129 = .ok (.iadd, 1) := by decide +kernel
theorem d_M_typeEnd_130 : decode prog_9_method_23_code 130 = .ok (.invokevirtual 96, 3) := by decide +kernel
theorem d_M_typeEnd_133 : decode prog_9_method_23_code 133 = .ok (.istore 5, 2) := by decide +kernel
theorem d_M_typeEnd_135 : decode prog_9_method_23_code 135 = .ok (.iload 5, 2) := by decide +kernel
theorem d_M_typeEnd_137 : decode prog_9_method_23_code 137 = .ok (.iconst (-1), 1) := by decide +kernel
theorem d_M_typeEnd_138 : decode prog_9_method_23_code 138 = .ok (.if_icmp .eq 22, 3) := by decide +kernel
theorem d_M_typeEnd_141 : decode prog_9_method_23_code 141 = .ok (.aload_n 0, 1) := by decide +kernel
theorem d_M_typeEnd_142 : decode prog_9_method_23_code 142 = .ok (.iload_n 1, 1) := by decide +kernel
theorem d_M_typeEnd_143 : decode prog_9_method_23_code 143 = .ok (.iload 5, 2) := by decide +kernel
theorem d_M_typeEnd_145 : decode prog_9_method_23_code 145 = .ok (.invokevirtual 86, 3) := by decide +kernel
theorem d_M_typeEnd_148 : decode prog_9_method_23_code 148 = .ok (.bipush 59, 2) := by decide +kernel
theorem d_M_typeEnd_150 : decode prog_9_method_23_code 150 = .ok (.if_icmp .ne 10, 3) := by decide +kernel
theorem d_M_typeEnd_153 : decode prog_9_method_23_code 153 = .ok (.iload 5, 2) := by decide +kernel
theorem d_M_typeEnd_155 : decode prog_9_method_23_code 155 = .ok (.iconst 1, 1) := by decide +kernel
theorem d_M_typeEnd_156 : decode prog_9_method_23_code 156 = .ok (.iadd, 1) := by decide +kernel
theorem d_M_typeEnd_157 : decode prog_9_method_23_code 157 = .ok (.goto 4, 3) := by decide +kernel
theorem d_M_typeEnd_160 : decode prog_9_method_23_code 160 = .ok (.iconst (-1), 1) := by decide +kernel
theorem d_M_typeEnd_161 : decode prog_9_method_23_code 161 = .ok (.ireturn, 1) := by decide +kernel
theorem d_M_isField_0 : decode prog_9_method_24_code 0 = .ok (.aload_n 0, 1) := by decide +kernel
theorem d_M_isField_1 : decode prog_9_method_24_code 1 = .ok (.iconst 0, 1) := by decide +kernel
theorem d_M_isField_2 : decode prog_9_method_24_code 2 = .ok (.putfield 99, 3) := by decide +kernel
theorem d_M_isField_5 : decode prog_9_method_24_code 5 = .ok (.aload_n 0, 1) := by decide +kernel
theorem d_M_isField_6 : decode prog_9_method_24_code 6 = .ok (.iload_n 1, 1) := by decide +kernel
theorem d_M_isField_7 : decode prog_9_method_24_code 7 = .ok (.iconst 0, 1) := by decide +kernel
theorem d_M_isField_8 : decode prog_9_method_24_code 8 = .ok (.invokevirtual 103, 3) := by decide +kernel
theorem d_M_isField_11 : decode prog_9_method_24_code 11 = .ok (.aload_n 0, 1) := by decide +kernel
theorem d_M_isField_12 : decode prog_9_method_24_code 12 = .ok (.iload_n 1, 1) := by decide +kernel
theorem d_M_isField_13 : decode prog_9_method_24_code 13 = .ok (.invokevirtual 80, 3) := by decide +kernel
theorem d_M_isField_16 : decode prog_9_method_24_code 16 = .ok (.if_icmp .ne 7, 3) := by decide +kernel
theorem d_M_isField_19 : decode prog_9_method_24_code 19 = .ok (.iconst 1, 1) := by decide +kernel
theorem d_M_isField_20 : decode prog_9_method_24_code 20 = .ok (.goto 4, 3) := by decide +kernel
theorem d_M_isField_23 : decode prog_9_method_24_code 23 = .ok (.iconst 0, 1) := by decide +kernel
theorem d_M_isField_24 : decode prog_9_method_24_code 24 = .ok (.ireturn, 1) := by decide +kernel
theorem d_M_isMethod_0 : decode prog_9_method_25_code 0 = .ok (.aload_n 0, 1) := by decide +kernel
theorem d_M_isMethod_1 : decode prog_9_method_25_code 1 = .ok (.iconst 0, 1) := by decide +kernel
theorem d_M_isMethod_2 : decode prog_9_method_25_code 2 = .ok (.putfield 99, 3) := by decide +kernel
theorem d_M_isMethod_5 : decode prog_9_method_25_code 5 = .ok (.aload_n 0, 1) := by decide +kernel
theorem d_M_isMethod_6 : decode prog_9_method_25_code 6 = .ok (.iconst 0, 1) := by decide +kernel
theorem d_M_isMethod_7 : decode prog_9_method_25_code 7 = .ok (.putfield 106, 3) := by decide +kernel
theorem d_M_isMethod_10 : decode prog_9_method_25_code 10 = .ok (.aload_n 0, 1) := by decide +kernel
theorem d_M_isMethod_11 : decode prog_9_method_25_code 11 = .ok (.iload_n 1, 1) := by decide +kernel
theorem d_M_isMethod_12 : decode prog_9_method_25_code 12 = .ok (.iconst 0, 1) := by decide +kernel
theorem d_M_isMethod_13 : decode prog_9_method_25_code 13 = .ok (.invokevirtual 86, 3) := by decide +kernel
theorem d_M_isMethod_16 : decode prog_9_method_25_code 16 = .ok (.bipush 40, 2) := by decide +kernel
theorem d_M_isMethod_18 : decode prog_9_method_25_code 18 = .ok (.if_icmp .eq 5, 3) := by decide +kernel
theorem d_M_isMethod_21 : decode prog_9_method_25_code 21 = .ok (.iconst 0, 1) := by decide +kernel
theorem d_M_isMethod_22 : decode prog_9_method_25_code 22 = .ok (.ireturn, 1) := by decide +kernel
theorem d_M_isMethod_23 : decode prog_9_method_25_code 23 = .ok (.iconst 1, 1) := by decide +kernel
theorem d_M_isMethod_24 : decode prog_9_method_25_code 24 = .ok (.istore_n 2, 1) := by decide +kernel
theorem d_M_isMethod_25 : decode prog_9_method_25_code 25 = .ok (.aload_n 0, 1) := by decide +kernel
theorem d_M_isMethod_26 : decode prog_9_method_25_code 26 = .ok (.iload_n 1, 1) := by decide +kernel
theorem d_M_isMethod_27 : decode prog_9_method_25_code 27 = .ok (.iload_n 2, 1) := by decide +kernel
theorem d_M_isMethod_28 : decode prog_9_method_25_code 28 = .ok (.invokevirtual 86, 3) := by decide +kernel
theorem d_M_isMethod_31 : decode prog_9_method_25_code 31 = .ok (.bipush 41, 2) := by decide +kernel
theorem d_M_isMethod_33 : decode prog_9_method_25_code 33 = .ok (.if_icmp .eq 77, 3) := by decide +kernel
theorem d_M_isMethod_36 : decode prog_9_method_25_code 36 = .ok (.aload_n 0, 1) := by decide +kernel
theorem d_M_isMethod_37 : decode prog_9_method_25_code 37 = .ok (.iload_n 1, 1) := by decide +kernel
theorem d_M_isMethod_38 : decode prog_9_method_25_code 38 = .ok (.iload_n 2, 1) := by decide +kernel
theorem d_M_isMethod_39 : decode prog_9_method_25_code 39 = .ok (.invokevirtual 103, 3) := by decide +kernel
theorem d_M_isMethod_42 : decode prog_9_method_25_code 42 = .ok (.istore_n 3, 1) := by decide +kernel
theorem d_M_isMethod_43 : decode prog_9_method_25_code 43 = .ok (.iload_n 3, 1) := by decide +kernel
theorem d_M_isMethod_44 : decode prog_9_method_25_code 44 = .ok (.iconst (-1), 1) := by decide +kernel
theorem d_M_isMethod_45 : decode prog_9_method_25_code 45 = .ok (.if_icmp .ne 5, 3) := by decide +kernel
theorem d_M_isMethod_48 : decode prog_9_method_25_code 48 = .ok (.iconst 0, 1) := by decide +kernel
theorem d_M_isMethod_49 : decode prog_9_method_25_code 49 = .ok (.ireturn, 1) := by decide +kernel
theorem d_M_isMethod_50 : decode prog_9_method_25_code 50 = .ok (.iload_n 3, 1) := by decide +kernel
theorem d_M_isMethod_51 : decode prog_9_method_25_code 51 = .ok (.iload_n 2, 1) := by decide +kernel
theorem d_M_isMethod_52 : decode prog_9_method_25_code 52 = .ok (.iconst 1, 1) := by decide +kernel
theorem d_M_isMethod_53 : decode prog_9_method_25_code 53 = .ok (.iadd, 1) := by decide +kernel
theorem d_M_isMethod_54 : decode prog_9_method_25_code 54 = .ok (.if_icmp .ne 29, 3) := by decide +kernel
theorem d_M_isMethod_57 : decode prog_9_method_25_code 57 = .ok (.aload_n 0, 1) := by decide +kernel
theorem d_M_isMethod_58 : decode prog_9_method_25_code 58 = .ok (.iload_n 1, 1) := by decide +kernel
theorem d_M_isMethod_59 : decode prog_9_method_25_code 59 = .ok (.iload_n 2, 1) := by decide +kernel
theorem d_M_isMethod_60 : decode prog_9_method_25_code 60 = .ok (.invokevirtual 86, 3) := by decide +kernel
theorem d_M_isMethod_63 : decode prog_9_method_25_code 63 = .ok (.bipush 74, 2) := by decide +kernel
theorem d_M_isMethod_65 : decode prog_9_method_25_code 65 = .ok (.if_icmp .eq 14, 3) := by decide +kernel
theorem d_M_isMethod_68 : decode prog_9_method_25_code 68 = .ok (.aload_n 0, 1) := by decide +kernel
theorem d_M_isMethod_69 : decode prog_9_method_25_code 69 = .ok (.iload_n 1, 1) := by decide +kernel
theorem d_M_isMethod_70 : decode prog_9_method_25_code 70 = .ok (.iload_n 2, 1) := by decide +kernel
theorem d_M_isMethod_71 : decode prog_9_method_25_code 71 = .ok (.invokevirtual 86, 3) := by decide +kernel
theorem d_M_isMethod_74 : decode prog_9_method_25_code 74 = .ok (.bipush 68, 2) := by decide +kernel
theorem d_M_isMethod_76 : decode prog_9_method_25_code 76 = .ok (.if_icmp .ne 7, 3) := by decide +kernel
theorem d_M_isMethod_79 : decode prog_9_method_25_code 79 = .ok (.iconst 1, 1) := by decide +kernel
theorem d_M_isMethod_80 : decode prog_9_method_25_code 80 = .ok (.goto 4, 3) := by decide +kernel
theorem d_M_isMethod_83 : decode prog_9_method_25_code 83 = .ok (.iconst 0, 1) := by decide +kernel
theorem d_M_isMethod_84 : decode prog_9_method_25_code 84 = .ok (.istore 4, 2) := by decide +kernel
theorem d_M_isMethod_86 : decode prog_9_method_25_code 86 = .ok (.aload_n 0, 1) := by decide +kernel
theorem d_M_isMethod_87 : decode prog_9_method_25_code 87 = .ok (.dup, 1) := by decide +kernel
theorem d_M_isMethod_88 : decode prog_9_method_25_code 88 = .ok (.getfield 106, 3) := by decide +kernel
theorem d_M_isMethod_91 : decode prog_9_method_25_code 91 = .ok (.iload 4, 2) := by decide +kernel
theorem d_M_isMethod_93 : decode prog_9_method_25_code 93 = .ok (.ifCond .eq 7, 3) := by decide +kernel
theorem d_M_isMethod_96 : decode prog_9_method_25_code 96 = .ok (.iconst 2, 1) := by decide +kernel
theorem d_M_isMethod_97 : decode prog_9_method_25_code 97 = .ok (.goto 4, 3) := by decide +kernel
theorem d_M_isMethod_100 : decode prog_9_method_25_code 100 = .ok (.iconst 1, 1) := by decide +kernel
theorem d_M_isMethod_101 : decode prog_9_method_25_code 101 = .ok (.iadd, 1) := by decide +kernel
theorem d_M_isMethod_102 : decode prog_9_method_25_code 102 = .ok (.putfield 106, 3) := by decide +kernel
theorem d_M_isMethod_105 : decode prog_9_method_25_code 105 = .ok (.iload_n 3, 1) := by decide +kernel
theorem d_M_isMethod_106 : decode prog_9_method_25_code 106 = .ok (.istore_n 2, 1) := by decide +kernel
theorem d_M_isMethod_107 : decode prog_9_method_25_code 107 = .ok (.goto (-82), 3) := by decide +kernel
theorem d_M_isMethod_110 : decode prog_9_method_25_code 110 = .ok (.iinc 2 1, 3) := by decide +kernel
theorem d_M_isMethod_113 : decode prog_9_method_25_code 113 = .ok (.aload_n 0, 1) := by decide +kernel
theorem d_M_isMethod_114 : decode prog_9_method_25_code 114 = .ok (.iload_n 1, 1) := by decide +kernel
theorem d_M_isMethod_115 : decode prog_9_method_25_code 115 = .ok (.iload_n 2, 1) := by decide +kernel
theorem d_M_isMethod_116 : decode prog_9_method_25_code 116 = .ok (.invokevirtual 86, 3) := by decide +kernel
theorem d_M_isMethod_119 : decode prog_9_method_25_code 119 = .ok (.bipush 86, 2) := by decide +kernel
theorem d_M_isMethod_121 : decode prog_9_method_25_code 121 = .ok (.if_icmp .ne 9, 3) := by decide +kernel
theorem d_M_isMethod_124 : decode prog_9_method_25_code 124 = .ok (.iload_n 2, 1) := by decide +kernel
theorem d_M_isMethod_125 : decode prog_9_method_25_code 125 = .ok (.iconst 1, 1) := by decide +kernel
theorem d_M_isMethod_126 : decode prog_9_method_25_code 126 = .ok (.iadd, 1) := by decide +kernel
theorem d_M_isMethod_127 : decode prog_9_method_25_code 127 = .ok (.goto 9, 3) := by decide +kernel
theorem d_M_isMethod_130 : decode prog_9_method_25_code 130 = .ok (.aload_n 0, 1) := by decide +kernel
theorem d_M_isMethod_131 : decode prog_9_method_25_code 131 = .ok (.iload_n 1, 1) := by decide +kernel
theorem d_M_isMethod_132 : decode prog_9_method_25_code 132 = .ok (.iload_n 2, 1) := by decide +kernel
theorem d_M_isMethod_133 : decode prog_9_method_25_code 133 = .ok (.invokevirtual 103, 3) := by decide +kernel
theorem d_M_isMethod_136 : decode prog_9_method_25_code 136 = .ok (.istore_n 3, 1) := by decide +kernel
theorem d_M_isMethod_137 : decode prog_9_method_25_code 137 = .ok (.iload_n 3, 1) := by decide +kernel
theorem d_M_isMethod_138 : decode prog_9_method_25_code 138 = .ok (.aload_n 0, 1) := by decide +kernel
theorem d_M_isMethod_139 : decode prog_9_method_25_code 139 = .ok (.iload_n 1, 1) := by decide +kernel
theorem d_M_isMethod_140 : decode prog_9_method_25_code 140 = .ok (.invokevirtual 80, 3) := by decide +kernel
theorem d_M_isMethod_143 : decode prog_9_method_25_code 143 = .ok (.if_icmp .ne 17, 3) := by decide +kernel
theorem d_M_isMethod_146 : decode prog_9_method_25_code 146 = .ok (.aload_n 0, 1) := by decide +kernel
theorem d_M_isMethod_147 : decode prog_9_method_25_code 147 = .ok (.getfield 106, 3) := by decide +kernel
theorem d_M_isMethod_150 : decode prog_9_method_25_code 150 = .ok (.sipush 250, 3) := by decide +kernel
theorem d_M_isMethod_153 : decode prog_9_method_25_code 153 = .ok (.if_icmp .gt 7, 3) := by decide +kernel
theorem d_M_isMethod_156 : decode prog_9_method_25_code 156 = .ok (.iconst 1, 1) := by decide +kernel
theorem d_M_isMethod_157 : decode prog_9_method_25_code 157 = .ok (.goto 4, 3) := by decide +kernel
theorem d_M_isMethod_160 : decode prog_9_method_25_code 160 = .ok (.iconst 0, 1) := by decide +kernel
theorem d_M_isMethod_161 : decode prog_9_method_25_code 161 = .ok (.ireturn, 1) := by decide +kernel
theorem d_M_isVoid_0 : decode prog_9_method_26_code 0 = .ok (.aload_n 0, 1) := by decide +kernel
theorem d_M_isVoid_1 : decode prog_9_method_26_code 1 = .ok (.iload_n 1, 1) := by decide +kernel
theorem d_M_isVoid_2 : decode prog_9_method_26_code 2 = .ok (.aload_n 0, 1) := by decide +kernel
theorem d_M_isVoid_3 : decode prog_9_method_26_code 3 = .ok (.iload_n 1, 1) := by decide +kernel
theorem d_M_isVoid_4 : decode prog_9_method_26_code 4 = .ok (.invokevirtual 80, 3) := by decide +kernel
theorem d_M_isVoid_7 : decode prog_9_method_26_code 7 = .ok (.iconst 1, 1) := by decide +kernel
theorem d_M_isVoid_8 : decode prog_9_method_26_code 8 = .ok (.isub, 1) := by decide +kernel
theorem d_M_isVoid_9 : decode prog_9_method_26_code 9 = .ok (.invokevirtual 86, 3) := by decide +kernel
theorem d_M_isVoid_12 : decode prog_9_method_26_code 12 = .ok (.bipush 86, 2) := by decide +kernel
theorem d_M_isVoid_14 : decode prog_9_method_26_code 14 = .ok (.if_icmp .ne 24, 3) := by decide +kernel
theorem d_M_isVoid_17 : decode prog_9_method_26_code 17 = .ok (.aload_n 0, 1) := by decide +kernel
theorem d_M_isVoid_18 : decode prog_9_method_26_code 18 = .ok (.iload_n 1, 1) := by decide +kernel
theorem d_M_isVoid_19 : decode prog_9_method_26_code 19 = .ok (.aload_n 0, 1) := by decide +kernel
theorem d_M_isVoid_20 : decode prog_9_method_26_code 20 = .ok (.iload_n 1, 1) := by decide +kernel
theorem d_M_isVoid_21 : decode prog_9_method_26_code 21 = .ok (.invokevirtual 80, 3) := by decide +kernel
theorem d_M_isVoid_24 : decode prog_9_method_26_code 24 = .ok (.iconst 2, 1) := by decide +kernel
theorem d_M_isVoid_25 : decode prog_9_method_26_code 25 = .ok (.isub, 1) := by decide +kernel
theorem d_M_isVoid_26 : decode prog_9_method_26_code 26 = .ok (.invokevirtual 86, 3) := by decide +kernel
theorem d_M_isVoid_29 : decode prog_9_method_26_code 29 = .ok (.bipush 41, 2) := by decide +kernel
theorem d_M_isVoid_31 : decode prog_9_method_26_code 31 = .ok (.if_icmp .ne 7, 3) := by decide +kernel
theorem d_M_isVoid_34 : decode prog_9_method_26_code 34 = .ok (.iconst 1, 1) := by decide +kernel
theorem d_M_isVoid_35 : decode prog_9_method_26_code 35 = .ok (.goto 4, 3) := by decide +kernel
theorem d_M_isVoid_38 : decode prog_9_method_26_code 38 = .ok (.iconst 0, 1) := by decide +kernel
theorem d_M_isVoid_39 : decode prog_9_method_26_code 39 = .ok (.ireturn, 1) := by decide +kernel
theorem d_M_isArray_0 : decode prog_9_method_27_code 0 = .ok (.aload_n 0, 1) := by decide +kernel
theorem d_M_isArray_1 : decode prog_9_method_27_code 1 = .ok (.aload_n 0, 1) := by decide +kernel
theorem d_M_isArray_2 : decode prog_9_method_27_code 2 = .ok (.aload_n 0, 1) := by decide +kernel
theorem d_M_isArray_3 : decode prog_9_method_27_code 3 = .ok (.getfield 17, 3) := by decide +kernel
theorem d_M_isArray_6 : decode prog_9_method_27_code 6 = .ok (.iload_n 1, 1) := by decide +kernel
theorem d_M_isArray_7 : decode prog_9_method_27_code 7 = .ok (.iaload, 1) := by decide +kernel
theorem d_M_isArray_8 : decode prog_9_method_27_code 8 = .ok (.iconst 1, 1) := by decide +kernel
theorem d_M_isArray_9 : decode prog_9_method_27_code 9 = .ok (.iadd, 1) := by decide +kernel
theorem d_M_isArray_10 : decode prog_9_method_27_code 10 = .ok (.invokevirtual 76, 3) := by decide +kernel
theorem d_M_isArray_13 : decode prog_9_method_27_code 13 = .ok (.iconst 0, 1) := by decide +kernel
theorem d_M_isArray_14 : decode prog_9_method_27_code 14 = .ok (.invokevirtual 86, 3) := by decide +kernel
theorem d_M_isArray_17 : decode prog_9_method_27_code 17 = .ok (.bipush 91, 2) := by decide +kernel
theorem d_M_isArray_19 : decode prog_9_method_27_code 19 = .ok (.if_icmp .ne 7, 3) := by decide +kernel
theorem d_M_isArray_22 : decode prog_9_method_27_code 22 = .ok (.iconst 1, 1) := by decide +kernel
theorem d_M_isArray_23 : decode prog_9_method_27_code 23 = .ok (.goto 4, 3) := by decide +kernel
theorem d_M_isArray_26 : decode prog_9_method_27_code 26 = .ok (.iconst 0, 1) := by decide +kernel
theorem d_M_isArray_27 : decode prog_9_method_27_code 27 = .ok (.ireturn, 1) := by decide +kernel
theorem d_M_isKind_0 : decode prog_9_method_28_code 0 = .ok (.iload_n 1, 1) := by decide +kernel
theorem d_M_isKind_1 : decode prog_9_method_28_code 1 = .ok (.ifCond .le 25, 3) := by decide +kernel
theorem d_M_isKind_4 : decode prog_9_method_28_code 4 = .ok (.iload_n 1, 1) := by decide +kernel
theorem d_M_isKind_5 : decode prog_9_method_28_code 5 = .ok (.aload_n 0, 1) := by decide +kernel
theorem d_M_isKind_6 : decode prog_9_method_28_code 6 = .ok (.getfield 109, 3) := by decide +kernel
theorem d_M_isKind_9 : decode prog_9_method_28_code 9 = .ok (.if_icmp .ge 17, 3) := by decide +kernel
theorem d_M_isKind_12 : decode prog_9_method_28_code 12 = .ok (.aload_n 0, 1) := by decide +kernel
theorem d_M_isKind_13 : decode prog_9_method_28_code 13 = .ok (.getfield 13, 3) := by decide +kernel
theorem d_M_isKind_16 : decode prog_9_method_28_code 16 = .ok (.iload_n 1, 1) := by decide +kernel
theorem d_M_isKind_17 : decode prog_9_method_28_code 17 = .ok (.iaload, 1) := by decide +kernel
theorem d_M_isKind_18 : decode prog_9_method_28_code 18 = .ok (.iload_n 2, 1) := by decide +kernel
theorem d_M_isKind_19 : decode prog_9_method_28_code 19 = .ok (.if_icmp .ne 7, 3) := by decide +kernel
theorem d_M_isKind_22 : decode prog_9_method_28_code 22 = .ok (.iconst 1, 1) := by decide +kernel
theorem d_M_isKind_23 : decode prog_9_method_28_code 23 = .ok (.goto 4, 3) := by decide +kernel
theorem d_M_isKind_26 : decode prog_9_method_28_code 26 = .ok (.iconst 0, 1) := by decide +kernel
theorem d_M_isKind_27 : decode prog_9_method_28_code 27 = .ok (.ireturn, 1) := by decide +kernel
theorem d_M_number_0 : decode prog_9_method_29_code 0 = .ok (.aload_n 0, 1) := by decide +kernel
theorem d_M_number_1 : decode prog_9_method_29_code 1 = .ok (.getfield 63, 3) := by decide +kernel
theorem d_M_number_4 : decode prog_9_method_29_code 4 = .ok (.istore_n 2, 1) := by decide +kernel
theorem d_M_number_5 : decode prog_9_method_29_code 5 = .ok (.aload_n 0, 1) := by decide +kernel
theorem d_M_number_6 : decode prog_9_method_29_code 6 = .ok (.invokevirtual 73, 3) := by decide +kernel
theorem d_M_number_9 : decode prog_9_method_29_code 9 = .ok (.istore_n 3, 1) := by decide +kernel
theorem d_M_number_10 : decode prog_9_method_29_code 10 = .ok (.aload_n 0, 1) := by decide +kernel
theorem d_M_number_11 : decode prog_9_method_29_code 11 = .ok (.aload_n 0, 1) := by decide +kernel
theorem d_M_number_12 : decode prog_9_method_29_code 12 = .ok (.iload_n 3, 1) := by decide +kernel
theorem d_M_number_13 : decode prog_9_method_29_code 13 = .ok (.iload_n 1, 1) := by decide +kernel
theorem d_M_number_14 : decode prog_9_method_29_code 14 = .ok (.invokevirtual 112, 3) := by decide +kernel
theorem d_M_number_17 : decode prog_9_method_29_code 17 = .ok (.bipush 8, 2) := by decide +kernel
theorem d_M_number_19 : decode prog_9_method_29_code 19 = .ok (.iload_n 2, 1) := by decide +kernel
theorem d_M_number_20 : decode prog_9_method_29_code 20 = .ok (.invokevirtual 115, 3) := by decide +kernel
theorem d_M_number_23 : decode prog_9_method_29_code 23 = .ok (.pop, 1) := by decide +kernel
theorem d_M_number_24 : decode prog_9_method_29_code 24 = .ok (.iload_n 3, 1) := by decide +kernel
theorem d_M_number_25 : decode prog_9_method_29_code 25 = .ok (.ireturn, 1) := by decide +kernel
theorem d_M_nameOf_0 : decode prog_9_method_30_code 0 = .ok (.aload_n 0, 1) := by decide +kernel
theorem d_M_nameOf_1 : decode prog_9_method_30_code 1 = .ok (.aload_n 0, 1) := by decide +kernel
theorem d_M_nameOf_2 : decode prog_9_method_30_code 2 = .ok (.getfield 17, 3) := by decide +kernel
theorem d_M_nameOf_5 : decode prog_9_method_30_code 5 = .ok (.aload_n 0, 1) := by decide +kernel
theorem d_M_nameOf_6 : decode prog_9_method_30_code 6 = .ok (.aload_n 0, 1) := by decide +kernel
theorem d_M_nameOf_7 : decode prog_9_method_30_code 7 = .ok (.getfield 17, 3) := by decide +kernel
theorem d_M_nameOf_10 : decode prog_9_method_30_code 10 = .ok (.iload_n 1, 1) := by decide +kernel
theorem d_M_nameOf_11 : decode prog_9_method_30_code 11 = .ok (.iaload, 1) := by decide +kernel
theorem d_M_nameOf_12 : decode prog_9_method_30_code 12 = .ok (.iconst 3, 1) := by decide +kernel
theorem d_M_nameOf_13 : decode prog_9_method_30_code 13 = .ok (.iadd, 1) := by decide +kernel
theorem d_M_nameOf_14 : decode prog_9_method_30_code 14 = .ok (.invokevirtual 76, 3) := by decide +kernel
theorem d_M_nameOf_17 : decode prog_9_method_30_code 17 = .ok (.iaload, 1) := by decide +kernel
theorem d_M_nameOf_18 : decode prog_9_method_30_code 18 = .ok (.iconst 1, 1) := by decide +kernel
theorem d_M_nameOf_19 : decode prog_9_method_30_code 19 = .ok (.iadd, 1) := by decide +kernel
theorem d_M_nameOf_20 : decode prog_9_method_30_code 20 = .ok (.invokevirtual 76, 3) := by decide +kernel
theorem d_M_nameOf_23 : decode prog_9_method_30_code 23 = .ok (.ireturn, 1) := by decide +kernel
theorem d_M_typeOf_0 : decode prog_9_method_31_code 0 = .ok (.aload_n 0, 1) := by decide +kernel
theorem d_M_typeOf_1 : decode prog_9_method_31_code 1 = .ok (.aload_n 0, 1) := by decide +kernel
theorem d_M_typeOf_2 : decode prog_9_method_31_code 2 = .ok (.getfield 17, 3) := by decide +kernel
theorem d_M_typeOf_5 : decode prog_9_method_31_code 5 = .ok (.aload_n 0, 1) := by decide +kernel
theorem d_M_typeOf_6 : decode prog_9_method_31_code 6 = .ok (.aload_n 0, 1) := by decide +kernel
theorem d_M_typeOf_7 : decode prog_9_method_31_code 7 = .ok (.getfield 17, 3) := by decide +kernel
theorem d_M_typeOf_10 : decode prog_9_method_31_code 10 = .ok (.iload_n 1, 1) := by decide +kernel
theorem d_M_typeOf_11 : decode prog_9_method_31_code 11 = .ok (.iaload, 1) := by decide +kernel
theorem d_M_typeOf_12 : decode prog_9_method_31_code 12 = .ok (.iconst 3, 1) := by decide +kernel
theorem d_M_typeOf_13 : decode prog_9_method_31_code 13 = .ok (.iadd, 1) := by decide +kernel
theorem d_M_typeOf_14 : decode prog_9_method_31_code 14 = .ok (.invokevirtual 76, 3) := by decide +kernel
theorem d_M_typeOf_17 : decode prog_9_method_31_code 17 = .ok (.iaload, 1) := by decide +kernel
theorem d_M_typeOf_18 : decode prog_9_method_31_code 18 = .ok (.iconst 3, 1) := by decide +kernel
theorem d_M_typeOf_19 : decode prog_9_method_31_code 19 = .ok (.iadd, 1) := by decide +kernel
theorem d_M_typeOf_20 : decode prog_9_method_31_code 20 = .ok (.invokevirtual 76, 3) := by decide +kernel
theorem d_M_typeOf_23 : decode prog_9_method_31_code 23 = .ok (.ireturn, 1) := by decide +kernel
theorem d_M_textOf_0 : decode prog_9_method_32_code 0 = .ok (.aload_n 0, 1) := by decide +kernel
theorem d_M_textOf_1 : decode prog_9_method_32_code 1 = .ok (.aload_n 0, 1) := by decide +kernel
theorem d_M_textOf_2 : decode prog_9_method_32_code 2 = .ok (.getfield 17, 3) := by decide +kernel
theorem d_M_textOf_5 : decode prog_9_method_32_code 5 = .ok (.iload_n 1, 1) := by decide +kernel
theorem d_M_textOf_6 : decode prog_9_method_32_code 6 = .ok (.iaload, 1) := by decide +kernel
theorem d_M_textOf_7 : decode prog_9_method_32_code 7 = .ok (.iconst 1, 1) := by decide +kernel
theorem d_M_textOf_8 : decode prog_9_method_32_code 8 = .ok (.iadd, 1) := by decide +kernel
theorem d_M_textOf_9 : decode prog_9_method_32_code 9 = .ok (.invokevirtual 76, 3) := by decide +kernel
theorem d_M_textOf_12 : decode prog_9_method_32_code 12 = .ok (.ireturn, 1) := by decide +kernel
def rm_M_feed : Room := { frames := 0, cells := 0, slots := 0, locals := 0 }
noncomputable def f_M_feed_L34 (x1 : Int32) (x2 : Int32) (x3 : Int32) (x4 : Int32) (x5 : Int32) : Nat → St → Int32 → Option (St)
  | 0, _, _ => none
  | n + 1, u, x6 => if x5 ≤ x6 then (some (u)) else (bnd (if 4 ≤ x6 then (if 8 ≤ x6 then (if 12 ≤ x6 then (x4) else (x3)) else (x2)) else (x1)) fun (z1 : Int32) => gd ((u.1 0) + x6) 4000 (bnd (sa u 0 ((u.1 0) + x6).toNatClampNeg (vp_nar .byte (z1 >>> ((24 - (8 * (x6 - x6 / 4 * 4))) &&& 31)).toInt8.toInt32)) fun u2 => f_M_feed_L34 x1 x2 x3 x4 x5 n u2 (x6 + 1)))
noncomputable def f_M_feed (u : St) (x1 : Int32) (x2 : Int32) (x3 : Int32) (x4 : Int32) (x5 : Int32) : Option (Int32 × St) := if x5 < 1 then (some ((-1), u)) else (if x5 ≤ 16 then (if ((u.1 0) + x5) ≤ 4000 then (cT (f_M_feed_L34 x1 x2 x3 x4 x5 FU u 0) fun (u4 : St) => bnd (sv u4 0 ((u4.1 0) + x5)) fun u5 => some ((u5.1 0), u5)) else (some ((-2), u))) else (some ((-1), u)))
set_option maxHeartbeats 4000000 in
set_option maxRecDepth 100000 in
theorem w_M_feed_L34 {Z : zT} {D : va_G} {cs : Nat → ClassId} {a : Nat → Nat} {p : Program} {l : Launch} {e : Env} {s : State} {m : MethodId} {args : Array Value} {below : List Frame} {meth : Method} {c : Code} {Q : State → Prop}  {u2 : St} {x1 : Int32} {x2 : Int32} {x3 : Int32} {x4 : Int32} {x5 : Int32} (C : Cx clA R_M prog_9_method_3_code 8 D cs (mW a cs) Z p s m args c) (hE : ∀ (H : Heap) (locs : List Loc) (ls : Array Slot), Dy clA D (mW a cs) s H locs u2 → lv_has ls 8 [(0, .ref (a 0)), (5, .int x5)] → W p l e rm_M_feed s m args below meth c H locs 0 0 Q (F0 m 109 ls [])) : ∀ (n : Nat) (u : St) (x6 : Int32) (H : Heap) (locs : List Loc) (ls : Array Slot), f_M_feed_L34 x1 x2 x3 x4 x5 n u x6 = some u2 → Dy clA D (mW a cs) s H locs u → lv_has ls 8 [(0, .ref (a 0)), (1, .int x1), (2, .int x2), (3, .int x3), (4, .int x4), (5, .int x5), (6, .int x6)] → W p l e rm_M_feed s m args below meth c H locs 0 0 Q (F0 m 34 ls []) := by
  have hx := C.1.1
  have hb := C.1.2.1
  intro n
  induction n with
  | zero =>
    intro u x6 H locs ls hk I hl
    rw [f_M_feed_L34] at hk
    cases hk
  | succ n ih =>
    intro u x6 H locs ls hk I hl
    rw [f_M_feed_L34] at hk
    refine lv_iload hx hb d_M_feed_34 (lv_at hl 6 rfl) ?_
    refine lv_iload hx hb d_M_feed_36 (lv_at hl 5 rfl) ?_
    refine lv_icmp_ge (tgt := 109) hx hb d_M_feed_38 (by decide) (fun hc => ?_) (fun hc => ?_)
    · replace hk := it_u hc hk
      cases hk
      exact hE _ _ _ I (lv_sub hl [0, 5] rfl)
    · replace hk := ie_u hc hk
      refine lv_iload hx hb d_M_feed_41 (lv_at hl 6 rfl) ?_
      refine lv_iconst (v := 4) hx hb d_M_feed_43 (by decide) ?_
      obtain ⟨z1, hj3, hk⟩ := bnd_u hk
      have Khj3 : ∀ (H : Heap) (locs : List Loc) (ls : Array Slot), Dy clA D (mW a cs) s H locs u → lv_has ls 8 [(0, .ref (a 0)), (1, .int x1), (2, .int x2), (3, .int x3), (4, .int x4), (5, .int x5), (6, .int x6)] → W p l e rm_M_feed s m args below meth c H locs 0 0 Q (F0 m 75 ls [.int z1]) := by
        intro H locs ls I hl
        refine lv_istore (lv' := [(7, .int z1), (0, .ref (a 0)), (1, .int x1), (2, .int x2), (3, .int x3), (4, .int x4), (5, .int x5), (6, .int x6)]) hx hb d_M_feed_75 hl (by decide) rfl (fun ls hl => ?_)
        refine lv_aload_n hx hb d_M_feed_77 rfl (lv_at hl 1 rfl) ?_
        refine g_M_file C I k_694 d_M_feed_78 ?_
        refine lv_aload_n hx hb d_M_feed_81 rfl (lv_at hl 1 rfl) ?_
        refine g_M_size C I k_695 d_M_feed_82 ?_
        refine lv_iload hx hb d_M_feed_85 (lv_at hl 7 rfl) ?_
        refine lv_iadd hx hb d_M_feed_87 ?_
        refine lv_iload hx hb d_M_feed_88 (lv_at hl 0 rfl) ?_
        refine lv_bipush (v := 24) hx hb d_M_feed_90 (by decide) ?_
        refine lv_bipush (v := 8) hx hb d_M_feed_92 (by decide) ?_
        refine lv_iload hx hb d_M_feed_94 (lv_at hl 7 rfl) ?_
        refine lv_iconst (v := 4) hx hb d_M_feed_96 (by decide) ?_
        refine lv_irem hx hb d_M_feed_97 (by decide) ?_
        refine lv_imul hx hb d_M_feed_98 ?_
        refine lv_isub hx hb d_M_feed_99 ?_
        refine lv_ishr hx hb d_M_feed_100 ?_
        refine lv_i2b (v := (z1 >>> ((24 - (8 * (x6 - x6 / 4 * 4))) &&& 31)).toInt8.toInt32) hx hb d_M_feed_101 rfl ?_
        obtain ⟨hi, hk⟩ := gd_u hk
        refine s_M_file C I hi d_M_feed_102 (fun H locs I => ?_)
        obtain ⟨u2, hu, hk⟩ := bnd_u hk
        rw [hu] at I
        clear hu
        refine lv_iinc (v := (x6 + 1)) (lv' := [(6, .int (x6 + 1)), (7, .int z1), (0, .ref (a 0)), (1, .int x1), (2, .int x2), (3, .int x3), (4, .int x4), (5, .int x5)]) hx hb d_M_feed_103 hl (k := 7) rfl rfl (by decide) rfl (fun ls hl => ?_)
        refine lv_goto (tgt := 34) hx hb d_M_feed_106 (by decide) ?_
        exact ih u2 (x6 + 1) _ _ _ hk I (lv_sub hl [2, 3, 4, 5, 6, 7, 0] rfl)
      refine lv_icmp_ge (tgt := 51) hx hb d_M_feed_44 (by decide) (fun hc => ?_) (fun hc => ?_)
      · replace hj3 := it_u hc hj3
        refine lv_iload hx hb d_M_feed_51 (lv_at hl 6 rfl) ?_
        refine lv_bipush (v := 8) hx hb d_M_feed_53 (by decide) ?_
        refine lv_icmp_ge (tgt := 62) hx hb d_M_feed_55 (by decide) (fun hc => ?_) (fun hc => ?_)
        · replace hj3 := it_u hc hj3
          refine lv_iload hx hb d_M_feed_62 (lv_at hl 6 rfl) ?_
          refine lv_bipush (v := 12) hx hb d_M_feed_64 (by decide) ?_
          refine lv_icmp_ge (tgt := 73) hx hb d_M_feed_66 (by decide) (fun hc => ?_) (fun hc => ?_)
          · replace hj3 := it_u hc hj3
            refine lv_iload hx hb d_M_feed_73 (lv_at hl 4 rfl) ?_
            cases hj3
            exact Khj3 _ _ _ I (lv_sub hl [0, 1, 2, 3, 4, 5, 6] rfl)
          · replace hj3 := ie_u hc hj3
            refine lv_iload_n hx hb d_M_feed_69 rfl (lv_at hl 3 rfl) ?_
            refine lv_goto (tgt := 75) hx hb d_M_feed_70 (by decide) ?_
            cases hj3
            exact Khj3 _ _ _ I (lv_sub hl [0, 1, 2, 3, 4, 5, 6] rfl)
        · replace hj3 := ie_u hc hj3
          refine lv_iload_n hx hb d_M_feed_58 rfl (lv_at hl 2 rfl) ?_
          refine lv_goto (tgt := 75) hx hb d_M_feed_59 (by decide) ?_
          cases hj3
          exact Khj3 _ _ _ I (lv_sub hl [0, 1, 2, 3, 4, 5, 6] rfl)
      · replace hj3 := ie_u hc hj3
        refine lv_iload_n hx hb d_M_feed_47 rfl (lv_at hl 1 rfl) ?_
        refine lv_goto (tgt := 75) hx hb d_M_feed_48 (by decide) ?_
        cases hj3
        exact Khj3 _ _ _ I (lv_sub hl [0, 1, 2, 3, 4, 5, 6] rfl)
set_option maxHeartbeats 4000000 in
set_option maxRecDepth 100000 in
theorem c_M_feed {Z : zT} {D : va_G} {cs : Nat → ClassId} {a : Nat → Nat} (hw : wD (mW a cs)) (hz : zOK Z) (l : Launch) {u : St} {x1 : Int32} {x2 : Int32} {x3 : Int32} {x4 : Int32} {x5 : Int32} {r : Int32} {u' : St} (hk : f_M_feed u x1 x2 x3 x4 x5 = some (r, u')) : KI clA D cs (mW a cs) Z l y_M_feed (.code y_M_feed prog_9_method_3_code 8 (Option.some Jvm.ClassFile.FieldType.int)) rm_M_feed [.ref (a 0), .int x1, .int x2, .int x3, .int x4, .int x5] u r u' := by
  unfold f_M_feed at hk
  refine KI.of (by decide) (Nat.le_of_ble_eq_true rfl) rfl hw hz ?_
  intro p e s m args below meth c Q C I hQ ls hl
  have hl : lv_has ls 8 [(0, .ref (a 0)), (1, .int x1), (2, .int x2), (3, .int x3), (4, .int x4), (5, .int x5)] := hl
  have hx := C.1.1
  have hb := C.1.2.1
  refine lv_iload hx hb d_M_feed_0 (lv_at hl 5 rfl) ?_
  refine lv_iconst (v := 1) hx hb d_M_feed_2 (by decide) ?_
  refine lv_icmp_lt (tgt := 13) hx hb d_M_feed_3 (by decide) (fun hc => ?_) (fun hc => ?_)
  · replace hk := it_u hc hk
    refine lv_iconst (v := (-1)) hx hb d_M_feed_13 (by decide) ?_
    exact hQ _ _ _ _ _ _ I hk d_M_feed_14
  · replace hk := ie_u hc hk
    refine lv_iload hx hb d_M_feed_6 (lv_at hl 5 rfl) ?_
    refine lv_bipush (v := 16) hx hb d_M_feed_8 (by decide) ?_
    refine lv_icmp_le (tgt := 15) hx hb d_M_feed_10 (by decide) (fun hc => ?_) (fun hc => ?_)
    · replace hk := it_u hc hk
      refine lv_aload_n hx hb d_M_feed_15 rfl (lv_at hl 0 rfl) ?_
      refine g_M_size C I k_695 d_M_feed_16 ?_
      refine lv_iload hx hb d_M_feed_19 (lv_at hl 5 rfl) ?_
      refine lv_iadd hx hb d_M_feed_21 ?_
      refine lv_sipush (v := 4000) hx hb d_M_feed_22 (by decide) ?_
      refine lv_icmp_le (tgt := 31) hx hb d_M_feed_25 (by decide) (fun hc => ?_) (fun hc => ?_)
      · replace hk := it_u hc hk
        refine lv_iconst (v := 0) hx hb d_M_feed_31 (by decide) ?_
        refine lv_istore (lv' := [(6, .int 0), (0, .ref (a 0)), (1, .int x1), (2, .int x2), (3, .int x3), (4, .int x4), (5, .int x5)]) hx hb d_M_feed_32 hl (by decide) rfl (fun ls hl => ?_)
        obtain ⟨u4, hj6, hk⟩ := cT_u hk
        refine w_M_feed_L34 C (fun H locs ls I hl => ?_) FU u 0 _ _ _ hj6 I (lv_sub hl [1, 2, 3, 4, 5, 6, 0] rfl)
        refine lv_aload_n hx hb d_M_feed_109 rfl (lv_at hl 0 rfl) ?_
        refine lv_dup hx hb d_M_feed_110 rfl ?_
        refine g_M_size C I k_695 d_M_feed_111 ?_
        refine lv_iload hx hb d_M_feed_114 (lv_at hl 1 rfl) ?_
        refine lv_iadd hx hb d_M_feed_116 ?_
        refine p_M_size C I k_695 d_M_feed_117 (fun H locs I => ?_)
        obtain ⟨u5, hu, hk⟩ := bnd_u hk
        rw [hu] at I
        clear hu
        refine lv_aload_n hx hb d_M_feed_120 rfl (lv_at hl 0 rfl) ?_
        refine g_M_size C I k_695 d_M_feed_121 ?_
        exact hQ _ _ _ _ _ _ I hk d_M_feed_124
      · replace hk := ie_u hc hk
        refine lv_bipush (v := (-2)) hx hb d_M_feed_28 (by decide) ?_
        exact hQ _ _ _ _ _ _ I hk d_M_feed_30
    · replace hk := ie_u hc hk
      refine lv_iconst (v := (-1)) hx hb d_M_feed_13 (by decide) ?_
      exact hQ _ _ _ _ _ _ I hk d_M_feed_14
def rm_M_cut : Room := { frames := 0, cells := 0, slots := 0, locals := 0 }
noncomputable def f_M_cut (u : St) (x1 : Int32) : Option (Int32 × St) := if x1 < 0 then (some ((-1), u)) else (if x1 ≤ (u.1 0) then (bnd (sv u 0 ((u.1 0) - x1)) fun u1 => some ((u1.1 0), u1)) else (some ((-1), u)))
set_option maxHeartbeats 4000000 in
set_option maxRecDepth 100000 in
theorem c_M_cut {Z : zT} {D : va_G} {cs : Nat → ClassId} {a : Nat → Nat} (hw : wD (mW a cs)) (hz : zOK Z) (l : Launch) {u : St} {x1 : Int32} {r : Int32} {u' : St} (hk : f_M_cut u x1 = some (r, u')) : KI clA D cs (mW a cs) Z l y_M_cut (.code y_M_cut prog_9_method_4_code 2 (Option.some Jvm.ClassFile.FieldType.int)) rm_M_cut [.ref (a 0), .int x1] u r u' := by
  unfold f_M_cut at hk
  refine KI.of (by decide) (Nat.le_of_ble_eq_true rfl) rfl hw hz ?_
  intro p e s m args below meth c Q C I hQ ls hl
  have hl : lv_has ls 2 [(0, .ref (a 0)), (1, .int x1)] := hl
  have hx := C.1.1
  have hb := C.1.2.1
  refine lv_iload_n hx hb d_M_cut_0 rfl (lv_at hl 1 rfl) ?_
  refine lv_if_lt (tgt := 12) hx hb d_M_cut_1 (by decide) (fun hc => ?_) (fun hc => ?_)
  · replace hk := it_u hc hk
    refine lv_iconst (v := (-1)) hx hb d_M_cut_12 (by decide) ?_
    exact hQ _ _ _ _ _ _ I hk d_M_cut_13
  · replace hk := ie_u hc hk
    refine lv_iload_n hx hb d_M_cut_4 rfl (lv_at hl 1 rfl) ?_
    refine lv_aload_n hx hb d_M_cut_5 rfl (lv_at hl 0 rfl) ?_
    refine g_M_size C I k_695 d_M_cut_6 ?_
    refine lv_icmp_le (tgt := 14) hx hb d_M_cut_9 (by decide) (fun hc => ?_) (fun hc => ?_)
    · replace hk := it_u hc hk
      refine lv_aload_n hx hb d_M_cut_14 rfl (lv_at hl 0 rfl) ?_
      refine lv_dup hx hb d_M_cut_15 rfl ?_
      refine g_M_size C I k_695 d_M_cut_16 ?_
      refine lv_iload_n hx hb d_M_cut_19 rfl (lv_at hl 1 rfl) ?_
      refine lv_isub hx hb d_M_cut_20 ?_
      refine p_M_size C I k_695 d_M_cut_21 (fun H locs I => ?_)
      obtain ⟨u1, hu, hk⟩ := bnd_u hk
      rw [hu] at I
      clear hu
      refine lv_aload_n hx hb d_M_cut_24 rfl (lv_at hl 0 rfl) ?_
      refine g_M_size C I k_695 d_M_cut_25 ?_
      exact hQ _ _ _ _ _ _ I hk d_M_cut_28
    · replace hk := ie_u hc hk
      refine lv_iconst (v := (-1)) hx hb d_M_cut_12 (by decide) ?_
      exact hQ _ _ _ _ _ _ I hk d_M_cut_13
def rm_M_turn : Room := { frames := 0, cells := 0, slots := 0, locals := 0 }
noncomputable def f_M_turn (u : St) (x1 : Int32) (x2 : Int32) : Option (Int32 × St) := if x1 < 0 then (some ((-1), u)) else (if x1 < (u.1 0) then (gd x1 4000 (gd x1 4000 (bnd (sa u 0 x1.toNatClampNeg (vp_nar .byte ((u.2 0 x1.toNatClampNeg) ^^^ (x2).toInt8.toInt32).toInt8.toInt32)) fun u1 => gd x1 4000 (some (((u1.2 0 x1.toNatClampNeg) &&& 255), u1))))) else (some ((-1), u)))
set_option maxHeartbeats 4000000 in
set_option maxRecDepth 100000 in
theorem c_M_turn {Z : zT} {D : va_G} {cs : Nat → ClassId} {a : Nat → Nat} (hw : wD (mW a cs)) (hz : zOK Z) (l : Launch) {u : St} {x1 : Int32} {x2 : Int32} {r : Int32} {u' : St} (hk : f_M_turn u x1 x2 = some (r, u')) : KI clA D cs (mW a cs) Z l y_M_turn (.code y_M_turn prog_9_method_5_code 3 (Option.some Jvm.ClassFile.FieldType.int)) rm_M_turn [.ref (a 0), .int x1, .int x2] u r u' := by
  unfold f_M_turn at hk
  refine KI.of (by decide) (Nat.le_of_ble_eq_true rfl) rfl hw hz ?_
  intro p e s m args below meth c Q C I hQ ls hl
  have hl : lv_has ls 3 [(0, .ref (a 0)), (1, .int x1), (2, .int x2)] := hl
  have hx := C.1.1
  have hb := C.1.2.1
  refine lv_iload_n hx hb d_M_turn_0 rfl (lv_at hl 1 rfl) ?_
  refine lv_if_lt (tgt := 12) hx hb d_M_turn_1 (by decide) (fun hc => ?_) (fun hc => ?_)
  · replace hk := it_u hc hk
    refine lv_iconst (v := (-1)) hx hb d_M_turn_12 (by decide) ?_
    exact hQ _ _ _ _ _ _ I hk d_M_turn_13
  · replace hk := ie_u hc hk
    refine lv_iload_n hx hb d_M_turn_4 rfl (lv_at hl 1 rfl) ?_
    refine lv_aload_n hx hb d_M_turn_5 rfl (lv_at hl 0 rfl) ?_
    refine g_M_size C I k_695 d_M_turn_6 ?_
    refine lv_icmp_lt (tgt := 14) hx hb d_M_turn_9 (by decide) (fun hc => ?_) (fun hc => ?_)
    · replace hk := it_u hc hk
      refine lv_aload_n hx hb d_M_turn_14 rfl (lv_at hl 0 rfl) ?_
      refine g_M_file C I k_694 d_M_turn_15 ?_
      refine lv_iload_n hx hb d_M_turn_18 rfl (lv_at hl 1 rfl) ?_
      refine lv_dup2_11 hx hb d_M_turn_19 rfl rfl ?_
      obtain ⟨hi, hk⟩ := gd_u hk
      refine l_M_file C I hi d_M_turn_20 ?_
      refine lv_iload_n hx hb d_M_turn_21 rfl (lv_at hl 2 rfl) ?_
      refine lv_i2b (v := (x2).toInt8.toInt32) hx hb d_M_turn_22 rfl ?_
      refine lv_ixor hx hb d_M_turn_23 ?_
      refine lv_i2b (v := ((u.2 0 x1.toNatClampNeg) ^^^ (x2).toInt8.toInt32).toInt8.toInt32) hx hb d_M_turn_24 rfl ?_
      obtain ⟨hi, hk⟩ := gd_u hk
      refine s_M_file C I hi d_M_turn_25 (fun H locs I => ?_)
      obtain ⟨u1, hu, hk⟩ := bnd_u hk
      rw [hu] at I
      clear hu
      refine lv_aload_n hx hb d_M_turn_26 rfl (lv_at hl 0 rfl) ?_
      refine g_M_file C I k_694 d_M_turn_27 ?_
      refine lv_iload_n hx hb d_M_turn_30 rfl (lv_at hl 1 rfl) ?_
      obtain ⟨hi, hk⟩ := gd_u hk
      refine l_M_file C I hi d_M_turn_31 ?_
      refine lv_sipush (v := 255) hx hb d_M_turn_32 (by decide) ?_
      refine lv_iand hx hb d_M_turn_35 ?_
      exact hQ _ _ _ _ _ _ I hk d_M_turn_36
    · replace hk := ie_u hc hk
      refine lv_iconst (v := (-1)) hx hb d_M_turn_12 (by decide) ?_
      exact hQ _ _ _ _ _ _ I hk d_M_turn_13
def rm_M_byteAt : Room := { frames := 0, cells := 0, slots := 0, locals := 0 }
noncomputable def f_M_byteAt (u : St) (x1 : Int32) : Option (Int32 × St) := cT (if x1 < 0 then (some ((-1))) else (if x1 < (u.1 0) then (gd x1 4000 (some (((u.2 0 x1.toNatClampNeg) &&& 255)))) else (some ((-1))))) fun (z1 : Int32) => some (z1, u)
set_option maxHeartbeats 4000000 in
set_option maxRecDepth 100000 in
theorem c_M_byteAt {Z : zT} {D : va_G} {cs : Nat → ClassId} {a : Nat → Nat} (hw : wD (mW a cs)) (hz : zOK Z) (l : Launch) {u : St} {x1 : Int32} {r : Int32} {u' : St} (hk : f_M_byteAt u x1 = some (r, u')) : KI clA D cs (mW a cs) Z l y_M_byteAt (.code y_M_byteAt prog_9_method_6_code 2 (Option.some Jvm.ClassFile.FieldType.int)) rm_M_byteAt [.ref (a 0), .int x1] u r u' := by
  unfold f_M_byteAt at hk
  refine KI.of (by decide) (Nat.le_of_ble_eq_true rfl) rfl hw hz ?_
  intro p e s m args below meth c Q C I hQ ls hl
  have hl : lv_has ls 2 [(0, .ref (a 0)), (1, .int x1)] := hl
  have hx := C.1.1
  have hb := C.1.2.1
  refine lv_iload_n hx hb d_M_byteAt_0 rfl (lv_at hl 1 rfl) ?_
  obtain ⟨z1, hj2, hk⟩ := cT_u hk
  have Khj2 : ∀ (H : Heap) (locs : List Loc) (ls : Array Slot), Dy clA D (mW a cs) s H locs u → lv_has ls 2 [] → W p l e rm_M_byteAt s m args below meth c H locs 0 0 Q (F0 m 26 ls [.int z1]) := by
    intro H locs ls I hl
    exact hQ _ _ _ _ _ _ I hk d_M_byteAt_26
  refine lv_if_lt (tgt := 12) hx hb d_M_byteAt_1 (by decide) (fun hc => ?_) (fun hc => ?_)
  · replace hj2 := it_u hc hj2
    refine lv_iconst (v := (-1)) hx hb d_M_byteAt_12 (by decide) ?_
    refine lv_goto (tgt := 26) hx hb d_M_byteAt_13 (by decide) ?_
    cases hj2
    exact Khj2 _ _ _ I (lv_sub hl [] rfl)
  · replace hj2 := ie_u hc hj2
    refine lv_iload_n hx hb d_M_byteAt_4 rfl (lv_at hl 1 rfl) ?_
    refine lv_aload_n hx hb d_M_byteAt_5 rfl (lv_at hl 0 rfl) ?_
    refine g_M_size C I k_695 d_M_byteAt_6 ?_
    refine lv_icmp_lt (tgt := 16) hx hb d_M_byteAt_9 (by decide) (fun hc => ?_) (fun hc => ?_)
    · replace hj2 := it_u hc hj2
      refine lv_aload_n hx hb d_M_byteAt_16 rfl (lv_at hl 0 rfl) ?_
      refine g_M_file C I k_694 d_M_byteAt_17 ?_
      refine lv_iload_n hx hb d_M_byteAt_20 rfl (lv_at hl 1 rfl) ?_
      obtain ⟨hi, hj2⟩ := gd_u hj2
      refine l_M_file C I hi d_M_byteAt_21 ?_
      refine lv_sipush (v := 255) hx hb d_M_byteAt_22 (by decide) ?_
      refine lv_iand hx hb d_M_byteAt_25 ?_
      cases hj2
      exact Khj2 _ _ _ I (lv_sub hl [] rfl)
    · replace hj2 := ie_u hc hj2
      refine lv_iconst (v := (-1)) hx hb d_M_byteAt_12 (by decide) ?_
      refine lv_goto (tgt := 26) hx hb d_M_byteAt_13 (by decide) ?_
      cases hj2
      exact Khj2 _ _ _ I (lv_sub hl [] rfl)
def rm_M_fails : Room := { frames := 0, cells := 0, slots := 0, locals := 0 }
noncomputable def f_M_fails (u : St) (x1 : Int32) (x2 : Int32) : Option (Int32 × St) := cT (if (u.1 3) = 0 then (bnd (sv u 3 x1) fun u3 => bnd (sv u3 4 x2) fun u4 => some (u4)) else (some (u))) fun (u1 : St) => gb 1 (some (1, u1))
set_option maxHeartbeats 4000000 in
set_option maxRecDepth 100000 in
theorem c_M_fails {Z : zT} {D : va_G} {cs : Nat → ClassId} {a : Nat → Nat} (hw : wD (mW a cs)) (hz : zOK Z) (l : Launch) {u : St} {x1 : Int32} {x2 : Int32} {r : Int32} {u' : St} (hk : f_M_fails u x1 x2 = some (r, u')) : KI clA D cs (mW a cs) Z l y_M_fails (.code y_M_fails prog_9_method_7_code 3 (Option.some Jvm.ClassFile.FieldType.boolean)) rm_M_fails [.ref (a 0), .int x1, .int x2] u r u' := by
  unfold f_M_fails at hk
  refine KZ.of (by decide) (Nat.le_of_ble_eq_true rfl) hw hz ?_
  intro p e s m args below meth c Q C I hQ ls hl
  have hl : lv_has ls 3 [(0, .ref (a 0)), (1, .int x1), (2, .int x2)] := hl
  have hx := C.1.1
  have hb := C.1.2.1
  refine lv_aload_n hx hb d_M_fails_0 rfl (lv_at hl 0 rfl) ?_
  refine g_M_broken C I k_698 d_M_fails_1 ?_
  obtain ⟨u1, hj2, hk⟩ := cT_u hk
  have Khj2 : ∀ (H : Heap) (locs : List Loc) (ls : Array Slot), Dy clA D (mW a cs) s H locs u1 → lv_has ls 3 [] → W p l e rm_M_fails s m args below meth c H locs 0 0 Q (F0 m 17 ls []) := by
    intro H locs ls I hl
    refine lv_iconst (v := 1) hx hb d_M_fails_17 (by decide) ?_
    exact hQ _ _ _ _ _ _ I hk d_M_fails_18
  refine lv_if_ne (tgt := 17) hx hb d_M_fails_4 (by decide) (fun hc => ?_) (fun hc => ?_)
  · replace hj2 := ie_u hc hj2
    cases hj2
    exact Khj2 _ _ _ I (lv_sub hl [] rfl)
  · replace hj2 := it_u hc hj2
    refine lv_aload_n hx hb d_M_fails_7 rfl (lv_at hl 0 rfl) ?_
    refine lv_iload_n hx hb d_M_fails_8 rfl (lv_at hl 1 rfl) ?_
    refine p_M_broken C I k_698 d_M_fails_9 (fun H locs I => ?_)
    obtain ⟨u3, hu, hj2⟩ := bnd_u hj2
    rw [hu] at I
    clear hu
    refine lv_aload_n hx hb d_M_fails_12 rfl (lv_at hl 0 rfl) ?_
    refine lv_iload_n hx hb d_M_fails_13 rfl (lv_at hl 2 rfl) ?_
    refine p_M_place C I k_699 d_M_fails_14 (fun H locs I => ?_)
    obtain ⟨u4, hu, hj2⟩ := bnd_u hj2
    rw [hu] at I
    clear hu
    cases hj2
    exact Khj2 _ _ _ I (lv_sub hl [] rfl)
def rm_M_ok : Room := { frames := 0, cells := 0, slots := 0, locals := 0 }
noncomputable def f_M_ok (u : St) : Option (Int32 × St) := bnd (if (u.1 3) = 0 then (1) else (0)) fun (z1 : Int32) => gb z1 (some (z1, u))
set_option maxHeartbeats 4000000 in
set_option maxRecDepth 100000 in
theorem c_M_ok {Z : zT} {D : va_G} {cs : Nat → ClassId} {a : Nat → Nat} (hw : wD (mW a cs)) (hz : zOK Z) (l : Launch) {u : St} {r : Int32} {u' : St} (hk : f_M_ok u = some (r, u')) : KI clA D cs (mW a cs) Z l y_M_ok (.code y_M_ok prog_9_method_8_code 1 (Option.some Jvm.ClassFile.FieldType.boolean)) rm_M_ok [.ref (a 0)] u r u' := by
  unfold f_M_ok at hk
  refine KZ.of (by decide) (Nat.le_of_ble_eq_true rfl) hw hz ?_
  intro p e s m args below meth c Q C I hQ ls hl
  have hl : lv_has ls 1 [(0, .ref (a 0))] := hl
  have hx := C.1.1
  have hb := C.1.2.1
  refine lv_aload_n hx hb d_M_ok_0 rfl (lv_at hl 0 rfl) ?_
  refine g_M_broken C I k_698 d_M_ok_1 ?_
  obtain ⟨z1, hj2, hk⟩ := bnd_u hk
  have Khj2 : ∀ (H : Heap) (locs : List Loc) (ls : Array Slot), Dy clA D (mW a cs) s H locs u → lv_has ls 1 [] → W p l e rm_M_ok s m args below meth c H locs 0 0 Q (F0 m 12 ls [.int z1]) := by
    intro H locs ls I hl
    exact hQ _ _ _ _ _ _ I hk d_M_ok_12
  refine lv_if_ne (tgt := 11) hx hb d_M_ok_4 (by decide) (fun hc => ?_) (fun hc => ?_)
  · replace hj2 := ie_u hc hj2
    refine lv_iconst (v := 0) hx hb d_M_ok_11 (by decide) ?_
    cases hj2
    exact Khj2 _ _ _ I (lv_sub hl [] rfl)
  · replace hj2 := it_u hc hj2
    refine lv_iconst (v := 1) hx hb d_M_ok_7 (by decide) ?_
    refine lv_goto (tgt := 12) hx hb d_M_ok_8 (by decide) ?_
    cases hj2
    exact Khj2 _ _ _ I (lv_sub hl [] rfl)
def rm_M_must : Room := { frames := 1, cells := 0, slots := 0, locals := 22 }
noncomputable def f_M_must (u : St) (x1 : Int32) (x2 : Int32) (x3 : Int32) : Option (Int32 × St) := cI (f_M_ok u) fun r3 u1 => cT (if r3 = 0 then (some (u1)) else (if x1 = 0 then (cI (f_M_fails u1 x2 x3) fun r11 u9 => some (u9)) else (some (u1)))) fun (u4 : St) => cI (f_M_ok u4) fun r7 u5 => gb r7 (some (r7, u5))
set_option maxHeartbeats 4000000 in
set_option maxRecDepth 100000 in
theorem c_M_must {Z : zT} {D : va_G} {cs : Nat → ClassId} {a : Nat → Nat} (hw : wD (mW a cs)) (hz : zOK Z) (l : Launch) {u : St} {x1 : Int32} {x2 : Int32} {x3 : Int32} {r : Int32} {u' : St} (hk : f_M_must u x1 x2 x3 = some (r, u')) : KI clA D cs (mW a cs) Z l y_M_must (.code y_M_must prog_9_method_9_code 4 (Option.some Jvm.ClassFile.FieldType.boolean)) rm_M_must [.ref (a 0), .int x1, .int x2, .int x3] u r u' := by
  unfold f_M_must at hk
  refine KZ.of (by decide) (Nat.le_of_ble_eq_true rfl) hw hz ?_
  intro p e s m args below meth c Q C I hQ ls hl
  have hl : lv_has ls 4 [(0, .ref (a 0)), (1, .int x1), (2, .int x2), (3, .int x3)] := hl
  have hx := C.1.1
  have hb := C.1.2.1
  refine lv_aload_n hx hb d_M_must_0 rfl (lv_at hl 0 rfl) ?_
  obtain ⟨r3, u1, h2, hk⟩ := cI_u hk
  refine go_I I (call_runV (rest := []) C I (c_M_ok C.2.2.2.1 C.2.2.2.2.1 l h2 _) wd_M_ok (q0 := 0) (ci := 7) rfl rfl k_834 ⟨rfl, rfl⟩ ⟨by decide, by decide⟩ rfl hl.1 rfl (Nat.le_of_ble_eq_true rfl) d_M_must_1) (fun H locs I => ?_)
  obtain ⟨u4, hj8, hk⟩ := cT_u hk
  have Khj8 : ∀ (H : Heap) (locs : List Loc) (ls : Array Slot), Dy clA D (mW a cs) s H locs u4 → lv_has ls 4 [(0, .ref (a 0))] → W p l e rm_M_must s m args below meth c H locs 0 0 Q (F0 m 18 ls []) := by
    intro H locs ls I hl
    refine lv_aload_n hx hb d_M_must_18 rfl (lv_at hl 0 rfl) ?_
    obtain ⟨r7, u5, h6, hk⟩ := cI_u hk
    refine go_I I (call_runV (rest := []) C I (c_M_ok C.2.2.2.1 C.2.2.2.2.1 l h6 _) wd_M_ok (q0 := 0) (ci := 7) rfl rfl k_834 ⟨rfl, rfl⟩ ⟨by decide, by decide⟩ rfl hl.1 rfl (Nat.le_of_ble_eq_true rfl) d_M_must_19) (fun H locs I => ?_)
    exact hQ _ _ _ _ _ _ I hk d_M_must_22
  refine lv_if_eq (tgt := 18) hx hb d_M_must_4 (by decide) (fun hc => ?_) (fun hc => ?_)
  · replace hj8 := it_u hc hj8
    cases hj8
    exact Khj8 _ _ _ I (lv_sub hl [0] rfl)
  · replace hj8 := ie_u hc hj8
    refine lv_iload_n hx hb d_M_must_7 rfl (lv_at hl 1 rfl) ?_
    refine lv_if_ne (tgt := 18) hx hb d_M_must_8 (by decide) (fun hc => ?_) (fun hc => ?_)
    · replace hj8 := ie_u hc hj8
      cases hj8
      exact Khj8 _ _ _ I (lv_sub hl [0] rfl)
    · replace hj8 := it_u hc hj8
      refine lv_aload_n hx hb d_M_must_11 rfl (lv_at hl 0 rfl) ?_
      refine lv_iload_n hx hb d_M_must_12 rfl (lv_at hl 2 rfl) ?_
      refine lv_iload_n hx hb d_M_must_13 rfl (lv_at hl 3 rfl) ?_
      obtain ⟨r11, u9, h10, hj8⟩ := cI_u hj8
      refine go_I I (call_runV (rest := []) C I (c_M_fails C.2.2.2.1 C.2.2.2.2.1 l h10 _) wd_M_fails (q0 := 0) (ci := 7) rfl rfl k_838 ⟨rfl, rfl⟩ ⟨by decide, by decide⟩ rfl hl.1 rfl (Nat.le_of_ble_eq_true rfl) d_M_must_14) (fun H locs I => ?_)
      refine lv_pop hx hb d_M_must_17 rfl ?_
      cases hj8
      exact Khj8 _ _ _ I (lv_sub hl [0] rfl)
def rm_M_u1 : Room := { frames := 1, cells := 0, slots := 0, locals := 22 }
noncomputable def f_M_u1 (u : St) : Option (Int32 × St) := cI (f_M_ok u) fun r3 u1 => if r3 = 0 then (some (0, u1)) else (if (u1.1 2) < (u1.1 1) then (bnd (sv u1 2 ((u1.1 2) + 1)) fun u4 => gd ((u4.1 2) - 1) 4000 (some (((u4.2 0 ((u4.1 2) - 1).toNatClampNeg) &&& 255), u4))) else (cI (f_M_fails u1 1 (u1.1 1)) fun r7 u5 => some (0, u5)))
set_option maxHeartbeats 4000000 in
set_option maxRecDepth 100000 in
theorem c_M_u1 {Z : zT} {D : va_G} {cs : Nat → ClassId} {a : Nat → Nat} (hw : wD (mW a cs)) (hz : zOK Z) (l : Launch) {u : St} {r : Int32} {u' : St} (hk : f_M_u1 u = some (r, u')) : KI clA D cs (mW a cs) Z l y_M_u1 (.code y_M_u1 prog_9_method_10_code 1 (Option.some Jvm.ClassFile.FieldType.int)) rm_M_u1 [.ref (a 0)] u r u' := by
  unfold f_M_u1 at hk
  refine KI.of (by decide) (Nat.le_of_ble_eq_true rfl) rfl hw hz ?_
  intro p e s m args below meth c Q C I hQ ls hl
  have hl : lv_has ls 1 [(0, .ref (a 0))] := hl
  have hx := C.1.1
  have hb := C.1.2.1
  refine lv_aload_n hx hb d_M_u1_0 rfl (lv_at hl 0 rfl) ?_
  obtain ⟨r3, u1, h2, hk⟩ := cI_u hk
  refine go_I I (call_runV (rest := []) C I (c_M_ok C.2.2.2.1 C.2.2.2.2.1 l h2 _) wd_M_ok (q0 := 0) (ci := 7) rfl rfl k_834 ⟨rfl, rfl⟩ ⟨by decide, by decide⟩ rfl hl.1 rfl (Nat.le_of_ble_eq_true rfl) d_M_u1_1) (fun H locs I => ?_)
  refine lv_if_ne (tgt := 9) hx hb d_M_u1_4 (by decide) (fun hc => ?_) (fun hc => ?_)
  · replace hk := ie_u hc hk
    refine lv_aload_n hx hb d_M_u1_9 rfl (lv_at hl 0 rfl) ?_
    refine g_M_at C I k_697 d_M_u1_10 ?_
    refine lv_aload_n hx hb d_M_u1_13 rfl (lv_at hl 0 rfl) ?_
    refine g_M_limit C I k_696 d_M_u1_14 ?_
    refine lv_icmp_lt (tgt := 32) hx hb d_M_u1_17 (by decide) (fun hc => ?_) (fun hc => ?_)
    · replace hk := it_u hc hk
      refine lv_aload_n hx hb d_M_u1_32 rfl (lv_at hl 0 rfl) ?_
      refine lv_dup hx hb d_M_u1_33 rfl ?_
      refine g_M_at C I k_697 d_M_u1_34 ?_
      refine lv_iconst (v := 1) hx hb d_M_u1_37 (by decide) ?_
      refine lv_iadd hx hb d_M_u1_38 ?_
      refine p_M_at C I k_697 d_M_u1_39 (fun H locs I => ?_)
      obtain ⟨u4, hu, hk⟩ := bnd_u hk
      rw [hu] at I
      clear hu
      refine lv_aload_n hx hb d_M_u1_42 rfl (lv_at hl 0 rfl) ?_
      refine g_M_file C I k_694 d_M_u1_43 ?_
      refine lv_aload_n hx hb d_M_u1_46 rfl (lv_at hl 0 rfl) ?_
      refine g_M_at C I k_697 d_M_u1_47 ?_
      refine lv_iconst (v := 1) hx hb d_M_u1_50 (by decide) ?_
      refine lv_isub hx hb d_M_u1_51 ?_
      obtain ⟨hi, hk⟩ := gd_u hk
      refine l_M_file C I hi d_M_u1_52 ?_
      refine lv_sipush (v := 255) hx hb d_M_u1_53 (by decide) ?_
      refine lv_iand hx hb d_M_u1_56 ?_
      exact hQ _ _ _ _ _ _ I hk d_M_u1_57
    · replace hk := ie_u hc hk
      refine lv_aload_n hx hb d_M_u1_20 rfl (lv_at hl 0 rfl) ?_
      refine lv_iconst (v := 1) hx hb d_M_u1_21 (by decide) ?_
      refine lv_aload_n hx hb d_M_u1_22 rfl (lv_at hl 0 rfl) ?_
      refine g_M_limit C I k_696 d_M_u1_23 ?_
      obtain ⟨r7, u5, h6, hk⟩ := cI_u hk
      refine go_I I (call_runV (rest := []) C I (c_M_fails C.2.2.2.1 C.2.2.2.2.1 l h6 _) wd_M_fails (q0 := 0) (ci := 7) rfl rfl k_838 ⟨rfl, rfl⟩ ⟨by decide, by decide⟩ rfl hl.1 rfl (Nat.le_of_ble_eq_true rfl) d_M_u1_26) (fun H locs I => ?_)
      refine lv_pop hx hb d_M_u1_29 rfl ?_
      refine lv_iconst (v := 0) hx hb d_M_u1_30 (by decide) ?_
      exact hQ _ _ _ _ _ _ I hk d_M_u1_31
  · replace hk := it_u hc hk
    refine lv_iconst (v := 0) hx hb d_M_u1_7 (by decide) ?_
    exact hQ _ _ _ _ _ _ I hk d_M_u1_8
def rm_M_u2 : Room := { frames := 2, cells := 0, slots := 0, locals := 42 }
noncomputable def f_M_u2 (u : St) : Option (Int32 × St) := cI (f_M_u1 u) fun r3 u1 => cI (f_M_u1 u1) fun r6 u4 => some (((r3 <<< (8 &&& 31)) ||| r6), u4)
set_option maxHeartbeats 4000000 in
set_option maxRecDepth 100000 in
theorem c_M_u2 {Z : zT} {D : va_G} {cs : Nat → ClassId} {a : Nat → Nat} (hw : wD (mW a cs)) (hz : zOK Z) (l : Launch) {u : St} {r : Int32} {u' : St} (hk : f_M_u2 u = some (r, u')) : KI clA D cs (mW a cs) Z l y_M_u2 (.code y_M_u2 prog_9_method_11_code 2 (Option.some Jvm.ClassFile.FieldType.int)) rm_M_u2 [.ref (a 0)] u r u' := by
  unfold f_M_u2 at hk
  refine KI.of (by decide) (Nat.le_of_ble_eq_true rfl) rfl hw hz ?_
  intro p e s m args below meth c Q C I hQ ls hl
  have hl : lv_has ls 2 [(0, .ref (a 0))] := hl
  have hx := C.1.1
  have hb := C.1.2.1
  refine lv_aload_n hx hb d_M_u2_0 rfl (lv_at hl 0 rfl) ?_
  obtain ⟨r3, u1, h2, hk⟩ := cI_u hk
  refine go_I I (call_runV (rest := []) C I (c_M_u1 C.2.2.2.1 C.2.2.2.2.1 l h2 _) wd_M_u1 (q0 := 0) (ci := 7) rfl rfl k_830 ⟨rfl, rfl⟩ ⟨by decide, by decide⟩ rfl hl.1 rfl (Nat.le_of_ble_eq_true rfl) d_M_u2_1) (fun H locs I => ?_)
  refine lv_istore_n (lv' := [(1, .int r3), (0, .ref (a 0))]) hx hb d_M_u2_4 rfl hl (by decide) rfl (fun ls hl => ?_)
  refine lv_iload_n hx hb d_M_u2_5 rfl (lv_at hl 0 rfl) ?_
  refine lv_bipush (v := 8) hx hb d_M_u2_6 (by decide) ?_
  refine lv_ishl hx hb d_M_u2_8 ?_
  refine lv_aload_n hx hb d_M_u2_9 rfl (lv_at hl 1 rfl) ?_
  obtain ⟨r6, u4, h5, hk⟩ := cI_u hk
  refine go_I I (call_runV (rest := [.int (r3 <<< (8 &&& 31))]) C I (c_M_u1 C.2.2.2.1 C.2.2.2.2.1 l h5 _) wd_M_u1 (q0 := 0) (ci := 7) rfl rfl k_830 ⟨rfl, rfl⟩ ⟨by decide, by decide⟩ rfl hl.1 rfl (Nat.le_of_ble_eq_true rfl) d_M_u2_10) (fun H locs I => ?_)
  refine lv_ior hx hb d_M_u2_13 ?_
  exact hQ _ _ _ _ _ _ I hk d_M_u2_14
def rm_M_u4 : Room := { frames := 3, cells := 0, slots := 0, locals := 63 }
noncomputable def f_M_u4 (u : St) : Option (Int64 × St) := cI (f_M_u2 u) fun r3 u1 => cI (f_M_u2 u1) fun r6 u4 => some ((((r3).toInt64 <<< (((16 : Int32)).toInt64 &&& 63)) ||| (r6).toInt64), u4)
set_option maxHeartbeats 4000000 in
set_option maxRecDepth 100000 in
theorem c_M_u4 {Z : zT} {D : va_G} {cs : Nat → ClassId} {a : Nat → Nat} (hw : wD (mW a cs)) (hz : zOK Z) (l : Launch) {u : St} {r : Int64} {u' : St} (hk : f_M_u4 u = some (r, u')) : KJ clA D cs (mW a cs) Z l y_M_u4 (.code y_M_u4 prog_9_method_12_code 3 (Option.some Jvm.ClassFile.FieldType.long)) rm_M_u4 [.ref (a 0)] u r u' := by
  unfold f_M_u4 at hk
  refine KJ.of (by decide) (Nat.le_of_ble_eq_true rfl) hw hz ?_
  intro p e s m args below meth c Q C I hQ ls hl
  have hl : lv_has ls 3 [(0, .ref (a 0))] := hl
  have hx := C.1.1
  have hb := C.1.2.1
  refine lv_aload_n hx hb d_M_u4_0 rfl (lv_at hl 0 rfl) ?_
  obtain ⟨r3, u1, h2, hk⟩ := cI_u hk
  refine go_I I (call_runV (rest := []) C I (c_M_u2 C.2.2.2.1 C.2.2.2.2.1 l h2 _) wd_M_u2 (q0 := 0) (ci := 7) rfl rfl k_826 ⟨rfl, rfl⟩ ⟨by decide, by decide⟩ rfl hl.1 rfl (Nat.le_of_ble_eq_true rfl) d_M_u4_1) (fun H locs I => ?_)
  refine lv_i2l (v := (r3).toInt64) hx hb d_M_u4_4 rfl ?_
  refine lv_lstore_n (lv' := [(1, .long (r3).toInt64), (0, .ref (a 0))]) hx hb d_M_u4_5 rfl hl (by decide) rfl (fun ls hl => ?_)
  refine lv_lload_n hx hb d_M_u4_6 rfl (lv_at hl 0 rfl) ?_
  refine lv_bipush (v := 16) hx hb d_M_u4_7 (by decide) ?_
  refine lv_lshl (v := ((r3).toInt64 <<< (((16 : Int32)).toInt64 &&& 63))) hx hb d_M_u4_9 rfl ?_
  refine lv_aload_n hx hb d_M_u4_10 rfl (lv_at hl 1 rfl) ?_
  obtain ⟨r6, u4, h5, hk⟩ := cI_u hk
  refine go_I I (call_runV (rest := [.long ((r3).toInt64 <<< (((16 : Int32)).toInt64 &&& 63))]) C I (c_M_u2 C.2.2.2.1 C.2.2.2.2.1 l h5 _) wd_M_u2 (q0 := 0) (ci := 7) rfl rfl k_826 ⟨rfl, rfl⟩ ⟨by decide, by decide⟩ rfl hl.1 rfl (Nat.le_of_ble_eq_true rfl) d_M_u4_11) (fun H locs I => ?_)
  refine lv_i2l (v := (r6).toInt64) hx hb d_M_u4_14 rfl ?_
  refine lv_lor hx hb d_M_u4_15 ?_
  exact hQ _ _ _ _ _ _ I hk d_M_u4_16
def rm_M_two : Room := { frames := 0, cells := 0, slots := 0, locals := 0 }
noncomputable def f_M_two (u : St) (x1 : Int32) : Option (Int32 × St) := gd x1 4000 (gd (x1 + 1) 4000 (some (((((u.2 0 x1.toNatClampNeg) &&& 255) <<< (8 &&& 31)) ||| ((u.2 0 (x1 + 1).toNatClampNeg) &&& 255)), u)))
set_option maxHeartbeats 4000000 in
set_option maxRecDepth 100000 in
theorem c_M_two {Z : zT} {D : va_G} {cs : Nat → ClassId} {a : Nat → Nat} (hw : wD (mW a cs)) (hz : zOK Z) (l : Launch) {u : St} {x1 : Int32} {r : Int32} {u' : St} (hk : f_M_two u x1 = some (r, u')) : KI clA D cs (mW a cs) Z l y_M_two (.code y_M_two prog_9_method_13_code 2 (Option.some Jvm.ClassFile.FieldType.int)) rm_M_two [.ref (a 0), .int x1] u r u' := by
  unfold f_M_two at hk
  refine KI.of (by decide) (Nat.le_of_ble_eq_true rfl) rfl hw hz ?_
  intro p e s m args below meth c Q C I hQ ls hl
  have hl : lv_has ls 2 [(0, .ref (a 0)), (1, .int x1)] := hl
  have hx := C.1.1
  have hb := C.1.2.1
  refine lv_aload_n hx hb d_M_two_0 rfl (lv_at hl 0 rfl) ?_
  refine g_M_file C I k_694 d_M_two_1 ?_
  refine lv_iload_n hx hb d_M_two_4 rfl (lv_at hl 1 rfl) ?_
  obtain ⟨hi, hk⟩ := gd_u hk
  refine l_M_file C I hi d_M_two_5 ?_
  refine lv_sipush (v := 255) hx hb d_M_two_6 (by decide) ?_
  refine lv_iand hx hb d_M_two_9 ?_
  refine lv_bipush (v := 8) hx hb d_M_two_10 (by decide) ?_
  refine lv_ishl hx hb d_M_two_12 ?_
  refine lv_aload_n hx hb d_M_two_13 rfl (lv_at hl 0 rfl) ?_
  refine g_M_file C I k_694 d_M_two_14 ?_
  refine lv_iload_n hx hb d_M_two_17 rfl (lv_at hl 1 rfl) ?_
  refine lv_iconst (v := 1) hx hb d_M_two_18 (by decide) ?_
  refine lv_iadd hx hb d_M_two_19 ?_
  obtain ⟨hi, hk⟩ := gd_u hk
  refine l_M_file C I hi d_M_two_20 ?_
  refine lv_sipush (v := 255) hx hb d_M_two_21 (by decide) ?_
  refine lv_iand hx hb d_M_two_24 ?_
  refine lv_ior hx hb d_M_two_25 ?_
  exact hQ _ _ _ _ _ _ I hk d_M_two_26
def rm_M_textAt : Room := { frames := 0, cells := 0, slots := 0, locals := 0 }
noncomputable def f_M_textAt (u : St) (x1 : Int32) : Option (Int32 × St) := gd x1 300 (some (((u.2 2 x1.toNatClampNeg) + 3), u))
set_option maxHeartbeats 4000000 in
set_option maxRecDepth 100000 in
theorem c_M_textAt {Z : zT} {D : va_G} {cs : Nat → ClassId} {a : Nat → Nat} (hw : wD (mW a cs)) (hz : zOK Z) (l : Launch) {u : St} {x1 : Int32} {r : Int32} {u' : St} (hk : f_M_textAt u x1 = some (r, u')) : KI clA D cs (mW a cs) Z l y_M_textAt (.code y_M_textAt prog_9_method_14_code 2 (Option.some Jvm.ClassFile.FieldType.int)) rm_M_textAt [.ref (a 0), .int x1] u r u' := by
  unfold f_M_textAt at hk
  refine KI.of (by decide) (Nat.le_of_ble_eq_true rfl) rfl hw hz ?_
  intro p e s m args below meth c Q C I hQ ls hl
  have hl : lv_has ls 2 [(0, .ref (a 0)), (1, .int x1)] := hl
  have hx := C.1.1
  have hb := C.1.2.1
  refine lv_aload_n hx hb d_M_textAt_0 rfl (lv_at hl 0 rfl) ?_
  refine g_M_begins C I k_703 d_M_textAt_1 ?_
  refine lv_iload_n hx hb d_M_textAt_4 rfl (lv_at hl 1 rfl) ?_
  obtain ⟨hi, hk⟩ := gd_u hk
  refine l_M_begins C I hi d_M_textAt_5 ?_
  refine lv_iconst (v := 3) hx hb d_M_textAt_6 (by decide) ?_
  refine lv_iadd hx hb d_M_textAt_7 ?_
  exact hQ _ _ _ _ _ _ I hk d_M_textAt_8
def rm_M_textSize : Room := { frames := 1, cells := 0, slots := 0, locals := 21 }
noncomputable def f_M_textSize (u : St) (x1 : Int32) : Option (Int32 × St) := gd x1 300 (cI (f_M_two u ((u.2 2 x1.toNatClampNeg) + 1)) fun r3 u1 => some (r3, u1))
set_option maxHeartbeats 4000000 in
set_option maxRecDepth 100000 in
theorem c_M_textSize {Z : zT} {D : va_G} {cs : Nat → ClassId} {a : Nat → Nat} (hw : wD (mW a cs)) (hz : zOK Z) (l : Launch) {u : St} {x1 : Int32} {r : Int32} {u' : St} (hk : f_M_textSize u x1 = some (r, u')) : KI clA D cs (mW a cs) Z l y_M_textSize (.code y_M_textSize prog_9_method_15_code 2 (Option.some Jvm.ClassFile.FieldType.int)) rm_M_textSize [.ref (a 0), .int x1] u r u' := by
  unfold f_M_textSize at hk
  refine KI.of (by decide) (Nat.le_of_ble_eq_true rfl) rfl hw hz ?_
  intro p e s m args below meth c Q C I hQ ls hl
  have hl : lv_has ls 2 [(0, .ref (a 0)), (1, .int x1)] := hl
  have hx := C.1.1
  have hb := C.1.2.1
  refine lv_aload_n hx hb d_M_textSize_0 rfl (lv_at hl 0 rfl) ?_
  refine lv_aload_n hx hb d_M_textSize_1 rfl (lv_at hl 0 rfl) ?_
  refine g_M_begins C I k_703 d_M_textSize_2 ?_
  refine lv_iload_n hx hb d_M_textSize_5 rfl (lv_at hl 1 rfl) ?_
  obtain ⟨hi, hk⟩ := gd_u hk
  refine l_M_begins C I hi d_M_textSize_6 ?_
  refine lv_iconst (v := 1) hx hb d_M_textSize_7 (by decide) ?_
  refine lv_iadd hx hb d_M_textSize_8 ?_
  obtain ⟨r3, u1, h2, hk⟩ := cI_u hk
  refine go_I I (call_runV (rest := []) C I (c_M_two C.2.2.2.1 C.2.2.2.2.1 l h2 _) wd_M_two (q0 := 0) (ci := 7) rfl rfl k_859 ⟨rfl, rfl⟩ ⟨by decide, by decide⟩ rfl hl.1 rfl (Nat.le_of_ble_eq_true rfl) d_M_textSize_9) (fun H locs I => ?_)
  exact hQ _ _ _ _ _ _ I hk d_M_textSize_12
def rm_M_letter : Room := { frames := 2, cells := 0, slots := 0, locals := 42 }
noncomputable def f_M_letter (u : St) (x1 : Int32) (x2 : Int32) : Option (Int32 × St) := cI (f_M_textSize u x1) fun r3 u1 => cT (if r3 ≤ x2 then (some (256, u1)) else (cI (f_M_textAt u1 x1) fun r9 u7 => gd (r9 + x2) 4000 (some (((u7.2 0 (r9 + x2).toNatClampNeg) &&& 255), u7)))) fun (p10 : Int32 × St) => some (p10.1, p10.2)
set_option maxHeartbeats 4000000 in
set_option maxRecDepth 100000 in
theorem c_M_letter {Z : zT} {D : va_G} {cs : Nat → ClassId} {a : Nat → Nat} (hw : wD (mW a cs)) (hz : zOK Z) (l : Launch) {u : St} {x1 : Int32} {x2 : Int32} {r : Int32} {u' : St} (hk : f_M_letter u x1 x2 = some (r, u')) : KI clA D cs (mW a cs) Z l y_M_letter (.code y_M_letter prog_9_method_16_code 3 (Option.some Jvm.ClassFile.FieldType.int)) rm_M_letter [.ref (a 0), .int x1, .int x2] u r u' := by
  unfold f_M_letter at hk
  refine KI.of (by decide) (Nat.le_of_ble_eq_true rfl) rfl hw hz ?_
  intro p e s m args below meth c Q C I hQ ls hl
  have hl : lv_has ls 3 [(0, .ref (a 0)), (1, .int x1), (2, .int x2)] := hl
  have hx := C.1.1
  have hb := C.1.2.1
  refine lv_iload_n hx hb d_M_letter_0 rfl (lv_at hl 2 rfl) ?_
  refine lv_aload_n hx hb d_M_letter_1 rfl (lv_at hl 0 rfl) ?_
  refine lv_iload_n hx hb d_M_letter_2 rfl (lv_at hl 1 rfl) ?_
  obtain ⟨r3, u1, h2, hk⟩ := cI_u hk
  refine go_I I (call_runV (rest := [.int x2]) C I (c_M_textSize C.2.2.2.1 C.2.2.2.2.1 l h2 _) wd_M_textSize (q0 := 0) (ci := 7) rfl rfl k_871 ⟨rfl, rfl⟩ ⟨by decide, by decide⟩ rfl hl.1 rfl (Nat.le_of_ble_eq_true rfl) d_M_letter_3) (fun H locs I => ?_)
  obtain ⟨⟨z4, u5⟩, hj6, hk⟩ := cT_u hk
  have Khj6 : ∀ (H : Heap) (locs : List Loc) (ls : Array Slot), Dy clA D (mW a cs) s H locs u5 → lv_has ls 3 [] → W p l e rm_M_letter s m args below meth c H locs 0 0 Q (F0 m 31 ls [.int z4]) := by
    intro H locs ls I hl
    exact hQ _ _ _ _ _ _ I hk d_M_letter_31
  refine lv_icmp_ge (tgt := 28) hx hb d_M_letter_6 (by decide) (fun hc => ?_) (fun hc => ?_)
  · replace hj6 := it_u hc hj6
    refine lv_sipush (v := 256) hx hb d_M_letter_28 (by decide) ?_
    cases hj6
    exact Khj6 _ _ _ I (lv_sub hl [] rfl)
  · replace hj6 := ie_u hc hj6
    refine lv_aload_n hx hb d_M_letter_9 rfl (lv_at hl 0 rfl) ?_
    refine g_M_file C I k_694 d_M_letter_10 ?_
    refine lv_aload_n hx hb d_M_letter_13 rfl (lv_at hl 0 rfl) ?_
    refine lv_iload_n hx hb d_M_letter_14 rfl (lv_at hl 1 rfl) ?_
    obtain ⟨r9, u7, h8, hj6⟩ := cI_u hj6
    refine go_I I (call_runV (rest := [.ref (a 1)]) C I (c_M_textAt C.2.2.2.1 C.2.2.2.2.1 l h8 _) wd_M_textAt (q0 := 0) (ci := 7) rfl rfl k_875 ⟨rfl, rfl⟩ ⟨by decide, by decide⟩ rfl hl.1 rfl (Nat.le_of_ble_eq_true rfl) d_M_letter_15) (fun H locs I => ?_)
    refine lv_iload_n hx hb d_M_letter_18 rfl (lv_at hl 2 rfl) ?_
    refine lv_iadd hx hb d_M_letter_19 ?_
    obtain ⟨hi, hj6⟩ := gd_u hj6
    refine l_M_file C I hi d_M_letter_20 ?_
    refine lv_sipush (v := 255) hx hb d_M_letter_21 (by decide) ?_
    refine lv_iand hx hb d_M_letter_24 ?_
    refine lv_goto (tgt := 31) hx hb d_M_letter_25 (by decide) ?_
    cases hj6
    exact Khj6 _ _ _ I (lv_sub hl [] rfl)
def rm_M_same : Room := { frames := 3, cells := 0, slots := 0, locals := 64 }
noncomputable def f_M_same_L22 (x1 : Int32) (x2 : Int32) : Nat → St → Int32 → Int32 → Option (St × Int32)
  | 0, _, _, _ => none
  | n + 1, u, x3, x4 => if x3 = 0 then (some (u, x3)) else (cI (f_M_textSize u x1) fun r10 u8 => if r10 ≤ x4 then (some (u8, x3)) else (cI (f_M_letter u8 x1 x4) fun r13 u11 => cI (f_M_letter u11 x2 x4) fun r16 u14 => bnd (if r13 = r16 then (1) else (0)) fun (z17 : Int32) => f_M_same_L22 x1 x2 n u14 z17 (x4 + 1)))
noncomputable def f_M_same (u : St) (x1 : Int32) (x2 : Int32) : Option (Int32 × St) := cI (f_M_textSize u x1) fun r3 u1 => cI (f_M_textSize u1 x2) fun r6 u4 => bnd (if r3 = r6 then (1) else (0)) fun (z7 : Int32) => cT (f_M_same_L22 x1 x2 FU u4 z7 0) fun (p22 : St × Int32) => gb p22.2 (some (p22.2, p22.1))
set_option maxHeartbeats 4000000 in
set_option maxRecDepth 100000 in
theorem w_M_same_L22 {Z : zT} {D : va_G} {cs : Nat → ClassId} {a : Nat → Nat} {p : Program} {l : Launch} {e : Env} {s : State} {m : MethodId} {args : Array Value} {below : List Frame} {meth : Method} {c : Code} {Q : State → Prop}  {u2 : St} {o3 : Int32} {x1 : Int32} {x2 : Int32} (C : Cx clA R_M prog_9_method_17_code 5 D cs (mW a cs) Z p s m args c) (hE : ∀ (H : Heap) (locs : List Loc) (ls : Array Slot), Dy clA D (mW a cs) s H locs u2 → lv_has ls 5 [(3, .int o3)] → W p l e rm_M_same s m args below meth c H locs 0 0 Q (F0 m 65 ls [])) : ∀ (n : Nat) (u : St) (x3 : Int32) (x4 : Int32) (H : Heap) (locs : List Loc) (ls : Array Slot), f_M_same_L22 x1 x2 n u x3 x4 = some (u2, o3) → Dy clA D (mW a cs) s H locs u → lv_has ls 5 [(0, .ref (a 0)), (1, .int x1), (2, .int x2), (3, .int x3), (4, .int x4)] → W p l e rm_M_same s m args below meth c H locs 0 0 Q (F0 m 22 ls []) := by
  have hx := C.1.1
  have hb := C.1.2.1
  intro n
  induction n with
  | zero =>
    intro u x3 x4 H locs ls hk I hl
    rw [f_M_same_L22] at hk
    cases hk
  | succ n ih =>
    intro u x3 x4 H locs ls hk I hl
    rw [f_M_same_L22] at hk
    refine lv_iload_n hx hb d_M_same_22 rfl (lv_at hl 3 rfl) ?_
    refine lv_if_eq (tgt := 65) hx hb d_M_same_23 (by decide) (fun hc => ?_) (fun hc => ?_)
    · replace hk := it_u hc hk
      cases hk
      exact hE _ _ _ I (lv_sub hl [3] rfl)
    · replace hk := ie_u hc hk
      refine lv_iload hx hb d_M_same_26 (lv_at hl 4 rfl) ?_
      refine lv_aload_n hx hb d_M_same_28 rfl (lv_at hl 0 rfl) ?_
      refine lv_iload_n hx hb d_M_same_29 rfl (lv_at hl 1 rfl) ?_
      obtain ⟨r10, u8, h9, hk⟩ := cI_u hk
      refine go_I I (call_runV (rest := [.int x4]) C I (c_M_textSize C.2.2.2.1 C.2.2.2.2.1 l h9 _) wd_M_textSize (q0 := 0) (ci := 7) rfl rfl k_871 ⟨rfl, rfl⟩ ⟨by decide, by decide⟩ rfl hl.1 rfl (Nat.le_of_ble_eq_true rfl) d_M_same_30) (fun H locs I => ?_)
      refine lv_icmp_ge (tgt := 65) hx hb d_M_same_33 (by decide) (fun hc => ?_) (fun hc => ?_)
      · replace hk := it_u hc hk
        cases hk
        exact hE _ _ _ I (lv_sub hl [3] rfl)
      · replace hk := ie_u hc hk
        refine lv_aload_n hx hb d_M_same_36 rfl (lv_at hl 0 rfl) ?_
        refine lv_iload_n hx hb d_M_same_37 rfl (lv_at hl 1 rfl) ?_
        refine lv_iload hx hb d_M_same_38 (lv_at hl 4 rfl) ?_
        obtain ⟨r13, u11, h12, hk⟩ := cI_u hk
        refine go_I I (call_runV (rest := []) C I (c_M_letter C.2.2.2.1 C.2.2.2.2.1 l h12 _) wd_M_letter (q0 := 0) (ci := 7) rfl rfl k_867 ⟨rfl, rfl⟩ ⟨by decide, by decide⟩ rfl hl.1 rfl (Nat.le_of_ble_eq_true rfl) d_M_same_40) (fun H locs I => ?_)
        refine lv_aload_n hx hb d_M_same_43 rfl (lv_at hl 0 rfl) ?_
        refine lv_iload_n hx hb d_M_same_44 rfl (lv_at hl 2 rfl) ?_
        refine lv_iload hx hb d_M_same_45 (lv_at hl 4 rfl) ?_
        obtain ⟨r16, u14, h15, hk⟩ := cI_u hk
        refine go_I I (call_runV (rest := [.int r13]) C I (c_M_letter C.2.2.2.1 C.2.2.2.2.1 l h15 _) wd_M_letter (q0 := 0) (ci := 7) rfl rfl k_867 ⟨rfl, rfl⟩ ⟨by decide, by decide⟩ rfl hl.1 rfl (Nat.le_of_ble_eq_true rfl) d_M_same_47) (fun H locs I => ?_)
        obtain ⟨z17, hj18, hk⟩ := bnd_u hk
        have Khj18 : ∀ (H : Heap) (locs : List Loc) (ls : Array Slot), Dy clA D (mW a cs) s H locs u14 → lv_has ls 5 [(0, .ref (a 0)), (1, .int x1), (2, .int x2), (4, .int x4)] → W p l e rm_M_same s m args below meth c H locs 0 0 Q (F0 m 58 ls [.int z17]) := by
          intro H locs ls I hl
          refine lv_istore_n (lv' := [(3, .int z17), (0, .ref (a 0)), (1, .int x1), (2, .int x2), (4, .int x4)]) hx hb d_M_same_58 rfl hl (by decide) rfl (fun ls hl => ?_)
          refine lv_iinc (v := (x4 + 1)) (lv' := [(4, .int (x4 + 1)), (3, .int z17), (0, .ref (a 0)), (1, .int x1), (2, .int x2)]) hx hb d_M_same_59 hl (k := 4) rfl rfl (by decide) rfl (fun ls hl => ?_)
          refine lv_goto (tgt := 22) hx hb d_M_same_62 (by decide) ?_
          exact ih u14 z17 (x4 + 1) _ _ _ hk I (lv_sub hl [2, 3, 4, 1, 0] rfl)
        refine lv_icmp_ne (tgt := 57) hx hb d_M_same_50 (by decide) (fun hc => ?_) (fun hc => ?_)
        · replace hj18 := ie_u hc hj18
          refine lv_iconst (v := 0) hx hb d_M_same_57 (by decide) ?_
          cases hj18
          exact Khj18 _ _ _ I (lv_sub hl [0, 1, 2, 4] rfl)
        · replace hj18 := it_u hc hj18
          refine lv_iconst (v := 1) hx hb d_M_same_53 (by decide) ?_
          refine lv_goto (tgt := 58) hx hb d_M_same_54 (by decide) ?_
          cases hj18
          exact Khj18 _ _ _ I (lv_sub hl [0, 1, 2, 4] rfl)
set_option maxHeartbeats 4000000 in
set_option maxRecDepth 100000 in
theorem c_M_same {Z : zT} {D : va_G} {cs : Nat → ClassId} {a : Nat → Nat} (hw : wD (mW a cs)) (hz : zOK Z) (l : Launch) {u : St} {x1 : Int32} {x2 : Int32} {r : Int32} {u' : St} (hk : f_M_same u x1 x2 = some (r, u')) : KI clA D cs (mW a cs) Z l y_M_same (.code y_M_same prog_9_method_17_code 5 (Option.some Jvm.ClassFile.FieldType.boolean)) rm_M_same [.ref (a 0), .int x1, .int x2] u r u' := by
  unfold f_M_same at hk
  refine KZ.of (by decide) (Nat.le_of_ble_eq_true rfl) hw hz ?_
  intro p e s m args below meth c Q C I hQ ls hl
  have hl : lv_has ls 5 [(0, .ref (a 0)), (1, .int x1), (2, .int x2)] := hl
  have hx := C.1.1
  have hb := C.1.2.1
  refine lv_aload_n hx hb d_M_same_0 rfl (lv_at hl 0 rfl) ?_
  refine lv_iload_n hx hb d_M_same_1 rfl (lv_at hl 1 rfl) ?_
  obtain ⟨r3, u1, h2, hk⟩ := cI_u hk
  refine go_I I (call_runV (rest := []) C I (c_M_textSize C.2.2.2.1 C.2.2.2.2.1 l h2 _) wd_M_textSize (q0 := 0) (ci := 7) rfl rfl k_871 ⟨rfl, rfl⟩ ⟨by decide, by decide⟩ rfl hl.1 rfl (Nat.le_of_ble_eq_true rfl) d_M_same_2) (fun H locs I => ?_)
  refine lv_aload_n hx hb d_M_same_5 rfl (lv_at hl 0 rfl) ?_
  refine lv_iload_n hx hb d_M_same_6 rfl (lv_at hl 2 rfl) ?_
  obtain ⟨r6, u4, h5, hk⟩ := cI_u hk
  refine go_I I (call_runV (rest := [.int r3]) C I (c_M_textSize C.2.2.2.1 C.2.2.2.2.1 l h5 _) wd_M_textSize (q0 := 0) (ci := 7) rfl rfl k_871 ⟨rfl, rfl⟩ ⟨by decide, by decide⟩ rfl hl.1 rfl (Nat.le_of_ble_eq_true rfl) d_M_same_7) (fun H locs I => ?_)
  obtain ⟨z7, hj23, hk⟩ := bnd_u hk
  have Khj23 : ∀ (H : Heap) (locs : List Loc) (ls : Array Slot), Dy clA D (mW a cs) s H locs u4 → lv_has ls 5 [(0, .ref (a 0)), (1, .int x1), (2, .int x2)] → W p l e rm_M_same s m args below meth c H locs 0 0 Q (F0 m 18 ls [.int z7]) := by
    intro H locs ls I hl
    refine lv_istore_n (lv' := [(3, .int z7), (0, .ref (a 0)), (1, .int x1), (2, .int x2)]) hx hb d_M_same_18 rfl hl (by decide) rfl (fun ls hl => ?_)
    refine lv_iconst (v := 0) hx hb d_M_same_19 (by decide) ?_
    refine lv_istore (lv' := [(4, .int 0), (3, .int z7), (0, .ref (a 0)), (1, .int x1), (2, .int x2)]) hx hb d_M_same_20 hl (by decide) rfl (fun ls hl => ?_)
    obtain ⟨⟨u19, z20⟩, hj21, hk⟩ := cT_u hk
    refine w_M_same_L22 C (fun H locs ls I hl => ?_) FU u4 z7 0 _ _ _ hj21 I (lv_sub hl [2, 3, 4, 1, 0] rfl)
    refine lv_iload_n hx hb d_M_same_65 rfl (lv_at hl 0 rfl) ?_
    exact hQ _ _ _ _ _ _ I hk d_M_same_66
  refine lv_icmp_ne (tgt := 17) hx hb d_M_same_10 (by decide) (fun hc => ?_) (fun hc => ?_)
  · replace hj23 := ie_u hc hj23
    refine lv_iconst (v := 0) hx hb d_M_same_17 (by decide) ?_
    cases hj23
    exact Khj23 _ _ _ I (lv_sub hl [0, 1, 2] rfl)
  · replace hj23 := it_u hc hj23
    refine lv_iconst (v := 1) hx hb d_M_same_13 (by decide) ?_
    refine lv_goto (tgt := 18) hx hb d_M_same_14 (by decide) ?_
    cases hj23
    exact Khj23 _ _ _ I (lv_sub hl [0, 1, 2] rfl)
def rm_M_is : Room := { frames := 3, cells := 0, slots := 0, locals := 64 }
noncomputable def f_M_is_L19 (x1 : Int32) (x2 : Int32) (x3 : Int64) (x5 : Int64) (x7 : Int64) : Nat → St → Int32 → Int32 → Option (St × Int32)
  | 0, _, _, _ => none
  | n + 1, u, x9, x10 => if x9 = 0 then (some (u, x9)) else (if x2 ≤ x10 then (some (u, x9)) else (bnd (if 8 ≤ (x2 - ((x10 / 8) * 8)) then (8) else ((x2 - ((x10 / 8) * 8)))) fun (z5 : Int32) => bnd (if 8 ≤ x10 then (if 16 ≤ x10 then (x7) else (x5)) else (x3)) fun (z6 : Int64) => cI (f_M_letter u x1 x10) fun r9 u7 => bnd (if r9 = ((z6 >>> (((8 * ((z5 - 1) - (x10 - x10 / 8 * 8)))).toInt64 &&& 63)) &&& 255).toInt32 then (1) else (0)) fun (z10 : Int32) => f_M_is_L19 x1 x2 x3 x5 x7 n u7 z10 (x10 + 1)))
noncomputable def f_M_is (u : St) (x1 : Int32) (x2 : Int32) (x3 : Int64) (x5 : Int64) (x7 : Int64) : Option (Int32 × St) := cI (f_M_textSize u x1) fun r3 u1 => bnd (if r3 = x2 then (1) else (0)) fun (z4 : Int32) => cT (f_M_is_L19 x1 x2 x3 x5 x7 FU u1 z4 0) fun (p17 : St × Int32) => gb p17.2 (some (p17.2, p17.1))
set_option maxHeartbeats 4000000 in
set_option maxRecDepth 100000 in
theorem w_M_is_L19 {Z : zT} {D : va_G} {cs : Nat → ClassId} {a : Nat → Nat} {p : Program} {l : Launch} {e : Env} {s : State} {m : MethodId} {args : Array Value} {below : List Frame} {meth : Method} {c : Code} {Q : State → Prop}  {u2 : St} {o9 : Int32} {x1 : Int32} {x2 : Int32} {x3 : Int64} {x5 : Int64} {x7 : Int64} (C : Cx clA R_M prog_9_method_18_code 14 D cs (mW a cs) Z p s m args c) (hE : ∀ (H : Heap) (locs : List Loc) (ls : Array Slot), Dy clA D (mW a cs) s H locs u2 → lv_has ls 14 [(9, .int o9)] → W p l e rm_M_is s m args below meth c H locs 0 0 Q (F0 m 133 ls [])) : ∀ (n : Nat) (u : St) (x9 : Int32) (x10 : Int32) (H : Heap) (locs : List Loc) (ls : Array Slot), f_M_is_L19 x1 x2 x3 x5 x7 n u x9 x10 = some (u2, o9) → Dy clA D (mW a cs) s H locs u → lv_has ls 14 [(0, .ref (a 0)), (1, .int x1), (2, .int x2), (3, .long x3), (5, .long x5), (7, .long x7), (9, .int x9), (10, .int x10)] → W p l e rm_M_is s m args below meth c H locs 0 0 Q (F0 m 19 ls []) := by
  have hx := C.1.1
  have hb := C.1.2.1
  intro n
  induction n with
  | zero =>
    intro u x9 x10 H locs ls hk I hl
    rw [f_M_is_L19] at hk
    cases hk
  | succ n ih =>
    intro u x9 x10 H locs ls hk I hl
    rw [f_M_is_L19] at hk
    refine lv_iload hx hb d_M_is_19 (lv_at hl 6 rfl) ?_
    refine lv_if_eq (tgt := 133) hx hb d_M_is_21 (by decide) (fun hc => ?_) (fun hc => ?_)
    · replace hk := it_u hc hk
      cases hk
      exact hE _ _ _ I (lv_sub hl [6] rfl)
    · replace hk := ie_u hc hk
      refine lv_iload hx hb d_M_is_24 (lv_at hl 7 rfl) ?_
      refine lv_iload_n hx hb d_M_is_26 rfl (lv_at hl 2 rfl) ?_
      refine lv_icmp_ge (tgt := 133) hx hb d_M_is_27 (by decide) (fun hc => ?_) (fun hc => ?_)
      · replace hk := it_u hc hk
        cases hk
        exact hE _ _ _ I (lv_sub hl [6] rfl)
      · replace hk := ie_u hc hk
        refine lv_iload_n hx hb d_M_is_30 rfl (lv_at hl 2 rfl) ?_
        refine lv_iload hx hb d_M_is_31 (lv_at hl 7 rfl) ?_
        refine lv_bipush (v := 8) hx hb d_M_is_33 (by decide) ?_
        refine lv_idiv hx hb d_M_is_35 (by decide) ?_
        refine lv_bipush (v := 8) hx hb d_M_is_36 (by decide) ?_
        refine lv_imul hx hb d_M_is_38 ?_
        refine lv_isub hx hb d_M_is_39 ?_
        refine lv_bipush (v := 8) hx hb d_M_is_40 (by decide) ?_
        obtain ⟨z5, hj13, hk⟩ := bnd_u hk
        have Khj13 : ∀ (H : Heap) (locs : List Loc) (ls : Array Slot), Dy clA D (mW a cs) s H locs u → lv_has ls 14 [(0, .ref (a 0)), (1, .int x1), (2, .int x2), (3, .long x3), (5, .long x5), (7, .long x7), (10, .int x10)] → W p l e rm_M_is s m args below meth c H locs 0 0 Q (F0 m 60 ls [.int z5]) := by
          intro H locs ls I hl
          refine lv_istore (lv' := [(11, .int z5), (0, .ref (a 0)), (1, .int x1), (2, .int x2), (3, .long x3), (5, .long x5), (7, .long x7), (10, .int x10)]) hx hb d_M_is_60 hl (by decide) rfl (fun ls hl => ?_)
          refine lv_iload hx hb d_M_is_62 (lv_at hl 7 rfl) ?_
          refine lv_bipush (v := 8) hx hb d_M_is_64 (by decide) ?_
          obtain ⟨z6, hj12, hk⟩ := bnd_u hk
          have Khj12 : ∀ (H : Heap) (locs : List Loc) (ls : Array Slot), Dy clA D (mW a cs) s H locs u → lv_has ls 14 [(0, .ref (a 0)), (1, .int x1), (2, .int x2), (3, .long x3), (5, .long x5), (7, .long x7), (10, .int x10), (11, .int z5)] → W p l e rm_M_is s m args below meth c H locs 0 0 Q (F0 m 87 ls [.long z6]) := by
            intro H locs ls I hl
            refine lv_lstore (lv' := [(12, .long z6), (0, .ref (a 0)), (1, .int x1), (2, .int x2), (3, .long x3), (5, .long x5), (7, .long x7), (10, .int x10), (11, .int z5)]) hx hb d_M_is_87 hl (by decide) rfl (fun ls hl => ?_)
            refine lv_aload_n hx hb d_M_is_89 rfl (lv_at hl 1 rfl) ?_
            refine lv_iload_n hx hb d_M_is_90 rfl (lv_at hl 2 rfl) ?_
            refine lv_iload hx hb d_M_is_91 (lv_at hl 7 rfl) ?_
            obtain ⟨r9, u7, h8, hk⟩ := cI_u hk
            refine go_I I (call_runV (rest := []) C I (c_M_letter C.2.2.2.1 C.2.2.2.2.1 l h8 _) wd_M_letter (q0 := 0) (ci := 7) rfl rfl k_867 ⟨rfl, rfl⟩ ⟨by decide, by decide⟩ rfl hl.1 rfl (Nat.le_of_ble_eq_true rfl) d_M_is_93) (fun H locs I => ?_)
            refine lv_lload hx hb d_M_is_96 (lv_at hl 0 rfl) ?_
            refine lv_bipush (v := 8) hx hb d_M_is_98 (by decide) ?_
            refine lv_iload hx hb d_M_is_100 (lv_at hl 8 rfl) ?_
            refine lv_iconst (v := 1) hx hb d_M_is_102 (by decide) ?_
            refine lv_isub hx hb d_M_is_103 ?_
            refine lv_iload hx hb d_M_is_104 (lv_at hl 7 rfl) ?_
            refine lv_bipush (v := 8) hx hb d_M_is_106 (by decide) ?_
            refine lv_irem hx hb d_M_is_108 (by decide) ?_
            refine lv_isub hx hb d_M_is_109 ?_
            refine lv_imul hx hb d_M_is_110 ?_
            refine lv_lshr (v := (z6 >>> (((8 * ((z5 - 1) - (x10 - x10 / 8 * 8)))).toInt64 &&& 63))) hx hb d_M_is_111 rfl ?_
            refine lv_ldc2 hx hb C.1.2.2.2 (C.2.1 _ k_907) d_M_is_112 ?_
            refine lv_land hx hb d_M_is_115 ?_
            refine lv_l2i (v := ((z6 >>> (((8 * ((z5 - 1) - (x10 - x10 / 8 * 8)))).toInt64 &&& 63)) &&& 255).toInt32) hx hb d_M_is_116 rfl ?_
            obtain ⟨z10, hj11, hk⟩ := bnd_u hk
            have Khj11 : ∀ (H : Heap) (locs : List Loc) (ls : Array Slot), Dy clA D (mW a cs) s H locs u7 → lv_has ls 14 [(0, .ref (a 0)), (1, .int x1), (2, .int x2), (3, .long x3), (5, .long x5), (7, .long x7), (10, .int x10)] → W p l e rm_M_is s m args below meth c H locs 0 0 Q (F0 m 125 ls [.int z10]) := by
              intro H locs ls I hl
              refine lv_istore (lv' := [(9, .int z10), (0, .ref (a 0)), (1, .int x1), (2, .int x2), (3, .long x3), (5, .long x5), (7, .long x7), (10, .int x10)]) hx hb d_M_is_125 hl (by decide) rfl (fun ls hl => ?_)
              refine lv_iinc (v := (x10 + 1)) (lv' := [(10, .int (x10 + 1)), (9, .int z10), (0, .ref (a 0)), (1, .int x1), (2, .int x2), (3, .long x3), (5, .long x5), (7, .long x7)]) hx hb d_M_is_127 hl (k := 7) rfl rfl (by decide) rfl (fun ls hl => ?_)
              refine lv_goto (tgt := 19) hx hb d_M_is_130 (by decide) ?_
              exact ih u7 z10 (x10 + 1) _ _ _ hk I (lv_sub hl [2, 3, 4, 5, 6, 7, 1, 0] rfl)
            refine lv_icmp_ne (tgt := 124) hx hb d_M_is_117 (by decide) (fun hc => ?_) (fun hc => ?_)
            · replace hj11 := ie_u hc hj11
              refine lv_iconst (v := 0) hx hb d_M_is_124 (by decide) ?_
              cases hj11
              exact Khj11 _ _ _ I (lv_sub hl [1, 2, 3, 4, 5, 6, 7] rfl)
            · replace hj11 := it_u hc hj11
              refine lv_iconst (v := 1) hx hb d_M_is_120 (by decide) ?_
              refine lv_goto (tgt := 125) hx hb d_M_is_121 (by decide) ?_
              cases hj11
              exact Khj11 _ _ _ I (lv_sub hl [1, 2, 3, 4, 5, 6, 7] rfl)
          refine lv_icmp_ge (tgt := 73) hx hb d_M_is_66 (by decide) (fun hc => ?_) (fun hc => ?_)
          · replace hj12 := it_u hc hj12
            refine lv_iload hx hb d_M_is_73 (lv_at hl 7 rfl) ?_
            refine lv_bipush (v := 16) hx hb d_M_is_75 (by decide) ?_
            refine lv_icmp_ge (tgt := 85) hx hb d_M_is_77 (by decide) (fun hc => ?_) (fun hc => ?_)
            · replace hj12 := it_u hc hj12
              refine lv_lload hx hb d_M_is_85 (lv_at hl 6 rfl) ?_
              cases hj12
              exact Khj12 _ _ _ I (lv_sub hl [1, 2, 3, 4, 5, 6, 7, 0] rfl)
            · replace hj12 := ie_u hc hj12
              refine lv_lload hx hb d_M_is_80 (lv_at hl 5 rfl) ?_
              refine lv_goto (tgt := 87) hx hb d_M_is_82 (by decide) ?_
              cases hj12
              exact Khj12 _ _ _ I (lv_sub hl [1, 2, 3, 4, 5, 6, 7, 0] rfl)
          · replace hj12 := ie_u hc hj12
            refine lv_lload_n hx hb d_M_is_69 rfl (lv_at hl 4 rfl) ?_
            refine lv_goto (tgt := 87) hx hb d_M_is_70 (by decide) ?_
            cases hj12
            exact Khj12 _ _ _ I (lv_sub hl [1, 2, 3, 4, 5, 6, 7, 0] rfl)
        refine lv_icmp_ge (tgt := 58) hx hb d_M_is_42 (by decide) (fun hc => ?_) (fun hc => ?_)
        · replace hj13 := it_u hc hj13
          refine lv_bipush (v := 8) hx hb d_M_is_58 (by decide) ?_
          cases hj13
          exact Khj13 _ _ _ I (lv_sub hl [0, 1, 2, 3, 4, 5, 7] rfl)
        · replace hj13 := ie_u hc hj13
          refine lv_iload_n hx hb d_M_is_45 rfl (lv_at hl 2 rfl) ?_
          refine lv_iload hx hb d_M_is_46 (lv_at hl 7 rfl) ?_
          refine lv_bipush (v := 8) hx hb d_M_is_48 (by decide) ?_
          refine lv_idiv hx hb d_M_is_50 (by decide) ?_
          refine lv_bipush (v := 8) hx hb d_M_is_51 (by decide) ?_
          refine lv_imul hx hb d_M_is_53 ?_
          refine lv_isub hx hb d_M_is_54 ?_
          refine lv_goto (tgt := 60) hx hb d_M_is_55 (by decide) ?_
          cases hj13
          exact Khj13 _ _ _ I (lv_sub hl [0, 1, 2, 3, 4, 5, 7] rfl)
set_option maxHeartbeats 4000000 in
set_option maxRecDepth 100000 in
theorem c_M_is {Z : zT} {D : va_G} {cs : Nat → ClassId} {a : Nat → Nat} (hw : wD (mW a cs)) (hz : zOK Z) (l : Launch) {u : St} {x1 : Int32} {x2 : Int32} {x3 : Int64} {x5 : Int64} {x7 : Int64} {r : Int32} {u' : St} (hk : f_M_is u x1 x2 x3 x5 x7 = some (r, u')) : KI clA D cs (mW a cs) Z l y_M_is (.code y_M_is prog_9_method_18_code 14 (Option.some Jvm.ClassFile.FieldType.boolean)) rm_M_is [.ref (a 0), .int x1, .int x2, .long x3, .long x5, .long x7] u r u' := by
  unfold f_M_is at hk
  refine KZ.of (by decide) (Nat.le_of_ble_eq_true rfl) hw hz ?_
  intro p e s m args below meth c Q C I hQ ls hl
  have hl : lv_has ls 14 [(0, .ref (a 0)), (1, .int x1), (2, .int x2), (3, .long x3), (5, .long x5), (7, .long x7)] := hl
  have hx := C.1.1
  have hb := C.1.2.1
  refine lv_aload_n hx hb d_M_is_0 rfl (lv_at hl 0 rfl) ?_
  refine lv_iload_n hx hb d_M_is_1 rfl (lv_at hl 1 rfl) ?_
  obtain ⟨r3, u1, h2, hk⟩ := cI_u hk
  refine go_I I (call_runV (rest := []) C I (c_M_textSize C.2.2.2.1 C.2.2.2.2.1 l h2 _) wd_M_textSize (q0 := 0) (ci := 7) rfl rfl k_871 ⟨rfl, rfl⟩ ⟨by decide, by decide⟩ rfl hl.1 rfl (Nat.le_of_ble_eq_true rfl) d_M_is_2) (fun H locs I => ?_)
  refine lv_iload_n hx hb d_M_is_5 rfl (lv_at hl 2 rfl) ?_
  obtain ⟨z4, hj18, hk⟩ := bnd_u hk
  have Khj18 : ∀ (H : Heap) (locs : List Loc) (ls : Array Slot), Dy clA D (mW a cs) s H locs u1 → lv_has ls 14 [(0, .ref (a 0)), (1, .int x1), (2, .int x2), (3, .long x3), (5, .long x5), (7, .long x7)] → W p l e rm_M_is s m args below meth c H locs 0 0 Q (F0 m 14 ls [.int z4]) := by
    intro H locs ls I hl
    refine lv_istore (lv' := [(9, .int z4), (0, .ref (a 0)), (1, .int x1), (2, .int x2), (3, .long x3), (5, .long x5), (7, .long x7)]) hx hb d_M_is_14 hl (by decide) rfl (fun ls hl => ?_)
    refine lv_iconst (v := 0) hx hb d_M_is_16 (by decide) ?_
    refine lv_istore (lv' := [(10, .int 0), (9, .int z4), (0, .ref (a 0)), (1, .int x1), (2, .int x2), (3, .long x3), (5, .long x5), (7, .long x7)]) hx hb d_M_is_17 hl (by decide) rfl (fun ls hl => ?_)
    obtain ⟨⟨u14, z15⟩, hj16, hk⟩ := cT_u hk
    refine w_M_is_L19 C (fun H locs ls I hl => ?_) FU u1 z4 0 _ _ _ hj16 I (lv_sub hl [2, 3, 4, 5, 6, 7, 1, 0] rfl)
    refine lv_iload hx hb d_M_is_133 (lv_at hl 0 rfl) ?_
    exact hQ _ _ _ _ _ _ I hk d_M_is_135
  refine lv_icmp_ne (tgt := 13) hx hb d_M_is_6 (by decide) (fun hc => ?_) (fun hc => ?_)
  · replace hj18 := ie_u hc hj18
    refine lv_iconst (v := 0) hx hb d_M_is_13 (by decide) ?_
    cases hj18
    exact Khj18 _ _ _ I (lv_sub hl [0, 1, 2, 3, 4, 5] rfl)
  · replace hj18 := it_u hc hj18
    refine lv_iconst (v := 1) hx hb d_M_is_9 (by decide) ?_
    refine lv_goto (tgt := 14) hx hb d_M_is_10 (by decide) ?_
    cases hj18
    exact Khj18 _ _ _ I (lv_sub hl [0, 1, 2, 3, 4, 5] rfl)
def rm_M_isPlain : Room := { frames := 0, cells := 0, slots := 0, locals := 0 }
noncomputable def f_M_isPlain (u : St) (x0 : Int32) : Option (Int32 × St) := bnd (if x0 = 46 then (0) else (if x0 = 59 then (0) else (if x0 = 91 then (0) else (if x0 = 47 then (0) else (if x0 = 60 then (0) else (if x0 = 62 then (0) else (if x0 = 256 then (0) else (1)))))))) fun (z1 : Int32) => gb z1 (some (z1, u))
set_option maxHeartbeats 4000000 in
set_option maxRecDepth 100000 in
theorem c_M_isPlain {Z : zT} {D : va_G} {cs : Nat → ClassId} {a : Nat → Nat} (hw : wD (mW a cs)) (hz : zOK Z) (l : Launch) {u : St} {x0 : Int32} {r : Int32} {u' : St} (hk : f_M_isPlain u x0 = some (r, u')) : KI clA D cs (mW a cs) Z l y_M_isPlain (.code y_M_isPlain prog_9_method_19_code 1 (Option.some Jvm.ClassFile.FieldType.boolean)) rm_M_isPlain [.int x0] u r u' := by
  unfold f_M_isPlain at hk
  refine KZ.of (by decide) (Nat.le_of_ble_eq_true rfl) hw hz ?_
  intro p e s m args below meth c Q C I hQ ls hl
  have hl : lv_has ls 1 [(0, .int x0)] := hl
  have hx := C.1.1
  have hb := C.1.2.1
  refine lv_iload_n hx hb d_M_isPlain_0 rfl (lv_at hl 0 rfl) ?_
  refine lv_bipush (v := 46) hx hb d_M_isPlain_1 (by decide) ?_
  obtain ⟨z1, hj2, hk⟩ := bnd_u hk
  have Khj2 : ∀ (H : Heap) (locs : List Loc) (ls : Array Slot), Dy clA D (mW a cs) s H locs u → lv_has ls 1 [] → W p l e rm_M_isPlain s m args below meth c H locs 0 0 Q (F0 m 48 ls [.int z1]) := by
    intro H locs ls I hl
    exact hQ _ _ _ _ _ _ I hk d_M_isPlain_48
  refine lv_icmp_eq (tgt := 47) hx hb d_M_isPlain_3 (by decide) (fun hc => ?_) (fun hc => ?_)
  · replace hj2 := it_u hc hj2
    refine lv_iconst (v := 0) hx hb d_M_isPlain_47 (by decide) ?_
    cases hj2
    exact Khj2 _ _ _ I (lv_sub hl [] rfl)
  · replace hj2 := ie_u hc hj2
    refine lv_iload_n hx hb d_M_isPlain_6 rfl (lv_at hl 0 rfl) ?_
    refine lv_bipush (v := 59) hx hb d_M_isPlain_7 (by decide) ?_
    refine lv_icmp_eq (tgt := 47) hx hb d_M_isPlain_9 (by decide) (fun hc => ?_) (fun hc => ?_)
    · replace hj2 := it_u hc hj2
      refine lv_iconst (v := 0) hx hb d_M_isPlain_47 (by decide) ?_
      cases hj2
      exact Khj2 _ _ _ I (lv_sub hl [] rfl)
    · replace hj2 := ie_u hc hj2
      refine lv_iload_n hx hb d_M_isPlain_12 rfl (lv_at hl 0 rfl) ?_
      refine lv_bipush (v := 91) hx hb d_M_isPlain_13 (by decide) ?_
      refine lv_icmp_eq (tgt := 47) hx hb d_M_isPlain_15 (by decide) (fun hc => ?_) (fun hc => ?_)
      · replace hj2 := it_u hc hj2
        refine lv_iconst (v := 0) hx hb d_M_isPlain_47 (by decide) ?_
        cases hj2
        exact Khj2 _ _ _ I (lv_sub hl [] rfl)
      · replace hj2 := ie_u hc hj2
        refine lv_iload_n hx hb d_M_isPlain_18 rfl (lv_at hl 0 rfl) ?_
        refine lv_bipush (v := 47) hx hb d_M_isPlain_19 (by decide) ?_
        refine lv_icmp_eq (tgt := 47) hx hb d_M_isPlain_21 (by decide) (fun hc => ?_) (fun hc => ?_)
        · replace hj2 := it_u hc hj2
          refine lv_iconst (v := 0) hx hb d_M_isPlain_47 (by decide) ?_
          cases hj2
          exact Khj2 _ _ _ I (lv_sub hl [] rfl)
        · replace hj2 := ie_u hc hj2
          refine lv_iload_n hx hb d_M_isPlain_24 rfl (lv_at hl 0 rfl) ?_
          refine lv_bipush (v := 60) hx hb d_M_isPlain_25 (by decide) ?_
          refine lv_icmp_eq (tgt := 47) hx hb d_M_isPlain_27 (by decide) (fun hc => ?_) (fun hc => ?_)
          · replace hj2 := it_u hc hj2
            refine lv_iconst (v := 0) hx hb d_M_isPlain_47 (by decide) ?_
            cases hj2
            exact Khj2 _ _ _ I (lv_sub hl [] rfl)
          · replace hj2 := ie_u hc hj2
            refine lv_iload_n hx hb d_M_isPlain_30 rfl (lv_at hl 0 rfl) ?_
            refine lv_bipush (v := 62) hx hb d_M_isPlain_31 (by decide) ?_
            refine lv_icmp_eq (tgt := 47) hx hb d_M_isPlain_33 (by decide) (fun hc => ?_) (fun hc => ?_)
            · replace hj2 := it_u hc hj2
              refine lv_iconst (v := 0) hx hb d_M_isPlain_47 (by decide) ?_
              cases hj2
              exact Khj2 _ _ _ I (lv_sub hl [] rfl)
            · replace hj2 := ie_u hc hj2
              refine lv_iload_n hx hb d_M_isPlain_36 rfl (lv_at hl 0 rfl) ?_
              refine lv_sipush (v := 256) hx hb d_M_isPlain_37 (by decide) ?_
              refine lv_icmp_eq (tgt := 47) hx hb d_M_isPlain_40 (by decide) (fun hc => ?_) (fun hc => ?_)
              · replace hj2 := it_u hc hj2
                refine lv_iconst (v := 0) hx hb d_M_isPlain_47 (by decide) ?_
                cases hj2
                exact Khj2 _ _ _ I (lv_sub hl [] rfl)
              · replace hj2 := ie_u hc hj2
                refine lv_iconst (v := 1) hx hb d_M_isPlain_43 (by decide) ?_
                refine lv_goto (tgt := 48) hx hb d_M_isPlain_44 (by decide) ?_
                cases hj2
                exact Khj2 _ _ _ I (lv_sub hl [] rfl)
def rm_M_isPlainName : Room := { frames := 3, cells := 0, slots := 0, locals := 64 }
noncomputable def f_M_isPlainName_L16 (x1 : Int32) : Nat → St → Int32 → Int32 → Option (St × Int32)
  | 0, _, _, _ => none
  | n + 1, u, x2, x3 => cI (f_M_textSize u x1) fun r7 u5 => if r7 ≤ x3 then (some (u5, x2)) else (cI (f_M_letter u5 x1 x3) fun r10 u8 => cI (f_M_isPlain u8 r10) fun r13 u11 => f_M_isPlainName_L16 x1 n u11 (x2 &&& r13) (x3 + 1))
noncomputable def f_M_isPlainName (u : St) (x1 : Int32) : Option (Int32 × St) := cI (f_M_textSize u x1) fun r3 u1 => bnd (if r3 ≤ 0 then (0) else (1)) fun (z4 : Int32) => cT (f_M_isPlainName_L16 x1 FU u1 z4 0) fun (p17 : St × Int32) => gb p17.2 (some (p17.2, p17.1))
set_option maxHeartbeats 4000000 in
set_option maxRecDepth 100000 in
theorem w_M_isPlainName_L16 {Z : zT} {D : va_G} {cs : Nat → ClassId} {a : Nat → Nat} {p : Program} {l : Launch} {e : Env} {s : State} {m : MethodId} {args : Array Value} {below : List Frame} {meth : Method} {c : Code} {Q : State → Prop}  {u2 : St} {o2 : Int32} {x1 : Int32} (C : Cx clA R_M prog_9_method_20_code 4 D cs (mW a cs) Z p s m args c) (hE : ∀ (H : Heap) (locs : List Loc) (ls : Array Slot), Dy clA D (mW a cs) s H locs u2 → lv_has ls 4 [(2, .int o2)] → W p l e rm_M_isPlainName s m args below meth c H locs 0 0 Q (F0 m 43 ls [])) : ∀ (n : Nat) (u : St) (x2 : Int32) (x3 : Int32) (H : Heap) (locs : List Loc) (ls : Array Slot), f_M_isPlainName_L16 x1 n u x2 x3 = some (u2, o2) → Dy clA D (mW a cs) s H locs u → lv_has ls 4 [(0, .ref (a 0)), (1, .int x1), (2, .int x2), (3, .int x3)] → W p l e rm_M_isPlainName s m args below meth c H locs 0 0 Q (F0 m 16 ls []) := by
  have hx := C.1.1
  have hb := C.1.2.1
  intro n
  induction n with
  | zero =>
    intro u x2 x3 H locs ls hk I hl
    rw [f_M_isPlainName_L16] at hk
    cases hk
  | succ n ih =>
    intro u x2 x3 H locs ls hk I hl
    rw [f_M_isPlainName_L16] at hk
    refine lv_iload_n hx hb d_M_isPlainName_16 rfl (lv_at hl 3 rfl) ?_
    refine lv_aload_n hx hb d_M_isPlainName_17 rfl (lv_at hl 0 rfl) ?_
    refine lv_iload_n hx hb d_M_isPlainName_18 rfl (lv_at hl 1 rfl) ?_
    obtain ⟨r7, u5, h6, hk⟩ := cI_u hk
    refine go_I I (call_runV (rest := [.int x3]) C I (c_M_textSize C.2.2.2.1 C.2.2.2.2.1 l h6 _) wd_M_textSize (q0 := 0) (ci := 7) rfl rfl k_871 ⟨rfl, rfl⟩ ⟨by decide, by decide⟩ rfl hl.1 rfl (Nat.le_of_ble_eq_true rfl) d_M_isPlainName_19) (fun H locs I => ?_)
    refine lv_icmp_ge (tgt := 43) hx hb d_M_isPlainName_22 (by decide) (fun hc => ?_) (fun hc => ?_)
    · replace hk := it_u hc hk
      cases hk
      exact hE _ _ _ I (lv_sub hl [2] rfl)
    · replace hk := ie_u hc hk
      refine lv_iload_n hx hb d_M_isPlainName_25 rfl (lv_at hl 2 rfl) ?_
      refine lv_aload_n hx hb d_M_isPlainName_26 rfl (lv_at hl 0 rfl) ?_
      refine lv_iload_n hx hb d_M_isPlainName_27 rfl (lv_at hl 1 rfl) ?_
      refine lv_iload_n hx hb d_M_isPlainName_28 rfl (lv_at hl 3 rfl) ?_
      obtain ⟨r10, u8, h9, hk⟩ := cI_u hk
      refine go_I I (call_runV (rest := [.int x2]) C I (c_M_letter C.2.2.2.1 C.2.2.2.2.1 l h9 _) wd_M_letter (q0 := 0) (ci := 7) rfl rfl k_867 ⟨rfl, rfl⟩ ⟨by decide, by decide⟩ rfl hl.1 rfl (Nat.le_of_ble_eq_true rfl) d_M_isPlainName_29) (fun H locs I => ?_)
      obtain ⟨r13, u11, h12, hk⟩ := cI_u hk
      refine go_I I (call_runS (rest := [.int x2]) C I (c_M_isPlain C.2.2.2.1 C.2.2.2.2.1 l h12 _) wd_M_isPlain k_891 ⟨rfl, rfl⟩ ⟨by decide, by decide⟩ rfl hl.1 rfl (Nat.le_of_ble_eq_true rfl) d_M_isPlainName_32) (fun H locs I => ?_)
      refine lv_iand hx hb d_M_isPlainName_35 ?_
      refine lv_istore_n (lv' := [(2, .int (x2 &&& r13)), (0, .ref (a 0)), (1, .int x1), (3, .int x3)]) hx hb d_M_isPlainName_36 rfl hl (by decide) rfl (fun ls hl => ?_)
      refine lv_iinc (v := (x3 + 1)) (lv' := [(3, .int (x3 + 1)), (2, .int (x2 &&& r13)), (0, .ref (a 0)), (1, .int x1)]) hx hb d_M_isPlainName_37 hl (k := 3) rfl rfl (by decide) rfl (fun ls hl => ?_)
      refine lv_goto (tgt := 16) hx hb d_M_isPlainName_40 (by decide) ?_
      exact ih u11 (x2 &&& r13) (x3 + 1) _ _ _ hk I (lv_sub hl [2, 3, 1, 0] rfl)
set_option maxHeartbeats 4000000 in
set_option maxRecDepth 100000 in
theorem c_M_isPlainName {Z : zT} {D : va_G} {cs : Nat → ClassId} {a : Nat → Nat} (hw : wD (mW a cs)) (hz : zOK Z) (l : Launch) {u : St} {x1 : Int32} {r : Int32} {u' : St} (hk : f_M_isPlainName u x1 = some (r, u')) : KI clA D cs (mW a cs) Z l y_M_isPlainName (.code y_M_isPlainName prog_9_method_20_code 4 (Option.some Jvm.ClassFile.FieldType.boolean)) rm_M_isPlainName [.ref (a 0), .int x1] u r u' := by
  unfold f_M_isPlainName at hk
  refine KZ.of (by decide) (Nat.le_of_ble_eq_true rfl) hw hz ?_
  intro p e s m args below meth c Q C I hQ ls hl
  have hl : lv_has ls 4 [(0, .ref (a 0)), (1, .int x1)] := hl
  have hx := C.1.1
  have hb := C.1.2.1
  refine lv_aload_n hx hb d_M_isPlainName_0 rfl (lv_at hl 0 rfl) ?_
  refine lv_iload_n hx hb d_M_isPlainName_1 rfl (lv_at hl 1 rfl) ?_
  obtain ⟨r3, u1, h2, hk⟩ := cI_u hk
  refine go_I I (call_runV (rest := []) C I (c_M_textSize C.2.2.2.1 C.2.2.2.2.1 l h2 _) wd_M_textSize (q0 := 0) (ci := 7) rfl rfl k_871 ⟨rfl, rfl⟩ ⟨by decide, by decide⟩ rfl hl.1 rfl (Nat.le_of_ble_eq_true rfl) d_M_isPlainName_2) (fun H locs I => ?_)
  obtain ⟨z4, hj18, hk⟩ := bnd_u hk
  have Khj18 : ∀ (H : Heap) (locs : List Loc) (ls : Array Slot), Dy clA D (mW a cs) s H locs u1 → lv_has ls 4 [(0, .ref (a 0)), (1, .int x1)] → W p l e rm_M_isPlainName s m args below meth c H locs 0 0 Q (F0 m 13 ls [.int z4]) := by
    intro H locs ls I hl
    refine lv_istore_n (lv' := [(2, .int z4), (0, .ref (a 0)), (1, .int x1)]) hx hb d_M_isPlainName_13 rfl hl (by decide) rfl (fun ls hl => ?_)
    refine lv_iconst (v := 0) hx hb d_M_isPlainName_14 (by decide) ?_
    refine lv_istore_n (lv' := [(3, .int 0), (2, .int z4), (0, .ref (a 0)), (1, .int x1)]) hx hb d_M_isPlainName_15 rfl hl (by decide) rfl (fun ls hl => ?_)
    obtain ⟨⟨u14, z15⟩, hj16, hk⟩ := cT_u hk
    refine w_M_isPlainName_L16 C (fun H locs ls I hl => ?_) FU u1 z4 0 _ _ _ hj16 I (lv_sub hl [2, 3, 1, 0] rfl)
    refine lv_iload_n hx hb d_M_isPlainName_43 rfl (lv_at hl 0 rfl) ?_
    exact hQ _ _ _ _ _ _ I hk d_M_isPlainName_44
  refine lv_if_le (tgt := 12) hx hb d_M_isPlainName_5 (by decide) (fun hc => ?_) (fun hc => ?_)
  · replace hj18 := it_u hc hj18
    refine lv_iconst (v := 0) hx hb d_M_isPlainName_12 (by decide) ?_
    cases hj18
    exact Khj18 _ _ _ I (lv_sub hl [0, 1] rfl)
  · replace hj18 := ie_u hc hj18
    refine lv_iconst (v := 1) hx hb d_M_isPlainName_8 (by decide) ?_
    refine lv_goto (tgt := 13) hx hb d_M_isPlainName_9 (by decide) ?_
    cases hj18
    exact Khj18 _ _ _ I (lv_sub hl [0, 1] rfl)
def rm_M_classEnd : Room := { frames := 3, cells := 0, slots := 0, locals := 64 }
noncomputable def f_M_classEnd_L5 (x1 : Int32) (x4 : Int32) : Nat → St → Int32 → Option (St × Int32)
  | 0, _, _ => none
  | n + 1, u, x3 => cI (f_M_letter u x1 x3) fun r3 u1 => cI (f_M_isPlain u1 r3) fun r6 u4 => if r6 = 0 then (some (u4, x3)) else (f_M_classEnd_L5 x1 x4 n u4 (x3 + 1))
noncomputable def f_M_classEnd_L2 (x1 : Int32) : Nat → St → Int32 → Option (Int32 × St)
  | 0, _, _ => none
  | n + 1, u, x3 => cT (f_M_classEnd_L5 x1 x3 FU u x3) fun (p13 : St × Int32) => if p13.2 = x3 then (some ((-1), p13.1)) else (cI (f_M_letter p13.1 x1 p13.2) fun r11 u9 => if r11 = 47 then (f_M_classEnd_L2 x1 n u9 (p13.2 + 1)) else (some (p13.2, u9)))
noncomputable def f_M_classEnd (u : St) (x1 : Int32) (x2 : Int32) : Option (Int32 × St) := f_M_classEnd_L2 x1 FU u x2
set_option maxHeartbeats 4000000 in
set_option maxRecDepth 100000 in
theorem w_M_classEnd_L5 {Z : zT} {D : va_G} {cs : Nat → ClassId} {a : Nat → Nat} {p : Program} {l : Launch} {e : Env} {s : State} {m : MethodId} {args : Array Value} {below : List Frame} {meth : Method} {c : Code} {Q : State → Prop}  {u2 : St} {o3 : Int32} {x1 : Int32} {x4 : Int32} (C : Cx clA R_M prog_9_method_21_code 5 D cs (mW a cs) Z p s m args c) (hE : ∀ (H : Heap) (locs : List Loc) (ls : Array Slot), Dy clA D (mW a cs) s H locs u2 → lv_has ls 5 [(0, .ref (a 0)), (1, .int x1), (3, .int o3), (4, .int x4)] → W p l e rm_M_classEnd s m args below meth c H locs 0 0 Q (F0 m 23 ls [])) : ∀ (n : Nat) (u : St) (x3 : Int32) (H : Heap) (locs : List Loc) (ls : Array Slot), f_M_classEnd_L5 x1 x4 n u x3 = some (u2, o3) → Dy clA D (mW a cs) s H locs u → lv_has ls 5 [(0, .ref (a 0)), (1, .int x1), (3, .int x3), (4, .int x4)] → W p l e rm_M_classEnd s m args below meth c H locs 0 0 Q (F0 m 5 ls []) := by
  have hx := C.1.1
  have hb := C.1.2.1
  intro n
  induction n with
  | zero =>
    intro u x3 H locs ls hk I hl
    rw [f_M_classEnd_L5] at hk
    cases hk
  | succ n ih =>
    intro u x3 H locs ls hk I hl
    rw [f_M_classEnd_L5] at hk
    refine lv_aload_n hx hb d_M_classEnd_5 rfl (lv_at hl 0 rfl) ?_
    refine lv_iload_n hx hb d_M_classEnd_6 rfl (lv_at hl 1 rfl) ?_
    refine lv_iload_n hx hb d_M_classEnd_7 rfl (lv_at hl 2 rfl) ?_
    obtain ⟨r3, u1, h2, hk⟩ := cI_u hk
    refine go_I I (call_runV (rest := []) C I (c_M_letter C.2.2.2.1 C.2.2.2.2.1 l h2 _) wd_M_letter (q0 := 0) (ci := 7) rfl rfl k_867 ⟨rfl, rfl⟩ ⟨by decide, by decide⟩ rfl hl.1 rfl (Nat.le_of_ble_eq_true rfl) d_M_classEnd_8) (fun H locs I => ?_)
    obtain ⟨r6, u4, h5, hk⟩ := cI_u hk
    refine go_I I (call_runS (rest := []) C I (c_M_isPlain C.2.2.2.1 C.2.2.2.2.1 l h5 _) wd_M_isPlain k_891 ⟨rfl, rfl⟩ ⟨by decide, by decide⟩ rfl hl.1 rfl (Nat.le_of_ble_eq_true rfl) d_M_classEnd_11) (fun H locs I => ?_)
    refine lv_if_eq (tgt := 23) hx hb d_M_classEnd_14 (by decide) (fun hc => ?_) (fun hc => ?_)
    · replace hk := it_u hc hk
      cases hk
      exact hE _ _ _ I (lv_sub hl [0, 1, 2, 3] rfl)
    · replace hk := ie_u hc hk
      refine lv_iinc (v := (x3 + 1)) (lv' := [(3, .int (x3 + 1)), (0, .ref (a 0)), (1, .int x1), (4, .int x4)]) hx hb d_M_classEnd_17 hl (k := 2) rfl rfl (by decide) rfl (fun ls hl => ?_)
      refine lv_goto (tgt := 5) hx hb d_M_classEnd_20 (by decide) ?_
      exact ih u4 (x3 + 1) _ _ _ hk I (lv_sub hl [1, 2, 0, 3] rfl)
set_option maxHeartbeats 4000000 in
set_option maxRecDepth 100000 in
theorem w_M_classEnd_L2 {Z : zT} {D : va_G} {cs : Nat → ClassId} {a : Nat → Nat} {p : Program} {l : Launch} {e : Env} {s : State} {m : MethodId} {args : Array Value} {below : List Frame} {meth : Method} {c : Code} {Q : State → Prop} {F : Int32 × St} {x1 : Int32} (C : Cx clA R_M prog_9_method_21_code 5 D cs (mW a cs) Z p s m args c)  (hQ : ∀ (H : Heap) (locs : List Loc) (pc : Nat) (ls : Array Slot) (v : Int32) (u1 : St), Dy clA D (mW a cs) s H locs u1 → some (v, u1) = some F → decode prog_9_method_21_code pc = .ok (.ireturn, 1) → W p l e rm_M_classEnd s m args below meth c H locs 0 0 Q (F0 m pc ls [.int v])): ∀ (n : Nat) (u : St) (x3 : Int32) (H : Heap) (locs : List Loc) (ls : Array Slot), f_M_classEnd_L2 x1 n u x3 = some F → Dy clA D (mW a cs) s H locs u → lv_has ls 5 [(0, .ref (a 0)), (1, .int x1), (3, .int x3)] → W p l e rm_M_classEnd s m args below meth c H locs 0 0 Q (F0 m 2 ls []) := by
  have hx := C.1.1
  have hb := C.1.2.1
  intro n
  induction n with
  | zero =>
    intro u x3 H locs ls hk I hl
    rw [f_M_classEnd_L2] at hk
    cases hk
  | succ n ih =>
    intro u x3 H locs ls hk I hl
    rw [f_M_classEnd_L2] at hk
    refine lv_iload_n hx hb d_M_classEnd_2 rfl (lv_at hl 2 rfl) ?_
    refine lv_istore (lv' := [(4, .int x3), (0, .ref (a 0)), (1, .int x1), (3, .int x3)]) hx hb d_M_classEnd_3 hl (by decide) rfl (fun ls hl => ?_)
    obtain ⟨⟨u7, z8⟩, hj12, hk⟩ := cT_u hk
    refine w_M_classEnd_L5 C (fun H locs ls I hl => ?_) FU u x3 _ _ _ hj12 I (lv_sub hl [1, 2, 3, 0] rfl)
    refine lv_iload_n hx hb d_M_classEnd_23 rfl (lv_at hl 2 rfl) ?_
    refine lv_iload hx hb d_M_classEnd_24 (lv_at hl 3 rfl) ?_
    refine lv_icmp_ne (tgt := 31) hx hb d_M_classEnd_26 (by decide) (fun hc => ?_) (fun hc => ?_)
    · replace hk := ie_u hc hk
      refine lv_aload_n hx hb d_M_classEnd_31 rfl (lv_at hl 0 rfl) ?_
      refine lv_iload_n hx hb d_M_classEnd_32 rfl (lv_at hl 1 rfl) ?_
      refine lv_iload_n hx hb d_M_classEnd_33 rfl (lv_at hl 2 rfl) ?_
      obtain ⟨r11, u9, h10, hk⟩ := cI_u hk
      refine go_I I (call_runV (rest := []) C I (c_M_letter C.2.2.2.1 C.2.2.2.2.1 l h10 _) wd_M_letter (q0 := 0) (ci := 7) rfl rfl k_867 ⟨rfl, rfl⟩ ⟨by decide, by decide⟩ rfl hl.1 rfl (Nat.le_of_ble_eq_true rfl) d_M_classEnd_34) (fun H locs I => ?_)
      refine lv_bipush (v := 47) hx hb d_M_classEnd_37 (by decide) ?_
      refine lv_icmp_eq (tgt := 44) hx hb d_M_classEnd_39 (by decide) (fun hc => ?_) (fun hc => ?_)
      · replace hk := it_u hc hk
        refine lv_iinc (v := (z8 + 1)) (lv' := [(3, .int (z8 + 1)), (0, .ref (a 0)), (1, .int x1), (4, .int x3)]) hx hb d_M_classEnd_44 hl (k := 2) rfl rfl (by decide) rfl (fun ls hl => ?_)
        refine lv_goto (tgt := 2) hx hb d_M_classEnd_47 (by decide) ?_
        exact ih u9 (z8 + 1) _ _ _ hk I (lv_sub hl [1, 2, 0] rfl)
      · replace hk := ie_u hc hk
        refine lv_iload_n hx hb d_M_classEnd_42 rfl (lv_at hl 2 rfl) ?_
        exact hQ _ _ _ _ _ _ I hk d_M_classEnd_43
    · replace hk := it_u hc hk
      refine lv_iconst (v := (-1)) hx hb d_M_classEnd_29 (by decide) ?_
      exact hQ _ _ _ _ _ _ I hk d_M_classEnd_30
set_option maxHeartbeats 4000000 in
set_option maxRecDepth 100000 in
theorem c_M_classEnd {Z : zT} {D : va_G} {cs : Nat → ClassId} {a : Nat → Nat} (hw : wD (mW a cs)) (hz : zOK Z) (l : Launch) {u : St} {x1 : Int32} {x2 : Int32} {r : Int32} {u' : St} (hk : f_M_classEnd u x1 x2 = some (r, u')) : KI clA D cs (mW a cs) Z l y_M_classEnd (.code y_M_classEnd prog_9_method_21_code 5 (Option.some Jvm.ClassFile.FieldType.int)) rm_M_classEnd [.ref (a 0), .int x1, .int x2] u r u' := by
  unfold f_M_classEnd at hk
  refine KI.of (by decide) (Nat.le_of_ble_eq_true rfl) rfl hw hz ?_
  intro p e s m args below meth c Q C I hQ ls hl
  have hl : lv_has ls 5 [(0, .ref (a 0)), (1, .int x1), (2, .int x2)] := hl
  have hx := C.1.1
  have hb := C.1.2.1
  refine lv_iload_n hx hb d_M_classEnd_0 rfl (lv_at hl 2 rfl) ?_
  refine lv_istore_n (lv' := [(3, .int x2), (0, .ref (a 0)), (1, .int x1), (2, .int x2)]) hx hb d_M_classEnd_1 rfl hl (by decide) rfl (fun ls hl => ?_)
  refine w_M_classEnd_L2 C hQ FU u x2 _ _ _ hk I (lv_sub hl [1, 2, 0] rfl)
def rm_M_isClassName : Room := { frames := 4, cells := 0, slots := 0, locals := 88 }
noncomputable def f_M_isClassName (u : St) (x1 : Int32) : Option (Int32 × St) := cI (f_M_classEnd u x1 0) fun r3 u1 => cI (f_M_textSize u1 x1) fun r6 u4 => bnd (if r3 = r6 then (1) else (0)) fun (z7 : Int32) => gb z7 (some (z7, u4))
set_option maxHeartbeats 4000000 in
set_option maxRecDepth 100000 in
theorem c_M_isClassName {Z : zT} {D : va_G} {cs : Nat → ClassId} {a : Nat → Nat} (hw : wD (mW a cs)) (hz : zOK Z) (l : Launch) {u : St} {x1 : Int32} {r : Int32} {u' : St} (hk : f_M_isClassName u x1 = some (r, u')) : KI clA D cs (mW a cs) Z l y_M_isClassName (.code y_M_isClassName prog_9_method_22_code 2 (Option.some Jvm.ClassFile.FieldType.boolean)) rm_M_isClassName [.ref (a 0), .int x1] u r u' := by
  unfold f_M_isClassName at hk
  refine KZ.of (by decide) (Nat.le_of_ble_eq_true rfl) hw hz ?_
  intro p e s m args below meth c Q C I hQ ls hl
  have hl : lv_has ls 2 [(0, .ref (a 0)), (1, .int x1)] := hl
  have hx := C.1.1
  have hb := C.1.2.1
  refine lv_aload_n hx hb d_M_isClassName_0 rfl (lv_at hl 0 rfl) ?_
  refine lv_iload_n hx hb d_M_isClassName_1 rfl (lv_at hl 1 rfl) ?_
  refine lv_iconst (v := 0) hx hb d_M_isClassName_2 (by decide) ?_
  obtain ⟨r3, u1, h2, hk⟩ := cI_u hk
  refine go_I I (call_runV (rest := []) C I (c_M_classEnd C.2.2.2.1 C.2.2.2.2.1 l h2 _) wd_M_classEnd (q0 := 0) (ci := 7) rfl rfl k_887 ⟨rfl, rfl⟩ ⟨by decide, by decide⟩ rfl hl.1 rfl (Nat.le_of_ble_eq_true rfl) d_M_isClassName_3) (fun H locs I => ?_)
  refine lv_aload_n hx hb d_M_isClassName_6 rfl (lv_at hl 0 rfl) ?_
  refine lv_iload_n hx hb d_M_isClassName_7 rfl (lv_at hl 1 rfl) ?_
  obtain ⟨r6, u4, h5, hk⟩ := cI_u hk
  refine go_I I (call_runV (rest := [.int r3]) C I (c_M_textSize C.2.2.2.1 C.2.2.2.2.1 l h5 _) wd_M_textSize (q0 := 0) (ci := 7) rfl rfl k_871 ⟨rfl, rfl⟩ ⟨by decide, by decide⟩ rfl hl.1 rfl (Nat.le_of_ble_eq_true rfl) d_M_isClassName_8) (fun H locs I => ?_)
  obtain ⟨z7, hj8, hk⟩ := bnd_u hk
  have Khj8 : ∀ (H : Heap) (locs : List Loc) (ls : Array Slot), Dy clA D (mW a cs) s H locs u4 → lv_has ls 2 [] → W p l e rm_M_isClassName s m args below meth c H locs 0 0 Q (F0 m 19 ls [.int z7]) := by
    intro H locs ls I hl
    exact hQ _ _ _ _ _ _ I hk d_M_isClassName_19
  refine lv_icmp_ne (tgt := 18) hx hb d_M_isClassName_11 (by decide) (fun hc => ?_) (fun hc => ?_)
  · replace hj8 := ie_u hc hj8
    refine lv_iconst (v := 0) hx hb d_M_isClassName_18 (by decide) ?_
    cases hj8
    exact Khj8 _ _ _ I (lv_sub hl [] rfl)
  · replace hj8 := it_u hc hj8
    refine lv_iconst (v := 1) hx hb d_M_isClassName_14 (by decide) ?_
    refine lv_goto (tgt := 19) hx hb d_M_isClassName_15 (by decide) ?_
    cases hj8
    exact Khj8 _ _ _ I (lv_sub hl [] rfl)
def rm_M_typeEnd : Room := { frames := 4, cells := 0, slots := 0, locals := 88 }
noncomputable def f_M_typeEnd_L2 (x1 : Int32) (x2 : Int32) : Nat → St → Int32 → Option (St × Int32)
  | 0, _, _ => none
  | n + 1, u, x3 => cI (f_M_letter u x1 x3) fun r3 u1 => if r3 = 91 then (f_M_typeEnd_L2 x1 x2 n u1 (x3 + 1)) else (some (u1, x3))
noncomputable def f_M_typeEnd (u : St) (x1 : Int32) (x2 : Int32) : Option (Int32 × St) := cT (f_M_typeEnd_L2 x1 x2 FU u x2) fun (p24 : St × Int32) => if (p24.2 - x2) ≤ 8 then (cI (f_M_letter p24.1 x1 p24.2) fun r8 u6 => cT (if r8 = 70 then (gb 1 (bnd (sv u6 18 1) fun u21 => some (u21))) else (if r8 = 68 then (gb 1 (bnd (sv u6 18 1) fun u22 => some (u22))) else (some (u6)))) fun (u9 : St) => if r8 = 66 then (some ((p24.2 + 1), u9)) else (if r8 = 67 then (some ((p24.2 + 1), u9)) else (if r8 = 73 then (some ((p24.2 + 1), u9)) else (if r8 = 74 then (some ((p24.2 + 1), u9)) else (if r8 = 83 then (some ((p24.2 + 1), u9)) else (if r8 = 90 then (some ((p24.2 + 1), u9)) else (if r8 = 70 then (some ((p24.2 + 1), u9)) else (if r8 = 68 then (some ((p24.2 + 1), u9)) else (if r8 = 76 then (cI (f_M_classEnd u9 x1 (p24.2 + 1)) fun r12 u10 => cT (if r12 = (-1) then (some ((-1), u10)) else (cI (f_M_letter u10 x1 r12) fun r18 u16 => if r18 = 59 then (some ((r12 + 1), u16)) else (some ((-1), u16)))) fun (p19 : Int32 × St) => some (p19.1, p19.2)) else (some ((-1), u9))))))))))) else (some ((-1), p24.1))
set_option maxHeartbeats 4000000 in
set_option maxRecDepth 100000 in
theorem w_M_typeEnd_L2 {Z : zT} {D : va_G} {cs : Nat → ClassId} {a : Nat → Nat} {p : Program} {l : Launch} {e : Env} {s : State} {m : MethodId} {args : Array Value} {below : List Frame} {meth : Method} {c : Code} {Q : State → Prop}  {u2 : St} {o3 : Int32} {x1 : Int32} {x2 : Int32} (C : Cx clA R_M prog_9_method_23_code 6 D cs (mW a cs) Z p s m args c) (hE : ∀ (H : Heap) (locs : List Loc) (ls : Array Slot), Dy clA D (mW a cs) s H locs u2 → lv_has ls 6 [(0, .ref (a 0)), (1, .int x1), (2, .int x2), (3, .int o3)] → W p l e rm_M_typeEnd s m args below meth c H locs 0 0 Q (F0 m 19 ls [])) : ∀ (n : Nat) (u : St) (x3 : Int32) (H : Heap) (locs : List Loc) (ls : Array Slot), f_M_typeEnd_L2 x1 x2 n u x3 = some (u2, o3) → Dy clA D (mW a cs) s H locs u → lv_has ls 6 [(0, .ref (a 0)), (1, .int x1), (2, .int x2), (3, .int x3)] → W p l e rm_M_typeEnd s m args below meth c H locs 0 0 Q (F0 m 2 ls []) := by
  have hx := C.1.1
  have hb := C.1.2.1
  intro n
  induction n with
  | zero =>
    intro u x3 H locs ls hk I hl
    rw [f_M_typeEnd_L2] at hk
    cases hk
  | succ n ih =>
    intro u x3 H locs ls hk I hl
    rw [f_M_typeEnd_L2] at hk
    refine lv_aload_n hx hb d_M_typeEnd_2 rfl (lv_at hl 0 rfl) ?_
    refine lv_iload_n hx hb d_M_typeEnd_3 rfl (lv_at hl 1 rfl) ?_
    refine lv_iload_n hx hb d_M_typeEnd_4 rfl (lv_at hl 3 rfl) ?_
    obtain ⟨r3, u1, h2, hk⟩ := cI_u hk
    refine go_I I (call_runV (rest := []) C I (c_M_letter C.2.2.2.1 C.2.2.2.2.1 l h2 _) wd_M_letter (q0 := 0) (ci := 7) rfl rfl k_867 ⟨rfl, rfl⟩ ⟨by decide, by decide⟩ rfl hl.1 rfl (Nat.le_of_ble_eq_true rfl) d_M_typeEnd_5) (fun H locs I => ?_)
    refine lv_bipush (v := 91) hx hb d_M_typeEnd_8 (by decide) ?_
    refine lv_icmp_ne (tgt := 19) hx hb d_M_typeEnd_10 (by decide) (fun hc => ?_) (fun hc => ?_)
    · replace hk := ie_u hc hk
      cases hk
      exact hE _ _ _ I (lv_sub hl [0, 1, 2, 3] rfl)
    · replace hk := it_u hc hk
      refine lv_iinc (v := (x3 + 1)) (lv' := [(3, .int (x3 + 1)), (0, .ref (a 0)), (1, .int x1), (2, .int x2)]) hx hb d_M_typeEnd_13 hl (k := 3) rfl rfl (by decide) rfl (fun ls hl => ?_)
      refine lv_goto (tgt := 2) hx hb d_M_typeEnd_16 (by decide) ?_
      exact ih u1 (x3 + 1) _ _ _ hk I (lv_sub hl [1, 2, 3, 0] rfl)
set_option maxHeartbeats 4000000 in
set_option maxRecDepth 100000 in
theorem c_M_typeEnd {Z : zT} {D : va_G} {cs : Nat → ClassId} {a : Nat → Nat} (hw : wD (mW a cs)) (hz : zOK Z) (l : Launch) {u : St} {x1 : Int32} {x2 : Int32} {r : Int32} {u' : St} (hk : f_M_typeEnd u x1 x2 = some (r, u')) : KI clA D cs (mW a cs) Z l y_M_typeEnd (.code y_M_typeEnd prog_9_method_23_code 6 (Option.some Jvm.ClassFile.FieldType.int)) rm_M_typeEnd [.ref (a 0), .int x1, .int x2] u r u' := by
  unfold f_M_typeEnd at hk
  refine KI.of (by decide) (Nat.le_of_ble_eq_true rfl) rfl hw hz ?_
  intro p e s m args below meth c Q C I hQ ls hl
  have hl : lv_has ls 6 [(0, .ref (a 0)), (1, .int x1), (2, .int x2)] := hl
  have hx := C.1.1
  have hb := C.1.2.1
  refine lv_iload_n hx hb d_M_typeEnd_0 rfl (lv_at hl 2 rfl) ?_
  refine lv_istore_n (lv' := [(3, .int x2), (0, .ref (a 0)), (1, .int x1), (2, .int x2)]) hx hb d_M_typeEnd_1 rfl hl (by decide) rfl (fun ls hl => ?_)
  obtain ⟨⟨u4, z5⟩, hj23, hk⟩ := cT_u hk
  refine w_M_typeEnd_L2 C (fun H locs ls I hl => ?_) FU u x2 _ _ _ hj23 I (lv_sub hl [1, 2, 3, 0] rfl)
  refine lv_iload_n hx hb d_M_typeEnd_19 rfl (lv_at hl 3 rfl) ?_
  refine lv_iload_n hx hb d_M_typeEnd_20 rfl (lv_at hl 2 rfl) ?_
  refine lv_isub hx hb d_M_typeEnd_21 ?_
  refine lv_bipush (v := 8) hx hb d_M_typeEnd_22 (by decide) ?_
  refine lv_icmp_le (tgt := 29) hx hb d_M_typeEnd_24 (by decide) (fun hc => ?_) (fun hc => ?_)
  · replace hk := it_u hc hk
    refine lv_aload_n hx hb d_M_typeEnd_29 rfl (lv_at hl 0 rfl) ?_
    refine lv_iload_n hx hb d_M_typeEnd_30 rfl (lv_at hl 1 rfl) ?_
    refine lv_iload_n hx hb d_M_typeEnd_31 rfl (lv_at hl 3 rfl) ?_
    obtain ⟨r8, u6, h7, hk⟩ := cI_u hk
    refine go_I I (call_runV (rest := []) C I (c_M_letter C.2.2.2.1 C.2.2.2.2.1 l h7 _) wd_M_letter (q0 := 0) (ci := 7) rfl rfl k_867 ⟨rfl, rfl⟩ ⟨by decide, by decide⟩ rfl hl.1 rfl (Nat.le_of_ble_eq_true rfl) d_M_typeEnd_32) (fun H locs I => ?_)
    refine lv_istore (lv' := [(4, .int r8), (0, .ref (a 0)), (1, .int x1), (2, .int x2), (3, .int z5)]) hx hb d_M_typeEnd_35 hl (by decide) rfl (fun ls hl => ?_)
    refine lv_iload hx hb d_M_typeEnd_37 (lv_at hl 0 rfl) ?_
    refine lv_bipush (v := 70) hx hb d_M_typeEnd_39 (by decide) ?_
    obtain ⟨u9, hj20, hk⟩ := cT_u hk
    have Khj20 : ∀ (H : Heap) (locs : List Loc) (ls : Array Slot), Dy clA D (mW a cs) s H locs u9 → lv_has ls 6 [(0, .ref (a 0)), (1, .int x1), (3, .int z5), (4, .int r8)] → W p l e rm_M_typeEnd s m args below meth c H locs 0 0 Q (F0 m 56 ls []) := by
      intro H locs ls I hl
      refine lv_iload hx hb d_M_typeEnd_56 (lv_at hl 3 rfl) ?_
      refine lv_bipush (v := 66) hx hb d_M_typeEnd_58 (by decide) ?_
      refine lv_icmp_eq (tgt := 112) hx hb d_M_typeEnd_60 (by decide) (fun hc => ?_) (fun hc => ?_)
      · replace hk := it_u hc hk
        refine lv_iload_n hx hb d_M_typeEnd_112 rfl (lv_at hl 2 rfl) ?_
        refine lv_iconst (v := 1) hx hb d_M_typeEnd_113 (by decide) ?_
        refine lv_iadd hx hb d_M_typeEnd_114 ?_
        exact hQ _ _ _ _ _ _ I hk d_M_typeEnd_115
      · replace hk := ie_u hc hk
        refine lv_iload hx hb d_M_typeEnd_63 (lv_at hl 3 rfl) ?_
        refine lv_bipush (v := 67) hx hb d_M_typeEnd_65 (by decide) ?_
        refine lv_icmp_eq (tgt := 112) hx hb d_M_typeEnd_67 (by decide) (fun hc => ?_) (fun hc => ?_)
        · replace hk := it_u hc hk
          refine lv_iload_n hx hb d_M_typeEnd_112 rfl (lv_at hl 2 rfl) ?_
          refine lv_iconst (v := 1) hx hb d_M_typeEnd_113 (by decide) ?_
          refine lv_iadd hx hb d_M_typeEnd_114 ?_
          exact hQ _ _ _ _ _ _ I hk d_M_typeEnd_115
        · replace hk := ie_u hc hk
          refine lv_iload hx hb d_M_typeEnd_70 (lv_at hl 3 rfl) ?_
          refine lv_bipush (v := 73) hx hb d_M_typeEnd_72 (by decide) ?_
          refine lv_icmp_eq (tgt := 112) hx hb d_M_typeEnd_74 (by decide) (fun hc => ?_) (fun hc => ?_)
          · replace hk := it_u hc hk
            refine lv_iload_n hx hb d_M_typeEnd_112 rfl (lv_at hl 2 rfl) ?_
            refine lv_iconst (v := 1) hx hb d_M_typeEnd_113 (by decide) ?_
            refine lv_iadd hx hb d_M_typeEnd_114 ?_
            exact hQ _ _ _ _ _ _ I hk d_M_typeEnd_115
          · replace hk := ie_u hc hk
            refine lv_iload hx hb d_M_typeEnd_77 (lv_at hl 3 rfl) ?_
            refine lv_bipush (v := 74) hx hb d_M_typeEnd_79 (by decide) ?_
            refine lv_icmp_eq (tgt := 112) hx hb d_M_typeEnd_81 (by decide) (fun hc => ?_) (fun hc => ?_)
            · replace hk := it_u hc hk
              refine lv_iload_n hx hb d_M_typeEnd_112 rfl (lv_at hl 2 rfl) ?_
              refine lv_iconst (v := 1) hx hb d_M_typeEnd_113 (by decide) ?_
              refine lv_iadd hx hb d_M_typeEnd_114 ?_
              exact hQ _ _ _ _ _ _ I hk d_M_typeEnd_115
            · replace hk := ie_u hc hk
              refine lv_iload hx hb d_M_typeEnd_84 (lv_at hl 3 rfl) ?_
              refine lv_bipush (v := 83) hx hb d_M_typeEnd_86 (by decide) ?_
              refine lv_icmp_eq (tgt := 112) hx hb d_M_typeEnd_88 (by decide) (fun hc => ?_) (fun hc => ?_)
              · replace hk := it_u hc hk
                refine lv_iload_n hx hb d_M_typeEnd_112 rfl (lv_at hl 2 rfl) ?_
                refine lv_iconst (v := 1) hx hb d_M_typeEnd_113 (by decide) ?_
                refine lv_iadd hx hb d_M_typeEnd_114 ?_
                exact hQ _ _ _ _ _ _ I hk d_M_typeEnd_115
              · replace hk := ie_u hc hk
                refine lv_iload hx hb d_M_typeEnd_91 (lv_at hl 3 rfl) ?_
                refine lv_bipush (v := 90) hx hb d_M_typeEnd_93 (by decide) ?_
                refine lv_icmp_eq (tgt := 112) hx hb d_M_typeEnd_95 (by decide) (fun hc => ?_) (fun hc => ?_)
                · replace hk := it_u hc hk
                  refine lv_iload_n hx hb d_M_typeEnd_112 rfl (lv_at hl 2 rfl) ?_
                  refine lv_iconst (v := 1) hx hb d_M_typeEnd_113 (by decide) ?_
                  refine lv_iadd hx hb d_M_typeEnd_114 ?_
                  exact hQ _ _ _ _ _ _ I hk d_M_typeEnd_115
                · replace hk := ie_u hc hk
                  refine lv_iload hx hb d_M_typeEnd_98 (lv_at hl 3 rfl) ?_
                  refine lv_bipush (v := 70) hx hb d_M_typeEnd_100 (by decide) ?_
                  refine lv_icmp_eq (tgt := 112) hx hb d_M_typeEnd_102 (by decide) (fun hc => ?_) (fun hc => ?_)
                  · replace hk := it_u hc hk
                    refine lv_iload_n hx hb d_M_typeEnd_112 rfl (lv_at hl 2 rfl) ?_
                    refine lv_iconst (v := 1) hx hb d_M_typeEnd_113 (by decide) ?_
                    refine lv_iadd hx hb d_M_typeEnd_114 ?_
                    exact hQ _ _ _ _ _ _ I hk d_M_typeEnd_115
                  · replace hk := ie_u hc hk
                    refine lv_iload hx hb d_M_typeEnd_105 (lv_at hl 3 rfl) ?_
                    refine lv_bipush (v := 68) hx hb d_M_typeEnd_107 (by decide) ?_
                    refine lv_icmp_ne (tgt := 116) hx hb d_M_typeEnd_109 (by decide) (fun hc => ?_) (fun hc => ?_)
                    · replace hk := ie_u hc hk
                      refine lv_iload hx hb d_M_typeEnd_116 (lv_at hl 3 rfl) ?_
                      refine lv_bipush (v := 76) hx hb d_M_typeEnd_118 (by decide) ?_
                      refine lv_icmp_eq (tgt := 125) hx hb d_M_typeEnd_120 (by decide) (fun hc => ?_) (fun hc => ?_)
                      · replace hk := it_u hc hk
                        refine lv_aload_n hx hb d_M_typeEnd_125 rfl (lv_at hl 0 rfl) ?_
                        refine lv_iload_n hx hb d_M_typeEnd_126 rfl (lv_at hl 1 rfl) ?_
                        refine lv_iload_n hx hb d_M_typeEnd_127 rfl (lv_at hl 2 rfl) ?_
                        refine lv_iconst (v := 1) hx hb d_M_typeEnd_128 (by decide) ?_
                        refine lv_iadd hx hb d_M_typeEnd_129 ?_
                        obtain ⟨r12, u10, h11, hk⟩ := cI_u hk
                        refine go_I I (call_runV (rest := []) C I (c_M_classEnd C.2.2.2.1 C.2.2.2.2.1 l h11 _) wd_M_classEnd (q0 := 0) (ci := 7) rfl rfl k_887 ⟨rfl, rfl⟩ ⟨by decide, by decide⟩ rfl hl.1 rfl (Nat.le_of_ble_eq_true rfl) d_M_typeEnd_130) (fun H locs I => ?_)
                        refine lv_istore (lv' := [(5, .int r12), (0, .ref (a 0)), (1, .int x1), (3, .int z5), (4, .int r8)]) hx hb d_M_typeEnd_133 hl (by decide) rfl (fun ls hl => ?_)
                        refine lv_iload hx hb d_M_typeEnd_135 (lv_at hl 0 rfl) ?_
                        refine lv_iconst (v := (-1)) hx hb d_M_typeEnd_137 (by decide) ?_
                        obtain ⟨⟨z13, u14⟩, hj15, hk⟩ := cT_u hk
                        have Khj15 : ∀ (H : Heap) (locs : List Loc) (ls : Array Slot), Dy clA D (mW a cs) s H locs u14 → lv_has ls 6 [] → W p l e rm_M_typeEnd s m args below meth c H locs 0 0 Q (F0 m 161 ls [.int z13]) := by
                          intro H locs ls I hl
                          exact hQ _ _ _ _ _ _ I hk d_M_typeEnd_161
                        refine lv_icmp_eq (tgt := 160) hx hb d_M_typeEnd_138 (by decide) (fun hc => ?_) (fun hc => ?_)
                        · replace hj15 := it_u hc hj15
                          refine lv_iconst (v := (-1)) hx hb d_M_typeEnd_160 (by decide) ?_
                          cases hj15
                          exact Khj15 _ _ _ I (lv_sub hl [] rfl)
                        · replace hj15 := ie_u hc hj15
                          refine lv_aload_n hx hb d_M_typeEnd_141 rfl (lv_at hl 1 rfl) ?_
                          refine lv_iload_n hx hb d_M_typeEnd_142 rfl (lv_at hl 2 rfl) ?_
                          refine lv_iload hx hb d_M_typeEnd_143 (lv_at hl 0 rfl) ?_
                          obtain ⟨r18, u16, h17, hj15⟩ := cI_u hj15
                          refine go_I I (call_runV (rest := []) C I (c_M_letter C.2.2.2.1 C.2.2.2.2.1 l h17 _) wd_M_letter (q0 := 0) (ci := 7) rfl rfl k_867 ⟨rfl, rfl⟩ ⟨by decide, by decide⟩ rfl hl.1 rfl (Nat.le_of_ble_eq_true rfl) d_M_typeEnd_145) (fun H locs I => ?_)
                          refine lv_bipush (v := 59) hx hb d_M_typeEnd_148 (by decide) ?_
                          refine lv_icmp_ne (tgt := 160) hx hb d_M_typeEnd_150 (by decide) (fun hc => ?_) (fun hc => ?_)
                          · replace hj15 := ie_u hc hj15
                            refine lv_iconst (v := (-1)) hx hb d_M_typeEnd_160 (by decide) ?_
                            cases hj15
                            exact Khj15 _ _ _ I (lv_sub hl [] rfl)
                          · replace hj15 := it_u hc hj15
                            refine lv_iload hx hb d_M_typeEnd_153 (lv_at hl 0 rfl) ?_
                            refine lv_iconst (v := 1) hx hb d_M_typeEnd_155 (by decide) ?_
                            refine lv_iadd hx hb d_M_typeEnd_156 ?_
                            refine lv_goto (tgt := 161) hx hb d_M_typeEnd_157 (by decide) ?_
                            cases hj15
                            exact Khj15 _ _ _ I (lv_sub hl [] rfl)
                      · replace hk := ie_u hc hk
                        refine lv_iconst (v := (-1)) hx hb d_M_typeEnd_123 (by decide) ?_
                        exact hQ _ _ _ _ _ _ I hk d_M_typeEnd_124
                    · replace hk := it_u hc hk
                      refine lv_iload_n hx hb d_M_typeEnd_112 rfl (lv_at hl 2 rfl) ?_
                      refine lv_iconst (v := 1) hx hb d_M_typeEnd_113 (by decide) ?_
                      refine lv_iadd hx hb d_M_typeEnd_114 ?_
                      exact hQ _ _ _ _ _ _ I hk d_M_typeEnd_115
    refine lv_icmp_eq (tgt := 51) hx hb d_M_typeEnd_41 (by decide) (fun hc => ?_) (fun hc => ?_)
    · replace hj20 := it_u hc hj20
      refine lv_aload_n hx hb d_M_typeEnd_51 rfl (lv_at hl 1 rfl) ?_
      refine lv_iconst (v := 1) hx hb d_M_typeEnd_52 (by decide) ?_
      obtain ⟨hz, hj20⟩ := gb_u hj20
      refine p_M_real C I k_723 hz d_M_typeEnd_53 (fun H locs I => ?_)
      obtain ⟨u21, hu, hj20⟩ := bnd_u hj20
      rw [hu] at I
      clear hu
      cases hj20
      exact Khj20 _ _ _ I (lv_sub hl [1, 2, 4, 0] rfl)
    · replace hj20 := ie_u hc hj20
      refine lv_iload hx hb d_M_typeEnd_44 (lv_at hl 0 rfl) ?_
      refine lv_bipush (v := 68) hx hb d_M_typeEnd_46 (by decide) ?_
      refine lv_icmp_ne (tgt := 56) hx hb d_M_typeEnd_48 (by decide) (fun hc => ?_) (fun hc => ?_)
      · replace hj20 := ie_u hc hj20
        cases hj20
        exact Khj20 _ _ _ I (lv_sub hl [1, 2, 4, 0] rfl)
      · replace hj20 := it_u hc hj20
        refine lv_aload_n hx hb d_M_typeEnd_51 rfl (lv_at hl 1 rfl) ?_
        refine lv_iconst (v := 1) hx hb d_M_typeEnd_52 (by decide) ?_
        obtain ⟨hz, hj20⟩ := gb_u hj20
        refine p_M_real C I k_723 hz d_M_typeEnd_53 (fun H locs I => ?_)
        obtain ⟨u22, hu, hj20⟩ := bnd_u hj20
        rw [hu] at I
        clear hu
        cases hj20
        exact Khj20 _ _ _ I (lv_sub hl [1, 2, 4, 0] rfl)
  · replace hk := ie_u hc hk
    refine lv_iconst (v := (-1)) hx hb d_M_typeEnd_27 (by decide) ?_
    exact hQ _ _ _ _ _ _ I hk d_M_typeEnd_28
def rm_M_isField : Room := { frames := 5, cells := 0, slots := 0, locals := 113 }
noncomputable def f_M_isField (u : St) (x1 : Int32) : Option (Int32 × St) := gb 0 (bnd (sv u 18 0) fun u1 => cI (f_M_typeEnd u1 x1 0) fun r4 u2 => cI (f_M_textSize u2 x1) fun r7 u5 => bnd (if r4 = r7 then (1) else (0)) fun (z8 : Int32) => gb z8 (some (z8, u5)))
set_option maxHeartbeats 4000000 in
set_option maxRecDepth 100000 in
theorem c_M_isField {Z : zT} {D : va_G} {cs : Nat → ClassId} {a : Nat → Nat} (hw : wD (mW a cs)) (hz : zOK Z) (l : Launch) {u : St} {x1 : Int32} {r : Int32} {u' : St} (hk : f_M_isField u x1 = some (r, u')) : KI clA D cs (mW a cs) Z l y_M_isField (.code y_M_isField prog_9_method_24_code 2 (Option.some Jvm.ClassFile.FieldType.boolean)) rm_M_isField [.ref (a 0), .int x1] u r u' := by
  unfold f_M_isField at hk
  refine KZ.of (by decide) (Nat.le_of_ble_eq_true rfl) hw hz ?_
  intro p e s m args below meth c Q C I hQ ls hl
  have hl : lv_has ls 2 [(0, .ref (a 0)), (1, .int x1)] := hl
  have hx := C.1.1
  have hb := C.1.2.1
  refine lv_aload_n hx hb d_M_isField_0 rfl (lv_at hl 0 rfl) ?_
  refine lv_iconst (v := 0) hx hb d_M_isField_1 (by decide) ?_
  obtain ⟨hz, hk⟩ := gb_u hk
  refine p_M_real C I k_723 hz d_M_isField_2 (fun H locs I => ?_)
  obtain ⟨u1, hu, hk⟩ := bnd_u hk
  rw [hu] at I
  clear hu
  refine lv_aload_n hx hb d_M_isField_5 rfl (lv_at hl 0 rfl) ?_
  refine lv_iload_n hx hb d_M_isField_6 rfl (lv_at hl 1 rfl) ?_
  refine lv_iconst (v := 0) hx hb d_M_isField_7 (by decide) ?_
  obtain ⟨r4, u2, h3, hk⟩ := cI_u hk
  refine go_I I (call_runV (rest := []) C I (c_M_typeEnd C.2.2.2.1 C.2.2.2.2.1 l h3 _) wd_M_typeEnd (q0 := 0) (ci := 7) rfl rfl k_883 ⟨rfl, rfl⟩ ⟨by decide, by decide⟩ rfl hl.1 rfl (Nat.le_of_ble_eq_true rfl) d_M_isField_8) (fun H locs I => ?_)
  refine lv_aload_n hx hb d_M_isField_11 rfl (lv_at hl 0 rfl) ?_
  refine lv_iload_n hx hb d_M_isField_12 rfl (lv_at hl 1 rfl) ?_
  obtain ⟨r7, u5, h6, hk⟩ := cI_u hk
  refine go_I I (call_runV (rest := [.int r4]) C I (c_M_textSize C.2.2.2.1 C.2.2.2.2.1 l h6 _) wd_M_textSize (q0 := 0) (ci := 7) rfl rfl k_871 ⟨rfl, rfl⟩ ⟨by decide, by decide⟩ rfl hl.1 rfl (Nat.le_of_ble_eq_true rfl) d_M_isField_13) (fun H locs I => ?_)
  obtain ⟨z8, hj9, hk⟩ := bnd_u hk
  have Khj9 : ∀ (H : Heap) (locs : List Loc) (ls : Array Slot), Dy clA D (mW a cs) s H locs u5 → lv_has ls 2 [] → W p l e rm_M_isField s m args below meth c H locs 0 0 Q (F0 m 24 ls [.int z8]) := by
    intro H locs ls I hl
    exact hQ _ _ _ _ _ _ I hk d_M_isField_24
  refine lv_icmp_ne (tgt := 23) hx hb d_M_isField_16 (by decide) (fun hc => ?_) (fun hc => ?_)
  · replace hj9 := ie_u hc hj9
    refine lv_iconst (v := 0) hx hb d_M_isField_23 (by decide) ?_
    cases hj9
    exact Khj9 _ _ _ I (lv_sub hl [] rfl)
  · replace hj9 := it_u hc hj9
    refine lv_iconst (v := 1) hx hb d_M_isField_19 (by decide) ?_
    refine lv_goto (tgt := 24) hx hb d_M_isField_20 (by decide) ?_
    cases hj9
    exact Khj9 _ _ _ I (lv_sub hl [] rfl)
def rm_M_isMethod : Room := { frames := 5, cells := 0, slots := 0, locals := 113 }
noncomputable def f_M_isMethod_L25 (kx : St → Int32 → Option (Int32 × St)) (x1 : Int32) : Nat → St → Int32 → Option (Int32 × St)
  | 0, _, _ => none
  | n + 1, u, x2 => cI (f_M_letter u x1 x2) fun r8 u6 => if r8 = 41 then (kx u6 x2) else (cI (f_M_typeEnd u6 x1 x2) fun r11 u9 => if r11 = (-1) then (gb 0 (some (0, u9))) else (cT (if r11 = (x2 + 1) then (cI (f_M_letter u9 x1 x2) fun r20 u18 => if r20 = 74 then (some (1, u18)) else (cI (f_M_letter u18 x1 x2) fun r23 u21 => if r23 = 68 then (some (1, u21)) else (some (0, u21)))) else (some (0, u9))) fun (p24 : Int32 × St) => bnd (if p24.1 = 0 then (1) else (2)) fun (z14 : Int32) => bnd (sv p24.2 19 ((p24.2.1 19) + z14)) fun u15 => f_M_isMethod_L25 kx x1 n u15 r11))
noncomputable def f_M_isMethod (u : St) (x1 : Int32) : Option (Int32 × St) := gb 0 (bnd (sv u 18 0) fun u1 => bnd (sv u1 19 0) fun u2 => cI (f_M_letter u2 x1 0) fun r5 u3 => if r5 = 40 then (f_M_isMethod_L25 (fun u25 z26 => cI (f_M_letter u25 x1 (z26 + 1)) fun r29 u27 => cT (if r29 = 86 then (some (((z26 + 1) + 1), u27)) else (cI (f_M_typeEnd u27 x1 (z26 + 1)) fun r40 u38 => some (r40, u38))) fun (p41 : Int32 × St) => cI (f_M_textSize p41.2 x1) fun r34 u32 => bnd (if p41.1 = r34 then (if 250 < (u32.1 19) then (0) else (1)) else (0)) fun (z35 : Int32) => gb z35 (some (z35, u32))) x1 FU u3 1) else (gb 0 (some (0, u3))))
set_option maxHeartbeats 4000000 in
set_option maxRecDepth 100000 in
theorem w_M_isMethod_L25 {Z : zT} {D : va_G} {cs : Nat → ClassId} {a : Nat → Nat} {p : Program} {l : Launch} {e : Env} {s : State} {m : MethodId} {args : Array Value} {below : List Frame} {meth : Method} {c : Code} {Q : State → Prop} {F : Int32 × St} {kx : St → Int32 → Option (Int32 × St)} {x1 : Int32} (C : Cx clA R_M prog_9_method_25_code 5 D cs (mW a cs) Z p s m args c) (hE : ∀ (u2 : St) (o2 : Int32) (H : Heap) (locs : List Loc) (ls : Array Slot), kx u2 o2 = some F → Dy clA D (mW a cs) s H locs u2 → lv_has ls 5 [(0, .ref (a 0)), (1, .int x1), (2, .int o2)] → W p l e rm_M_isMethod s m args below meth c H locs 0 0 Q (F0 m 110 ls [])) (hQ : ∀ (H : Heap) (locs : List Loc) (pc : Nat) (ls : Array Slot) (v : Int32) (u1 : St), Dy clA D (mW a cs) s H locs u1 → gb v (some (v, u1)) = some F → decode prog_9_method_25_code pc = .ok (.ireturn, 1) → W p l e rm_M_isMethod s m args below meth c H locs 0 0 Q (F0 m pc ls [.int v])): ∀ (n : Nat) (u : St) (x2 : Int32) (H : Heap) (locs : List Loc) (ls : Array Slot), f_M_isMethod_L25 kx x1 n u x2 = some F → Dy clA D (mW a cs) s H locs u → lv_has ls 5 [(0, .ref (a 0)), (1, .int x1), (2, .int x2)] → W p l e rm_M_isMethod s m args below meth c H locs 0 0 Q (F0 m 25 ls []) := by
  have hx := C.1.1
  have hb := C.1.2.1
  intro n
  induction n with
  | zero =>
    intro u x2 H locs ls hk I hl
    rw [f_M_isMethod_L25] at hk
    cases hk
  | succ n ih =>
    intro u x2 H locs ls hk I hl
    rw [f_M_isMethod_L25] at hk
    refine lv_aload_n hx hb d_M_isMethod_25 rfl (lv_at hl 0 rfl) ?_
    refine lv_iload_n hx hb d_M_isMethod_26 rfl (lv_at hl 1 rfl) ?_
    refine lv_iload_n hx hb d_M_isMethod_27 rfl (lv_at hl 2 rfl) ?_
    obtain ⟨r8, u6, h7, hk⟩ := cI_u hk
    refine go_I I (call_runV (rest := []) C I (c_M_letter C.2.2.2.1 C.2.2.2.2.1 l h7 _) wd_M_letter (q0 := 0) (ci := 7) rfl rfl k_867 ⟨rfl, rfl⟩ ⟨by decide, by decide⟩ rfl hl.1 rfl (Nat.le_of_ble_eq_true rfl) d_M_isMethod_28) (fun H locs I => ?_)
    refine lv_bipush (v := 41) hx hb d_M_isMethod_31 (by decide) ?_
    refine lv_icmp_eq (tgt := 110) hx hb d_M_isMethod_33 (by decide) (fun hc => ?_) (fun hc => ?_)
    · replace hk := it_u hc hk
      exact hE u6 x2 _ _ _ hk I (lv_sub hl [0, 1, 2] rfl)
    · replace hk := ie_u hc hk
      refine lv_aload_n hx hb d_M_isMethod_36 rfl (lv_at hl 0 rfl) ?_
      refine lv_iload_n hx hb d_M_isMethod_37 rfl (lv_at hl 1 rfl) ?_
      refine lv_iload_n hx hb d_M_isMethod_38 rfl (lv_at hl 2 rfl) ?_
      obtain ⟨r11, u9, h10, hk⟩ := cI_u hk
      refine go_I I (call_runV (rest := []) C I (c_M_typeEnd C.2.2.2.1 C.2.2.2.2.1 l h10 _) wd_M_typeEnd (q0 := 0) (ci := 7) rfl rfl k_883 ⟨rfl, rfl⟩ ⟨by decide, by decide⟩ rfl hl.1 rfl (Nat.le_of_ble_eq_true rfl) d_M_isMethod_39) (fun H locs I => ?_)
      refine lv_istore_n (lv' := [(3, .int r11), (0, .ref (a 0)), (1, .int x1), (2, .int x2)]) hx hb d_M_isMethod_42 rfl hl (by decide) rfl (fun ls hl => ?_)
      refine lv_iload_n hx hb d_M_isMethod_43 rfl (lv_at hl 0 rfl) ?_
      refine lv_iconst (v := (-1)) hx hb d_M_isMethod_44 (by decide) ?_
      refine lv_icmp_ne (tgt := 50) hx hb d_M_isMethod_45 (by decide) (fun hc => ?_) (fun hc => ?_)
      · replace hk := ie_u hc hk
        refine lv_iload_n hx hb d_M_isMethod_50 rfl (lv_at hl 0 rfl) ?_
        refine lv_iload_n hx hb d_M_isMethod_51 rfl (lv_at hl 3 rfl) ?_
        refine lv_iconst (v := 1) hx hb d_M_isMethod_52 (by decide) ?_
        refine lv_iadd hx hb d_M_isMethod_53 ?_
        obtain ⟨⟨z12, u13⟩, hj17, hk⟩ := cT_u hk
        have Khj17 : ∀ (H : Heap) (locs : List Loc) (ls : Array Slot), Dy clA D (mW a cs) s H locs u13 → lv_has ls 5 [(0, .ref (a 0)), (1, .int x1), (3, .int r11)] → W p l e rm_M_isMethod s m args below meth c H locs 0 0 Q (F0 m 84 ls [.int z12]) := by
          intro H locs ls I hl
          refine lv_istore (lv' := [(4, .int z12), (0, .ref (a 0)), (1, .int x1), (3, .int r11)]) hx hb d_M_isMethod_84 hl (by decide) rfl (fun ls hl => ?_)
          refine lv_aload_n hx hb d_M_isMethod_86 rfl (lv_at hl 1 rfl) ?_
          refine lv_dup hx hb d_M_isMethod_87 rfl ?_
          refine g_M_slots C I k_724 d_M_isMethod_88 ?_
          refine lv_iload hx hb d_M_isMethod_91 (lv_at hl 0 rfl) ?_
          obtain ⟨z14, hj16, hk⟩ := bnd_u hk
          have Khj16 : ∀ (H : Heap) (locs : List Loc) (ls : Array Slot), Dy clA D (mW a cs) s H locs u13 → lv_has ls 5 [(0, .ref (a 0)), (1, .int x1), (3, .int r11)] → W p l e rm_M_isMethod s m args below meth c H locs 0 0 Q (F0 m 101 ls [.int z14, .int (u13.1 19), .ref (a 0)]) := by
            intro H locs ls I hl
            refine lv_iadd hx hb d_M_isMethod_101 ?_
            refine p_M_slots C I k_724 d_M_isMethod_102 (fun H locs I => ?_)
            obtain ⟨u15, hu, hk⟩ := bnd_u hk
            rw [hu] at I
            clear hu
            refine lv_iload_n hx hb d_M_isMethod_105 rfl (lv_at hl 2 rfl) ?_
            refine lv_istore_n (lv' := [(2, .int r11), (0, .ref (a 0)), (1, .int x1), (3, .int r11)]) hx hb d_M_isMethod_106 rfl hl (by decide) rfl (fun ls hl => ?_)
            refine lv_goto (tgt := 25) hx hb d_M_isMethod_107 (by decide) ?_
            exact ih u15 r11 _ _ _ hk I (lv_sub hl [1, 2, 0] rfl)
          refine lv_if_eq (tgt := 100) hx hb d_M_isMethod_93 (by decide) (fun hc => ?_) (fun hc => ?_)
          · replace hj16 := it_u hc hj16
            refine lv_iconst (v := 1) hx hb d_M_isMethod_100 (by decide) ?_
            cases hj16
            exact Khj16 _ _ _ I (lv_sub hl [1, 2, 3] rfl)
          · replace hj16 := ie_u hc hj16
            refine lv_iconst (v := 2) hx hb d_M_isMethod_96 (by decide) ?_
            refine lv_goto (tgt := 101) hx hb d_M_isMethod_97 (by decide) ?_
            cases hj16
            exact Khj16 _ _ _ I (lv_sub hl [1, 2, 3] rfl)
        refine lv_icmp_ne (tgt := 83) hx hb d_M_isMethod_54 (by decide) (fun hc => ?_) (fun hc => ?_)
        · replace hj17 := ie_u hc hj17
          refine lv_iconst (v := 0) hx hb d_M_isMethod_83 (by decide) ?_
          cases hj17
          exact Khj17 _ _ _ I (lv_sub hl [1, 2, 0] rfl)
        · replace hj17 := it_u hc hj17
          refine lv_aload_n hx hb d_M_isMethod_57 rfl (lv_at hl 1 rfl) ?_
          refine lv_iload_n hx hb d_M_isMethod_58 rfl (lv_at hl 2 rfl) ?_
          refine lv_iload_n hx hb d_M_isMethod_59 rfl (lv_at hl 3 rfl) ?_
          obtain ⟨r20, u18, h19, hj17⟩ := cI_u hj17
          refine go_I I (call_runV (rest := []) C I (c_M_letter C.2.2.2.1 C.2.2.2.2.1 l h19 _) wd_M_letter (q0 := 0) (ci := 7) rfl rfl k_867 ⟨rfl, rfl⟩ ⟨by decide, by decide⟩ rfl hl.1 rfl (Nat.le_of_ble_eq_true rfl) d_M_isMethod_60) (fun H locs I => ?_)
          refine lv_bipush (v := 74) hx hb d_M_isMethod_63 (by decide) ?_
          refine lv_icmp_eq (tgt := 79) hx hb d_M_isMethod_65 (by decide) (fun hc => ?_) (fun hc => ?_)
          · replace hj17 := it_u hc hj17
            refine lv_iconst (v := 1) hx hb d_M_isMethod_79 (by decide) ?_
            refine lv_goto (tgt := 84) hx hb d_M_isMethod_80 (by decide) ?_
            cases hj17
            exact Khj17 _ _ _ I (lv_sub hl [1, 2, 0] rfl)
          · replace hj17 := ie_u hc hj17
            refine lv_aload_n hx hb d_M_isMethod_68 rfl (lv_at hl 1 rfl) ?_
            refine lv_iload_n hx hb d_M_isMethod_69 rfl (lv_at hl 2 rfl) ?_
            refine lv_iload_n hx hb d_M_isMethod_70 rfl (lv_at hl 3 rfl) ?_
            obtain ⟨r23, u21, h22, hj17⟩ := cI_u hj17
            refine go_I I (call_runV (rest := []) C I (c_M_letter C.2.2.2.1 C.2.2.2.2.1 l h22 _) wd_M_letter (q0 := 0) (ci := 7) rfl rfl k_867 ⟨rfl, rfl⟩ ⟨by decide, by decide⟩ rfl hl.1 rfl (Nat.le_of_ble_eq_true rfl) d_M_isMethod_71) (fun H locs I => ?_)
            refine lv_bipush (v := 68) hx hb d_M_isMethod_74 (by decide) ?_
            refine lv_icmp_ne (tgt := 83) hx hb d_M_isMethod_76 (by decide) (fun hc => ?_) (fun hc => ?_)
            · replace hj17 := ie_u hc hj17
              refine lv_iconst (v := 0) hx hb d_M_isMethod_83 (by decide) ?_
              cases hj17
              exact Khj17 _ _ _ I (lv_sub hl [1, 2, 0] rfl)
            · replace hj17 := it_u hc hj17
              refine lv_iconst (v := 1) hx hb d_M_isMethod_79 (by decide) ?_
              refine lv_goto (tgt := 84) hx hb d_M_isMethod_80 (by decide) ?_
              cases hj17
              exact Khj17 _ _ _ I (lv_sub hl [1, 2, 0] rfl)
      · replace hk := it_u hc hk
        refine lv_iconst (v := 0) hx hb d_M_isMethod_48 (by decide) ?_
        exact hQ _ _ _ _ _ _ I hk d_M_isMethod_49
set_option maxHeartbeats 4000000 in
set_option maxRecDepth 100000 in
theorem c_M_isMethod {Z : zT} {D : va_G} {cs : Nat → ClassId} {a : Nat → Nat} (hw : wD (mW a cs)) (hz : zOK Z) (l : Launch) {u : St} {x1 : Int32} {r : Int32} {u' : St} (hk : f_M_isMethod u x1 = some (r, u')) : KI clA D cs (mW a cs) Z l y_M_isMethod (.code y_M_isMethod prog_9_method_25_code 5 (Option.some Jvm.ClassFile.FieldType.boolean)) rm_M_isMethod [.ref (a 0), .int x1] u r u' := by
  unfold f_M_isMethod at hk
  refine KZ.of (by decide) (Nat.le_of_ble_eq_true rfl) hw hz ?_
  intro p e s m args below meth c Q C I hQ ls hl
  have hl : lv_has ls 5 [(0, .ref (a 0)), (1, .int x1)] := hl
  have hx := C.1.1
  have hb := C.1.2.1
  refine lv_aload_n hx hb d_M_isMethod_0 rfl (lv_at hl 0 rfl) ?_
  refine lv_iconst (v := 0) hx hb d_M_isMethod_1 (by decide) ?_
  obtain ⟨hz, hk⟩ := gb_u hk
  refine p_M_real C I k_723 hz d_M_isMethod_2 (fun H locs I => ?_)
  obtain ⟨u1, hu, hk⟩ := bnd_u hk
  rw [hu] at I
  clear hu
  refine lv_aload_n hx hb d_M_isMethod_5 rfl (lv_at hl 0 rfl) ?_
  refine lv_iconst (v := 0) hx hb d_M_isMethod_6 (by decide) ?_
  refine p_M_slots C I k_724 d_M_isMethod_7 (fun H locs I => ?_)
  obtain ⟨u2, hu, hk⟩ := bnd_u hk
  rw [hu] at I
  clear hu
  refine lv_aload_n hx hb d_M_isMethod_10 rfl (lv_at hl 0 rfl) ?_
  refine lv_iload_n hx hb d_M_isMethod_11 rfl (lv_at hl 1 rfl) ?_
  refine lv_iconst (v := 0) hx hb d_M_isMethod_12 (by decide) ?_
  obtain ⟨r5, u3, h4, hk⟩ := cI_u hk
  refine go_I I (call_runV (rest := []) C I (c_M_letter C.2.2.2.1 C.2.2.2.2.1 l h4 _) wd_M_letter (q0 := 0) (ci := 7) rfl rfl k_867 ⟨rfl, rfl⟩ ⟨by decide, by decide⟩ rfl hl.1 rfl (Nat.le_of_ble_eq_true rfl) d_M_isMethod_13) (fun H locs I => ?_)
  refine lv_bipush (v := 40) hx hb d_M_isMethod_16 (by decide) ?_
  refine lv_icmp_eq (tgt := 23) hx hb d_M_isMethod_18 (by decide) (fun hc => ?_) (fun hc => ?_)
  · replace hk := it_u hc hk
    refine lv_iconst (v := 1) hx hb d_M_isMethod_23 (by decide) ?_
    refine lv_istore_n (lv' := [(2, .int 1), (0, .ref (a 0)), (1, .int x1)]) hx hb d_M_isMethod_24 rfl hl (by decide) rfl (fun ls hl => ?_)
    refine w_M_isMethod_L25 C (fun u25 z26 H locs ls hk I hl => ?_) hQ FU u3 1 _ _ _ hk I (lv_sub hl [1, 2, 0] rfl)
    refine lv_iinc (v := (z26 + 1)) (lv' := [(2, .int (z26 + 1)), (0, .ref (a 0)), (1, .int x1)]) hx hb d_M_isMethod_110 hl (k := 2) rfl rfl (by decide) rfl (fun ls hl => ?_)
    refine lv_aload_n hx hb d_M_isMethod_113 rfl (lv_at hl 1 rfl) ?_
    refine lv_iload_n hx hb d_M_isMethod_114 rfl (lv_at hl 2 rfl) ?_
    refine lv_iload_n hx hb d_M_isMethod_115 rfl (lv_at hl 0 rfl) ?_
    obtain ⟨r29, u27, h28, hk⟩ := cI_u hk
    refine go_I I (call_runV (rest := []) C I (c_M_letter C.2.2.2.1 C.2.2.2.2.1 l h28 _) wd_M_letter (q0 := 0) (ci := 7) rfl rfl k_867 ⟨rfl, rfl⟩ ⟨by decide, by decide⟩ rfl hl.1 rfl (Nat.le_of_ble_eq_true rfl) d_M_isMethod_116) (fun H locs I => ?_)
    refine lv_bipush (v := 86) hx hb d_M_isMethod_119 (by decide) ?_
    obtain ⟨⟨z30, u31⟩, hj37, hk⟩ := cT_u hk
    have Khj37 : ∀ (H : Heap) (locs : List Loc) (ls : Array Slot), Dy clA D (mW a cs) s H locs u31 → lv_has ls 5 [(0, .ref (a 0)), (1, .int x1)] → W p l e rm_M_isMethod s m args below meth c H locs 0 0 Q (F0 m 136 ls [.int z30]) := by
      intro H locs ls I hl
      refine lv_istore_n (lv' := [(3, .int z30), (0, .ref (a 0)), (1, .int x1)]) hx hb d_M_isMethod_136 rfl hl (by decide) rfl (fun ls hl => ?_)
      refine lv_iload_n hx hb d_M_isMethod_137 rfl (lv_at hl 0 rfl) ?_
      refine lv_aload_n hx hb d_M_isMethod_138 rfl (lv_at hl 1 rfl) ?_
      refine lv_iload_n hx hb d_M_isMethod_139 rfl (lv_at hl 2 rfl) ?_
      obtain ⟨r34, u32, h33, hk⟩ := cI_u hk
      refine go_I I (call_runV (rest := [.int z30]) C I (c_M_textSize C.2.2.2.1 C.2.2.2.2.1 l h33 _) wd_M_textSize (q0 := 0) (ci := 7) rfl rfl k_871 ⟨rfl, rfl⟩ ⟨by decide, by decide⟩ rfl hl.1 rfl (Nat.le_of_ble_eq_true rfl) d_M_isMethod_140) (fun H locs I => ?_)
      obtain ⟨z35, hj36, hk⟩ := bnd_u hk
      have Khj36 : ∀ (H : Heap) (locs : List Loc) (ls : Array Slot), Dy clA D (mW a cs) s H locs u32 → lv_has ls 5 [] → W p l e rm_M_isMethod s m args below meth c H locs 0 0 Q (F0 m 161 ls [.int z35]) := by
        intro H locs ls I hl
        exact hQ _ _ _ _ _ _ I hk d_M_isMethod_161
      refine lv_icmp_ne (tgt := 160) hx hb d_M_isMethod_143 (by decide) (fun hc => ?_) (fun hc => ?_)
      · replace hj36 := ie_u hc hj36
        refine lv_iconst (v := 0) hx hb d_M_isMethod_160 (by decide) ?_
        cases hj36
        exact Khj36 _ _ _ I (lv_sub hl [] rfl)
      · replace hj36 := it_u hc hj36
        refine lv_aload_n hx hb d_M_isMethod_146 rfl (lv_at hl 1 rfl) ?_
        refine g_M_slots C I k_724 d_M_isMethod_147 ?_
        refine lv_sipush (v := 250) hx hb d_M_isMethod_150 (by decide) ?_
        refine lv_icmp_gt (tgt := 160) hx hb d_M_isMethod_153 (by decide) (fun hc => ?_) (fun hc => ?_)
        · replace hj36 := it_u hc hj36
          refine lv_iconst (v := 0) hx hb d_M_isMethod_160 (by decide) ?_
          cases hj36
          exact Khj36 _ _ _ I (lv_sub hl [] rfl)
        · replace hj36 := ie_u hc hj36
          refine lv_iconst (v := 1) hx hb d_M_isMethod_156 (by decide) ?_
          refine lv_goto (tgt := 161) hx hb d_M_isMethod_157 (by decide) ?_
          cases hj36
          exact Khj36 _ _ _ I (lv_sub hl [] rfl)
    refine lv_icmp_ne (tgt := 130) hx hb d_M_isMethod_121 (by decide) (fun hc => ?_) (fun hc => ?_)
    · replace hj37 := ie_u hc hj37
      refine lv_aload_n hx hb d_M_isMethod_130 rfl (lv_at hl 1 rfl) ?_
      refine lv_iload_n hx hb d_M_isMethod_131 rfl (lv_at hl 2 rfl) ?_
      refine lv_iload_n hx hb d_M_isMethod_132 rfl (lv_at hl 0 rfl) ?_
      obtain ⟨r40, u38, h39, hj37⟩ := cI_u hj37
      refine go_I I (call_runV (rest := []) C I (c_M_typeEnd C.2.2.2.1 C.2.2.2.2.1 l h39 _) wd_M_typeEnd (q0 := 0) (ci := 7) rfl rfl k_883 ⟨rfl, rfl⟩ ⟨by decide, by decide⟩ rfl hl.1 rfl (Nat.le_of_ble_eq_true rfl) d_M_isMethod_133) (fun H locs I => ?_)
      cases hj37
      exact Khj37 _ _ _ I (lv_sub hl [1, 2] rfl)
    · replace hj37 := it_u hc hj37
      refine lv_iload_n hx hb d_M_isMethod_124 rfl (lv_at hl 0 rfl) ?_
      refine lv_iconst (v := 1) hx hb d_M_isMethod_125 (by decide) ?_
      refine lv_iadd hx hb d_M_isMethod_126 ?_
      refine lv_goto (tgt := 136) hx hb d_M_isMethod_127 (by decide) ?_
      cases hj37
      exact Khj37 _ _ _ I (lv_sub hl [1, 2] rfl)
  · replace hk := ie_u hc hk
    refine lv_iconst (v := 0) hx hb d_M_isMethod_21 (by decide) ?_
    exact hQ _ _ _ _ _ _ I hk d_M_isMethod_22
def rm_M_isVoid : Room := { frames := 3, cells := 0, slots := 0, locals := 64 }
noncomputable def f_M_isVoid (u : St) (x1 : Int32) : Option (Int32 × St) := cI (f_M_textSize u x1) fun r3 u1 => cI (f_M_letter u1 x1 (r3 - 1)) fun r6 u4 => cT (if r6 = 86 then (cI (f_M_textSize u4 x1) fun r12 u10 => cI (f_M_letter u10 x1 (r12 - 2)) fun r15 u13 => if r15 = 41 then (some (1, u13)) else (some (0, u13))) else (some (0, u4))) fun (p16 : Int32 × St) => gb p16.1 (some (p16.1, p16.2))
set_option maxHeartbeats 4000000 in
set_option maxRecDepth 100000 in
theorem c_M_isVoid {Z : zT} {D : va_G} {cs : Nat → ClassId} {a : Nat → Nat} (hw : wD (mW a cs)) (hz : zOK Z) (l : Launch) {u : St} {x1 : Int32} {r : Int32} {u' : St} (hk : f_M_isVoid u x1 = some (r, u')) : KI clA D cs (mW a cs) Z l y_M_isVoid (.code y_M_isVoid prog_9_method_26_code 2 (Option.some Jvm.ClassFile.FieldType.boolean)) rm_M_isVoid [.ref (a 0), .int x1] u r u' := by
  unfold f_M_isVoid at hk
  refine KZ.of (by decide) (Nat.le_of_ble_eq_true rfl) hw hz ?_
  intro p e s m args below meth c Q C I hQ ls hl
  have hl : lv_has ls 2 [(0, .ref (a 0)), (1, .int x1)] := hl
  have hx := C.1.1
  have hb := C.1.2.1
  refine lv_aload_n hx hb d_M_isVoid_0 rfl (lv_at hl 0 rfl) ?_
  refine lv_iload_n hx hb d_M_isVoid_1 rfl (lv_at hl 1 rfl) ?_
  refine lv_aload_n hx hb d_M_isVoid_2 rfl (lv_at hl 0 rfl) ?_
  refine lv_iload_n hx hb d_M_isVoid_3 rfl (lv_at hl 1 rfl) ?_
  obtain ⟨r3, u1, h2, hk⟩ := cI_u hk
  refine go_I I (call_runV (rest := [.int x1, .ref (a 0)]) C I (c_M_textSize C.2.2.2.1 C.2.2.2.2.1 l h2 _) wd_M_textSize (q0 := 0) (ci := 7) rfl rfl k_871 ⟨rfl, rfl⟩ ⟨by decide, by decide⟩ rfl hl.1 rfl (Nat.le_of_ble_eq_true rfl) d_M_isVoid_4) (fun H locs I => ?_)
  refine lv_iconst (v := 1) hx hb d_M_isVoid_7 (by decide) ?_
  refine lv_isub hx hb d_M_isVoid_8 ?_
  obtain ⟨r6, u4, h5, hk⟩ := cI_u hk
  refine go_I I (call_runV (rest := []) C I (c_M_letter C.2.2.2.1 C.2.2.2.2.1 l h5 _) wd_M_letter (q0 := 0) (ci := 7) rfl rfl k_867 ⟨rfl, rfl⟩ ⟨by decide, by decide⟩ rfl hl.1 rfl (Nat.le_of_ble_eq_true rfl) d_M_isVoid_9) (fun H locs I => ?_)
  refine lv_bipush (v := 86) hx hb d_M_isVoid_12 (by decide) ?_
  obtain ⟨⟨z7, u8⟩, hj9, hk⟩ := cT_u hk
  have Khj9 : ∀ (H : Heap) (locs : List Loc) (ls : Array Slot), Dy clA D (mW a cs) s H locs u8 → lv_has ls 2 [] → W p l e rm_M_isVoid s m args below meth c H locs 0 0 Q (F0 m 39 ls [.int z7]) := by
    intro H locs ls I hl
    exact hQ _ _ _ _ _ _ I hk d_M_isVoid_39
  refine lv_icmp_ne (tgt := 38) hx hb d_M_isVoid_14 (by decide) (fun hc => ?_) (fun hc => ?_)
  · replace hj9 := ie_u hc hj9
    refine lv_iconst (v := 0) hx hb d_M_isVoid_38 (by decide) ?_
    cases hj9
    exact Khj9 _ _ _ I (lv_sub hl [] rfl)
  · replace hj9 := it_u hc hj9
    refine lv_aload_n hx hb d_M_isVoid_17 rfl (lv_at hl 0 rfl) ?_
    refine lv_iload_n hx hb d_M_isVoid_18 rfl (lv_at hl 1 rfl) ?_
    refine lv_aload_n hx hb d_M_isVoid_19 rfl (lv_at hl 0 rfl) ?_
    refine lv_iload_n hx hb d_M_isVoid_20 rfl (lv_at hl 1 rfl) ?_
    obtain ⟨r12, u10, h11, hj9⟩ := cI_u hj9
    refine go_I I (call_runV (rest := [.int x1, .ref (a 0)]) C I (c_M_textSize C.2.2.2.1 C.2.2.2.2.1 l h11 _) wd_M_textSize (q0 := 0) (ci := 7) rfl rfl k_871 ⟨rfl, rfl⟩ ⟨by decide, by decide⟩ rfl hl.1 rfl (Nat.le_of_ble_eq_true rfl) d_M_isVoid_21) (fun H locs I => ?_)
    refine lv_iconst (v := 2) hx hb d_M_isVoid_24 (by decide) ?_
    refine lv_isub hx hb d_M_isVoid_25 ?_
    obtain ⟨r15, u13, h14, hj9⟩ := cI_u hj9
    refine go_I I (call_runV (rest := []) C I (c_M_letter C.2.2.2.1 C.2.2.2.2.1 l h14 _) wd_M_letter (q0 := 0) (ci := 7) rfl rfl k_867 ⟨rfl, rfl⟩ ⟨by decide, by decide⟩ rfl hl.1 rfl (Nat.le_of_ble_eq_true rfl) d_M_isVoid_26) (fun H locs I => ?_)
    refine lv_bipush (v := 41) hx hb d_M_isVoid_29 (by decide) ?_
    refine lv_icmp_ne (tgt := 38) hx hb d_M_isVoid_31 (by decide) (fun hc => ?_) (fun hc => ?_)
    · replace hj9 := ie_u hc hj9
      refine lv_iconst (v := 0) hx hb d_M_isVoid_38 (by decide) ?_
      cases hj9
      exact Khj9 _ _ _ I (lv_sub hl [] rfl)
    · replace hj9 := it_u hc hj9
      refine lv_iconst (v := 1) hx hb d_M_isVoid_34 (by decide) ?_
      refine lv_goto (tgt := 39) hx hb d_M_isVoid_35 (by decide) ?_
      cases hj9
      exact Khj9 _ _ _ I (lv_sub hl [] rfl)
def rm_M_isArray : Room := { frames := 3, cells := 0, slots := 0, locals := 64 }
noncomputable def f_M_isArray (u : St) (x1 : Int32) : Option (Int32 × St) := gd x1 300 (cI (f_M_two u ((u.2 2 x1.toNatClampNeg) + 1)) fun r3 u1 => cI (f_M_letter u1 r3 0) fun r6 u4 => bnd (if r6 = 91 then (1) else (0)) fun (z7 : Int32) => gb z7 (some (z7, u4)))
set_option maxHeartbeats 4000000 in
set_option maxRecDepth 100000 in
theorem c_M_isArray {Z : zT} {D : va_G} {cs : Nat → ClassId} {a : Nat → Nat} (hw : wD (mW a cs)) (hz : zOK Z) (l : Launch) {u : St} {x1 : Int32} {r : Int32} {u' : St} (hk : f_M_isArray u x1 = some (r, u')) : KI clA D cs (mW a cs) Z l y_M_isArray (.code y_M_isArray prog_9_method_27_code 2 (Option.some Jvm.ClassFile.FieldType.boolean)) rm_M_isArray [.ref (a 0), .int x1] u r u' := by
  unfold f_M_isArray at hk
  refine KZ.of (by decide) (Nat.le_of_ble_eq_true rfl) hw hz ?_
  intro p e s m args below meth c Q C I hQ ls hl
  have hl : lv_has ls 2 [(0, .ref (a 0)), (1, .int x1)] := hl
  have hx := C.1.1
  have hb := C.1.2.1
  refine lv_aload_n hx hb d_M_isArray_0 rfl (lv_at hl 0 rfl) ?_
  refine lv_aload_n hx hb d_M_isArray_1 rfl (lv_at hl 0 rfl) ?_
  refine lv_aload_n hx hb d_M_isArray_2 rfl (lv_at hl 0 rfl) ?_
  refine g_M_begins C I k_703 d_M_isArray_3 ?_
  refine lv_iload_n hx hb d_M_isArray_6 rfl (lv_at hl 1 rfl) ?_
  obtain ⟨hi, hk⟩ := gd_u hk
  refine l_M_begins C I hi d_M_isArray_7 ?_
  refine lv_iconst (v := 1) hx hb d_M_isArray_8 (by decide) ?_
  refine lv_iadd hx hb d_M_isArray_9 ?_
  obtain ⟨r3, u1, h2, hk⟩ := cI_u hk
  refine go_I I (call_runV (rest := [.ref (a 0)]) C I (c_M_two C.2.2.2.1 C.2.2.2.2.1 l h2 _) wd_M_two (q0 := 0) (ci := 7) rfl rfl k_859 ⟨rfl, rfl⟩ ⟨by decide, by decide⟩ rfl hl.1 rfl (Nat.le_of_ble_eq_true rfl) d_M_isArray_10) (fun H locs I => ?_)
  refine lv_iconst (v := 0) hx hb d_M_isArray_13 (by decide) ?_
  obtain ⟨r6, u4, h5, hk⟩ := cI_u hk
  refine go_I I (call_runV (rest := []) C I (c_M_letter C.2.2.2.1 C.2.2.2.2.1 l h5 _) wd_M_letter (q0 := 0) (ci := 7) rfl rfl k_867 ⟨rfl, rfl⟩ ⟨by decide, by decide⟩ rfl hl.1 rfl (Nat.le_of_ble_eq_true rfl) d_M_isArray_14) (fun H locs I => ?_)
  refine lv_bipush (v := 91) hx hb d_M_isArray_17 (by decide) ?_
  obtain ⟨z7, hj8, hk⟩ := bnd_u hk
  have Khj8 : ∀ (H : Heap) (locs : List Loc) (ls : Array Slot), Dy clA D (mW a cs) s H locs u4 → lv_has ls 2 [] → W p l e rm_M_isArray s m args below meth c H locs 0 0 Q (F0 m 27 ls [.int z7]) := by
    intro H locs ls I hl
    exact hQ _ _ _ _ _ _ I hk d_M_isArray_27
  refine lv_icmp_ne (tgt := 26) hx hb d_M_isArray_19 (by decide) (fun hc => ?_) (fun hc => ?_)
  · replace hj8 := ie_u hc hj8
    refine lv_iconst (v := 0) hx hb d_M_isArray_26 (by decide) ?_
    cases hj8
    exact Khj8 _ _ _ I (lv_sub hl [] rfl)
  · replace hj8 := it_u hc hj8
    refine lv_iconst (v := 1) hx hb d_M_isArray_22 (by decide) ?_
    refine lv_goto (tgt := 27) hx hb d_M_isArray_23 (by decide) ?_
    cases hj8
    exact Khj8 _ _ _ I (lv_sub hl [] rfl)
def rm_M_isKind : Room := { frames := 0, cells := 0, slots := 0, locals := 0 }
noncomputable def f_M_isKind (u : St) (x1 : Int32) (x2 : Int32) : Option (Int32 × St) := cT (if x1 ≤ 0 then (some (0)) else (if (u.1 6) ≤ x1 then (some (0)) else (gd x1 300 (if (u.2 1 x1.toNatClampNeg) = x2 then (some (1)) else (some (0)))))) fun (z1 : Int32) => gb z1 (some (z1, u))
set_option maxHeartbeats 4000000 in
set_option maxRecDepth 100000 in
theorem c_M_isKind {Z : zT} {D : va_G} {cs : Nat → ClassId} {a : Nat → Nat} (hw : wD (mW a cs)) (hz : zOK Z) (l : Launch) {u : St} {x1 : Int32} {x2 : Int32} {r : Int32} {u' : St} (hk : f_M_isKind u x1 x2 = some (r, u')) : KI clA D cs (mW a cs) Z l y_M_isKind (.code y_M_isKind prog_9_method_28_code 3 (Option.some Jvm.ClassFile.FieldType.boolean)) rm_M_isKind [.ref (a 0), .int x1, .int x2] u r u' := by
  unfold f_M_isKind at hk
  refine KZ.of (by decide) (Nat.le_of_ble_eq_true rfl) hw hz ?_
  intro p e s m args below meth c Q C I hQ ls hl
  have hl : lv_has ls 3 [(0, .ref (a 0)), (1, .int x1), (2, .int x2)] := hl
  have hx := C.1.1
  have hb := C.1.2.1
  refine lv_iload_n hx hb d_M_isKind_0 rfl (lv_at hl 1 rfl) ?_
  obtain ⟨z1, hj2, hk⟩ := cT_u hk
  have Khj2 : ∀ (H : Heap) (locs : List Loc) (ls : Array Slot), Dy clA D (mW a cs) s H locs u → lv_has ls 3 [] → W p l e rm_M_isKind s m args below meth c H locs 0 0 Q (F0 m 27 ls [.int z1]) := by
    intro H locs ls I hl
    exact hQ _ _ _ _ _ _ I hk d_M_isKind_27
  refine lv_if_le (tgt := 26) hx hb d_M_isKind_1 (by decide) (fun hc => ?_) (fun hc => ?_)
  · replace hj2 := it_u hc hj2
    refine lv_iconst (v := 0) hx hb d_M_isKind_26 (by decide) ?_
    cases hj2
    exact Khj2 _ _ _ I (lv_sub hl [] rfl)
  · replace hj2 := ie_u hc hj2
    refine lv_iload_n hx hb d_M_isKind_4 rfl (lv_at hl 1 rfl) ?_
    refine lv_aload_n hx hb d_M_isKind_5 rfl (lv_at hl 0 rfl) ?_
    refine g_M_many C I k_701 d_M_isKind_6 ?_
    refine lv_icmp_ge (tgt := 26) hx hb d_M_isKind_9 (by decide) (fun hc => ?_) (fun hc => ?_)
    · replace hj2 := it_u hc hj2
      refine lv_iconst (v := 0) hx hb d_M_isKind_26 (by decide) ?_
      cases hj2
      exact Khj2 _ _ _ I (lv_sub hl [] rfl)
    · replace hj2 := ie_u hc hj2
      refine lv_aload_n hx hb d_M_isKind_12 rfl (lv_at hl 0 rfl) ?_
      refine g_M_kinds C I k_702 d_M_isKind_13 ?_
      refine lv_iload_n hx hb d_M_isKind_16 rfl (lv_at hl 1 rfl) ?_
      obtain ⟨hi, hj2⟩ := gd_u hj2
      refine l_M_kinds C I hi d_M_isKind_17 ?_
      refine lv_iload_n hx hb d_M_isKind_18 rfl (lv_at hl 2 rfl) ?_
      refine lv_icmp_ne (tgt := 26) hx hb d_M_isKind_19 (by decide) (fun hc => ?_) (fun hc => ?_)
      · replace hj2 := ie_u hc hj2
        refine lv_iconst (v := 0) hx hb d_M_isKind_26 (by decide) ?_
        cases hj2
        exact Khj2 _ _ _ I (lv_sub hl [] rfl)
      · replace hj2 := it_u hc hj2
        refine lv_iconst (v := 1) hx hb d_M_isKind_22 (by decide) ?_
        refine lv_goto (tgt := 27) hx hb d_M_isKind_23 (by decide) ?_
        cases hj2
        exact Khj2 _ _ _ I (lv_sub hl [] rfl)
def rm_M_number : Room := { frames := 3, cells := 0, slots := 0, locals := 63 }
noncomputable def f_M_number (u : St) (x1 : Int32) : Option (Int32 × St) := cI (f_M_u2 u) fun r3 u1 => cI (f_M_isKind u1 r3 x1) fun r6 u4 => cI (f_M_must u4 r6 8 (u.1 2)) fun r9 u7 => some (r3, u7)
set_option maxHeartbeats 4000000 in
set_option maxRecDepth 100000 in
theorem c_M_number {Z : zT} {D : va_G} {cs : Nat → ClassId} {a : Nat → Nat} (hw : wD (mW a cs)) (hz : zOK Z) (l : Launch) {u : St} {x1 : Int32} {r : Int32} {u' : St} (hk : f_M_number u x1 = some (r, u')) : KI clA D cs (mW a cs) Z l y_M_number (.code y_M_number prog_9_method_29_code 4 (Option.some Jvm.ClassFile.FieldType.int)) rm_M_number [.ref (a 0), .int x1] u r u' := by
  unfold f_M_number at hk
  refine KI.of (by decide) (Nat.le_of_ble_eq_true rfl) rfl hw hz ?_
  intro p e s m args below meth c Q C I hQ ls hl
  have hl : lv_has ls 4 [(0, .ref (a 0)), (1, .int x1)] := hl
  have hx := C.1.1
  have hb := C.1.2.1
  refine lv_aload_n hx hb d_M_number_0 rfl (lv_at hl 0 rfl) ?_
  refine g_M_at C I k_697 d_M_number_1 ?_
  refine lv_istore_n (lv' := [(2, .int (u.1 2)), (0, .ref (a 0)), (1, .int x1)]) hx hb d_M_number_4 rfl hl (by decide) rfl (fun ls hl => ?_)
  refine lv_aload_n hx hb d_M_number_5 rfl (lv_at hl 1 rfl) ?_
  obtain ⟨r3, u1, h2, hk⟩ := cI_u hk
  refine go_I I (call_runV (rest := []) C I (c_M_u2 C.2.2.2.1 C.2.2.2.2.1 l h2 _) wd_M_u2 (q0 := 0) (ci := 7) rfl rfl k_826 ⟨rfl, rfl⟩ ⟨by decide, by decide⟩ rfl hl.1 rfl (Nat.le_of_ble_eq_true rfl) d_M_number_6) (fun H locs I => ?_)
  refine lv_istore_n (lv' := [(3, .int r3), (2, .int (u.1 2)), (0, .ref (a 0)), (1, .int x1)]) hx hb d_M_number_9 rfl hl (by decide) rfl (fun ls hl => ?_)
  refine lv_aload_n hx hb d_M_number_10 rfl (lv_at hl 2 rfl) ?_
  refine lv_aload_n hx hb d_M_number_11 rfl (lv_at hl 2 rfl) ?_
  refine lv_iload_n hx hb d_M_number_12 rfl (lv_at hl 0 rfl) ?_
  refine lv_iload_n hx hb d_M_number_13 rfl (lv_at hl 3 rfl) ?_
  obtain ⟨r6, u4, h5, hk⟩ := cI_u hk
  refine go_I I (call_runV (rest := [.ref (a 0)]) C I (c_M_isKind C.2.2.2.1 C.2.2.2.2.1 l h5 _) wd_M_isKind (q0 := 0) (ci := 7) rfl rfl k_863 ⟨rfl, rfl⟩ ⟨by decide, by decide⟩ rfl hl.1 rfl (Nat.le_of_ble_eq_true rfl) d_M_number_14) (fun H locs I => ?_)
  refine lv_bipush (v := 8) hx hb d_M_number_17 (by decide) ?_
  refine lv_iload_n hx hb d_M_number_19 rfl (lv_at hl 1 rfl) ?_
  obtain ⟨r9, u7, h8, hk⟩ := cI_u hk
  refine go_I I (call_runV (rest := []) C I (c_M_must C.2.2.2.1 C.2.2.2.2.1 l h8 _) wd_M_must (q0 := 0) (ci := 7) rfl rfl k_843 ⟨rfl, rfl⟩ ⟨by decide, by decide⟩ rfl hl.1 rfl (Nat.le_of_ble_eq_true rfl) d_M_number_20) (fun H locs I => ?_)
  refine lv_pop hx hb d_M_number_23 rfl ?_
  refine lv_iload_n hx hb d_M_number_24 rfl (lv_at hl 0 rfl) ?_
  exact hQ _ _ _ _ _ _ I hk d_M_number_25
def rm_M_nameOf : Room := { frames := 1, cells := 0, slots := 0, locals := 21 }
noncomputable def f_M_nameOf (u : St) (x1 : Int32) : Option (Int32 × St) := gd x1 300 (cI (f_M_two u ((u.2 2 x1.toNatClampNeg) + 3)) fun r3 u1 => gd r3 300 (cI (f_M_two u1 ((u1.2 2 r3.toNatClampNeg) + 1)) fun r6 u4 => some (r6, u4)))
set_option maxHeartbeats 4000000 in
set_option maxRecDepth 100000 in
theorem c_M_nameOf {Z : zT} {D : va_G} {cs : Nat → ClassId} {a : Nat → Nat} (hw : wD (mW a cs)) (hz : zOK Z) (l : Launch) {u : St} {x1 : Int32} {r : Int32} {u' : St} (hk : f_M_nameOf u x1 = some (r, u')) : KI clA D cs (mW a cs) Z l y_M_nameOf (.code y_M_nameOf prog_9_method_30_code 2 (Option.some Jvm.ClassFile.FieldType.int)) rm_M_nameOf [.ref (a 0), .int x1] u r u' := by
  unfold f_M_nameOf at hk
  refine KI.of (by decide) (Nat.le_of_ble_eq_true rfl) rfl hw hz ?_
  intro p e s m args below meth c Q C I hQ ls hl
  have hl : lv_has ls 2 [(0, .ref (a 0)), (1, .int x1)] := hl
  have hx := C.1.1
  have hb := C.1.2.1
  refine lv_aload_n hx hb d_M_nameOf_0 rfl (lv_at hl 0 rfl) ?_
  refine lv_aload_n hx hb d_M_nameOf_1 rfl (lv_at hl 0 rfl) ?_
  refine g_M_begins C I k_703 d_M_nameOf_2 ?_
  refine lv_aload_n hx hb d_M_nameOf_5 rfl (lv_at hl 0 rfl) ?_
  refine lv_aload_n hx hb d_M_nameOf_6 rfl (lv_at hl 0 rfl) ?_
  refine g_M_begins C I k_703 d_M_nameOf_7 ?_
  refine lv_iload_n hx hb d_M_nameOf_10 rfl (lv_at hl 1 rfl) ?_
  obtain ⟨hi, hk⟩ := gd_u hk
  refine l_M_begins C I hi d_M_nameOf_11 ?_
  refine lv_iconst (v := 3) hx hb d_M_nameOf_12 (by decide) ?_
  refine lv_iadd hx hb d_M_nameOf_13 ?_
  obtain ⟨r3, u1, h2, hk⟩ := cI_u hk
  refine go_I I (call_runV (rest := [.ref (a 3), .ref (a 0)]) C I (c_M_two C.2.2.2.1 C.2.2.2.2.1 l h2 _) wd_M_two (q0 := 0) (ci := 7) rfl rfl k_859 ⟨rfl, rfl⟩ ⟨by decide, by decide⟩ rfl hl.1 rfl (Nat.le_of_ble_eq_true rfl) d_M_nameOf_14) (fun H locs I => ?_)
  obtain ⟨hi, hk⟩ := gd_u hk
  refine l_M_begins C I hi d_M_nameOf_17 ?_
  refine lv_iconst (v := 1) hx hb d_M_nameOf_18 (by decide) ?_
  refine lv_iadd hx hb d_M_nameOf_19 ?_
  obtain ⟨r6, u4, h5, hk⟩ := cI_u hk
  refine go_I I (call_runV (rest := []) C I (c_M_two C.2.2.2.1 C.2.2.2.2.1 l h5 _) wd_M_two (q0 := 0) (ci := 7) rfl rfl k_859 ⟨rfl, rfl⟩ ⟨by decide, by decide⟩ rfl hl.1 rfl (Nat.le_of_ble_eq_true rfl) d_M_nameOf_20) (fun H locs I => ?_)
  exact hQ _ _ _ _ _ _ I hk d_M_nameOf_23
def rm_M_typeOf : Room := { frames := 1, cells := 0, slots := 0, locals := 21 }
noncomputable def f_M_typeOf (u : St) (x1 : Int32) : Option (Int32 × St) := gd x1 300 (cI (f_M_two u ((u.2 2 x1.toNatClampNeg) + 3)) fun r3 u1 => gd r3 300 (cI (f_M_two u1 ((u1.2 2 r3.toNatClampNeg) + 3)) fun r6 u4 => some (r6, u4)))
set_option maxHeartbeats 4000000 in
set_option maxRecDepth 100000 in
theorem c_M_typeOf {Z : zT} {D : va_G} {cs : Nat → ClassId} {a : Nat → Nat} (hw : wD (mW a cs)) (hz : zOK Z) (l : Launch) {u : St} {x1 : Int32} {r : Int32} {u' : St} (hk : f_M_typeOf u x1 = some (r, u')) : KI clA D cs (mW a cs) Z l y_M_typeOf (.code y_M_typeOf prog_9_method_31_code 2 (Option.some Jvm.ClassFile.FieldType.int)) rm_M_typeOf [.ref (a 0), .int x1] u r u' := by
  unfold f_M_typeOf at hk
  refine KI.of (by decide) (Nat.le_of_ble_eq_true rfl) rfl hw hz ?_
  intro p e s m args below meth c Q C I hQ ls hl
  have hl : lv_has ls 2 [(0, .ref (a 0)), (1, .int x1)] := hl
  have hx := C.1.1
  have hb := C.1.2.1
  refine lv_aload_n hx hb d_M_typeOf_0 rfl (lv_at hl 0 rfl) ?_
  refine lv_aload_n hx hb d_M_typeOf_1 rfl (lv_at hl 0 rfl) ?_
  refine g_M_begins C I k_703 d_M_typeOf_2 ?_
  refine lv_aload_n hx hb d_M_typeOf_5 rfl (lv_at hl 0 rfl) ?_
  refine lv_aload_n hx hb d_M_typeOf_6 rfl (lv_at hl 0 rfl) ?_
  refine g_M_begins C I k_703 d_M_typeOf_7 ?_
  refine lv_iload_n hx hb d_M_typeOf_10 rfl (lv_at hl 1 rfl) ?_
  obtain ⟨hi, hk⟩ := gd_u hk
  refine l_M_begins C I hi d_M_typeOf_11 ?_
  refine lv_iconst (v := 3) hx hb d_M_typeOf_12 (by decide) ?_
  refine lv_iadd hx hb d_M_typeOf_13 ?_
  obtain ⟨r3, u1, h2, hk⟩ := cI_u hk
  refine go_I I (call_runV (rest := [.ref (a 3), .ref (a 0)]) C I (c_M_two C.2.2.2.1 C.2.2.2.2.1 l h2 _) wd_M_two (q0 := 0) (ci := 7) rfl rfl k_859 ⟨rfl, rfl⟩ ⟨by decide, by decide⟩ rfl hl.1 rfl (Nat.le_of_ble_eq_true rfl) d_M_typeOf_14) (fun H locs I => ?_)
  obtain ⟨hi, hk⟩ := gd_u hk
  refine l_M_begins C I hi d_M_typeOf_17 ?_
  refine lv_iconst (v := 3) hx hb d_M_typeOf_18 (by decide) ?_
  refine lv_iadd hx hb d_M_typeOf_19 ?_
  obtain ⟨r6, u4, h5, hk⟩ := cI_u hk
  refine go_I I (call_runV (rest := []) C I (c_M_two C.2.2.2.1 C.2.2.2.2.1 l h5 _) wd_M_two (q0 := 0) (ci := 7) rfl rfl k_859 ⟨rfl, rfl⟩ ⟨by decide, by decide⟩ rfl hl.1 rfl (Nat.le_of_ble_eq_true rfl) d_M_typeOf_20) (fun H locs I => ?_)
  exact hQ _ _ _ _ _ _ I hk d_M_typeOf_23
def rm_M_textOf : Room := { frames := 1, cells := 0, slots := 0, locals := 21 }
noncomputable def f_M_textOf (u : St) (x1 : Int32) : Option (Int32 × St) := gd x1 300 (cI (f_M_two u ((u.2 2 x1.toNatClampNeg) + 1)) fun r3 u1 => some (r3, u1))
set_option maxHeartbeats 4000000 in
set_option maxRecDepth 100000 in
theorem c_M_textOf {Z : zT} {D : va_G} {cs : Nat → ClassId} {a : Nat → Nat} (hw : wD (mW a cs)) (hz : zOK Z) (l : Launch) {u : St} {x1 : Int32} {r : Int32} {u' : St} (hk : f_M_textOf u x1 = some (r, u')) : KI clA D cs (mW a cs) Z l y_M_textOf (.code y_M_textOf prog_9_method_32_code 2 (Option.some Jvm.ClassFile.FieldType.int)) rm_M_textOf [.ref (a 0), .int x1] u r u' := by
  unfold f_M_textOf at hk
  refine KI.of (by decide) (Nat.le_of_ble_eq_true rfl) rfl hw hz ?_
  intro p e s m args below meth c Q C I hQ ls hl
  have hl : lv_has ls 2 [(0, .ref (a 0)), (1, .int x1)] := hl
  have hx := C.1.1
  have hb := C.1.2.1
  refine lv_aload_n hx hb d_M_textOf_0 rfl (lv_at hl 0 rfl) ?_
  refine lv_aload_n hx hb d_M_textOf_1 rfl (lv_at hl 0 rfl) ?_
  refine g_M_begins C I k_703 d_M_textOf_2 ?_
  refine lv_iload_n hx hb d_M_textOf_5 rfl (lv_at hl 1 rfl) ?_
  obtain ⟨hi, hk⟩ := gd_u hk
  refine l_M_begins C I hi d_M_textOf_6 ?_
  refine lv_iconst (v := 1) hx hb d_M_textOf_7 (by decide) ?_
  refine lv_iadd hx hb d_M_textOf_8 ?_
  obtain ⟨r3, u1, h2, hk⟩ := cI_u hk
  refine go_I I (call_runV (rest := []) C I (c_M_two C.2.2.2.1 C.2.2.2.2.1 l h2 _) wd_M_two (q0 := 0) (ci := 7) rfl rfl k_859 ⟨rfl, rfl⟩ ⟨by decide, by decide⟩ rfl hl.1 rfl (Nat.le_of_ble_eq_true rfl) d_M_textOf_9) (fun H locs I => ?_)
  exact hQ _ _ _ _ _ _ I hk d_M_textOf_12
