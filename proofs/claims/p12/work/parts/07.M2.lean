theorem d_M_byteOf_0 : decode prog_9_method_48_code 0 = .ok (.aload_n 0, 1) := by decide +kernel
theorem d_M_byteOf_1 : decode prog_9_method_48_code 1 = .ok (.getfield 7, 3) := by decide +kernel
theorem d_M_byteOf_4 : decode prog_9_method_48_code 4 = .ok (.iload_n 1, 1) := by decide +kernel
theorem d_M_byteOf_5 : decode prog_9_method_48_code 5 = .ok (.baload, 1) := by decide +kernel
theorem d_M_byteOf_6 : decode prog_9_method_48_code 6 = .ok (.sipush 255, 3) := by decide +kernel
theorem d_M_byteOf_9 : decode prog_9_method_48_code 9 = .ok (.iand, 1) := by decide +kernel
theorem d_M_byteOf_10 : decode prog_9_method_48_code 10 = .ok (.ireturn, 1) := by decide +kernel
theorem d_M_four_0 : decode prog_9_method_49_code 0 = .ok (.aload_n 0, 1) := by decide +kernel
theorem d_M_four_1 : decode prog_9_method_49_code 1 = .ok (.iload_n 1, 1) := by decide +kernel
theorem d_M_four_2 : decode prog_9_method_49_code 2 = .ok (.invokevirtual 76, 3) := by decide +kernel
theorem d_M_four_5 : decode prog_9_method_49_code 5 = .ok (.bipush 16, 2) := by decide +kernel
theorem d_M_four_7 : decode prog_9_method_49_code 7 = .ok (.ishl, 1) := by decide +kernel
theorem d_M_four_8 : decode prog_9_method_49_code 8 = .ok (.aload_n 0, 1) := by decide +kernel
theorem d_M_four_9 : decode prog_9_method_49_code 9 = .ok (.iload_n 1, 1) := by decide +kernel
theorem d_M_four_10 : decode prog_9_method_49_code 10 = .ok (.iconst 2, 1) := by decide +kernel
theorem d_M_four_11 : decode prog_9_method_49_code 11 = .ok (.iadd, 1) := by decide +kernel
theorem d_M_four_12 : decode prog_9_method_49_code 12 = .ok (.invokevirtual 76, 3) := by decide +kernel
theorem d_M_four_15 : decode prog_9_method_49_code 15 = .ok (.ior, 1) := by decide +kernel
theorem d_M_four_16 : decode prog_9_method_49_code 16 = .ok (.ireturn, 1) := by decide +kernel
theorem d_M_lengthOf_0 : decode prog_9_method_47_code 0 = .ok (.iload_n 0, 1) := by decide +kernel
theorem d_M_lengthOf_1 : decode prog_9_method_47_code 1 = .ok (.bipush 16, 2) := by decide +kernel
theorem d_M_lengthOf_3 : decode prog_9_method_47_code 3 = .ok (.if_icmp .eq 40, 3) := by decide +kernel
theorem d_M_lengthOf_6 : decode prog_9_method_47_code 6 = .ok (.iload_n 0, 1) := by decide +kernel
theorem d_M_lengthOf_7 : decode prog_9_method_47_code 7 = .ok (.bipush 18, 2) := by decide +kernel
theorem d_M_lengthOf_9 : decode prog_9_method_47_code 9 = .ok (.if_icmp .eq 34, 3) := by decide +kernel
theorem d_M_lengthOf_12 : decode prog_9_method_47_code 12 = .ok (.iload_n 0, 1) := by decide +kernel
theorem d_M_lengthOf_13 : decode prog_9_method_47_code 13 = .ok (.bipush 21, 2) := by decide +kernel
theorem d_M_lengthOf_15 : decode prog_9_method_47_code 15 = .ok (.if_icmp .lt 9, 3) := by decide +kernel
theorem d_M_lengthOf_18 : decode prog_9_method_47_code 18 = .ok (.iload_n 0, 1) := by decide +kernel
theorem d_M_lengthOf_19 : decode prog_9_method_47_code 19 = .ok (.bipush 25, 2) := by decide +kernel
theorem d_M_lengthOf_21 : decode prog_9_method_47_code 21 = .ok (.if_icmp .le 22, 3) := by decide +kernel
theorem d_M_lengthOf_24 : decode prog_9_method_47_code 24 = .ok (.iload_n 0, 1) := by decide +kernel
theorem d_M_lengthOf_25 : decode prog_9_method_47_code 25 = .ok (.bipush 54, 2) := by decide +kernel
theorem d_M_lengthOf_27 : decode prog_9_method_47_code 27 = .ok (.if_icmp .lt 9, 3) := by decide +kernel
theorem d_M_lengthOf_30 : decode prog_9_method_47_code 30 = .ok (.iload_n 0, 1) := by decide +kernel
theorem d_M_lengthOf_31 : decode prog_9_method_47_code 31 = .ok (.bipush 58, 2) := by decide +kernel
theorem d_M_lengthOf_33 : decode prog_9_method_47_code 33 = .ok (.if_icmp .le 10, 3) := by decide +kernel
theorem d_M_lengthOf_36 : decode prog_9_method_47_code 36 = .ok (.iload_n 0, 1) := by decide +kernel
theorem d_M_lengthOf_37 : decode prog_9_method_47_code 37 = .ok (.sipush 188, 3) := by decide +kernel
theorem d_M_lengthOf_40 : decode prog_9_method_47_code 40 = .ok (.if_icmp .ne 5, 3) := by decide +kernel
theorem d_M_lengthOf_43 : decode prog_9_method_47_code 43 = .ok (.iconst 2, 1) := by decide +kernel
theorem d_M_lengthOf_44 : decode prog_9_method_47_code 44 = .ok (.ireturn, 1) := by decide +kernel
theorem d_M_lengthOf_45 : decode prog_9_method_47_code 45 = .ok (.iload_n 0, 1) := by decide +kernel
theorem d_M_lengthOf_46 : decode prog_9_method_47_code 46 = .ok (.bipush 17, 2) := by decide +kernel
theorem d_M_lengthOf_48 : decode prog_9_method_47_code 48 = .ok (.if_icmp .eq 92, 3) := by decide +kernel
theorem d_M_lengthOf_51 : decode prog_9_method_47_code 51 = .ok (.iload_n 0, 1) := by decide +kernel
theorem d_M_lengthOf_52 : decode prog_9_method_47_code 52 = .ok (.bipush 19, 2) := by decide +kernel
theorem d_M_lengthOf_54 : decode prog_9_method_47_code 54 = .ok (.if_icmp .eq 86, 3) := by decide +kernel
theorem d_M_lengthOf_57 : decode prog_9_method_47_code 57 = .ok (.iload_n 0, 1) := by decide +kernel
theorem d_M_lengthOf_58 : decode prog_9_method_47_code 58 = .ok (.bipush 20, 2) := by decide +kernel
theorem d_M_lengthOf_60 : decode prog_9_method_47_code 60 = .ok (.if_icmp .eq 80, 3) := by decide +kernel
theorem d_M_lengthOf_63 : decode prog_9_method_47_code 63 = .ok (.iload_n 0, 1) := by decide +kernel
theorem d_M_lengthOf_64 : decode prog_9_method_47_code 64 = .ok (.sipush 132, 3) := by decide +kernel
theorem d_M_lengthOf_67 : decode prog_9_method_47_code 67 = .ok (.if_icmp .eq 73, 3) := by decide +kernel
theorem d_M_lengthOf_70 : decode prog_9_method_47_code 70 = .ok (.iload_n 0, 1) := by decide +kernel
theorem d_M_lengthOf_71 : decode prog_9_method_47_code 71 = .ok (.sipush 153, 3) := by decide +kernel
theorem d_M_lengthOf_74 : decode prog_9_method_47_code 74 = .ok (.if_icmp .lt 10, 3) := by decide +kernel
theorem d_M_lengthOf_77 : decode prog_9_method_47_code 77 = .ok (.iload_n 0, 1) := by decide +kernel
theorem d_M_lengthOf_78 : decode prog_9_method_47_code 78 = .ok (.sipush 167, 3) := by decide +kernel
theorem d_M_lengthOf_81 : decode prog_9_method_47_code 81 = .ok (.if_icmp .le 59, 3) := by decide +kernel
theorem d_M_lengthOf_84 : decode prog_9_method_47_code 84 = .ok (.iload_n 0, 1) := by decide +kernel
theorem d_M_lengthOf_85 : decode prog_9_method_47_code 85 = .ok (.sipush 178, 3) := by decide +kernel
theorem d_M_lengthOf_88 : decode prog_9_method_47_code 88 = .ok (.if_icmp .lt 10, 3) := by decide +kernel
theorem d_M_lengthOf_91 : decode prog_9_method_47_code 91 = .ok (.iload_n 0, 1) := by decide +kernel
theorem d_M_lengthOf_92 : decode prog_9_method_47_code 92 = .ok (.sipush 184, 3) := by decide +kernel
theorem d_M_lengthOf_95 : decode prog_9_method_47_code 95 = .ok (.if_icmp .le 45, 3) := by decide +kernel
theorem d_M_lengthOf_98 : decode prog_9_method_47_code 98 = .ok (.iload_n 0, 1) := by decide +kernel
theorem d_M_lengthOf_99 : decode prog_9_method_47_code 99 = .ok (.sipush 187, 3) := by decide +kernel
theorem d_M_lengthOf_102 : decode prog_9_method_47_code 102 = .ok (.if_icmp .eq 38, 3) := by decide +kernel
theorem d_M_lengthOf_105 : decode prog_9_method_47_code 105 = .ok (.iload_n 0, 1) := by decide +kernel
theorem d_M_lengthOf_106 : decode prog_9_method_47_code 106 = .ok (.sipush 189, 3) := by decide +kernel
theorem d_M_lengthOf_109 : decode prog_9_method_47_code 109 = .ok (.if_icmp .eq 31, 3) := by decide +kernel
theorem d_M_lengthOf_112 : decode prog_9_method_47_code 112 = .ok (.iload_n 0, 1) := by decide +kernel
theorem d_M_lengthOf_113 : decode prog_9_method_47_code 113 = .ok (.sipush 192, 3) := by decide +kernel
theorem d_M_lengthOf_116 : decode prog_9_method_47_code 116 = .ok (.if_icmp .eq 24, 3) := by decide +kernel
theorem d_M_lengthOf_119 : decode prog_9_method_47_code 119 = .ok (.iload_n 0, 1) := by decide +kernel
theorem d_M_lengthOf_120 : decode prog_9_method_47_code 120 = .ok (.sipush 193, 3) := by decide +kernel
theorem d_M_lengthOf_123 : decode prog_9_method_47_code 123 = .ok (.if_icmp .eq 17, 3) := by decide +kernel
theorem d_M_lengthOf_126 : decode prog_9_method_47_code 126 = .ok (.iload_n 0, 1) := by decide +kernel
theorem d_M_lengthOf_127 : decode prog_9_method_47_code 127 = .ok (.sipush 198, 3) := by decide +kernel
theorem d_M_lengthOf_130 : decode prog_9_method_47_code 130 = .ok (.if_icmp .eq 10, 3) := by decide +kernel
theorem d_M_lengthOf_133 : decode prog_9_method_47_code 133 = .ok (.iload_n 0, 1) := by decide +kernel
theorem d_M_lengthOf_134 : decode prog_9_method_47_code 134 = .ok (.sipush 199, 3) := by decide +kernel
theorem d_M_lengthOf_137 : decode prog_9_method_47_code 137 = .ok (.if_icmp .ne 5, 3) := by decide +kernel
theorem d_M_lengthOf_140 : decode prog_9_method_47_code 140 = .ok (.iconst 3, 1) := by decide +kernel
theorem d_M_lengthOf_141 : decode prog_9_method_47_code 141 = .ok (.ireturn, 1) := by decide +kernel
theorem d_M_lengthOf_142 : decode prog_9_method_47_code 142 = .ok (.iload_n 0, 1) := by decide +kernel
theorem d_M_lengthOf_143 : decode prog_9_method_47_code 143 = .ok (.sipush 197, 3) := by decide +kernel
theorem d_M_lengthOf_146 : decode prog_9_method_47_code 146 = .ok (.if_icmp .ne 5, 3) := by decide +kernel
theorem d_M_lengthOf_149 : decode prog_9_method_47_code 149 = .ok (.iconst 4, 1) := by decide +kernel
theorem d_M_lengthOf_150 : decode prog_9_method_47_code 150 = .ok (.ireturn, 1) := by decide +kernel
theorem d_M_lengthOf_151 : decode prog_9_method_47_code 151 = .ok (.iload_n 0, 1) := by decide +kernel
theorem d_M_lengthOf_152 : decode prog_9_method_47_code 152 = .ok (.sipush 185, 3) := by decide +kernel
theorem d_M_lengthOf_155 : decode prog_9_method_47_code 155 = .ok (.if_icmp .eq 10, 3) := by decide +kernel
theorem d_M_lengthOf_158 : decode prog_9_method_47_code 158 = .ok (.iload_n 0, 1) := by decide +kernel
theorem d_M_lengthOf_159 : decode prog_9_method_47_code 159 = .ok (.sipush 200, 3) := by decide +kernel
theorem d_M_lengthOf_162 : decode prog_9_method_47_code 162 = .ok (.if_icmp .ne 7, 3) := by decide +kernel
theorem d_M_lengthOf_165 : decode prog_9_method_47_code 165 = .ok (.iconst 5, 1) := by decide +kernel
theorem d_M_lengthOf_166 : decode prog_9_method_47_code 166 = .ok (.goto 4, 3) := by decide +kernel
theorem d_M_lengthOf_169 : decode prog_9_method_47_code 169 = .ok (.iconst 1, 1) := by decide +kernel
theorem d_M_lengthOf_170 : decode prog_9_method_47_code 170 = .ok (.ireturn, 1) := by decide +kernel
theorem d_M_numbersOf_0 : decode prog_9_method_50_code 0 = .ok (.iload_n 1, 1) := by decide +kernel
theorem d_M_numbersOf_1 : decode prog_9_method_50_code 1 = .ok (.iconst 4, 1) := by decide +kernel
theorem d_M_numbersOf_2 : decode prog_9_method_50_code 2 = .ok (.iadd, 1) := by decide +kernel
theorem d_M_numbersOf_3 : decode prog_9_method_50_code 3 = .ok (.iload_n 1, 1) := by decide +kernel
theorem d_M_numbersOf_4 : decode prog_9_method_50_code 4 = .ok (.aload_n 0, 1) := by decide +kernel
theorem d_M_numbersOf_5 : decode prog_9_method_50_code 5 = .ok (.getfield 261, 3) := by decide +kernel
theorem d_M_numbersOf_8 : decode prog_9_method_50_code 8 = .ok (.isub, 1) := by decide +kernel
theorem d_M_numbersOf_9 : decode prog_9_method_50_code 9 = .ok (.iconst 4, 1) := by decide +kernel
theorem d_M_numbersOf_10 : decode prog_9_method_50_code 10 = .ok (.irem, 1) := by decide +kernel
theorem d_M_numbersOf_11 : decode prog_9_method_50_code 11 = .ok (.isub, 1) := by decide +kernel
theorem d_M_numbersOf_12 : decode prog_9_method_50_code 12 = .ok (.ireturn, 1) := by decide +kernel
theorem d_M_after_0 : decode prog_9_method_51_code 0 = .ok (.aload_n 0, 1) := by decide +kernel
theorem d_M_after_1 : decode prog_9_method_51_code 1 = .ok (.iload_n 1, 1) := by decide +kernel
theorem d_M_after_2 : decode prog_9_method_51_code 2 = .ok (.invokevirtual 279, 3) := by decide +kernel
theorem d_M_after_5 : decode prog_9_method_51_code 5 = .ok (.istore_n 2, 1) := by decide +kernel
theorem d_M_after_6 : decode prog_9_method_51_code 6 = .ok (.iload_n 2, 1) := by decide +kernel
theorem d_M_after_7 : decode prog_9_method_51_code 7 = .ok (.sipush 196, 3) := by decide +kernel
theorem d_M_after_10 : decode prog_9_method_51_code 10 = .ok (.if_icmp .ne 25, 3) := by decide +kernel
theorem d_M_after_13 : decode prog_9_method_51_code 13 = .ok (.iload_n 1, 1) := by decide +kernel
theorem d_M_after_14 : decode prog_9_method_51_code 14 = .ok (.aload_n 0, 1) := by decide +kernel
theorem d_M_after_15 : decode prog_9_method_51_code 15 = .ok (.iload_n 1, 1) := by decide +kernel
theorem d_M_after_16 : decode prog_9_method_51_code 16 = .ok (.iconst 1, 1) := by decide +kernel
theorem d_M_after_17 : decode prog_9_method_51_code 17 = .ok (.iadd, 1) := by decide +kernel
theorem d_M_after_18 : decode prog_9_method_51_code 18 = .ok (.invokevirtual 279, 3) := by decide +kernel
theorem d_M_after_21 : decode prog_9_method_51_code 21 = .ok (.sipush 132, 3) := by decide +kernel
theorem d_M_after_24 : decode prog_9_method_51_code 24 = .ok (.if_icmp .ne 8, 3) := by decide +kernel
theorem d_M_after_27 : decode prog_9_method_51_code 27 = .ok (.bipush 6, 2) := by decide +kernel
theorem d_M_after_29 : decode prog_9_method_51_code 29 = .ok (.goto 4, 3) := by decide +kernel
theorem d_M_after_32 : decode prog_9_method_51_code 32 = .ok (.iconst 4, 1) := by decide +kernel
theorem d_M_after_33 : decode prog_9_method_51_code 33 = .ok (.iadd, 1) := by decide +kernel
theorem d_M_after_34 : decode prog_9_method_51_code 34 = .ok (.ireturn, 1) := by decide +kernel
theorem d_M_after_35 : decode prog_9_method_51_code 35 = .ok (.aload_n 0, 1) := by decide +kernel
theorem d_M_after_36 : decode prog_9_method_51_code 36 = .ok (.iload_n 1, 1) := by decide +kernel
theorem d_M_after_37 : decode prog_9_method_51_code 37 = .ok (.invokevirtual 282, 3) := by decide +kernel
theorem d_M_after_40 : decode prog_9_method_51_code 40 = .ok (.istore_n 3, 1) := by decide +kernel
theorem d_M_after_41 : decode prog_9_method_51_code 41 = .ok (.iload_n 2, 1) := by decide +kernel
theorem d_M_after_42 : decode prog_9_method_51_code 42 = .ok (.sipush 170, 3) := by decide +kernel
theorem d_M_after_45 : decode prog_9_method_51_code 45 = .ok (.if_icmp .ne 29, 3) := by decide +kernel
theorem d_M_after_48 : decode prog_9_method_51_code 48 = .ok (.iload_n 3, 1) := by decide +kernel
theorem d_M_after_49 : decode prog_9_method_51_code 49 = .ok (.bipush 12, 2) := by decide +kernel
theorem d_M_after_51 : decode prog_9_method_51_code 51 = .ok (.iadd, 1) := by decide +kernel
theorem d_M_after_52 : decode prog_9_method_51_code 52 = .ok (.iconst 4, 1) := by decide +kernel
theorem d_M_after_53 : decode prog_9_method_51_code 53 = .ok (.aload_n 0, 1) := by decide +kernel
theorem d_M_after_54 : decode prog_9_method_51_code 54 = .ok (.iload_n 3, 1) := by decide +kernel
theorem d_M_after_55 : decode prog_9_method_51_code 55 = .ok (.bipush 8, 2) := by decide +kernel
theorem d_M_after_57 : decode prog_9_method_51_code 57 = .ok (.iadd, 1) := by decide +kernel
theorem d_M_after_58 : decode prog_9_method_51_code 58 = .ok (.invokevirtual 285, 3) := by decide +kernel
theorem d_M_after_61 : decode prog_9_method_51_code 61 = .ok (.aload_n 0, 1) := by decide +kernel
theorem d_M_after_62 : decode prog_9_method_51_code 62 = .ok (.iload_n 3, 1) := by decide +kernel
theorem d_M_after_63 : decode prog_9_method_51_code 63 = .ok (.iconst 4, 1) := by decide +kernel
theorem d_M_after_64 : decode prog_9_method_51_code 64 = .ok (.iadd, 1) := by decide +kernel
theorem d_M_after_65 : decode prog_9_method_51_code 65 = .ok (.invokevirtual 285, 3) := by decide +kernel
theorem d_M_after_68 : decode prog_9_method_51_code 68 = .ok (.isub, 1) := by decide +kernel
theorem d_M_after_69 : decode prog_9_method_51_code 69 = .ok (.iconst 1, 1) := by decide +kernel
theorem d_M_after_70 : decode prog_9_method_51_code 70 = .ok (.iadd, 1) := by decide +kernel
theorem d_M_after_71 : decode prog_9_method_51_code 71 = .ok (.imul, 1) := by decide +kernel
theorem d_M_after_72 : decode prog_9_method_51_code 72 = .ok (.iadd, 1) := by decide +kernel
theorem d_M_after_73 : decode prog_9_method_51_code 73 = .ok (.ireturn, 1) := by decide +kernel
theorem d_M_after_74 : decode prog_9_method_51_code 74 = .ok (.iload_n 2, 1) := by decide +kernel
theorem d_M_after_75 : decode prog_9_method_51_code 75 = .ok (.sipush 171, 3) := by decide +kernel
theorem d_M_after_78 : decode prog_9_method_51_code 78 = .ok (.if_icmp .ne 19, 3) := by decide +kernel
theorem d_M_after_81 : decode prog_9_method_51_code 81 = .ok (.iload_n 3, 1) := by decide +kernel
theorem d_M_after_82 : decode prog_9_method_51_code 82 = .ok (.bipush 8, 2) := by decide +kernel
theorem d_M_after_84 : decode prog_9_method_51_code 84 = .ok (.iadd, 1) := by decide +kernel
theorem d_M_after_85 : decode prog_9_method_51_code 85 = .ok (.bipush 8, 2) := by decide +kernel
theorem d_M_after_87 : decode prog_9_method_51_code 87 = .ok (.aload_n 0, 1) := by decide +kernel
theorem d_M_after_88 : decode prog_9_method_51_code 88 = .ok (.iload_n 3, 1) := by decide +kernel
theorem d_M_after_89 : decode prog_9_method_51_code 89 = .ok (.iconst 4, 1) := by decide +kernel
theorem d_M_after_90 : decode prog_9_method_51_code 90 = .ok (.iadd, 1) := by decide +kernel
theorem d_M_after_91 : decode prog_9_method_51_code 91 = .ok (.invokevirtual 285, 3) := by decide +kernel
theorem d_M_after_94 : decode prog_9_method_51_code 94 = .ok (.imul, 1) := by decide +kernel
theorem d_M_after_95 : decode prog_9_method_51_code 95 = .ok (.iadd, 1) := by decide +kernel
theorem d_M_after_96 : decode prog_9_method_51_code 96 = .ok (.ireturn, 1) := by decide +kernel
theorem d_M_after_97 : decode prog_9_method_51_code 97 = .ok (.iload_n 1, 1) := by decide +kernel
theorem d_M_after_98 : decode prog_9_method_51_code 98 = .ok (.iload_n 2, 1) := by decide +kernel
theorem d_M_after_99 : decode prog_9_method_51_code 99 = .ok (.invokestatic 288, 3) := by decide +kernel
theorem d_M_after_102 : decode prog_9_method_51_code 102 = .ok (.iadd, 1) := by decide +kernel
theorem d_M_after_103 : decode prog_9_method_51_code 103 = .ok (.ireturn, 1) := by decide +kernel
theorem d_M_handlers_0 : decode prog_9_method_45_code 0 = .ok (.aload_n 0, 1) := by decide +kernel
theorem d_M_handlers_1 : decode prog_9_method_45_code 1 = .ok (.getfield 63, 3) := by decide +kernel
theorem d_M_handlers_4 : decode prog_9_method_45_code 4 = .ok (.istore_n 1, 1) := by decide +kernel
theorem d_M_handlers_5 : decode prog_9_method_45_code 5 = .ok (.aload_n 0, 1) := by decide +kernel
theorem d_M_handlers_6 : decode prog_9_method_45_code 6 = .ok (.invokevirtual 73, 3) := by decide +kernel
theorem d_M_handlers_9 : decode prog_9_method_45_code 9 = .ok (.istore_n 2, 1) := by decide +kernel
theorem d_M_handlers_10 : decode prog_9_method_45_code 10 = .ok (.aload_n 0, 1) := by decide +kernel
theorem d_M_handlers_11 : decode prog_9_method_45_code 11 = .ok (.iload_n 2, 1) := by decide +kernel
theorem d_M_handlers_12 : decode prog_9_method_45_code 12 = .ok (.bipush 30, 2) := by decide +kernel
theorem d_M_handlers_14 : decode prog_9_method_45_code 14 = .ok (.if_icmp .gt 7, 3) := by decide +kernel
theorem d_M_handlers_17 : decode prog_9_method_45_code 17 = .ok (.iconst 1, 1) := by decide +kernel
theorem d_M_handlers_18 : decode prog_9_method_45_code 18 = .ok (.goto 4, 3) := by decide +kernel
theorem d_M_handlers_21 : decode prog_9_method_45_code 21 = .ok (.iconst 0, 1) := by decide +kernel
theorem d_M_handlers_22 : decode prog_9_method_45_code 22 = .ok (.bipush 15, 2) := by decide +kernel
theorem d_M_handlers_24 : decode prog_9_method_45_code 24 = .ok (.iload_n 1, 1) := by decide +kernel
theorem d_M_handlers_25 : decode prog_9_method_45_code 25 = .ok (.invokevirtual 115, 3) := by decide +kernel
theorem d_M_handlers_28 : decode prog_9_method_45_code 28 = .ok (.pop, 1) := by decide +kernel
theorem d_M_handlers_29 : decode prog_9_method_45_code 29 = .ok (.iconst 0, 1) := by decide +kernel
theorem d_M_handlers_30 : decode prog_9_method_45_code 30 = .ok (.istore_n 3, 1) := by decide +kernel
theorem d_M_handlers_31 : decode prog_9_method_45_code 31 = .ok (.iload_n 3, 1) := by decide +kernel
theorem d_M_handlers_32 : decode prog_9_method_45_code 32 = .ok (.iload_n 2, 1) := by decide +kernel
theorem d_M_handlers_33 : decode prog_9_method_45_code 33 = .ok (.if_icmp .ge 195, 3) := by decide +kernel
theorem d_M_handlers_36 : decode prog_9_method_45_code 36 = .ok (.aload_n 0, 1) := by decide +kernel
theorem d_M_handlers_37 : decode prog_9_method_45_code 37 = .ok (.invokevirtual 55, 3) := by decide +kernel
theorem d_M_handlers_40 : decode prog_9_method_45_code 40 = .ok (.ifCond .eq 188, 3) := by decide +kernel
theorem d_M_handlers_43 : decode prog_9_method_45_code 43 = .ok (.aload_n 0, 1) := by decide +kernel
theorem d_M_handlers_44 : decode prog_9_method_45_code 44 = .ok (.getfield 63, 3) := by decide +kernel
theorem d_M_handlers_47 : decode prog_9_method_45_code 47 = .ok (.istore_n 1, 1) := by decide +kernel
theorem d_M_handlers_48 : decode prog_9_method_45_code 48 = .ok (.aload_n 0, 1) := by decide +kernel
theorem d_M_handlers_49 : decode prog_9_method_45_code 49 = .ok (.invokevirtual 73, 3) := by decide +kernel
theorem d_M_handlers_52 : decode prog_9_method_45_code 52 = .ok (.istore 4, 2) := by decide +kernel
theorem d_M_handlers_54 : decode prog_9_method_45_code 54 = .ok (.aload_n 0, 1) := by decide +kernel
theorem d_M_handlers_55 : decode prog_9_method_45_code 55 = .ok (.invokevirtual 73, 3) := by decide +kernel
theorem d_M_handlers_58 : decode prog_9_method_45_code 58 = .ok (.istore 5, 2) := by decide +kernel
theorem d_M_handlers_60 : decode prog_9_method_45_code 60 = .ok (.aload_n 0, 1) := by decide +kernel
theorem d_M_handlers_61 : decode prog_9_method_45_code 61 = .ok (.invokevirtual 73, 3) := by decide +kernel
theorem d_M_handlers_64 : decode prog_9_method_45_code 64 = .ok (.istore 6, 2) := by decide +kernel
theorem d_M_handlers_66 : decode prog_9_method_45_code 66 = .ok (.aload_n 0, 1) := by decide +kernel
theorem d_M_handlers_67 : decode prog_9_method_45_code 67 = .ok (.getfield 63, 3) := by decide +kernel
theorem d_M_handlers_70 : decode prog_9_method_45_code 70 = .ok (.istore 7, 2) := by decide +kernel
theorem d_M_handlers_72 : decode prog_9_method_45_code 72 = .ok (.aload_n 0, 1) := by decide +kernel
theorem d_M_handlers_73 : decode prog_9_method_45_code 73 = .ok (.invokevirtual 73, 3) := by decide +kernel
theorem d_M_handlers_76 : decode prog_9_method_45_code 76 = .ok (.istore 8, 2) := by decide +kernel
theorem d_M_handlers_78 : decode prog_9_method_45_code 78 = .ok (.aload_n 0, 1) := by decide +kernel
theorem d_M_handlers_79 : decode prog_9_method_45_code 79 = .ok (.invokevirtual 55, 3) := by decide +kernel
theorem d_M_handlers_82 : decode prog_9_method_45_code 82 = .ok (.ifCond .ne 4, 3) := by decide +kernel
theorem d_M_handlers_85 : decode prog_9_method_45_code 85 = .ok (.return_, 1) := by decide +kernel
theorem d_M_handlers_86 : decode prog_9_method_45_code 86 = .ok (.aload_n 0, 1) := by decide +kernel
theorem d_M_handlers_87 : decode prog_9_method_45_code 87 = .ok (.getfield 264, 3) := by decide +kernel
theorem d_M_handlers_90 : decode prog_9_method_45_code 90 = .ok (.aload_n 0, 1) := by decide +kernel
theorem d_M_handlers_91 : decode prog_9_method_45_code 91 = .ok (.getfield 261, 3) := by decide +kernel
theorem d_M_handlers_94 : decode prog_9_method_45_code 94 = .ok (.isub, 1) := by decide +kernel
theorem d_M_handlers_95 : decode prog_9_method_45_code 95 = .ok (.istore 9, 2) := by decide +kernel
theorem d_M_handlers_97 : decode prog_9_method_45_code 97 = .ok (.iload 4, 2) := by decide +kernel
theorem d_M_handlers_99 : decode prog_9_method_45_code 99 = .ok (.iload 5, 2) := by decide +kernel
theorem d_M_handlers_101 : decode prog_9_method_45_code 101 = .ok (.if_icmp .ge 65, 3) := by decide +kernel
theorem d_M_handlers_104 : decode prog_9_method_45_code 104 = .ok (.iload 4, 2) := by decide +kernel
theorem d_M_handlers_106 : decode prog_9_method_45_code 106 = .ok (.iload 9, 2) := by decide +kernel
theorem d_M_handlers_108 : decode prog_9_method_45_code 108 = .ok (.if_icmp .ge 58, 3) := by decide +kernel
theorem d_M_handlers_111 : decode prog_9_method_45_code 111 = .ok (.aload_n 0, 1) := by decide +kernel
theorem d_M_handlers_112 : decode prog_9_method_45_code 112 = .ok (.getfield 32, 3) := by decide +kernel
theorem d_M_handlers_115 : decode prog_9_method_45_code 115 = .ok (.iload 4, 2) := by decide +kernel
theorem d_M_handlers_117 : decode prog_9_method_45_code 117 = .ok (.baload, 1) := by decide +kernel
theorem d_M_handlers_118 : decode prog_9_method_45_code 118 = .ok (.ifCond .eq 48, 3) := by decide +kernel
theorem d_M_handlers_121 : decode prog_9_method_45_code 121 = .ok (.iload 6, 2) := by decide +kernel
theorem d_M_handlers_123 : decode prog_9_method_45_code 123 = .ok (.iload 9, 2) := by decide +kernel
theorem d_M_handlers_125 : decode prog_9_method_45_code 125 = .ok (.if_icmp .ge 41, 3) := by decide +kernel
theorem d_M_handlers_128 : decode prog_9_method_45_code 128 = .ok (.aload_n 0, 1) := by decide +kernel
theorem d_M_handlers_129 : decode prog_9_method_45_code 129 = .ok (.getfield 32, 3) := by decide +kernel
theorem d_M_handlers_132 : decode prog_9_method_45_code 132 = .ok (.iload 6, 2) := by decide +kernel
theorem d_M_handlers_134 : decode prog_9_method_45_code 134 = .ok (.baload, 1) := by decide +kernel
theorem d_M_handlers_135 : decode prog_9_method_45_code 135 = .ok (.ifCond .eq 31, 3) := by decide +kernel
theorem d_M_handlers_138 : decode prog_9_method_45_code 138 = .ok (.iload 5, 2) := by decide +kernel
theorem d_M_handlers_140 : decode prog_9_method_45_code 140 = .ok (.iload 9, 2) := by decide +kernel
theorem d_M_handlers_142 : decode prog_9_method_45_code 142 = .ok (.if_icmp .gt 24, 3) := by decide +kernel
theorem d_M_handlers_145 : decode prog_9_method_45_code 145 = .ok (.iload 5, 2) := by decide +kernel
theorem d_M_handlers_147 : decode prog_9_method_45_code 147 = .ok (.iload 9, 2) := by decide +kernel
theorem d_M_handlers_149 : decode prog_9_method_45_code 149 = .ok (.if_icmp .eq 13, 3) := by decide +kernel
theorem d_M_handlers_152 : decode prog_9_method_45_code 152 = .ok (.aload_n 0, 1) := by decide +kernel
theorem d_M_handlers_153 : decode prog_9_method_45_code 153 = .ok (.getfield 32, 3) := by decide +kernel
theorem d_M_handlers_156 : decode prog_9_method_45_code 156 = .ok (.iload 5, 2) := by decide +kernel
theorem d_M_handlers_158 : decode prog_9_method_45_code 158 = .ok (.baload, 1) := by decide +kernel
theorem d_M_handlers_159 : decode prog_9_method_45_code 159 = .ok (.ifCond .eq 7, 3) := by decide +kernel
theorem d_M_handlers_162 : decode prog_9_method_45_code 162 = .ok (.iconst 1, 1) := by decide +kernel
theorem d_M_handlers_163 : decode prog_9_method_45_code 163 = .ok (.goto 4, 3) := by decide +kernel
theorem d_M_handlers_166 : decode prog_9_method_45_code 166 = .ok (.iconst 0, 1) := by decide +kernel
theorem d_M_handlers_167 : decode prog_9_method_45_code 167 = .ok (.istore 10, 2) := by decide +kernel
theorem d_M_handlers_169 : decode prog_9_method_45_code 169 = .ok (.aload_n 0, 1) := by decide +kernel
theorem d_M_handlers_170 : decode prog_9_method_45_code 170 = .ok (.iload 10, 2) := by decide +kernel
theorem d_M_handlers_172 : decode prog_9_method_45_code 172 = .ok (.bipush 28, 2) := by decide +kernel
theorem d_M_handlers_174 : decode prog_9_method_45_code 174 = .ok (.iload_n 1, 1) := by decide +kernel
theorem d_M_handlers_175 : decode prog_9_method_45_code 175 = .ok (.invokevirtual 115, 3) := by decide +kernel
theorem d_M_handlers_178 : decode prog_9_method_45_code 178 = .ok (.ifCond .ne 4, 3) := by decide +kernel
theorem d_M_handlers_181 : decode prog_9_method_45_code 181 = .ok (.return_, 1) := by decide +kernel
theorem d_M_handlers_182 : decode prog_9_method_45_code 182 = .ok (.aload_n 0, 1) := by decide +kernel
theorem d_M_handlers_183 : decode prog_9_method_45_code 183 = .ok (.iload 8, 2) := by decide +kernel
theorem d_M_handlers_185 : decode prog_9_method_45_code 185 = .ok (.ifCond .eq 14, 3) := by decide +kernel
theorem d_M_handlers_188 : decode prog_9_method_45_code 188 = .ok (.aload_n 0, 1) := by decide +kernel
theorem d_M_handlers_189 : decode prog_9_method_45_code 189 = .ok (.iload 8, 2) := by decide +kernel
theorem d_M_handlers_191 : decode prog_9_method_45_code 191 = .ok (.bipush 7, 2) := by decide +kernel
theorem d_M_handlers_193 : decode prog_9_method_45_code 193 = .ok (.invokevirtual 112, 3) := by decide +kernel
theorem d_M_handlers_196 : decode prog_9_method_45_code 196 = .ok (.ifCond .eq 7, 3) := by decide +kernel
theorem d_M_handlers_199 : decode prog_9_method_45_code 199 = .ok (.iconst 1, 1) := by decide +kernel
theorem d_M_handlers_200 : decode prog_9_method_45_code 200 = .ok (.goto 4, 3) := by decide +kernel
theorem d_M_handlers_203 : decode prog_9_method_45_code 203 = .ok (.iconst 0, 1) := by decide +kernel
theorem d_M_handlers_204 : decode prog_9_method_45_code 204 = .ok (.bipush 8, 2) := by decide +kernel
theorem d_M_handlers_206 : decode prog_9_method_45_code 206 = .ok (.iload 7, 2) := by decide +kernel
theorem d_M_handlers_208 : decode prog_9_method_45_code 208 = .ok (.invokevirtual 115, 3) := by decide +kernel
theorem d_M_handlers_211 : decode prog_9_method_45_code 211 = .ok (.pop, 1) := by decide +kernel
theorem d_M_handlers_212 : decode prog_9_method_45_code 212 = .ok (.aload_n 0, 1) := by decide +kernel
theorem d_M_handlers_213 : decode prog_9_method_45_code 213 = .ok (.dup, 1) := by decide +kernel
theorem d_M_handlers_214 : decode prog_9_method_45_code 214 = .ok (.getfield 137, 3) := by decide +kernel
theorem d_M_handlers_217 : decode prog_9_method_45_code 217 = .ok (.iconst 1, 1) := by decide +kernel
theorem d_M_handlers_218 : decode prog_9_method_45_code 218 = .ok (.iadd, 1) := by decide +kernel
theorem d_M_handlers_219 : decode prog_9_method_45_code 219 = .ok (.putfield 137, 3) := by decide +kernel
theorem d_M_handlers_222 : decode prog_9_method_45_code 222 = .ok (.iinc 3 1, 3) := by decide +kernel
theorem d_M_handlers_225 : decode prog_9_method_45_code 225 = .ok (.goto (-194), 3) := by decide +kernel
theorem d_M_handlers_228 : decode prog_9_method_45_code 228 = .ok (.return_, 1) := by decide +kernel
theorem d_M_isThere_0 : decode prog_9_method_52_code 0 = .ok (.aload_n 0, 1) := by decide +kernel
theorem d_M_isThere_1 : decode prog_9_method_52_code 1 = .ok (.iload_n 2, 1) := by decide +kernel
theorem d_M_isThere_2 : decode prog_9_method_52_code 2 = .ok (.aload_n 0, 1) := by decide +kernel
theorem d_M_isThere_3 : decode prog_9_method_52_code 3 = .ok (.getfield 264, 3) := by decide +kernel
theorem d_M_isThere_6 : decode prog_9_method_52_code 6 = .ok (.if_icmp .gt 7, 3) := by decide +kernel
theorem d_M_isThere_9 : decode prog_9_method_52_code 9 = .ok (.iconst 1, 1) := by decide +kernel
theorem d_M_isThere_10 : decode prog_9_method_52_code 10 = .ok (.goto 4, 3) := by decide +kernel
theorem d_M_isThere_13 : decode prog_9_method_52_code 13 = .ok (.iconst 0, 1) := by decide +kernel
theorem d_M_isThere_14 : decode prog_9_method_52_code 14 = .ok (.bipush 25, 2) := by decide +kernel
theorem d_M_isThere_16 : decode prog_9_method_52_code 16 = .ok (.iload_n 1, 1) := by decide +kernel
theorem d_M_isThere_17 : decode prog_9_method_52_code 17 = .ok (.invokevirtual 115, 3) := by decide +kernel
theorem d_M_isThere_20 : decode prog_9_method_52_code 20 = .ok (.ireturn, 1) := by decide +kernel
theorem d_M_branches_0 : decode prog_9_method_55_code 0 = .ok (.aload_n 0, 1) := by decide +kernel
theorem d_M_branches_1 : decode prog_9_method_55_code 1 = .ok (.iload_n 1, 1) := by decide +kernel
theorem d_M_branches_2 : decode prog_9_method_55_code 2 = .ok (.invokevirtual 282, 3) := by decide +kernel
theorem d_M_branches_5 : decode prog_9_method_55_code 5 = .ok (.istore_n 3, 1) := by decide +kernel
theorem d_M_branches_6 : decode prog_9_method_55_code 6 = .ok (.iload_n 1, 1) := by decide +kernel
theorem d_M_branches_7 : decode prog_9_method_55_code 7 = .ok (.iconst 1, 1) := by decide +kernel
theorem d_M_branches_8 : decode prog_9_method_55_code 8 = .ok (.iadd, 1) := by decide +kernel
theorem d_M_branches_9 : decode prog_9_method_55_code 9 = .ok (.istore 4, 2) := by decide +kernel
theorem d_M_branches_11 : decode prog_9_method_55_code 11 = .ok (.iload 4, 2) := by decide +kernel
theorem d_M_branches_13 : decode prog_9_method_55_code 13 = .ok (.iload_n 3, 1) := by decide +kernel
theorem d_M_branches_14 : decode prog_9_method_55_code 14 = .ok (.if_icmp .ge 47, 3) := by decide +kernel
theorem d_M_branches_17 : decode prog_9_method_55_code 17 = .ok (.aload_n 0, 1) := by decide +kernel
theorem d_M_branches_18 : decode prog_9_method_55_code 18 = .ok (.iload_n 1, 1) := by decide +kernel
theorem d_M_branches_19 : decode prog_9_method_55_code 19 = .ok (.iload 4, 2) := by decide +kernel
theorem d_M_branches_21 : decode prog_9_method_55_code 21 = .ok (.iconst 1, 1) := by decide +kernel
theorem d_M_branches_22 : decode prog_9_method_55_code 22 = .ok (.iadd, 1) := by decide +kernel
theorem d_M_branches_23 : decode prog_9_method_55_code 23 = .ok (.invokevirtual 298, 3) := by decide +kernel
theorem d_M_branches_26 : decode prog_9_method_55_code 26 = .ok (.ifCond .eq 28, 3) := by decide +kernel
theorem d_M_branches_29 : decode prog_9_method_55_code 29 = .ok (.aload_n 0, 1) := by decide +kernel
theorem d_M_branches_30 : decode prog_9_method_55_code 30 = .ok (.aload_n 0, 1) := by decide +kernel
theorem d_M_branches_31 : decode prog_9_method_55_code 31 = .ok (.getfield 7, 3) := by decide +kernel
theorem d_M_branches_34 : decode prog_9_method_55_code 34 = .ok (.iload 4, 2) := by decide +kernel
theorem d_M_branches_36 : decode prog_9_method_55_code 36 = .ok (.baload, 1) := by decide +kernel
theorem d_M_branches_37 : decode prog_9_method_55_code 37 = .ok (.ifCond .ne 7, 3) := by decide +kernel
theorem d_M_branches_40 : decode prog_9_method_55_code 40 = .ok (.iconst 1, 1) := by decide +kernel
theorem d_M_branches_41 : decode prog_9_method_55_code 41 = .ok (.goto 4, 3) := by decide +kernel
theorem d_M_branches_44 : decode prog_9_method_55_code 44 = .ok (.iconst 0, 1) := by decide +kernel
theorem d_M_branches_45 : decode prog_9_method_55_code 45 = .ok (.bipush 24, 2) := by decide +kernel
theorem d_M_branches_47 : decode prog_9_method_55_code 47 = .ok (.iload_n 1, 1) := by decide +kernel
theorem d_M_branches_48 : decode prog_9_method_55_code 48 = .ok (.invokevirtual 115, 3) := by decide +kernel
theorem d_M_branches_51 : decode prog_9_method_55_code 51 = .ok (.ifCond .ne 4, 3) := by decide +kernel
theorem d_M_branches_54 : decode prog_9_method_55_code 54 = .ok (.return_, 1) := by decide +kernel
theorem d_M_branches_55 : decode prog_9_method_55_code 55 = .ok (.iinc 4 1, 3) := by decide +kernel
theorem d_M_branches_58 : decode prog_9_method_55_code 58 = .ok (.goto (-47), 3) := by decide +kernel
theorem d_M_branches_61 : decode prog_9_method_55_code 61 = .ok (.aload_n 0, 1) := by decide +kernel
theorem d_M_branches_62 : decode prog_9_method_55_code 62 = .ok (.iload_n 1, 1) := by decide +kernel
theorem d_M_branches_63 : decode prog_9_method_55_code 63 = .ok (.iload_n 3, 1) := by decide +kernel
theorem d_M_branches_64 : decode prog_9_method_55_code 64 = .ok (.iload_n 2, 1) := by decide +kernel
theorem d_M_branches_65 : decode prog_9_method_55_code 65 = .ok (.ifCond .eq 8, 3) := by decide +kernel
theorem d_M_branches_68 : decode prog_9_method_55_code 68 = .ok (.bipush 12, 2) := by decide +kernel
theorem d_M_branches_70 : decode prog_9_method_55_code 70 = .ok (.goto 5, 3) := by decide +kernel
theorem d_M_branches_73 : decode prog_9_method_55_code 73 = .ok (.bipush 8, 2) := by decide +kernel
theorem d_M_branches_75 : decode prog_9_method_55_code 75 = .ok (.iadd, 1) := by decide +kernel
theorem d_M_branches_76 : decode prog_9_method_55_code 76 = .ok (.invokevirtual 298, 3) := by decide +kernel
theorem d_M_branches_79 : decode prog_9_method_55_code 79 = .ok (.ifCond .ne 4, 3) := by decide +kernel
theorem d_M_branches_82 : decode prog_9_method_55_code 82 = .ok (.return_, 1) := by decide +kernel
theorem d_M_branches_83 : decode prog_9_method_55_code 83 = .ok (.aload_n 0, 1) := by decide +kernel
theorem d_M_branches_84 : decode prog_9_method_55_code 84 = .ok (.iload_n 3, 1) := by decide +kernel
theorem d_M_branches_85 : decode prog_9_method_55_code 85 = .ok (.iconst 4, 1) := by decide +kernel
theorem d_M_branches_86 : decode prog_9_method_55_code 86 = .ok (.iadd, 1) := by decide +kernel
theorem d_M_branches_87 : decode prog_9_method_55_code 87 = .ok (.invokevirtual 285, 3) := by decide +kernel
theorem d_M_branches_90 : decode prog_9_method_55_code 90 = .ok (.istore 4, 2) := by decide +kernel
theorem d_M_branches_92 : decode prog_9_method_55_code 92 = .ok (.iload_n 2, 1) := by decide +kernel
theorem d_M_branches_93 : decode prog_9_method_55_code 93 = .ok (.ifCond .eq 68, 3) := by decide +kernel
theorem d_M_branches_96 : decode prog_9_method_55_code 96 = .ok (.aload_n 0, 1) := by decide +kernel
theorem d_M_branches_97 : decode prog_9_method_55_code 97 = .ok (.iload_n 3, 1) := by decide +kernel
theorem d_M_branches_98 : decode prog_9_method_55_code 98 = .ok (.bipush 8, 2) := by decide +kernel
theorem d_M_branches_100 : decode prog_9_method_55_code 100 = .ok (.iadd, 1) := by decide +kernel
theorem d_M_branches_101 : decode prog_9_method_55_code 101 = .ok (.invokevirtual 285, 3) := by decide +kernel
theorem d_M_branches_104 : decode prog_9_method_55_code 104 = .ok (.i2l, 1) := by decide +kernel
theorem d_M_branches_105 : decode prog_9_method_55_code 105 = .ok (.iload 4, 2) := by decide +kernel
theorem d_M_branches_107 : decode prog_9_method_55_code 107 = .ok (.i2l, 1) := by decide +kernel
theorem d_M_branches_108 : decode prog_9_method_55_code 108 = .ok (.lsub, 1) := by decide +kernel
theorem d_M_branches_109 : decode prog_9_method_55_code 109 = .ok (.lconst 1, 1) := by decide +kernel
theorem d_M_branches_110 : decode prog_9_method_55_code 110 = .ok (.ladd, 1) := by decide +kernel
theorem d_M_branches_111 : decode prog_9_method_55_code 111 = .ok (.lstore 5, 2) := by decide +kernel
theorem d_M_branches_113 : decode prog_9_method_55_code 113 = .ok (.aload_n 0, 1) := by decide +kernel
theorem d_M_branches_114 : decode prog_9_method_55_code 114 = .ok (.lload 5, 2) := by decide +kernel
theorem d_M_branches_116 : decode prog_9_method_55_code 116 = .ok (.lconst 1, 1) := by decide +kernel
theorem d_M_branches_117 : decode prog_9_method_55_code 117 = .ok (.lcmp, 1) := by decide +kernel
theorem d_M_branches_118 : decode prog_9_method_55_code 118 = .ok (.ifCond .lt 16, 3) := by decide +kernel
theorem d_M_branches_121 : decode prog_9_method_55_code 121 = .ok (.lload 5, 2) := by decide +kernel
theorem d_M_branches_123 : decode prog_9_method_55_code 123 = .ok (.ldc2_w 308, 3) := by decide +kernel
theorem d_M_branches_126 : decode prog_9_method_55_code 126 = .ok (.lcmp, 1) := by decide +kernel
theorem d_M_branches_127 : decode prog_9_method_55_code 127 = .ok (.ifCond .gt 7, 3) := by decide +kernel
theorem d_M_branches_130 : decode prog_9_method_55_code 130 = .ok (.iconst 1, 1) := by decide +kernel
theorem d_M_branches_131 : decode prog_9_method_55_code 131 = .ok (.goto 4, 3) := by decide +kernel
theorem d_M_branches_134 : decode prog_9_method_55_code 134 = .ok (.iconst 0, 1) := by decide +kernel
theorem d_M_branches_135 : decode prog_9_method_55_code 135 = .ok (.bipush 24, 2) := by decide +kernel
theorem d_M_branches_137 : decode prog_9_method_55_code 137 = .ok (.iload_n 1, 1) := by decide +kernel
theorem d_M_branches_138 : decode prog_9_method_55_code 138 = .ok (.invokevirtual 115, 3) := by decide +kernel
theorem d_M_branches_141 : decode prog_9_method_55_code 141 = .ok (.ifCond .eq 19, 3) := by decide +kernel
theorem d_M_branches_144 : decode prog_9_method_55_code 144 = .ok (.aload_n 0, 1) := by decide +kernel
theorem d_M_branches_145 : decode prog_9_method_55_code 145 = .ok (.iload_n 1, 1) := by decide +kernel
theorem d_M_branches_146 : decode prog_9_method_55_code 146 = .ok (.iload_n 3, 1) := by decide +kernel
theorem d_M_branches_147 : decode prog_9_method_55_code 147 = .ok (.bipush 12, 2) := by decide +kernel
theorem d_M_branches_149 : decode prog_9_method_55_code 149 = .ok (.iadd, 1) := by decide +kernel
theorem d_M_branches_150 : decode prog_9_method_55_code 150 = .ok (.iconst 4, 1) := by decide +kernel
theorem d_M_branches_151 : decode prog_9_method_55_code 151 = .ok (.lload 5, 2) := by decide +kernel
theorem d_M_branches_153 : decode prog_9_method_55_code 153 = .ok (.l2i, 1) := by decide +kernel
theorem d_M_branches_154 : decode prog_9_method_55_code 154 = .ok (.imul, 1) := by decide +kernel
theorem d_M_branches_155 : decode prog_9_method_55_code 155 = .ok (.iadd, 1) := by decide +kernel
theorem d_M_branches_156 : decode prog_9_method_55_code 156 = .ok (.invokevirtual 298, 3) := by decide +kernel
theorem d_M_branches_159 : decode prog_9_method_55_code 159 = .ok (.pop, 1) := by decide +kernel
theorem d_M_branches_160 : decode prog_9_method_55_code 160 = .ok (.return_, 1) := by decide +kernel
theorem d_M_branches_161 : decode prog_9_method_55_code 161 = .ok (.aload_n 0, 1) := by decide +kernel
theorem d_M_branches_162 : decode prog_9_method_55_code 162 = .ok (.iload 4, 2) := by decide +kernel
theorem d_M_branches_164 : decode prog_9_method_55_code 164 = .ok (.ifCond .lt 15, 3) := by decide +kernel
theorem d_M_branches_167 : decode prog_9_method_55_code 167 = .ok (.iload 4, 2) := by decide +kernel
theorem d_M_branches_169 : decode prog_9_method_55_code 169 = .ok (.sipush 250, 3) := by decide +kernel
theorem d_M_branches_172 : decode prog_9_method_55_code 172 = .ok (.if_icmp .gt 7, 3) := by decide +kernel
theorem d_M_branches_175 : decode prog_9_method_55_code 175 = .ok (.iconst 1, 1) := by decide +kernel
theorem d_M_branches_176 : decode prog_9_method_55_code 176 = .ok (.goto 4, 3) := by decide +kernel
theorem d_M_branches_179 : decode prog_9_method_55_code 179 = .ok (.iconst 0, 1) := by decide +kernel
theorem d_M_branches_180 : decode prog_9_method_55_code 180 = .ok (.bipush 24, 2) := by decide +kernel
theorem d_M_branches_182 : decode prog_9_method_55_code 182 = .ok (.iload_n 1, 1) := by decide +kernel
theorem d_M_branches_183 : decode prog_9_method_55_code 183 = .ok (.invokevirtual 115, 3) := by decide +kernel
theorem d_M_branches_186 : decode prog_9_method_55_code 186 = .ok (.ifCond .ne 4, 3) := by decide +kernel
theorem d_M_branches_189 : decode prog_9_method_55_code 189 = .ok (.return_, 1) := by decide +kernel
theorem d_M_branches_190 : decode prog_9_method_55_code 190 = .ok (.iconst 0, 1) := by decide +kernel
theorem d_M_branches_191 : decode prog_9_method_55_code 191 = .ok (.istore 5, 2) := by decide +kernel
theorem d_M_branches_193 : decode prog_9_method_55_code 193 = .ok (.iload 5, 2) := by decide +kernel
theorem d_M_branches_195 : decode prog_9_method_55_code 195 = .ok (.iload 4, 2) := by decide +kernel
theorem d_M_branches_197 : decode prog_9_method_55_code 197 = .ok (.if_icmp .ge 85, 3) := by decide +kernel
theorem d_M_branches_200 : decode prog_9_method_55_code 200 = .ok (.iload_n 3, 1) := by decide +kernel
theorem d_M_branches_201 : decode prog_9_method_55_code 201 = .ok (.bipush 8, 2) := by decide +kernel
theorem d_M_branches_203 : decode prog_9_method_55_code 203 = .ok (.iadd, 1) := by decide +kernel
theorem d_M_branches_204 : decode prog_9_method_55_code 204 = .ok (.bipush 8, 2) := by decide +kernel
theorem d_M_branches_206 : decode prog_9_method_55_code 206 = .ok (.iload 5, 2) := by decide +kernel
theorem d_M_branches_208 : decode prog_9_method_55_code 208 = .ok (.imul, 1) := by decide +kernel
theorem d_M_branches_209 : decode prog_9_method_55_code 209 = .ok (.iadd, 1) := by decide +kernel
theorem d_M_branches_210 : decode prog_9_method_55_code 210 = .ok (.istore 6, 2) := by decide +kernel
theorem d_M_branches_212 : decode prog_9_method_55_code 212 = .ok (.aload_n 0, 1) := by decide +kernel
theorem d_M_branches_213 : decode prog_9_method_55_code 213 = .ok (.iload_n 1, 1) := by decide +kernel
theorem d_M_branches_214 : decode prog_9_method_55_code 214 = .ok (.iload 6, 2) := by decide +kernel
theorem d_M_branches_216 : decode prog_9_method_55_code 216 = .ok (.iconst 4, 1) := by decide +kernel
theorem d_M_branches_217 : decode prog_9_method_55_code 217 = .ok (.iadd, 1) := by decide +kernel
theorem d_M_branches_218 : decode prog_9_method_55_code 218 = .ok (.invokevirtual 298, 3) := by decide +kernel
theorem d_M_branches_221 : decode prog_9_method_55_code 221 = .ok (.ifCond .eq 54, 3) := by decide +kernel
theorem d_M_branches_224 : decode prog_9_method_55_code 224 = .ok (.iload 5, 2) := by decide +kernel
theorem d_M_branches_226 : decode prog_9_method_55_code 226 = .ok (.ifCond .le 36, 3) := by decide +kernel
theorem d_M_branches_229 : decode prog_9_method_55_code 229 = .ok (.aload_n 0, 1) := by decide +kernel
theorem d_M_branches_230 : decode prog_9_method_55_code 230 = .ok (.aload_n 0, 1) := by decide +kernel
theorem d_M_branches_231 : decode prog_9_method_55_code 231 = .ok (.iload 6, 2) := by decide +kernel
theorem d_M_branches_233 : decode prog_9_method_55_code 233 = .ok (.bipush 8, 2) := by decide +kernel
theorem d_M_branches_235 : decode prog_9_method_55_code 235 = .ok (.isub, 1) := by decide +kernel
theorem d_M_branches_236 : decode prog_9_method_55_code 236 = .ok (.invokevirtual 285, 3) := by decide +kernel
theorem d_M_branches_239 : decode prog_9_method_55_code 239 = .ok (.aload_n 0, 1) := by decide +kernel
theorem d_M_branches_240 : decode prog_9_method_55_code 240 = .ok (.iload 6, 2) := by decide +kernel
theorem d_M_branches_242 : decode prog_9_method_55_code 242 = .ok (.invokevirtual 285, 3) := by decide +kernel
theorem d_M_branches_245 : decode prog_9_method_55_code 245 = .ok (.if_icmp .ge 7, 3) := by decide +kernel
theorem d_M_branches_248 : decode prog_9_method_55_code 248 = .ok (.iconst 1, 1) := by decide +kernel
theorem d_M_branches_249 : decode prog_9_method_55_code 249 = .ok (.goto 4, 3) := by decide +kernel
theorem d_M_branches_252 : decode prog_9_method_55_code 252 = .ok (.iconst 0, 1) := by decide +kernel
theorem d_M_branches_253 : decode prog_9_method_55_code 253 = .ok (.bipush 24, 2) := by decide +kernel
theorem d_M_branches_255 : decode prog_9_method_55_code 255 = .ok (.iload_n 1, 1) := by decide +kernel
theorem d_M_branches_256 : decode prog_9_method_55_code 256 = .ok (.invokevirtual 115, 3) := by decide +kernel
theorem d_M_branches_259 : decode prog_9_method_55_code 259 = .ok (.ifCond .eq 16, 3) := by decide +kernel
theorem d_M_branches_262 : decode prog_9_method_55_code 262 = .ok (.aload_n 0, 1) := by decide +kernel
theorem d_M_branches_263 : decode prog_9_method_55_code 263 = .ok (.iload_n 1, 1) := by decide +kernel
theorem d_M_branches_264 : decode prog_9_method_55_code 264 = .ok (.iload 6, 2) := by decide +kernel
theorem d_M_branches_266 : decode prog_9_method_55_code 266 = .ok (.bipush 8, 2) := by decide +kernel
theorem d_M_branches_268 : decode prog_9_method_55_code 268 = .ok (.iadd, 1) := by decide +kernel
theorem d_M_branches_269 : decode prog_9_method_55_code 269 = .ok (.invokevirtual 298, 3) := by decide +kernel
theorem d_M_branches_272 : decode prog_9_method_55_code 272 = .ok (.ifCond .ne 4, 3) := by decide +kernel
theorem d_M_branches_275 : decode prog_9_method_55_code 275 = .ok (.return_, 1) := by decide +kernel
theorem d_M_branches_276 : decode prog_9_method_55_code 276 = .ok (.iinc 5 1, 3) := by decide +kernel
theorem d_M_branches_279 : decode prog_9_method_55_code 279 = .ok (.goto (-86), 3) := by decide +kernel
theorem d_M_branches_282 : decode prog_9_method_55_code 282 = .ok (.return_, 1) := by decide +kernel
theorem d_M_isBarred_0 : decode prog_9_method_46_code 0 = .ok (.iload_n 0, 1) := by decide +kernel
theorem d_M_isBarred_1 : decode prog_9_method_46_code 1 = .ok (.bipush 11, 2) := by decide +kernel
theorem d_M_isBarred_3 : decode prog_9_method_46_code 3 = .ok (.if_icmp .lt 9, 3) := by decide +kernel
theorem d_M_isBarred_6 : decode prog_9_method_46_code 6 = .ok (.iload_n 0, 1) := by decide +kernel
theorem d_M_isBarred_7 : decode prog_9_method_46_code 7 = .ok (.bipush 15, 2) := by decide +kernel
theorem d_M_isBarred_9 : decode prog_9_method_46_code 9 = .ok (.if_icmp .le 75, 3) := by decide +kernel
theorem d_M_isBarred_12 : decode prog_9_method_46_code 12 = .ok (.iload_n 0, 1) := by decide +kernel
theorem d_M_isBarred_13 : decode prog_9_method_46_code 13 = .ok (.bipush 23, 2) := by decide +kernel
theorem d_M_isBarred_15 : decode prog_9_method_46_code 15 = .ok (.if_icmp .eq 69, 3) := by decide +kernel
theorem d_M_isBarred_18 : decode prog_9_method_46_code 18 = .ok (.iload_n 0, 1) := by decide +kernel
theorem d_M_isBarred_19 : decode prog_9_method_46_code 19 = .ok (.bipush 24, 2) := by decide +kernel
theorem d_M_isBarred_21 : decode prog_9_method_46_code 21 = .ok (.if_icmp .eq 63, 3) := by decide +kernel
theorem d_M_isBarred_24 : decode prog_9_method_46_code 24 = .ok (.iload_n 0, 1) := by decide +kernel
theorem d_M_isBarred_25 : decode prog_9_method_46_code 25 = .ok (.bipush 34, 2) := by decide +kernel
theorem d_M_isBarred_27 : decode prog_9_method_46_code 27 = .ok (.if_icmp .lt 9, 3) := by decide +kernel
theorem d_M_isBarred_30 : decode prog_9_method_46_code 30 = .ok (.iload_n 0, 1) := by decide +kernel
theorem d_M_isBarred_31 : decode prog_9_method_46_code 31 = .ok (.bipush 41, 2) := by decide +kernel
theorem d_M_isBarred_33 : decode prog_9_method_46_code 33 = .ok (.if_icmp .le 51, 3) := by decide +kernel
theorem d_M_isBarred_36 : decode prog_9_method_46_code 36 = .ok (.iload_n 0, 1) := by decide +kernel
theorem d_M_isBarred_37 : decode prog_9_method_46_code 37 = .ok (.bipush 48, 2) := by decide +kernel
theorem d_M_isBarred_39 : decode prog_9_method_46_code 39 = .ok (.if_icmp .eq 45, 3) := by decide +kernel
theorem d_M_isBarred_42 : decode prog_9_method_46_code 42 = .ok (.iload_n 0, 1) := by decide +kernel
theorem d_M_isBarred_43 : decode prog_9_method_46_code 43 = .ok (.bipush 49, 2) := by decide +kernel
theorem d_M_isBarred_45 : decode prog_9_method_46_code 45 = .ok (.if_icmp .eq 39, 3) := by decide +kernel
theorem d_M_isBarred_48 : decode prog_9_method_46_code 48 = .ok (.iload_n 0, 1) := by decide +kernel
theorem d_M_isBarred_49 : decode prog_9_method_46_code 49 = .ok (.bipush 56, 2) := by decide +kernel
theorem d_M_isBarred_51 : decode prog_9_method_46_code 51 = .ok (.if_icmp .eq 33, 3) := by decide +kernel
theorem d_M_isBarred_54 : decode prog_9_method_46_code 54 = .ok (.iload_n 0, 1) := by decide +kernel
theorem d_M_isBarred_55 : decode prog_9_method_46_code 55 = .ok (.bipush 57, 2) := by decide +kernel
theorem d_M_isBarred_57 : decode prog_9_method_46_code 57 = .ok (.if_icmp .eq 27, 3) := by decide +kernel
theorem d_M_isBarred_60 : decode prog_9_method_46_code 60 = .ok (.iload_n 0, 1) := by decide +kernel
theorem d_M_isBarred_61 : decode prog_9_method_46_code 61 = .ok (.bipush 67, 2) := by decide +kernel
theorem d_M_isBarred_63 : decode prog_9_method_46_code 63 = .ok (.if_icmp .lt 9, 3) := by decide +kernel
theorem d_M_isBarred_66 : decode prog_9_method_46_code 66 = .ok (.iload_n 0, 1) := by decide +kernel
theorem d_M_isBarred_67 : decode prog_9_method_46_code 67 = .ok (.bipush 74, 2) := by decide +kernel
theorem d_M_isBarred_69 : decode prog_9_method_46_code 69 = .ok (.if_icmp .le 15, 3) := by decide +kernel
theorem d_M_isBarred_72 : decode prog_9_method_46_code 72 = .ok (.iload_n 0, 1) := by decide +kernel
theorem d_M_isBarred_73 : decode prog_9_method_46_code 73 = .ok (.bipush 81, 2) := by decide +kernel
theorem d_M_isBarred_75 : decode prog_9_method_46_code 75 = .ok (.if_icmp .eq 9, 3) := by decide +kernel
theorem d_M_isBarred_78 : decode prog_9_method_46_code 78 = .ok (.iload_n 0, 1) := by decide +kernel
theorem d_M_isBarred_79 : decode prog_9_method_46_code 79 = .ok (.bipush 82, 2) := by decide +kernel
theorem d_M_isBarred_81 : decode prog_9_method_46_code 81 = .ok (.if_icmp .ne 7, 3) := by decide +kernel
theorem d_M_isBarred_84 : decode prog_9_method_46_code 84 = .ok (.iconst 1, 1) := by decide +kernel
theorem d_M_isBarred_85 : decode prog_9_method_46_code 85 = .ok (.goto 4, 3) := by decide +kernel
theorem d_M_isBarred_88 : decode prog_9_method_46_code 88 = .ok (.iconst 0, 1) := by decide +kernel
theorem d_M_isBarred_89 : decode prog_9_method_46_code 89 = .ok (.istore_n 1, 1) := by decide +kernel
theorem d_M_isBarred_90 : decode prog_9_method_46_code 90 = .ok (.iload_n 1, 1) := by decide +kernel
theorem d_M_isBarred_91 : decode prog_9_method_46_code 91 = .ok (.iload_n 0, 1) := by decide +kernel
theorem d_M_isBarred_92 : decode prog_9_method_46_code 92 = .ok (.bipush 96, 2) := by decide +kernel
theorem d_M_isBarred_94 : decode prog_9_method_46_code 94 = .ok (.if_icmp .lt 20, 3) := by decide +kernel
theorem d_M_isBarred_97 : decode prog_9_method_46_code 97 = .ok (.iload_n 0, 1) := by decide +kernel
theorem d_M_isBarred_98 : decode prog_9_method_46_code 98 = .ok (.bipush 119, 2) := by decide +kernel
theorem d_M_isBarred_100 : decode prog_9_method_46_code 100 = .ok (.if_icmp .gt 14, 3) := by decide +kernel
theorem d_M_isBarred_103 : decode prog_9_method_46_code 103 = .ok (.iload_n 0, 1) := by decide +kernel
theorem d_M_isBarred_104 : decode prog_9_method_46_code 104 = .ok (.iconst 4, 1) := by decide +kernel
theorem d_M_isBarred_105 : decode prog_9_method_46_code 105 = .ok (.irem, 1) := by decide +kernel
theorem d_M_isBarred_106 : decode prog_9_method_46_code 106 = .ok (.iconst 2, 1) := by decide +kernel
theorem d_M_isBarred_107 : decode prog_9_method_46_code 107 = .ok (.if_icmp .lt 7, 3) := by decide +kernel
theorem d_M_isBarred_110 : decode prog_9_method_46_code 110 = .ok (.iconst 1, 1) := by decide +kernel
theorem d_M_isBarred_111 : decode prog_9_method_46_code 111 = .ok (.goto 4, 3) := by decide +kernel
theorem d_M_isBarred_114 : decode prog_9_method_46_code 114 = .ok (.iconst 0, 1) := by decide +kernel
theorem d_M_isBarred_115 : decode prog_9_method_46_code 115 = .ok (.ior, 1) := by decide +kernel
theorem d_M_isBarred_116 : decode prog_9_method_46_code 116 = .ok (.istore_n 1, 1) := by decide +kernel
theorem d_M_isBarred_117 : decode prog_9_method_46_code 117 = .ok (.iload_n 1, 1) := by decide +kernel
theorem d_M_isBarred_118 : decode prog_9_method_46_code 118 = .ok (.iload_n 0, 1) := by decide +kernel
theorem d_M_isBarred_119 : decode prog_9_method_46_code 119 = .ok (.sipush 134, 3) := by decide +kernel
theorem d_M_isBarred_122 : decode prog_9_method_46_code 122 = .ok (.if_icmp .eq 52, 3) := by decide +kernel
theorem d_M_isBarred_125 : decode prog_9_method_46_code 125 = .ok (.iload_n 0, 1) := by decide +kernel
theorem d_M_isBarred_126 : decode prog_9_method_46_code 126 = .ok (.sipush 135, 3) := by decide +kernel
theorem d_M_isBarred_129 : decode prog_9_method_46_code 129 = .ok (.if_icmp .eq 45, 3) := by decide +kernel
theorem d_M_isBarred_132 : decode prog_9_method_46_code 132 = .ok (.iload_n 0, 1) := by decide +kernel
theorem d_M_isBarred_133 : decode prog_9_method_46_code 133 = .ok (.sipush 137, 3) := by decide +kernel
theorem d_M_isBarred_136 : decode prog_9_method_46_code 136 = .ok (.if_icmp .lt 10, 3) := by decide +kernel
theorem d_M_isBarred_139 : decode prog_9_method_46_code 139 = .ok (.iload_n 0, 1) := by decide +kernel
theorem d_M_isBarred_140 : decode prog_9_method_46_code 140 = .ok (.sipush 144, 3) := by decide +kernel
theorem d_M_isBarred_143 : decode prog_9_method_46_code 143 = .ok (.if_icmp .le 31, 3) := by decide +kernel
theorem d_M_isBarred_146 : decode prog_9_method_46_code 146 = .ok (.iload_n 0, 1) := by decide +kernel
theorem d_M_isBarred_147 : decode prog_9_method_46_code 147 = .ok (.sipush 149, 3) := by decide +kernel
theorem d_M_isBarred_150 : decode prog_9_method_46_code 150 = .ok (.if_icmp .lt 10, 3) := by decide +kernel
theorem d_M_isBarred_153 : decode prog_9_method_46_code 153 = .ok (.iload_n 0, 1) := by decide +kernel
theorem d_M_isBarred_154 : decode prog_9_method_46_code 154 = .ok (.sipush 152, 3) := by decide +kernel
theorem d_M_isBarred_157 : decode prog_9_method_46_code 157 = .ok (.if_icmp .le 17, 3) := by decide +kernel
theorem d_M_isBarred_160 : decode prog_9_method_46_code 160 = .ok (.iload_n 0, 1) := by decide +kernel
theorem d_M_isBarred_161 : decode prog_9_method_46_code 161 = .ok (.sipush 174, 3) := by decide +kernel
theorem d_M_isBarred_164 : decode prog_9_method_46_code 164 = .ok (.if_icmp .eq 10, 3) := by decide +kernel
theorem d_M_isBarred_167 : decode prog_9_method_46_code 167 = .ok (.iload_n 0, 1) := by decide +kernel
theorem d_M_isBarred_168 : decode prog_9_method_46_code 168 = .ok (.sipush 175, 3) := by decide +kernel
theorem d_M_isBarred_171 : decode prog_9_method_46_code 171 = .ok (.if_icmp .ne 7, 3) := by decide +kernel
theorem d_M_isBarred_174 : decode prog_9_method_46_code 174 = .ok (.iconst 1, 1) := by decide +kernel
theorem d_M_isBarred_175 : decode prog_9_method_46_code 175 = .ok (.goto 4, 3) := by decide +kernel
theorem d_M_isBarred_178 : decode prog_9_method_46_code 178 = .ok (.iconst 0, 1) := by decide +kernel
theorem d_M_isBarred_179 : decode prog_9_method_46_code 179 = .ok (.ior, 1) := by decide +kernel
theorem d_M_isBarred_180 : decode prog_9_method_46_code 180 = .ok (.istore_n 1, 1) := by decide +kernel
theorem d_M_isBarred_181 : decode prog_9_method_46_code 181 = .ok (.iload_n 1, 1) := by decide +kernel
theorem d_M_isBarred_182 : decode prog_9_method_46_code 182 = .ok (.ifCond .ne 45, 3) := by decide +kernel
theorem d_M_isBarred_185 : decode prog_9_method_46_code 185 = .ok (.iload_n 0, 1) := by decide +kernel
theorem d_M_isBarred_186 : decode prog_9_method_46_code 186 = .ok (.sipush 168, 3) := by decide +kernel
theorem d_M_isBarred_189 : decode prog_9_method_46_code 189 = .ok (.if_icmp .eq 38, 3) := by decide +kernel
theorem d_M_isBarred_192 : decode prog_9_method_46_code 192 = .ok (.iload_n 0, 1) := by decide +kernel
theorem d_M_isBarred_193 : decode prog_9_method_46_code 193 = .ok (.sipush 169, 3) := by decide +kernel
theorem d_M_isBarred_196 : decode prog_9_method_46_code 196 = .ok (.if_icmp .eq 31, 3) := by decide +kernel
theorem d_M_isBarred_199 : decode prog_9_method_46_code 199 = .ok (.iload_n 0, 1) := by decide +kernel
theorem d_M_isBarred_200 : decode prog_9_method_46_code 200 = .ok (.sipush 186, 3) := by decide +kernel
theorem d_M_isBarred_203 : decode prog_9_method_46_code 203 = .ok (.if_icmp .eq 24, 3) := by decide +kernel
theorem d_M_isBarred_206 : decode prog_9_method_46_code 206 = .ok (.iload_n 0, 1) := by decide +kernel
theorem d_M_isBarred_207 : decode prog_9_method_46_code 207 = .ok (.sipush 194, 3) := by decide +kernel
theorem d_M_isBarred_210 : decode prog_9_method_46_code 210 = .ok (.if_icmp .eq 17, 3) := by decide +kernel
theorem d_M_isBarred_213 : decode prog_9_method_46_code 213 = .ok (.iload_n 0, 1) := by decide +kernel
theorem d_M_isBarred_214 : decode prog_9_method_46_code 214 = .ok (.sipush 195, 3) := by decide +kernel
theorem d_M_isBarred_217 : decode prog_9_method_46_code 217 = .ok (.if_icmp .eq 10, 3) := by decide +kernel
theorem d_M_isBarred_220 : decode prog_9_method_46_code 220 = .ok (.iload_n 0, 1) := by decide +kernel
theorem d_M_isBarred_221 : decode prog_9_method_46_code 221 = .ok (.sipush 200, 3) := by decide +kernel
theorem d_M_isBarred_224 : decode prog_9_method_46_code 224 = .ok (.if_icmp .le 7, 3) := by decide +kernel
theorem d_M_isBarred_227 : decode prog_9_method_46_code 227 = .ok (.iconst 1, 1) := by decide +kernel
theorem d_M_isBarred_228 : decode prog_9_method_46_code 228 = .ok (.goto 4, 3) := by decide +kernel
theorem d_M_isBarred_231 : decode prog_9_method_46_code 231 = .ok (.iconst 0, 1) := by decide +kernel
theorem d_M_isBarred_232 : decode prog_9_method_46_code 232 = .ok (.ireturn, 1) := by decide +kernel
theorem d_M_local_0 : decode prog_9_method_54_code 0 = .ok (.aload_n 0, 1) := by decide +kernel
theorem d_M_local_1 : decode prog_9_method_54_code 1 = .ok (.iload_n 3, 1) := by decide +kernel
theorem d_M_local_2 : decode prog_9_method_54_code 2 = .ok (.iload_n 2, 1) := by decide +kernel
theorem d_M_local_3 : decode prog_9_method_54_code 3 = .ok (.bipush 22, 2) := by decide +kernel
theorem d_M_local_5 : decode prog_9_method_54_code 5 = .ok (.if_icmp .eq 9, 3) := by decide +kernel
theorem d_M_local_8 : decode prog_9_method_54_code 8 = .ok (.iload_n 2, 1) := by decide +kernel
theorem d_M_local_9 : decode prog_9_method_54_code 9 = .ok (.bipush 55, 2) := by decide +kernel
theorem d_M_local_11 : decode prog_9_method_54_code 11 = .ok (.if_icmp .ne 7, 3) := by decide +kernel
theorem d_M_local_14 : decode prog_9_method_54_code 14 = .ok (.iconst 1, 1) := by decide +kernel
theorem d_M_local_15 : decode prog_9_method_54_code 15 = .ok (.goto 4, 3) := by decide +kernel
theorem d_M_local_18 : decode prog_9_method_54_code 18 = .ok (.iconst 0, 1) := by decide +kernel
theorem d_M_local_19 : decode prog_9_method_54_code 19 = .ok (.iadd, 1) := by decide +kernel
theorem d_M_local_20 : decode prog_9_method_54_code 20 = .ok (.aload_n 0, 1) := by decide +kernel
theorem d_M_local_21 : decode prog_9_method_54_code 21 = .ok (.getfield 256, 3) := by decide +kernel
theorem d_M_local_24 : decode prog_9_method_54_code 24 = .ok (.if_icmp .ge 7, 3) := by decide +kernel
theorem d_M_local_27 : decode prog_9_method_54_code 27 = .ok (.iconst 1, 1) := by decide +kernel
theorem d_M_local_28 : decode prog_9_method_54_code 28 = .ok (.goto 4, 3) := by decide +kernel
theorem d_M_local_31 : decode prog_9_method_54_code 31 = .ok (.iconst 0, 1) := by decide +kernel
theorem d_M_local_32 : decode prog_9_method_54_code 32 = .ok (.bipush 23, 2) := by decide +kernel
theorem d_M_local_34 : decode prog_9_method_54_code 34 = .ok (.iload_n 1, 1) := by decide +kernel
theorem d_M_local_35 : decode prog_9_method_54_code 35 = .ok (.invokevirtual 115, 3) := by decide +kernel
theorem d_M_local_38 : decode prog_9_method_54_code 38 = .ok (.pop, 1) := by decide +kernel
theorem d_M_local_39 : decode prog_9_method_54_code 39 = .ok (.return_, 1) := by decide +kernel
theorem d_M_invoke_0 : decode prog_9_method_57_code 0 = .ok (.iload_n 2, 1) := by decide +kernel
theorem d_M_invoke_1 : decode prog_9_method_57_code 1 = .ok (.sipush 185, 3) := by decide +kernel
theorem d_M_invoke_4 : decode prog_9_method_57_code 4 = .ok (.if_icmp .ne 13, 3) := by decide +kernel
theorem d_M_invoke_7 : decode prog_9_method_57_code 7 = .ok (.aload_n 0, 1) := by decide +kernel
theorem d_M_invoke_8 : decode prog_9_method_57_code 8 = .ok (.iload_n 3, 1) := by decide +kernel
theorem d_M_invoke_9 : decode prog_9_method_57_code 9 = .ok (.bipush 11, 2) := by decide +kernel
theorem d_M_invoke_11 : decode prog_9_method_57_code 11 = .ok (.invokevirtual 112, 3) := by decide +kernel
theorem d_M_invoke_14 : decode prog_9_method_57_code 14 = .ok (.goto 44, 3) := by decide +kernel
theorem d_M_invoke_17 : decode prog_9_method_57_code 17 = .ok (.aload_n 0, 1) := by decide +kernel
theorem d_M_invoke_18 : decode prog_9_method_57_code 18 = .ok (.iload_n 3, 1) := by decide +kernel
theorem d_M_invoke_19 : decode prog_9_method_57_code 19 = .ok (.bipush 10, 2) := by decide +kernel
theorem d_M_invoke_21 : decode prog_9_method_57_code 21 = .ok (.invokevirtual 112, 3) := by decide +kernel
theorem d_M_invoke_24 : decode prog_9_method_57_code 24 = .ok (.ifCond .ne 29, 3) := by decide +kernel
theorem d_M_invoke_27 : decode prog_9_method_57_code 27 = .ok (.iload_n 2, 1) := by decide +kernel
theorem d_M_invoke_28 : decode prog_9_method_57_code 28 = .ok (.sipush 182, 3) := by decide +kernel
theorem d_M_invoke_31 : decode prog_9_method_57_code 31 = .ok (.if_icmp .eq 26, 3) := by decide +kernel
theorem d_M_invoke_34 : decode prog_9_method_57_code 34 = .ok (.aload_n 0, 1) := by decide +kernel
theorem d_M_invoke_35 : decode prog_9_method_57_code 35 = .ok (.getfield 146, 3) := by decide +kernel
theorem d_M_invoke_38 : decode prog_9_method_57_code 38 = .ok (.bipush 52, 2) := by decide +kernel
theorem d_M_invoke_40 : decode prog_9_method_57_code 40 = .ok (.if_icmp .lt 17, 3) := by decide +kernel
theorem d_M_invoke_43 : decode prog_9_method_57_code 43 = .ok (.aload_n 0, 1) := by decide +kernel
theorem d_M_invoke_44 : decode prog_9_method_57_code 44 = .ok (.iload_n 3, 1) := by decide +kernel
theorem d_M_invoke_45 : decode prog_9_method_57_code 45 = .ok (.bipush 11, 2) := by decide +kernel
theorem d_M_invoke_47 : decode prog_9_method_57_code 47 = .ok (.invokevirtual 112, 3) := by decide +kernel
theorem d_M_invoke_50 : decode prog_9_method_57_code 50 = .ok (.ifCond .eq 7, 3) := by decide +kernel
theorem d_M_invoke_53 : decode prog_9_method_57_code 53 = .ok (.iconst 1, 1) := by decide +kernel
theorem d_M_invoke_54 : decode prog_9_method_57_code 54 = .ok (.goto 4, 3) := by decide +kernel
theorem d_M_invoke_57 : decode prog_9_method_57_code 57 = .ok (.iconst 0, 1) := by decide +kernel
theorem d_M_invoke_58 : decode prog_9_method_57_code 58 = .ok (.istore 4, 2) := by decide +kernel
theorem d_M_invoke_60 : decode prog_9_method_57_code 60 = .ok (.aload_n 0, 1) := by decide +kernel
theorem d_M_invoke_61 : decode prog_9_method_57_code 61 = .ok (.iload 4, 2) := by decide +kernel
theorem d_M_invoke_63 : decode prog_9_method_57_code 63 = .ok (.bipush 8, 2) := by decide +kernel
theorem d_M_invoke_65 : decode prog_9_method_57_code 65 = .ok (.iload_n 1, 1) := by decide +kernel
theorem d_M_invoke_66 : decode prog_9_method_57_code 66 = .ok (.invokevirtual 115, 3) := by decide +kernel
theorem d_M_invoke_69 : decode prog_9_method_57_code 69 = .ok (.ifCond .ne 4, 3) := by decide +kernel
theorem d_M_invoke_72 : decode prog_9_method_57_code 72 = .ok (.return_, 1) := by decide +kernel
theorem d_M_invoke_73 : decode prog_9_method_57_code 73 = .ok (.aload_n 0, 1) := by decide +kernel
theorem d_M_invoke_74 : decode prog_9_method_57_code 74 = .ok (.iload_n 2, 1) := by decide +kernel
theorem d_M_invoke_75 : decode prog_9_method_57_code 75 = .ok (.sipush 183, 3) := by decide +kernel
theorem d_M_invoke_78 : decode prog_9_method_57_code 78 = .ok (.if_icmp .eq 22, 3) := by decide +kernel
theorem d_M_invoke_81 : decode prog_9_method_57_code 81 = .ok (.aload_n 0, 1) := by decide +kernel
theorem d_M_invoke_82 : decode prog_9_method_57_code 82 = .ok (.aload_n 0, 1) := by decide +kernel
theorem d_M_invoke_83 : decode prog_9_method_57_code 83 = .ok (.iload_n 3, 1) := by decide +kernel
theorem d_M_invoke_84 : decode prog_9_method_57_code 84 = .ok (.invokevirtual 192, 3) := by decide +kernel
theorem d_M_invoke_87 : decode prog_9_method_57_code 87 = .ok (.bipush 6, 2) := by decide +kernel
theorem d_M_invoke_89 : decode prog_9_method_57_code 89 = .ok (.ldc2_w 178, 3) := by decide +kernel
theorem d_M_invoke_92 : decode prog_9_method_57_code 92 = .ok (.lconst 0, 1) := by decide +kernel
theorem d_M_invoke_93 : decode prog_9_method_57_code 93 = .ok (.lconst 0, 1) := by decide +kernel
theorem d_M_invoke_94 : decode prog_9_method_57_code 94 = .ok (.invokevirtual 180, 3) := by decide +kernel
theorem d_M_invoke_97 : decode prog_9_method_57_code 97 = .ok (.ifCond .ne 7, 3) := by decide +kernel
theorem d_M_invoke_100 : decode prog_9_method_57_code 100 = .ok (.iconst 1, 1) := by decide +kernel
theorem d_M_invoke_101 : decode prog_9_method_57_code 101 = .ok (.goto 4, 3) := by decide +kernel
theorem d_M_invoke_104 : decode prog_9_method_57_code 104 = .ok (.iconst 0, 1) := by decide +kernel
theorem d_M_invoke_105 : decode prog_9_method_57_code 105 = .ok (.bipush 24, 2) := by decide +kernel
theorem d_M_invoke_107 : decode prog_9_method_57_code 107 = .ok (.iload_n 1, 1) := by decide +kernel
theorem d_M_invoke_108 : decode prog_9_method_57_code 108 = .ok (.invokevirtual 115, 3) := by decide +kernel
theorem d_M_invoke_111 : decode prog_9_method_57_code 111 = .ok (.pop, 1) := by decide +kernel
theorem d_M_invoke_112 : decode prog_9_method_57_code 112 = .ok (.iload_n 2, 1) := by decide +kernel
theorem d_M_invoke_113 : decode prog_9_method_57_code 113 = .ok (.sipush 185, 3) := by decide +kernel
theorem d_M_invoke_116 : decode prog_9_method_57_code 116 = .ok (.if_icmp .eq 4, 3) := by decide +kernel
theorem d_M_invoke_119 : decode prog_9_method_57_code 119 = .ok (.return_, 1) := by decide +kernel
theorem d_M_invoke_120 : decode prog_9_method_57_code 120 = .ok (.aload_n 0, 1) := by decide +kernel
theorem d_M_invoke_121 : decode prog_9_method_57_code 121 = .ok (.aload_n 0, 1) := by decide +kernel
theorem d_M_invoke_122 : decode prog_9_method_57_code 122 = .ok (.iload_n 3, 1) := by decide +kernel
theorem d_M_invoke_123 : decode prog_9_method_57_code 123 = .ok (.invokevirtual 189, 3) := by decide +kernel
theorem d_M_invoke_126 : decode prog_9_method_57_code 126 = .ok (.invokevirtual 186, 3) := by decide +kernel
theorem d_M_invoke_129 : decode prog_9_method_57_code 129 = .ok (.istore 5, 2) := by decide +kernel
theorem d_M_invoke_131 : decode prog_9_method_57_code 131 = .ok (.aload_n 0, 1) := by decide +kernel
theorem d_M_invoke_132 : decode prog_9_method_57_code 132 = .ok (.iload 5, 2) := by decide +kernel
theorem d_M_invoke_134 : decode prog_9_method_57_code 134 = .ok (.ifCond .eq 33, 3) := by decide +kernel
theorem d_M_invoke_137 : decode prog_9_method_57_code 137 = .ok (.aload_n 0, 1) := by decide +kernel
theorem d_M_invoke_138 : decode prog_9_method_57_code 138 = .ok (.iload_n 1, 1) := by decide +kernel
theorem d_M_invoke_139 : decode prog_9_method_57_code 139 = .ok (.iconst 3, 1) := by decide +kernel
theorem d_M_invoke_140 : decode prog_9_method_57_code 140 = .ok (.iadd, 1) := by decide +kernel
theorem d_M_invoke_141 : decode prog_9_method_57_code 141 = .ok (.invokevirtual 279, 3) := by decide +kernel
theorem d_M_invoke_144 : decode prog_9_method_57_code 144 = .ok (.aload_n 0, 1) := by decide +kernel
theorem d_M_invoke_145 : decode prog_9_method_57_code 145 = .ok (.getfield 106, 3) := by decide +kernel
theorem d_M_invoke_148 : decode prog_9_method_57_code 148 = .ok (.iconst 1, 1) := by decide +kernel
theorem d_M_invoke_149 : decode prog_9_method_57_code 149 = .ok (.iadd, 1) := by decide +kernel
theorem d_M_invoke_150 : decode prog_9_method_57_code 150 = .ok (.if_icmp .ne 17, 3) := by decide +kernel
theorem d_M_invoke_153 : decode prog_9_method_57_code 153 = .ok (.aload_n 0, 1) := by decide +kernel
theorem d_M_invoke_154 : decode prog_9_method_57_code 154 = .ok (.iload_n 1, 1) := by decide +kernel
theorem d_M_invoke_155 : decode prog_9_method_57_code 155 = .ok (.iconst 4, 1) := by decide +kernel
theorem d_M_invoke_156 : decode prog_9_method_57_code 156 = .ok (.iadd, 1) := by decide +kernel
theorem d_M_invoke_157 : decode prog_9_method_57_code 157 = .ok (.invokevirtual 279, 3) := by decide +kernel
theorem d_M_invoke_160 : decode prog_9_method_57_code 160 = .ok (.ifCond .ne 7, 3) := by decide +kernel
theorem d_M_invoke_163 : decode prog_9_method_57_code 163 = .ok (.iconst 1, 1) := by decide +kernel
theorem d_M_invoke_164 : decode prog_9_method_57_code 164 = .ok (.goto 4, 3) := by decide +kernel
theorem d_M_invoke_167 : decode prog_9_method_57_code 167 = .ok (.iconst 0, 1) := by decide +kernel
theorem d_M_invoke_168 : decode prog_9_method_57_code 168 = .ok (.bipush 24, 2) := by decide +kernel
theorem d_M_invoke_170 : decode prog_9_method_57_code 170 = .ok (.iload_n 1, 1) := by decide +kernel
theorem d_M_invoke_171 : decode prog_9_method_57_code 171 = .ok (.invokevirtual 115, 3) := by decide +kernel
theorem d_M_invoke_174 : decode prog_9_method_57_code 174 = .ok (.pop, 1) := by decide +kernel
theorem d_M_invoke_175 : decode prog_9_method_57_code 175 = .ok (.return_, 1) := by decide +kernel
theorem d_M_plain_0 : decode prog_9_method_56_code 0 = .ok (.iload_n 2, 1) := by decide +kernel
theorem d_M_plain_1 : decode prog_9_method_56_code 1 = .ok (.bipush 21, 2) := by decide +kernel
theorem d_M_plain_3 : decode prog_9_method_56_code 3 = .ok (.if_icmp .lt 9, 3) := by decide +kernel
theorem d_M_plain_6 : decode prog_9_method_56_code 6 = .ok (.iload_n 2, 1) := by decide +kernel
theorem d_M_plain_7 : decode prog_9_method_56_code 7 = .ok (.bipush 25, 2) := by decide +kernel
theorem d_M_plain_9 : decode prog_9_method_56_code 9 = .ok (.if_icmp .le 15, 3) := by decide +kernel
theorem d_M_plain_12 : decode prog_9_method_56_code 12 = .ok (.iload_n 2, 1) := by decide +kernel
theorem d_M_plain_13 : decode prog_9_method_56_code 13 = .ok (.bipush 54, 2) := by decide +kernel
theorem d_M_plain_15 : decode prog_9_method_56_code 15 = .ok (.if_icmp .lt 22, 3) := by decide +kernel
theorem d_M_plain_18 : decode prog_9_method_56_code 18 = .ok (.iload_n 2, 1) := by decide +kernel
theorem d_M_plain_19 : decode prog_9_method_56_code 19 = .ok (.bipush 58, 2) := by decide +kernel
theorem d_M_plain_21 : decode prog_9_method_56_code 21 = .ok (.if_icmp .gt 16, 3) := by decide +kernel
theorem d_M_plain_24 : decode prog_9_method_56_code 24 = .ok (.aload_n 0, 1) := by decide +kernel
theorem d_M_plain_25 : decode prog_9_method_56_code 25 = .ok (.iload_n 1, 1) := by decide +kernel
theorem d_M_plain_26 : decode prog_9_method_56_code 26 = .ok (.iload_n 2, 1) := by decide +kernel
theorem d_M_plain_27 : decode prog_9_method_56_code 27 = .ok (.aload_n 0, 1) := by decide +kernel
theorem d_M_plain_28 : decode prog_9_method_56_code 28 = .ok (.iload_n 1, 1) := by decide +kernel
theorem d_M_plain_29 : decode prog_9_method_56_code 29 = .ok (.iconst 1, 1) := by decide +kernel
theorem d_M_plain_30 : decode prog_9_method_56_code 30 = .ok (.iadd, 1) := by decide +kernel
theorem d_M_plain_31 : decode prog_9_method_56_code 31 = .ok (.invokevirtual 279, 3) := by decide +kernel
theorem d_M_plain_34 : decode prog_9_method_56_code 34 = .ok (.invokevirtual 301, 3) := by decide +kernel
theorem d_M_plain_37 : decode prog_9_method_56_code 37 = .ok (.iload_n 2, 1) := by decide +kernel
theorem d_M_plain_38 : decode prog_9_method_56_code 38 = .ok (.bipush 26, 2) := by decide +kernel
theorem d_M_plain_40 : decode prog_9_method_56_code 40 = .ok (.if_icmp .lt 29, 3) := by decide +kernel
theorem d_M_plain_43 : decode prog_9_method_56_code 43 = .ok (.iload_n 2, 1) := by decide +kernel
theorem d_M_plain_44 : decode prog_9_method_56_code 44 = .ok (.bipush 45, 2) := by decide +kernel
theorem d_M_plain_46 : decode prog_9_method_56_code 46 = .ok (.if_icmp .gt 23, 3) := by decide +kernel
theorem d_M_plain_49 : decode prog_9_method_56_code 49 = .ok (.aload_n 0, 1) := by decide +kernel
theorem d_M_plain_50 : decode prog_9_method_56_code 50 = .ok (.iload_n 1, 1) := by decide +kernel
theorem d_M_plain_51 : decode prog_9_method_56_code 51 = .ok (.bipush 21, 2) := by decide +kernel
theorem d_M_plain_53 : decode prog_9_method_56_code 53 = .ok (.iload_n 2, 1) := by decide +kernel
theorem d_M_plain_54 : decode prog_9_method_56_code 54 = .ok (.bipush 26, 2) := by decide +kernel
theorem d_M_plain_56 : decode prog_9_method_56_code 56 = .ok (.isub, 1) := by decide +kernel
theorem d_M_plain_57 : decode prog_9_method_56_code 57 = .ok (.iconst 4, 1) := by decide +kernel
theorem d_M_plain_58 : decode prog_9_method_56_code 58 = .ok (.idiv, 1) := by decide +kernel
theorem d_M_plain_59 : decode prog_9_method_56_code 59 = .ok (.iadd, 1) := by decide +kernel
theorem d_M_plain_60 : decode prog_9_method_56_code 60 = .ok (.iload_n 2, 1) := by decide +kernel
theorem d_M_plain_61 : decode prog_9_method_56_code 61 = .ok (.bipush 26, 2) := by decide +kernel
theorem d_M_plain_63 : decode prog_9_method_56_code 63 = .ok (.isub, 1) := by decide +kernel
theorem d_M_plain_64 : decode prog_9_method_56_code 64 = .ok (.iconst 4, 1) := by decide +kernel
theorem d_M_plain_65 : decode prog_9_method_56_code 65 = .ok (.irem, 1) := by decide +kernel
theorem d_M_plain_66 : decode prog_9_method_56_code 66 = .ok (.invokevirtual 301, 3) := by decide +kernel
theorem d_M_plain_69 : decode prog_9_method_56_code 69 = .ok (.iload_n 2, 1) := by decide +kernel
theorem d_M_plain_70 : decode prog_9_method_56_code 70 = .ok (.bipush 59, 2) := by decide +kernel
theorem d_M_plain_72 : decode prog_9_method_56_code 72 = .ok (.if_icmp .lt 29, 3) := by decide +kernel
theorem d_M_plain_75 : decode prog_9_method_56_code 75 = .ok (.iload_n 2, 1) := by decide +kernel
theorem d_M_plain_76 : decode prog_9_method_56_code 76 = .ok (.bipush 78, 2) := by decide +kernel
theorem d_M_plain_78 : decode prog_9_method_56_code 78 = .ok (.if_icmp .gt 23, 3) := by decide +kernel
theorem d_M_plain_81 : decode prog_9_method_56_code 81 = .ok (.aload_n 0, 1) := by decide +kernel
theorem d_M_plain_82 : decode prog_9_method_56_code 82 = .ok (.iload_n 1, 1) := by decide +kernel
theorem d_M_plain_83 : decode prog_9_method_56_code 83 = .ok (.bipush 54, 2) := by decide +kernel
theorem d_M_plain_85 : decode prog_9_method_56_code 85 = .ok (.iload_n 2, 1) := by decide +kernel
theorem d_M_plain_86 : decode prog_9_method_56_code 86 = .ok (.bipush 59, 2) := by decide +kernel
theorem d_M_plain_88 : decode prog_9_method_56_code 88 = .ok (.isub, 1) := by decide +kernel
theorem d_M_plain_89 : decode prog_9_method_56_code 89 = .ok (.iconst 4, 1) := by decide +kernel
theorem d_M_plain_90 : decode prog_9_method_56_code 90 = .ok (.idiv, 1) := by decide +kernel
theorem d_M_plain_91 : decode prog_9_method_56_code 91 = .ok (.iadd, 1) := by decide +kernel
theorem d_M_plain_92 : decode prog_9_method_56_code 92 = .ok (.iload_n 2, 1) := by decide +kernel
theorem d_M_plain_93 : decode prog_9_method_56_code 93 = .ok (.bipush 59, 2) := by decide +kernel
theorem d_M_plain_95 : decode prog_9_method_56_code 95 = .ok (.isub, 1) := by decide +kernel
theorem d_M_plain_96 : decode prog_9_method_56_code 96 = .ok (.iconst 4, 1) := by decide +kernel
theorem d_M_plain_97 : decode prog_9_method_56_code 97 = .ok (.irem, 1) := by decide +kernel
theorem d_M_plain_98 : decode prog_9_method_56_code 98 = .ok (.invokevirtual 301, 3) := by decide +kernel
theorem d_M_plain_101 : decode prog_9_method_56_code 101 = .ok (.iload_n 2, 1) := by decide +kernel
theorem d_M_plain_102 : decode prog_9_method_56_code 102 = .ok (.sipush 132, 3) := by decide +kernel
theorem d_M_plain_105 : decode prog_9_method_56_code 105 = .ok (.if_icmp .ne 16, 3) := by decide +kernel
theorem d_M_plain_108 : decode prog_9_method_56_code 108 = .ok (.aload_n 0, 1) := by decide +kernel
theorem d_M_plain_109 : decode prog_9_method_56_code 109 = .ok (.iload_n 1, 1) := by decide +kernel
theorem d_M_plain_110 : decode prog_9_method_56_code 110 = .ok (.iload_n 2, 1) := by decide +kernel
theorem d_M_plain_111 : decode prog_9_method_56_code 111 = .ok (.aload_n 0, 1) := by decide +kernel
theorem d_M_plain_112 : decode prog_9_method_56_code 112 = .ok (.iload_n 1, 1) := by decide +kernel
theorem d_M_plain_113 : decode prog_9_method_56_code 113 = .ok (.iconst 1, 1) := by decide +kernel
theorem d_M_plain_114 : decode prog_9_method_56_code 114 = .ok (.iadd, 1) := by decide +kernel
theorem d_M_plain_115 : decode prog_9_method_56_code 115 = .ok (.invokevirtual 279, 3) := by decide +kernel
theorem d_M_plain_118 : decode prog_9_method_56_code 118 = .ok (.invokevirtual 301, 3) := by decide +kernel
theorem d_M_plain_121 : decode prog_9_method_56_code 121 = .ok (.iload_n 2, 1) := by decide +kernel
theorem d_M_plain_122 : decode prog_9_method_56_code 122 = .ok (.bipush 18, 2) := by decide +kernel
theorem d_M_plain_124 : decode prog_9_method_56_code 124 = .ok (.if_icmp .eq 9, 3) := by decide +kernel
theorem d_M_plain_127 : decode prog_9_method_56_code 127 = .ok (.iload_n 2, 1) := by decide +kernel
theorem d_M_plain_128 : decode prog_9_method_56_code 128 = .ok (.bipush 19, 2) := by decide +kernel
theorem d_M_plain_130 : decode prog_9_method_56_code 130 = .ok (.if_icmp .ne 69, 3) := by decide +kernel
theorem d_M_plain_133 : decode prog_9_method_56_code 133 = .ok (.iload_n 2, 1) := by decide +kernel
theorem d_M_plain_134 : decode prog_9_method_56_code 134 = .ok (.bipush 18, 2) := by decide +kernel
theorem d_M_plain_136 : decode prog_9_method_56_code 136 = .ok (.if_icmp .ne 13, 3) := by decide +kernel
theorem d_M_plain_139 : decode prog_9_method_56_code 139 = .ok (.aload_n 0, 1) := by decide +kernel
theorem d_M_plain_140 : decode prog_9_method_56_code 140 = .ok (.iload_n 1, 1) := by decide +kernel
theorem d_M_plain_141 : decode prog_9_method_56_code 141 = .ok (.iconst 1, 1) := by decide +kernel
theorem d_M_plain_142 : decode prog_9_method_56_code 142 = .ok (.iadd, 1) := by decide +kernel
theorem d_M_plain_143 : decode prog_9_method_56_code 143 = .ok (.invokevirtual 279, 3) := by decide +kernel
theorem d_M_plain_146 : decode prog_9_method_56_code 146 = .ok (.goto 10, 3) := by decide +kernel
theorem d_M_plain_149 : decode prog_9_method_56_code 149 = .ok (.aload_n 0, 1) := by decide +kernel
theorem d_M_plain_150 : decode prog_9_method_56_code 150 = .ok (.iload_n 1, 1) := by decide +kernel
theorem d_M_plain_151 : decode prog_9_method_56_code 151 = .ok (.iconst 1, 1) := by decide +kernel
theorem d_M_plain_152 : decode prog_9_method_56_code 152 = .ok (.iadd, 1) := by decide +kernel
theorem d_M_plain_153 : decode prog_9_method_56_code 153 = .ok (.invokevirtual 76, 3) := by decide +kernel
theorem d_M_plain_156 : decode prog_9_method_56_code 156 = .ok (.istore_n 3, 1) := by decide +kernel
theorem d_M_plain_157 : decode prog_9_method_56_code 157 = .ok (.aload_n 0, 1) := by decide +kernel
theorem d_M_plain_158 : decode prog_9_method_56_code 158 = .ok (.aload_n 0, 1) := by decide +kernel
theorem d_M_plain_159 : decode prog_9_method_56_code 159 = .ok (.iload_n 3, 1) := by decide +kernel
theorem d_M_plain_160 : decode prog_9_method_56_code 160 = .ok (.iconst 3, 1) := by decide +kernel
theorem d_M_plain_161 : decode prog_9_method_56_code 161 = .ok (.invokevirtual 112, 3) := by decide +kernel
theorem d_M_plain_164 : decode prog_9_method_56_code 164 = .ok (.ifCond .ne 23, 3) := by decide +kernel
theorem d_M_plain_167 : decode prog_9_method_56_code 167 = .ok (.aload_n 0, 1) := by decide +kernel
theorem d_M_plain_168 : decode prog_9_method_56_code 168 = .ok (.iload_n 3, 1) := by decide +kernel
theorem d_M_plain_169 : decode prog_9_method_56_code 169 = .ok (.bipush 8, 2) := by decide +kernel
theorem d_M_plain_171 : decode prog_9_method_56_code 171 = .ok (.invokevirtual 112, 3) := by decide +kernel
theorem d_M_plain_174 : decode prog_9_method_56_code 174 = .ok (.ifCond .ne 13, 3) := by decide +kernel
theorem d_M_plain_177 : decode prog_9_method_56_code 177 = .ok (.aload_n 0, 1) := by decide +kernel
theorem d_M_plain_178 : decode prog_9_method_56_code 178 = .ok (.iload_n 3, 1) := by decide +kernel
theorem d_M_plain_179 : decode prog_9_method_56_code 179 = .ok (.bipush 7, 2) := by decide +kernel
theorem d_M_plain_181 : decode prog_9_method_56_code 181 = .ok (.invokevirtual 112, 3) := by decide +kernel
theorem d_M_plain_184 : decode prog_9_method_56_code 184 = .ok (.ifCond .eq 7, 3) := by decide +kernel
theorem d_M_plain_187 : decode prog_9_method_56_code 187 = .ok (.iconst 1, 1) := by decide +kernel
theorem d_M_plain_188 : decode prog_9_method_56_code 188 = .ok (.goto 4, 3) := by decide +kernel
theorem d_M_plain_191 : decode prog_9_method_56_code 191 = .ok (.iconst 0, 1) := by decide +kernel
theorem d_M_plain_192 : decode prog_9_method_56_code 192 = .ok (.bipush 8, 2) := by decide +kernel
theorem d_M_plain_194 : decode prog_9_method_56_code 194 = .ok (.iload_n 1, 1) := by decide +kernel
theorem d_M_plain_195 : decode prog_9_method_56_code 195 = .ok (.invokevirtual 115, 3) := by decide +kernel
theorem d_M_plain_198 : decode prog_9_method_56_code 198 = .ok (.pop, 1) := by decide +kernel
theorem d_M_plain_199 : decode prog_9_method_56_code 199 = .ok (.iload_n 2, 1) := by decide +kernel
theorem d_M_plain_200 : decode prog_9_method_56_code 200 = .ok (.bipush 20, 2) := by decide +kernel
theorem d_M_plain_202 : decode prog_9_method_56_code 202 = .ok (.if_icmp .ne 23, 3) := by decide +kernel
theorem d_M_plain_205 : decode prog_9_method_56_code 205 = .ok (.aload_n 0, 1) := by decide +kernel
theorem d_M_plain_206 : decode prog_9_method_56_code 206 = .ok (.aload_n 0, 1) := by decide +kernel
theorem d_M_plain_207 : decode prog_9_method_56_code 207 = .ok (.aload_n 0, 1) := by decide +kernel
theorem d_M_plain_208 : decode prog_9_method_56_code 208 = .ok (.iload_n 1, 1) := by decide +kernel
theorem d_M_plain_209 : decode prog_9_method_56_code 209 = .ok (.iconst 1, 1) := by decide +kernel
theorem d_M_plain_210 : decode prog_9_method_56_code 210 = .ok (.iadd, 1) := by decide +kernel
theorem d_M_plain_211 : decode prog_9_method_56_code 211 = .ok (.invokevirtual 76, 3) := by decide +kernel
theorem d_M_plain_214 : decode prog_9_method_56_code 214 = .ok (.iconst 5, 1) := by decide +kernel
theorem d_M_plain_215 : decode prog_9_method_56_code 215 = .ok (.invokevirtual 112, 3) := by decide +kernel
theorem d_M_plain_218 : decode prog_9_method_56_code 218 = .ok (.bipush 8, 2) := by decide +kernel
theorem d_M_plain_220 : decode prog_9_method_56_code 220 = .ok (.iload_n 1, 1) := by decide +kernel
theorem d_M_plain_221 : decode prog_9_method_56_code 221 = .ok (.invokevirtual 115, 3) := by decide +kernel
theorem d_M_plain_224 : decode prog_9_method_56_code 224 = .ok (.pop, 1) := by decide +kernel
theorem d_M_plain_225 : decode prog_9_method_56_code 225 = .ok (.iload_n 2, 1) := by decide +kernel
theorem d_M_plain_226 : decode prog_9_method_56_code 226 = .ok (.sipush 178, 3) := by decide +kernel
theorem d_M_plain_229 : decode prog_9_method_56_code 229 = .ok (.if_icmp .lt 31, 3) := by decide +kernel
theorem d_M_plain_232 : decode prog_9_method_56_code 232 = .ok (.iload_n 2, 1) := by decide +kernel
theorem d_M_plain_233 : decode prog_9_method_56_code 233 = .ok (.sipush 181, 3) := by decide +kernel
theorem d_M_plain_236 : decode prog_9_method_56_code 236 = .ok (.if_icmp .gt 24, 3) := by decide +kernel
theorem d_M_plain_239 : decode prog_9_method_56_code 239 = .ok (.aload_n 0, 1) := by decide +kernel
theorem d_M_plain_240 : decode prog_9_method_56_code 240 = .ok (.aload_n 0, 1) := by decide +kernel
theorem d_M_plain_241 : decode prog_9_method_56_code 241 = .ok (.aload_n 0, 1) := by decide +kernel
theorem d_M_plain_242 : decode prog_9_method_56_code 242 = .ok (.iload_n 1, 1) := by decide +kernel
theorem d_M_plain_243 : decode prog_9_method_56_code 243 = .ok (.iconst 1, 1) := by decide +kernel
theorem d_M_plain_244 : decode prog_9_method_56_code 244 = .ok (.iadd, 1) := by decide +kernel
theorem d_M_plain_245 : decode prog_9_method_56_code 245 = .ok (.invokevirtual 76, 3) := by decide +kernel
theorem d_M_plain_248 : decode prog_9_method_56_code 248 = .ok (.bipush 9, 2) := by decide +kernel
theorem d_M_plain_250 : decode prog_9_method_56_code 250 = .ok (.invokevirtual 112, 3) := by decide +kernel
theorem d_M_plain_253 : decode prog_9_method_56_code 253 = .ok (.bipush 8, 2) := by decide +kernel
theorem d_M_plain_255 : decode prog_9_method_56_code 255 = .ok (.iload_n 1, 1) := by decide +kernel
theorem d_M_plain_256 : decode prog_9_method_56_code 256 = .ok (.invokevirtual 115, 3) := by decide +kernel
theorem d_M_plain_259 : decode prog_9_method_56_code 259 = .ok (.pop, 1) := by decide +kernel
theorem d_M_plain_260 : decode prog_9_method_56_code 260 = .ok (.iload_n 2, 1) := by decide +kernel
theorem d_M_plain_261 : decode prog_9_method_56_code 261 = .ok (.sipush 182, 3) := by decide +kernel
theorem d_M_plain_264 : decode prog_9_method_56_code 264 = .ok (.if_icmp .lt 23, 3) := by decide +kernel
theorem d_M_plain_267 : decode prog_9_method_56_code 267 = .ok (.iload_n 2, 1) := by decide +kernel
theorem d_M_plain_268 : decode prog_9_method_56_code 268 = .ok (.sipush 185, 3) := by decide +kernel
theorem d_M_plain_271 : decode prog_9_method_56_code 271 = .ok (.if_icmp .gt 16, 3) := by decide +kernel
theorem d_M_plain_274 : decode prog_9_method_56_code 274 = .ok (.aload_n 0, 1) := by decide +kernel
theorem d_M_plain_275 : decode prog_9_method_56_code 275 = .ok (.iload_n 1, 1) := by decide +kernel
theorem d_M_plain_276 : decode prog_9_method_56_code 276 = .ok (.iload_n 2, 1) := by decide +kernel
theorem d_M_plain_277 : decode prog_9_method_56_code 277 = .ok (.aload_n 0, 1) := by decide +kernel
theorem d_M_plain_278 : decode prog_9_method_56_code 278 = .ok (.iload_n 1, 1) := by decide +kernel
theorem d_M_plain_279 : decode prog_9_method_56_code 279 = .ok (.iconst 1, 1) := by decide +kernel
theorem d_M_plain_280 : decode prog_9_method_56_code 280 = .ok (.iadd, 1) := by decide +kernel
theorem d_M_plain_281 : decode prog_9_method_56_code 281 = .ok (.invokevirtual 76, 3) := by decide +kernel
theorem d_M_plain_284 : decode prog_9_method_56_code 284 = .ok (.invokevirtual 310, 3) := by decide +kernel
theorem d_M_plain_287 : decode prog_9_method_56_code 287 = .ok (.iload_n 2, 1) := by decide +kernel
theorem d_M_plain_288 : decode prog_9_method_56_code 288 = .ok (.sipush 187, 3) := by decide +kernel
theorem d_M_plain_291 : decode prog_9_method_56_code 291 = .ok (.if_icmp .eq 31, 3) := by decide +kernel
theorem d_M_plain_294 : decode prog_9_method_56_code 294 = .ok (.iload_n 2, 1) := by decide +kernel
theorem d_M_plain_295 : decode prog_9_method_56_code 295 = .ok (.sipush 189, 3) := by decide +kernel
theorem d_M_plain_298 : decode prog_9_method_56_code 298 = .ok (.if_icmp .eq 24, 3) := by decide +kernel
theorem d_M_plain_301 : decode prog_9_method_56_code 301 = .ok (.iload_n 2, 1) := by decide +kernel
theorem d_M_plain_302 : decode prog_9_method_56_code 302 = .ok (.sipush 192, 3) := by decide +kernel
theorem d_M_plain_305 : decode prog_9_method_56_code 305 = .ok (.if_icmp .eq 17, 3) := by decide +kernel
theorem d_M_plain_308 : decode prog_9_method_56_code 308 = .ok (.iload_n 2, 1) := by decide +kernel
theorem d_M_plain_309 : decode prog_9_method_56_code 309 = .ok (.sipush 193, 3) := by decide +kernel
theorem d_M_plain_312 : decode prog_9_method_56_code 312 = .ok (.if_icmp .eq 10, 3) := by decide +kernel
theorem d_M_plain_315 : decode prog_9_method_56_code 315 = .ok (.iload_n 2, 1) := by decide +kernel
theorem d_M_plain_316 : decode prog_9_method_56_code 316 = .ok (.sipush 197, 3) := by decide +kernel
theorem d_M_plain_319 : decode prog_9_method_56_code 319 = .ok (.if_icmp .ne 124, 3) := by decide +kernel
theorem d_M_plain_322 : decode prog_9_method_56_code 322 = .ok (.aload_n 0, 1) := by decide +kernel
theorem d_M_plain_323 : decode prog_9_method_56_code 323 = .ok (.iload_n 1, 1) := by decide +kernel
theorem d_M_plain_324 : decode prog_9_method_56_code 324 = .ok (.iconst 1, 1) := by decide +kernel
theorem d_M_plain_325 : decode prog_9_method_56_code 325 = .ok (.iadd, 1) := by decide +kernel
theorem d_M_plain_326 : decode prog_9_method_56_code 326 = .ok (.invokevirtual 76, 3) := by decide +kernel
theorem d_M_plain_329 : decode prog_9_method_56_code 329 = .ok (.istore_n 3, 1) := by decide +kernel
theorem d_M_plain_330 : decode prog_9_method_56_code 330 = .ok (.aload_n 0, 1) := by decide +kernel
theorem d_M_plain_331 : decode prog_9_method_56_code 331 = .ok (.aload_n 0, 1) := by decide +kernel
theorem d_M_plain_332 : decode prog_9_method_56_code 332 = .ok (.iload_n 3, 1) := by decide +kernel
theorem d_M_plain_333 : decode prog_9_method_56_code 333 = .ok (.bipush 7, 2) := by decide +kernel
theorem d_M_plain_335 : decode prog_9_method_56_code 335 = .ok (.invokevirtual 112, 3) := by decide +kernel
theorem d_M_plain_338 : decode prog_9_method_56_code 338 = .ok (.bipush 8, 2) := by decide +kernel
theorem d_M_plain_340 : decode prog_9_method_56_code 340 = .ok (.iload_n 1, 1) := by decide +kernel
theorem d_M_plain_341 : decode prog_9_method_56_code 341 = .ok (.invokevirtual 115, 3) := by decide +kernel
theorem d_M_plain_344 : decode prog_9_method_56_code 344 = .ok (.ifCond .ne 4, 3) := by decide +kernel
theorem d_M_plain_347 : decode prog_9_method_56_code 347 = .ok (.return_, 1) := by decide +kernel
theorem d_M_plain_348 : decode prog_9_method_56_code 348 = .ok (.iload_n 2, 1) := by decide +kernel
theorem d_M_plain_349 : decode prog_9_method_56_code 349 = .ok (.sipush 187, 3) := by decide +kernel
theorem d_M_plain_352 : decode prog_9_method_56_code 352 = .ok (.if_icmp .ne 24, 3) := by decide +kernel
theorem d_M_plain_355 : decode prog_9_method_56_code 355 = .ok (.aload_n 0, 1) := by decide +kernel
theorem d_M_plain_356 : decode prog_9_method_56_code 356 = .ok (.aload_n 0, 1) := by decide +kernel
theorem d_M_plain_357 : decode prog_9_method_56_code 357 = .ok (.iload_n 3, 1) := by decide +kernel
theorem d_M_plain_358 : decode prog_9_method_56_code 358 = .ok (.invokevirtual 207, 3) := by decide +kernel
theorem d_M_plain_361 : decode prog_9_method_56_code 361 = .ok (.ifCond .ne 7, 3) := by decide +kernel
theorem d_M_plain_364 : decode prog_9_method_56_code 364 = .ok (.iconst 1, 1) := by decide +kernel
theorem d_M_plain_365 : decode prog_9_method_56_code 365 = .ok (.goto 4, 3) := by decide +kernel
theorem d_M_plain_368 : decode prog_9_method_56_code 368 = .ok (.iconst 0, 1) := by decide +kernel
theorem d_M_plain_369 : decode prog_9_method_56_code 369 = .ok (.bipush 24, 2) := by decide +kernel
theorem d_M_plain_371 : decode prog_9_method_56_code 371 = .ok (.iload_n 1, 1) := by decide +kernel
theorem d_M_plain_372 : decode prog_9_method_56_code 372 = .ok (.invokevirtual 115, 3) := by decide +kernel
theorem d_M_plain_375 : decode prog_9_method_56_code 375 = .ok (.pop, 1) := by decide +kernel
theorem d_M_plain_376 : decode prog_9_method_56_code 376 = .ok (.iload_n 2, 1) := by decide +kernel
theorem d_M_plain_377 : decode prog_9_method_56_code 377 = .ok (.sipush 197, 3) := by decide +kernel
theorem d_M_plain_380 : decode prog_9_method_56_code 380 = .ok (.if_icmp .ne 63, 3) := by decide +kernel
theorem d_M_plain_383 : decode prog_9_method_56_code 383 = .ok (.aload_n 0, 1) := by decide +kernel
theorem d_M_plain_384 : decode prog_9_method_56_code 384 = .ok (.iload_n 1, 1) := by decide +kernel
theorem d_M_plain_385 : decode prog_9_method_56_code 385 = .ok (.iconst 3, 1) := by decide +kernel
theorem d_M_plain_386 : decode prog_9_method_56_code 386 = .ok (.iadd, 1) := by decide +kernel
theorem d_M_plain_387 : decode prog_9_method_56_code 387 = .ok (.invokevirtual 279, 3) := by decide +kernel
theorem d_M_plain_390 : decode prog_9_method_56_code 390 = .ok (.istore 4, 2) := by decide +kernel
theorem d_M_plain_392 : decode prog_9_method_56_code 392 = .ok (.iconst 0, 1) := by decide +kernel
theorem d_M_plain_393 : decode prog_9_method_56_code 393 = .ok (.istore 5, 2) := by decide +kernel
theorem d_M_plain_395 : decode prog_9_method_56_code 395 = .ok (.aload_n 0, 1) := by decide +kernel
theorem d_M_plain_396 : decode prog_9_method_56_code 396 = .ok (.aload_n 0, 1) := by decide +kernel
theorem d_M_plain_397 : decode prog_9_method_56_code 397 = .ok (.iload_n 3, 1) := by decide +kernel
theorem d_M_plain_398 : decode prog_9_method_56_code 398 = .ok (.invokevirtual 210, 3) := by decide +kernel
theorem d_M_plain_401 : decode prog_9_method_56_code 401 = .ok (.iload 5, 2) := by decide +kernel
theorem d_M_plain_403 : decode prog_9_method_56_code 403 = .ok (.invokevirtual 86, 3) := by decide +kernel
theorem d_M_plain_406 : decode prog_9_method_56_code 406 = .ok (.bipush 91, 2) := by decide +kernel
theorem d_M_plain_408 : decode prog_9_method_56_code 408 = .ok (.if_icmp .ne 9, 3) := by decide +kernel
theorem d_M_plain_411 : decode prog_9_method_56_code 411 = .ok (.iinc 5 1, 3) := by decide +kernel
theorem d_M_plain_414 : decode prog_9_method_56_code 414 = .ok (.goto (-19), 3) := by decide +kernel
theorem d_M_plain_417 : decode prog_9_method_56_code 417 = .ok (.aload_n 0, 1) := by decide +kernel
theorem d_M_plain_418 : decode prog_9_method_56_code 418 = .ok (.iload 4, 2) := by decide +kernel
theorem d_M_plain_420 : decode prog_9_method_56_code 420 = .ok (.iconst 1, 1) := by decide +kernel
theorem d_M_plain_421 : decode prog_9_method_56_code 421 = .ok (.if_icmp .lt 14, 3) := by decide +kernel
theorem d_M_plain_424 : decode prog_9_method_56_code 424 = .ok (.iload 4, 2) := by decide +kernel
theorem d_M_plain_426 : decode prog_9_method_56_code 426 = .ok (.iload 5, 2) := by decide +kernel
theorem d_M_plain_428 : decode prog_9_method_56_code 428 = .ok (.if_icmp .gt 7, 3) := by decide +kernel
theorem d_M_plain_431 : decode prog_9_method_56_code 431 = .ok (.iconst 1, 1) := by decide +kernel
theorem d_M_plain_432 : decode prog_9_method_56_code 432 = .ok (.goto 4, 3) := by decide +kernel
theorem d_M_plain_435 : decode prog_9_method_56_code 435 = .ok (.iconst 0, 1) := by decide +kernel
theorem d_M_plain_436 : decode prog_9_method_56_code 436 = .ok (.bipush 24, 2) := by decide +kernel
theorem d_M_plain_438 : decode prog_9_method_56_code 438 = .ok (.iload_n 1, 1) := by decide +kernel
theorem d_M_plain_439 : decode prog_9_method_56_code 439 = .ok (.invokevirtual 115, 3) := by decide +kernel
theorem d_M_plain_442 : decode prog_9_method_56_code 442 = .ok (.pop, 1) := by decide +kernel
theorem d_M_plain_443 : decode prog_9_method_56_code 443 = .ok (.iload_n 2, 1) := by decide +kernel
theorem d_M_plain_444 : decode prog_9_method_56_code 444 = .ok (.sipush 188, 3) := by decide +kernel
theorem d_M_plain_447 : decode prog_9_method_56_code 447 = .ok (.if_icmp .ne 62, 3) := by decide +kernel
theorem d_M_plain_450 : decode prog_9_method_56_code 450 = .ok (.aload_n 0, 1) := by decide +kernel
theorem d_M_plain_451 : decode prog_9_method_56_code 451 = .ok (.aload_n 0, 1) := by decide +kernel
theorem d_M_plain_452 : decode prog_9_method_56_code 452 = .ok (.iload_n 1, 1) := by decide +kernel
theorem d_M_plain_453 : decode prog_9_method_56_code 453 = .ok (.iconst 1, 1) := by decide +kernel
theorem d_M_plain_454 : decode prog_9_method_56_code 454 = .ok (.iadd, 1) := by decide +kernel
theorem d_M_plain_455 : decode prog_9_method_56_code 455 = .ok (.invokevirtual 279, 3) := by decide +kernel
theorem d_M_plain_458 : decode prog_9_method_56_code 458 = .ok (.iconst 4, 1) := by decide +kernel
theorem d_M_plain_459 : decode prog_9_method_56_code 459 = .ok (.if_icmp .eq 38, 3) := by decide +kernel
theorem d_M_plain_462 : decode prog_9_method_56_code 462 = .ok (.aload_n 0, 1) := by decide +kernel
theorem d_M_plain_463 : decode prog_9_method_56_code 463 = .ok (.iload_n 1, 1) := by decide +kernel
theorem d_M_plain_464 : decode prog_9_method_56_code 464 = .ok (.iconst 1, 1) := by decide +kernel
theorem d_M_plain_465 : decode prog_9_method_56_code 465 = .ok (.iadd, 1) := by decide +kernel
theorem d_M_plain_466 : decode prog_9_method_56_code 466 = .ok (.invokevirtual 279, 3) := by decide +kernel
theorem d_M_plain_469 : decode prog_9_method_56_code 469 = .ok (.iconst 5, 1) := by decide +kernel
theorem d_M_plain_470 : decode prog_9_method_56_code 470 = .ok (.if_icmp .eq 27, 3) := by decide +kernel
theorem d_M_plain_473 : decode prog_9_method_56_code 473 = .ok (.aload_n 0, 1) := by decide +kernel
theorem d_M_plain_474 : decode prog_9_method_56_code 474 = .ok (.iload_n 1, 1) := by decide +kernel
theorem d_M_plain_475 : decode prog_9_method_56_code 475 = .ok (.iconst 1, 1) := by decide +kernel
theorem d_M_plain_476 : decode prog_9_method_56_code 476 = .ok (.iadd, 1) := by decide +kernel
theorem d_M_plain_477 : decode prog_9_method_56_code 477 = .ok (.invokevirtual 279, 3) := by decide +kernel
theorem d_M_plain_480 : decode prog_9_method_56_code 480 = .ok (.bipush 8, 2) := by decide +kernel
theorem d_M_plain_482 : decode prog_9_method_56_code 482 = .ok (.if_icmp .lt 19, 3) := by decide +kernel
theorem d_M_plain_485 : decode prog_9_method_56_code 485 = .ok (.aload_n 0, 1) := by decide +kernel
theorem d_M_plain_486 : decode prog_9_method_56_code 486 = .ok (.iload_n 1, 1) := by decide +kernel
theorem d_M_plain_487 : decode prog_9_method_56_code 487 = .ok (.iconst 1, 1) := by decide +kernel
theorem d_M_plain_488 : decode prog_9_method_56_code 488 = .ok (.iadd, 1) := by decide +kernel
theorem d_M_plain_489 : decode prog_9_method_56_code 489 = .ok (.invokevirtual 279, 3) := by decide +kernel
theorem d_M_plain_492 : decode prog_9_method_56_code 492 = .ok (.bipush 11, 2) := by decide +kernel
theorem d_M_plain_494 : decode prog_9_method_56_code 494 = .ok (.if_icmp .gt 7, 3) := by decide +kernel
theorem d_M_plain_497 : decode prog_9_method_56_code 497 = .ok (.iconst 1, 1) := by decide +kernel
theorem d_M_plain_498 : decode prog_9_method_56_code 498 = .ok (.goto 4, 3) := by decide +kernel
theorem d_M_plain_501 : decode prog_9_method_56_code 501 = .ok (.iconst 0, 1) := by decide +kernel
theorem d_M_plain_502 : decode prog_9_method_56_code 502 = .ok (.bipush 24, 2) := by decide +kernel
theorem d_M_plain_504 : decode prog_9_method_56_code 504 = .ok (.iload_n 1, 1) := by decide +kernel
theorem d_M_plain_505 : decode prog_9_method_56_code 505 = .ok (.invokevirtual 115, 3) := by decide +kernel
theorem d_M_plain_508 : decode prog_9_method_56_code 508 = .ok (.pop, 1) := by decide +kernel
theorem d_M_plain_509 : decode prog_9_method_56_code 509 = .ok (.return_, 1) := by decide +kernel
theorem d_M_instruction_0 : decode prog_9_method_53_code 0 = .ok (.aload_n 0, 1) := by decide +kernel
theorem d_M_instruction_1 : decode prog_9_method_53_code 1 = .ok (.getfield 63, 3) := by decide +kernel
theorem d_M_instruction_4 : decode prog_9_method_53_code 4 = .ok (.istore_n 1, 1) := by decide +kernel
theorem d_M_instruction_5 : decode prog_9_method_53_code 5 = .ok (.aload_n 0, 1) := by decide +kernel
theorem d_M_instruction_6 : decode prog_9_method_53_code 6 = .ok (.iload_n 1, 1) := by decide +kernel
theorem d_M_instruction_7 : decode prog_9_method_53_code 7 = .ok (.invokevirtual 279, 3) := by decide +kernel
theorem d_M_instruction_10 : decode prog_9_method_53_code 10 = .ok (.istore_n 2, 1) := by decide +kernel
theorem d_M_instruction_11 : decode prog_9_method_53_code 11 = .ok (.aload_n 0, 1) := by decide +kernel
theorem d_M_instruction_12 : decode prog_9_method_53_code 12 = .ok (.iload_n 2, 1) := by decide +kernel
theorem d_M_instruction_13 : decode prog_9_method_53_code 13 = .ok (.invokestatic 291, 3) := by decide +kernel
theorem d_M_instruction_16 : decode prog_9_method_53_code 16 = .ok (.ifCond .ne 7, 3) := by decide +kernel
theorem d_M_instruction_19 : decode prog_9_method_53_code 19 = .ok (.iconst 1, 1) := by decide +kernel
theorem d_M_instruction_20 : decode prog_9_method_53_code 20 = .ok (.goto 4, 3) := by decide +kernel
theorem d_M_instruction_23 : decode prog_9_method_53_code 23 = .ok (.iconst 0, 1) := by decide +kernel
theorem d_M_instruction_24 : decode prog_9_method_53_code 24 = .ok (.bipush 22, 2) := by decide +kernel
theorem d_M_instruction_26 : decode prog_9_method_53_code 26 = .ok (.iload_n 1, 1) := by decide +kernel
theorem d_M_instruction_27 : decode prog_9_method_53_code 27 = .ok (.invokevirtual 115, 3) := by decide +kernel
theorem d_M_instruction_30 : decode prog_9_method_53_code 30 = .ok (.ifCond .ne 4, 3) := by decide +kernel
theorem d_M_instruction_33 : decode prog_9_method_53_code 33 = .ok (.return_, 1) := by decide +kernel
theorem d_M_instruction_34 : decode prog_9_method_53_code 34 = .ok (.iload_n 2, 1) := by decide +kernel
theorem d_M_instruction_35 : decode prog_9_method_53_code 35 = .ok (.sipush 170, 3) := by decide +kernel
theorem d_M_instruction_38 : decode prog_9_method_53_code 38 = .ok (.if_icmp .eq 10, 3) := by decide +kernel
theorem d_M_instruction_41 : decode prog_9_method_53_code 41 = .ok (.iload_n 2, 1) := by decide +kernel
theorem d_M_instruction_42 : decode prog_9_method_53_code 42 = .ok (.sipush 171, 3) := by decide +kernel
theorem d_M_instruction_45 : decode prog_9_method_53_code 45 = .ok (.if_icmp .ne 23, 3) := by decide +kernel
theorem d_M_instruction_48 : decode prog_9_method_53_code 48 = .ok (.aload_n 0, 1) := by decide +kernel
theorem d_M_instruction_49 : decode prog_9_method_53_code 49 = .ok (.iload_n 1, 1) := by decide +kernel
theorem d_M_instruction_50 : decode prog_9_method_53_code 50 = .ok (.iload_n 2, 1) := by decide +kernel
theorem d_M_instruction_51 : decode prog_9_method_53_code 51 = .ok (.sipush 170, 3) := by decide +kernel
theorem d_M_instruction_54 : decode prog_9_method_53_code 54 = .ok (.if_icmp .ne 7, 3) := by decide +kernel
theorem d_M_instruction_57 : decode prog_9_method_53_code 57 = .ok (.iconst 1, 1) := by decide +kernel
theorem d_M_instruction_58 : decode prog_9_method_53_code 58 = .ok (.goto 4, 3) := by decide +kernel
theorem d_M_instruction_61 : decode prog_9_method_53_code 61 = .ok (.iconst 0, 1) := by decide +kernel
theorem d_M_instruction_62 : decode prog_9_method_53_code 62 = .ok (.invokevirtual 294, 3) := by decide +kernel
theorem d_M_instruction_65 : decode prog_9_method_53_code 65 = .ok (.goto 152, 3) := by decide +kernel
theorem d_M_instruction_68 : decode prog_9_method_53_code 68 = .ok (.iload_n 2, 1) := by decide +kernel
theorem d_M_instruction_69 : decode prog_9_method_53_code 69 = .ok (.sipush 196, 3) := by decide +kernel
theorem d_M_instruction_72 : decode prog_9_method_53_code 72 = .ok (.if_icmp .ne 125, 3) := by decide +kernel
theorem d_M_instruction_75 : decode prog_9_method_53_code 75 = .ok (.aload_n 0, 1) := by decide +kernel
theorem d_M_instruction_76 : decode prog_9_method_53_code 76 = .ok (.iload_n 1, 1) := by decide +kernel
theorem d_M_instruction_77 : decode prog_9_method_53_code 77 = .ok (.iload_n 1, 1) := by decide +kernel
theorem d_M_instruction_78 : decode prog_9_method_53_code 78 = .ok (.iconst 2, 1) := by decide +kernel
theorem d_M_instruction_79 : decode prog_9_method_53_code 79 = .ok (.iadd, 1) := by decide +kernel
theorem d_M_instruction_80 : decode prog_9_method_53_code 80 = .ok (.invokevirtual 298, 3) := by decide +kernel
theorem d_M_instruction_83 : decode prog_9_method_53_code 83 = .ok (.ifCond .ne 4, 3) := by decide +kernel
theorem d_M_instruction_86 : decode prog_9_method_53_code 86 = .ok (.return_, 1) := by decide +kernel
theorem d_M_instruction_87 : decode prog_9_method_53_code 87 = .ok (.aload_n 0, 1) := by decide +kernel
theorem d_M_instruction_88 : decode prog_9_method_53_code 88 = .ok (.iload_n 1, 1) := by decide +kernel
theorem d_M_instruction_89 : decode prog_9_method_53_code 89 = .ok (.iconst 1, 1) := by decide +kernel
theorem d_M_instruction_90 : decode prog_9_method_53_code 90 = .ok (.iadd, 1) := by decide +kernel
theorem d_M_instruction_91 : decode prog_9_method_53_code 91 = .ok (.invokevirtual 279, 3) := by decide +kernel
theorem d_M_instruction_94 : decode prog_9_method_53_code 94 = .ok (.istore_n 3, 1) := by decide +kernel
theorem d_M_instruction_95 : decode prog_9_method_53_code 95 = .ok (.iload_n 3, 1) := by decide +kernel
theorem d_M_instruction_96 : decode prog_9_method_53_code 96 = .ok (.bipush 21, 2) := by decide +kernel
theorem d_M_instruction_98 : decode prog_9_method_53_code 98 = .ok (.if_icmp .eq 40, 3) := by decide +kernel
theorem d_M_instruction_101 : decode prog_9_method_53_code 101 = .ok (.iload_n 3, 1) := by decide +kernel
theorem d_M_instruction_102 : decode prog_9_method_53_code 102 = .ok (.bipush 22, 2) := by decide +kernel
theorem d_M_instruction_104 : decode prog_9_method_53_code 104 = .ok (.if_icmp .eq 34, 3) := by decide +kernel
theorem d_M_instruction_107 : decode prog_9_method_53_code 107 = .ok (.iload_n 3, 1) := by decide +kernel
theorem d_M_instruction_108 : decode prog_9_method_53_code 108 = .ok (.bipush 25, 2) := by decide +kernel
theorem d_M_instruction_110 : decode prog_9_method_53_code 110 = .ok (.if_icmp .eq 28, 3) := by decide +kernel
theorem d_M_instruction_113 : decode prog_9_method_53_code 113 = .ok (.iload_n 3, 1) := by decide +kernel
theorem d_M_instruction_114 : decode prog_9_method_53_code 114 = .ok (.bipush 54, 2) := by decide +kernel
theorem d_M_instruction_116 : decode prog_9_method_53_code 116 = .ok (.if_icmp .eq 22, 3) := by decide +kernel
theorem d_M_instruction_119 : decode prog_9_method_53_code 119 = .ok (.iload_n 3, 1) := by decide +kernel
theorem d_M_instruction_120 : decode prog_9_method_53_code 120 = .ok (.bipush 55, 2) := by decide +kernel
theorem d_M_instruction_122 : decode prog_9_method_53_code 122 = .ok (.if_icmp .eq 16, 3) := by decide +kernel
theorem d_M_instruction_125 : decode prog_9_method_53_code 125 = .ok (.iload_n 3, 1) := by decide +kernel
theorem d_M_instruction_126 : decode prog_9_method_53_code 126 = .ok (.bipush 58, 2) := by decide +kernel
theorem d_M_instruction_128 : decode prog_9_method_53_code 128 = .ok (.if_icmp .eq 10, 3) := by decide +kernel
theorem d_M_instruction_131 : decode prog_9_method_53_code 131 = .ok (.iload_n 3, 1) := by decide +kernel
theorem d_M_instruction_132 : decode prog_9_method_53_code 132 = .ok (.sipush 132, 3) := by decide +kernel
theorem d_M_instruction_135 : decode prog_9_method_53_code 135 = .ok (.if_icmp .ne 7, 3) := by decide +kernel
theorem d_M_instruction_138 : decode prog_9_method_53_code 138 = .ok (.iconst 1, 1) := by decide +kernel
theorem d_M_instruction_139 : decode prog_9_method_53_code 139 = .ok (.goto 4, 3) := by decide +kernel
theorem d_M_instruction_142 : decode prog_9_method_53_code 142 = .ok (.iconst 0, 1) := by decide +kernel
theorem d_M_instruction_143 : decode prog_9_method_53_code 143 = .ok (.istore 4, 2) := by decide +kernel
theorem d_M_instruction_145 : decode prog_9_method_53_code 145 = .ok (.aload_n 0, 1) := by decide +kernel
theorem d_M_instruction_146 : decode prog_9_method_53_code 146 = .ok (.iload 4, 2) := by decide +kernel
theorem d_M_instruction_148 : decode prog_9_method_53_code 148 = .ok (.bipush 22, 2) := by decide +kernel
theorem d_M_instruction_150 : decode prog_9_method_53_code 150 = .ok (.iload_n 1, 1) := by decide +kernel
theorem d_M_instruction_151 : decode prog_9_method_53_code 151 = .ok (.invokevirtual 115, 3) := by decide +kernel
theorem d_M_instruction_154 : decode prog_9_method_53_code 154 = .ok (.ifCond .eq 26, 3) := by decide +kernel
theorem d_M_instruction_157 : decode prog_9_method_53_code 157 = .ok (.aload_n 0, 1) := by decide +kernel
theorem d_M_instruction_158 : decode prog_9_method_53_code 158 = .ok (.iload_n 1, 1) := by decide +kernel
theorem d_M_instruction_159 : decode prog_9_method_53_code 159 = .ok (.iload_n 1, 1) := by decide +kernel
theorem d_M_instruction_160 : decode prog_9_method_53_code 160 = .ok (.iload_n 3, 1) := by decide +kernel
theorem d_M_instruction_161 : decode prog_9_method_53_code 161 = .ok (.sipush 132, 3) := by decide +kernel
theorem d_M_instruction_164 : decode prog_9_method_53_code 164 = .ok (.if_icmp .ne 8, 3) := by decide +kernel
theorem d_M_instruction_167 : decode prog_9_method_53_code 167 = .ok (.bipush 6, 2) := by decide +kernel
theorem d_M_instruction_169 : decode prog_9_method_53_code 169 = .ok (.goto 4, 3) := by decide +kernel
theorem d_M_instruction_172 : decode prog_9_method_53_code 172 = .ok (.iconst 4, 1) := by decide +kernel
theorem d_M_instruction_173 : decode prog_9_method_53_code 173 = .ok (.iadd, 1) := by decide +kernel
theorem d_M_instruction_174 : decode prog_9_method_53_code 174 = .ok (.invokevirtual 298, 3) := by decide +kernel
theorem d_M_instruction_177 : decode prog_9_method_53_code 177 = .ok (.ifCond .ne 4, 3) := by decide +kernel
theorem d_M_instruction_180 : decode prog_9_method_53_code 180 = .ok (.return_, 1) := by decide +kernel
theorem d_M_instruction_181 : decode prog_9_method_53_code 181 = .ok (.aload_n 0, 1) := by decide +kernel
theorem d_M_instruction_182 : decode prog_9_method_53_code 182 = .ok (.iload_n 1, 1) := by decide +kernel
theorem d_M_instruction_183 : decode prog_9_method_53_code 183 = .ok (.iload_n 3, 1) := by decide +kernel
theorem d_M_instruction_184 : decode prog_9_method_53_code 184 = .ok (.aload_n 0, 1) := by decide +kernel
theorem d_M_instruction_185 : decode prog_9_method_53_code 185 = .ok (.iload_n 1, 1) := by decide +kernel
theorem d_M_instruction_186 : decode prog_9_method_53_code 186 = .ok (.iconst 2, 1) := by decide +kernel
theorem d_M_instruction_187 : decode prog_9_method_53_code 187 = .ok (.iadd, 1) := by decide +kernel
theorem d_M_instruction_188 : decode prog_9_method_53_code 188 = .ok (.invokevirtual 76, 3) := by decide +kernel
theorem d_M_instruction_191 : decode prog_9_method_53_code 191 = .ok (.invokevirtual 301, 3) := by decide +kernel
theorem d_M_instruction_194 : decode prog_9_method_53_code 194 = .ok (.goto 23, 3) := by decide +kernel
theorem d_M_instruction_197 : decode prog_9_method_53_code 197 = .ok (.aload_n 0, 1) := by decide +kernel
theorem d_M_instruction_198 : decode prog_9_method_53_code 198 = .ok (.iload_n 1, 1) := by decide +kernel
theorem d_M_instruction_199 : decode prog_9_method_53_code 199 = .ok (.iload_n 1, 1) := by decide +kernel
theorem d_M_instruction_200 : decode prog_9_method_53_code 200 = .ok (.iload_n 2, 1) := by decide +kernel
theorem d_M_instruction_201 : decode prog_9_method_53_code 201 = .ok (.invokestatic 288, 3) := by decide +kernel
theorem d_M_instruction_204 : decode prog_9_method_53_code 204 = .ok (.iadd, 1) := by decide +kernel
theorem d_M_instruction_205 : decode prog_9_method_53_code 205 = .ok (.invokevirtual 298, 3) := by decide +kernel
theorem d_M_instruction_208 : decode prog_9_method_53_code 208 = .ok (.ifCond .eq 9, 3) := by decide +kernel
theorem d_M_instruction_211 : decode prog_9_method_53_code 211 = .ok (.aload_n 0, 1) := by decide +kernel
theorem d_M_instruction_212 : decode prog_9_method_53_code 212 = .ok (.iload_n 1, 1) := by decide +kernel
theorem d_M_instruction_213 : decode prog_9_method_53_code 213 = .ok (.iload_n 2, 1) := by decide +kernel
theorem d_M_instruction_214 : decode prog_9_method_53_code 214 = .ok (.invokevirtual 305, 3) := by decide +kernel
theorem d_M_instruction_217 : decode prog_9_method_53_code 217 = .ok (.aload_n 0, 1) := by decide +kernel
theorem d_M_instruction_218 : decode prog_9_method_53_code 218 = .ok (.invokevirtual 55, 3) := by decide +kernel
theorem d_M_instruction_221 : decode prog_9_method_53_code 221 = .ok (.ifCond .eq 12, 3) := by decide +kernel
theorem d_M_instruction_224 : decode prog_9_method_53_code 224 = .ok (.aload_n 0, 1) := by decide +kernel
theorem d_M_instruction_225 : decode prog_9_method_53_code 225 = .ok (.aload_n 0, 1) := by decide +kernel
theorem d_M_instruction_226 : decode prog_9_method_53_code 226 = .ok (.iload_n 1, 1) := by decide +kernel
theorem d_M_instruction_227 : decode prog_9_method_53_code 227 = .ok (.invokevirtual 273, 3) := by decide +kernel
theorem d_M_instruction_230 : decode prog_9_method_53_code 230 = .ok (.putfield 63, 3) := by decide +kernel
theorem d_M_instruction_233 : decode prog_9_method_53_code 233 = .ok (.return_, 1) := by decide +kernel
theorem d_M_target_0 : decode prog_9_method_58_code 0 = .ok (.aload_n 0, 1) := by decide +kernel
theorem d_M_target_1 : decode prog_9_method_58_code 1 = .ok (.dup, 1) := by decide +kernel
theorem d_M_target_2 : decode prog_9_method_58_code 2 = .ok (.getfield 134, 3) := by decide +kernel
theorem d_M_target_5 : decode prog_9_method_58_code 5 = .ok (.iconst 1, 1) := by decide +kernel
theorem d_M_target_6 : decode prog_9_method_58_code 6 = .ok (.iadd, 1) := by decide +kernel
theorem d_M_target_7 : decode prog_9_method_58_code 7 = .ok (.putfield 134, 3) := by decide +kernel
theorem d_M_target_10 : decode prog_9_method_58_code 10 = .ok (.aload_n 0, 1) := by decide +kernel
theorem d_M_target_11 : decode prog_9_method_58_code 11 = .ok (.lload_n 2, 1) := by decide +kernel
theorem d_M_target_12 : decode prog_9_method_58_code 12 = .ok (.lconst 0, 1) := by decide +kernel
theorem d_M_target_13 : decode prog_9_method_58_code 13 = .ok (.lcmp, 1) := by decide +kernel
theorem d_M_target_14 : decode prog_9_method_58_code 14 = .ok (.ifCond .lt 32, 3) := by decide +kernel
theorem d_M_target_17 : decode prog_9_method_58_code 17 = .ok (.lload_n 2, 1) := by decide +kernel
theorem d_M_target_18 : decode prog_9_method_58_code 18 = .ok (.aload_n 0, 1) := by decide +kernel
theorem d_M_target_19 : decode prog_9_method_58_code 19 = .ok (.getfield 264, 3) := by decide +kernel
theorem d_M_target_22 : decode prog_9_method_58_code 22 = .ok (.aload_n 0, 1) := by decide +kernel
theorem d_M_target_23 : decode prog_9_method_58_code 23 = .ok (.getfield 261, 3) := by decide +kernel
theorem d_M_target_26 : decode prog_9_method_58_code 26 = .ok (.isub, 1) := by decide +kernel
theorem d_M_target_27 : decode prog_9_method_58_code 27 = .ok (.i2l, 1) := by decide +kernel
theorem d_M_target_28 : decode prog_9_method_58_code 28 = .ok (.lcmp, 1) := by decide +kernel
theorem d_M_target_29 : decode prog_9_method_58_code 29 = .ok (.ifCond .ge 17, 3) := by decide +kernel
theorem d_M_target_32 : decode prog_9_method_58_code 32 = .ok (.aload_n 0, 1) := by decide +kernel
theorem d_M_target_33 : decode prog_9_method_58_code 33 = .ok (.getfield 32, 3) := by decide +kernel
theorem d_M_target_36 : decode prog_9_method_58_code 36 = .ok (.lload_n 2, 1) := by decide +kernel
theorem d_M_target_37 : decode prog_9_method_58_code 37 = .ok (.l2i, 1) := by decide +kernel
theorem d_M_target_38 : decode prog_9_method_58_code 38 = .ok (.baload, 1) := by decide +kernel
theorem d_M_target_39 : decode prog_9_method_58_code 39 = .ok (.ifCond .eq 7, 3) := by decide +kernel
theorem d_M_target_42 : decode prog_9_method_58_code 42 = .ok (.iconst 1, 1) := by decide +kernel
theorem d_M_target_43 : decode prog_9_method_58_code 43 = .ok (.goto 4, 3) := by decide +kernel
theorem d_M_target_46 : decode prog_9_method_58_code 46 = .ok (.iconst 0, 1) := by decide +kernel
theorem d_M_target_47 : decode prog_9_method_58_code 47 = .ok (.bipush 26, 2) := by decide +kernel
theorem d_M_target_49 : decode prog_9_method_58_code 49 = .ok (.iload_n 1, 1) := by decide +kernel
theorem d_M_target_50 : decode prog_9_method_58_code 50 = .ok (.invokevirtual 115, 3) := by decide +kernel
theorem d_M_target_53 : decode prog_9_method_58_code 53 = .ok (.pop, 1) := by decide +kernel
theorem d_M_target_54 : decode prog_9_method_58_code 54 = .ok (.return_, 1) := by decide +kernel
theorem d_M_targets_0 : decode prog_9_method_59_code 0 = .ok (.aload_n 0, 1) := by decide +kernel
theorem d_M_targets_1 : decode prog_9_method_59_code 1 = .ok (.iload_n 1, 1) := by decide +kernel
theorem d_M_targets_2 : decode prog_9_method_59_code 2 = .ok (.invokevirtual 279, 3) := by decide +kernel
theorem d_M_targets_5 : decode prog_9_method_59_code 5 = .ok (.istore_n 2, 1) := by decide +kernel
theorem d_M_targets_6 : decode prog_9_method_59_code 6 = .ok (.iload_n 1, 1) := by decide +kernel
theorem d_M_targets_7 : decode prog_9_method_59_code 7 = .ok (.aload_n 0, 1) := by decide +kernel
theorem d_M_targets_8 : decode prog_9_method_59_code 8 = .ok (.getfield 261, 3) := by decide +kernel
theorem d_M_targets_11 : decode prog_9_method_59_code 11 = .ok (.isub, 1) := by decide +kernel
theorem d_M_targets_12 : decode prog_9_method_59_code 12 = .ok (.i2l, 1) := by decide +kernel
theorem d_M_targets_13 : decode prog_9_method_59_code 13 = .ok (.lstore_n 3, 1) := by decide +kernel
theorem d_M_targets_14 : decode prog_9_method_59_code 14 = .ok (.iload_n 2, 1) := by decide +kernel
theorem d_M_targets_15 : decode prog_9_method_59_code 15 = .ok (.sipush 153, 3) := by decide +kernel
theorem d_M_targets_18 : decode prog_9_method_59_code 18 = .ok (.if_icmp .lt 10, 3) := by decide +kernel
theorem d_M_targets_21 : decode prog_9_method_59_code 21 = .ok (.iload_n 2, 1) := by decide +kernel
theorem d_M_targets_22 : decode prog_9_method_59_code 22 = .ok (.sipush 167, 3) := by decide +kernel
theorem d_M_targets_25 : decode prog_9_method_59_code 25 = .ok (.if_icmp .le 17, 3) := by decide +kernel
theorem d_M_targets_28 : decode prog_9_method_59_code 28 = .ok (.iload_n 2, 1) := by decide +kernel
theorem d_M_targets_29 : decode prog_9_method_59_code 29 = .ok (.sipush 198, 3) := by decide +kernel
theorem d_M_targets_32 : decode prog_9_method_59_code 32 = .ok (.if_icmp .eq 10, 3) := by decide +kernel
theorem d_M_targets_35 : decode prog_9_method_59_code 35 = .ok (.iload_n 2, 1) := by decide +kernel
theorem d_M_targets_36 : decode prog_9_method_59_code 36 = .ok (.sipush 199, 3) := by decide +kernel
theorem d_M_targets_39 : decode prog_9_method_59_code 39 = .ok (.if_icmp .ne 19, 3) := by decide +kernel
theorem d_M_targets_42 : decode prog_9_method_59_code 42 = .ok (.aload_n 0, 1) := by decide +kernel
theorem d_M_targets_43 : decode prog_9_method_59_code 43 = .ok (.iload_n 1, 1) := by decide +kernel
theorem d_M_targets_44 : decode prog_9_method_59_code 44 = .ok (.lload_n 3, 1) := by decide +kernel
theorem d_M_targets_45 : decode prog_9_method_59_code 45 = .ok (.aload_n 0, 1) := by decide +kernel
theorem d_M_targets_46 : decode prog_9_method_59_code 46 = .ok (.iload_n 1, 1) := by decide +kernel
theorem d_M_targets_47 : decode prog_9_method_59_code 47 = .ok (.iconst 1, 1) := by decide +kernel
theorem d_M_targets_48 : decode prog_9_method_59_code 48 = .ok (.iadd, 1) := by decide +kernel
theorem d_M_targets_49 : decode prog_9_method_59_code 49 = .ok (.invokevirtual 76, 3) := by decide +kernel
theorem d_M_targets_52 : decode prog_9_method_59_code 52 = .ok (.i2s, 1) := by decide +kernel
theorem d_M_targets_53 : decode prog_9_method_59_code 53 = .ok (.i2l, 1) := by decide +kernel
theorem d_M_targets_54 : decode prog_9_method_59_code 54 = .ok (.ladd, 1) := by decide +kernel
theorem d_M_targets_55 : decode prog_9_method_59_code 55 = .ok (.invokevirtual 313, 3) := by decide +kernel
theorem d_M_targets_58 : decode prog_9_method_59_code 58 = .ok (.iload_n 2, 1) := by decide +kernel
theorem d_M_targets_59 : decode prog_9_method_59_code 59 = .ok (.sipush 200, 3) := by decide +kernel
theorem d_M_targets_62 : decode prog_9_method_59_code 62 = .ok (.if_icmp .ne 18, 3) := by decide +kernel
theorem d_M_targets_65 : decode prog_9_method_59_code 65 = .ok (.aload_n 0, 1) := by decide +kernel
theorem d_M_targets_66 : decode prog_9_method_59_code 66 = .ok (.iload_n 1, 1) := by decide +kernel
theorem d_M_targets_67 : decode prog_9_method_59_code 67 = .ok (.lload_n 3, 1) := by decide +kernel
theorem d_M_targets_68 : decode prog_9_method_59_code 68 = .ok (.aload_n 0, 1) := by decide +kernel
theorem d_M_targets_69 : decode prog_9_method_59_code 69 = .ok (.iload_n 1, 1) := by decide +kernel
theorem d_M_targets_70 : decode prog_9_method_59_code 70 = .ok (.iconst 1, 1) := by decide +kernel
theorem d_M_targets_71 : decode prog_9_method_59_code 71 = .ok (.iadd, 1) := by decide +kernel
theorem d_M_targets_72 : decode prog_9_method_59_code 72 = .ok (.invokevirtual 285, 3) := by decide +kernel
theorem d_M_targets_75 : decode prog_9_method_59_code 75 = .ok (.i2l, 1) := by decide +kernel
theorem d_M_targets_76 : decode prog_9_method_59_code 76 = .ok (.ladd, 1) := by decide +kernel
theorem d_M_targets_77 : decode prog_9_method_59_code 77 = .ok (.invokevirtual 313, 3) := by decide +kernel
theorem d_M_targets_80 : decode prog_9_method_59_code 80 = .ok (.iload_n 2, 1) := by decide +kernel
theorem d_M_targets_81 : decode prog_9_method_59_code 81 = .ok (.sipush 170, 3) := by decide +kernel
theorem d_M_targets_84 : decode prog_9_method_59_code 84 = .ok (.if_icmp .eq 11, 3) := by decide +kernel
theorem d_M_targets_87 : decode prog_9_method_59_code 87 = .ok (.iload_n 2, 1) := by decide +kernel
theorem d_M_targets_88 : decode prog_9_method_59_code 88 = .ok (.sipush 171, 3) := by decide +kernel
theorem d_M_targets_91 : decode prog_9_method_59_code 91 = .ok (.if_icmp .eq 4, 3) := by decide +kernel
theorem d_M_targets_94 : decode prog_9_method_59_code 94 = .ok (.return_, 1) := by decide +kernel
theorem d_M_targets_95 : decode prog_9_method_59_code 95 = .ok (.aload_n 0, 1) := by decide +kernel
theorem d_M_targets_96 : decode prog_9_method_59_code 96 = .ok (.iload_n 1, 1) := by decide +kernel
theorem d_M_targets_97 : decode prog_9_method_59_code 97 = .ok (.invokevirtual 282, 3) := by decide +kernel
theorem d_M_targets_100 : decode prog_9_method_59_code 100 = .ok (.istore 5, 2) := by decide +kernel
theorem d_M_targets_102 : decode prog_9_method_59_code 102 = .ok (.aload_n 0, 1) := by decide +kernel
theorem d_M_targets_103 : decode prog_9_method_59_code 103 = .ok (.iload_n 1, 1) := by decide +kernel
theorem d_M_targets_104 : decode prog_9_method_59_code 104 = .ok (.lload_n 3, 1) := by decide +kernel
theorem d_M_targets_105 : decode prog_9_method_59_code 105 = .ok (.aload_n 0, 1) := by decide +kernel
theorem d_M_targets_106 : decode prog_9_method_59_code 106 = .ok (.iload 5, 2) := by decide +kernel
theorem d_M_targets_108 : decode prog_9_method_59_code 108 = .ok (.invokevirtual 285, 3) := by decide +kernel
theorem d_M_targets_111 : decode prog_9_method_59_code 111 = .ok (.i2l, 1) := by decide +kernel
theorem d_M_targets_112 : decode prog_9_method_59_code 112 = .ok (.ladd, 1) := by decide +kernel
theorem d_M_targets_113 : decode prog_9_method_59_code 113 = .ok (.invokevirtual 313, 3) := by decide +kernel
theorem d_M_targets_116 : decode prog_9_method_59_code 116 = .ok (.iload_n 2, 1) := by decide +kernel
theorem d_M_targets_117 : decode prog_9_method_59_code 117 = .ok (.sipush 170, 3) := by decide +kernel
theorem d_M_targets_120 : decode prog_9_method_59_code 120 = .ok (.if_icmp .ne 26, 3) := by decide +kernel
theorem d_M_targets_123 : decode prog_9_method_59_code 123 = .ok (.aload_n 0, 1) := by decide +kernel
theorem d_M_targets_124 : decode prog_9_method_59_code 124 = .ok (.iload 5, 2) := by decide +kernel
theorem d_M_targets_126 : decode prog_9_method_59_code 126 = .ok (.bipush 8, 2) := by decide +kernel
theorem d_M_targets_128 : decode prog_9_method_59_code 128 = .ok (.iadd, 1) := by decide +kernel
theorem d_M_targets_129 : decode prog_9_method_59_code 129 = .ok (.invokevirtual 285, 3) := by decide +kernel
theorem d_M_targets_132 : decode prog_9_method_59_code 132 = .ok (.aload_n 0, 1) := by decide +kernel
theorem d_M_targets_133 : decode prog_9_method_59_code 133 = .ok (.iload 5, 2) := by decide +kernel
theorem d_M_targets_135 : decode prog_9_method_59_code 135 = .ok (.iconst 4, 1) := by decide +kernel
theorem d_M_targets_136 : decode prog_9_method_59_code 136 = .ok (.iadd, 1) := by decide +kernel
theorem d_M_targets_137 : decode prog_9_method_59_code 137 = .ok (.invokevirtual 285, 3) := by decide +kernel
theorem d_M_targets_140 : decode prog_9_method_59_code 140 = .ok (.isub, 1) := by decide +kernel
theorem d_M_targets_141 : decode prog_9_method_59_code 141 = .ok (.iconst 1, 1) := by decide +kernel
theorem d_M_targets_142 : decode prog_9_method_59_code 142 = .ok (.iadd, 1) := by decide +kernel
theorem d_M_targets_143 : decode prog_9_method_59_code 143 = .ok (.goto 11, 3) := by decide +kernel
theorem d_M_targets_146 : decode prog_9_method_59_code 146 = .ok (.aload_n 0, 1) := by decide +kernel
theorem d_M_targets_147 : decode prog_9_method_59_code 147 = .ok (.iload 5, 2) := by decide +kernel
theorem d_M_targets_149 : decode prog_9_method_59_code 149 = .ok (.iconst 4, 1) := by decide +kernel
theorem d_M_targets_150 : decode prog_9_method_59_code 150 = .ok (.iadd, 1) := by decide +kernel
theorem d_M_targets_151 : decode prog_9_method_59_code 151 = .ok (.invokevirtual 285, 3) := by decide +kernel
theorem d_M_targets_154 : decode prog_9_method_59_code 154 = .ok (.istore 6, 2) := by decide +kernel
theorem d_M_targets_156 : decode prog_9_method_59_code 156 = .ok (.iconst 0, 1) := by decide +kernel
theorem d_M_targets_157 : decode prog_9_method_59_code 157 = .ok (.istore 7, 2) := by decide +kernel
theorem d_M_targets_159 : decode prog_9_method_59_code 159 = .ok (.iload 7, 2) := by decide +kernel
theorem d_M_targets_161 : decode prog_9_method_59_code 161 = .ok (.iload 6, 2) := by decide +kernel
theorem d_M_targets_163 : decode prog_9_method_59_code 163 = .ok (.if_icmp .ge 59, 3) := by decide +kernel
theorem d_M_targets_166 : decode prog_9_method_59_code 166 = .ok (.aload_n 0, 1) := by decide +kernel
theorem d_M_targets_167 : decode prog_9_method_59_code 167 = .ok (.invokevirtual 55, 3) := by decide +kernel
theorem d_M_targets_170 : decode prog_9_method_59_code 170 = .ok (.ifCond .eq 52, 3) := by decide +kernel
theorem d_M_targets_173 : decode prog_9_method_59_code 173 = .ok (.aload_n 0, 1) := by decide +kernel
theorem d_M_targets_174 : decode prog_9_method_59_code 174 = .ok (.iload_n 1, 1) := by decide +kernel
theorem d_M_targets_175 : decode prog_9_method_59_code 175 = .ok (.lload_n 3, 1) := by decide +kernel
theorem d_M_targets_176 : decode prog_9_method_59_code 176 = .ok (.aload_n 0, 1) := by decide +kernel
theorem d_M_targets_177 : decode prog_9_method_59_code 177 = .ok (.iload_n 2, 1) := by decide +kernel
theorem d_M_targets_178 : decode prog_9_method_59_code 178 = .ok (.sipush 170, 3) := by decide +kernel
theorem d_M_targets_181 : decode prog_9_method_59_code 181 = .ok (.if_icmp .ne 16, 3) := by decide +kernel
theorem d_M_targets_184 : decode prog_9_method_59_code 184 = .ok (.iload 5, 2) := by decide +kernel
theorem d_M_targets_186 : decode prog_9_method_59_code 186 = .ok (.bipush 12, 2) := by decide +kernel
theorem d_M_targets_188 : decode prog_9_method_59_code 188 = .ok (.iadd, 1) := by decide +kernel
theorem d_M_targets_189 : decode prog_9_method_59_code 189 = .ok (.iconst 4, 1) := by decide +kernel
theorem d_M_targets_190 : decode prog_9_method_59_code 190 = .ok (.iload 7, 2) := by decide +kernel
theorem d_M_targets_192 : decode prog_9_method_59_code 192 = .ok (.imul, 1) := by decide +kernel
theorem d_M_targets_193 : decode prog_9_method_59_code 193 = .ok (.iadd, 1) := by decide +kernel
theorem d_M_targets_194 : decode prog_9_method_59_code 194 = .ok (.goto 14, 3) := by decide +kernel
theorem d_M_targets_197 : decode prog_9_method_59_code 197 = .ok (.iload 5, 2) := by decide +kernel
theorem d_M_targets_199 : decode prog_9_method_59_code 199 = .ok (.bipush 12, 2) := by decide +kernel
theorem d_M_targets_201 : decode prog_9_method_59_code 201 = .ok (.iadd, 1) := by decide +kernel
theorem d_M_targets_202 : decode prog_9_method_59_code 202 = .ok (.bipush 8, 2) := by decide +kernel
theorem d_M_targets_204 : decode prog_9_method_59_code 204 = .ok (.iload 7, 2) := by decide +kernel
theorem d_M_targets_206 : decode prog_9_method_59_code 206 = .ok (.imul, 1) := by decide +kernel
theorem d_M_targets_207 : decode prog_9_method_59_code 207 = .ok (.iadd, 1) := by decide +kernel
theorem d_M_targets_208 : decode prog_9_method_59_code 208 = .ok (.invokevirtual 285, 3) := by decide +kernel
theorem d_M_targets_211 : decode prog_9_method_59_code 211 = .ok (.i2l, 1) := by decide +kernel
theorem d_M_targets_212 : decode prog_9_method_59_code 212 = .ok (.ladd, 1) := by decide +kernel
theorem d_M_targets_213 : decode prog_9_method_59_code 213 = .ok (.invokevirtual 313, 3) := by decide +kernel
theorem d_M_targets_216 : decode prog_9_method_59_code 216 = .ok (.iinc 7 1, 3) := by decide +kernel
theorem d_M_targets_219 : decode prog_9_method_59_code 219 = .ok (.goto (-60), 3) := by decide +kernel
theorem d_M_targets_222 : decode prog_9_method_59_code 222 = .ok (.return_, 1) := by decide +kernel
theorem d_M_code_0 : decode prog_9_method_44_code 0 = .ok (.aload_n 0, 1) := by decide +kernel
theorem d_M_code_1 : decode prog_9_method_44_code 1 = .ok (.getfield 63, 3) := by decide +kernel
theorem d_M_code_4 : decode prog_9_method_44_code 4 = .ok (.istore_n 3, 1) := by decide +kernel
theorem d_M_code_5 : decode prog_9_method_44_code 5 = .ok (.aload_n 0, 1) := by decide +kernel
theorem d_M_code_6 : decode prog_9_method_44_code 6 = .ok (.invokevirtual 73, 3) := by decide +kernel
theorem d_M_code_9 : decode prog_9_method_44_code 9 = .ok (.istore 4, 2) := by decide +kernel
theorem d_M_code_11 : decode prog_9_method_44_code 11 = .ok (.aload_n 0, 1) := by decide +kernel
theorem d_M_code_12 : decode prog_9_method_44_code 12 = .ok (.iload 4, 2) := by decide +kernel
theorem d_M_code_14 : decode prog_9_method_44_code 14 = .ok (.sipush 255, 3) := by decide +kernel
theorem d_M_code_17 : decode prog_9_method_44_code 17 = .ok (.if_icmp .gt 7, 3) := by decide +kernel
theorem d_M_code_20 : decode prog_9_method_44_code 20 = .ok (.iconst 1, 1) := by decide +kernel
theorem d_M_code_21 : decode prog_9_method_44_code 21 = .ok (.goto 4, 3) := by decide +kernel
theorem d_M_code_24 : decode prog_9_method_44_code 24 = .ok (.iconst 0, 1) := by decide +kernel
theorem d_M_code_25 : decode prog_9_method_44_code 25 = .ok (.bipush 15, 2) := by decide +kernel
theorem d_M_code_27 : decode prog_9_method_44_code 27 = .ok (.iload_n 3, 1) := by decide +kernel
theorem d_M_code_28 : decode prog_9_method_44_code 28 = .ok (.invokevirtual 115, 3) := by decide +kernel
theorem d_M_code_31 : decode prog_9_method_44_code 31 = .ok (.pop, 1) := by decide +kernel
theorem d_M_code_32 : decode prog_9_method_44_code 32 = .ok (.aload_n 0, 1) := by decide +kernel
theorem d_M_code_33 : decode prog_9_method_44_code 33 = .ok (.getfield 63, 3) := by decide +kernel
theorem d_M_code_36 : decode prog_9_method_44_code 36 = .ok (.istore_n 3, 1) := by decide +kernel
theorem d_M_code_37 : decode prog_9_method_44_code 37 = .ok (.aload_n 0, 1) := by decide +kernel
theorem d_M_code_38 : decode prog_9_method_44_code 38 = .ok (.aload_n 0, 1) := by decide +kernel
theorem d_M_code_39 : decode prog_9_method_44_code 39 = .ok (.invokevirtual 73, 3) := by decide +kernel
theorem d_M_code_42 : decode prog_9_method_44_code 42 = .ok (.putfield 256, 3) := by decide +kernel
theorem d_M_code_45 : decode prog_9_method_44_code 45 = .ok (.aload_n 0, 1) := by decide +kernel
theorem d_M_code_46 : decode prog_9_method_44_code 46 = .ok (.aload_n 0, 1) := by decide +kernel
theorem d_M_code_47 : decode prog_9_method_44_code 47 = .ok (.getfield 256, 3) := by decide +kernel
theorem d_M_code_50 : decode prog_9_method_44_code 50 = .ok (.sipush 255, 3) := by decide +kernel
theorem d_M_code_53 : decode prog_9_method_44_code 53 = .ok (.if_icmp .gt 7, 3) := by decide +kernel
theorem d_M_code_56 : decode prog_9_method_44_code 56 = .ok (.iconst 1, 1) := by decide +kernel
theorem d_M_code_57 : decode prog_9_method_44_code 57 = .ok (.goto 4, 3) := by decide +kernel
theorem d_M_code_60 : decode prog_9_method_44_code 60 = .ok (.iconst 0, 1) := by decide +kernel
theorem d_M_code_61 : decode prog_9_method_44_code 61 = .ok (.bipush 15, 2) := by decide +kernel
theorem d_M_code_63 : decode prog_9_method_44_code 63 = .ok (.iload_n 3, 1) := by decide +kernel
theorem d_M_code_64 : decode prog_9_method_44_code 64 = .ok (.invokevirtual 115, 3) := by decide +kernel
theorem d_M_code_67 : decode prog_9_method_44_code 67 = .ok (.pop, 1) := by decide +kernel
theorem d_M_code_68 : decode prog_9_method_44_code 68 = .ok (.aload_n 0, 1) := by decide +kernel
theorem d_M_code_69 : decode prog_9_method_44_code 69 = .ok (.aload_n 0, 1) := by decide +kernel
theorem d_M_code_70 : decode prog_9_method_44_code 70 = .ok (.getfield 256, 3) := by decide +kernel
theorem d_M_code_73 : decode prog_9_method_44_code 73 = .ok (.aload_n 0, 1) := by decide +kernel
theorem d_M_code_74 : decode prog_9_method_44_code 74 = .ok (.getfield 20, 3) := by decide +kernel
theorem d_M_code_77 : decode prog_9_method_44_code 77 = .ok (.bipush 6, 2) := by decide +kernel
theorem d_M_code_79 : decode prog_9_method_44_code 79 = .ok (.iload_n 2, 1) := by decide +kernel
theorem d_M_code_80 : decode prog_9_method_44_code 80 = .ok (.imul, 1) := by decide +kernel
theorem d_M_code_81 : decode prog_9_method_44_code 81 = .ok (.iconst 1, 1) := by decide +kernel
theorem d_M_code_82 : decode prog_9_method_44_code 82 = .ok (.iadd, 1) := by decide +kernel
theorem d_M_code_83 : decode prog_9_method_44_code 83 = .ok (.iaload, 1) := by decide +kernel
theorem d_M_code_84 : decode prog_9_method_44_code 84 = .ok (.iload_n 1, 1) := by decide +kernel
theorem d_M_code_85 : decode prog_9_method_44_code 85 = .ok (.bipush 8, 2) := by decide +kernel
theorem d_M_code_87 : decode prog_9_method_44_code 87 = .ok (.iand, 1) := by decide +kernel
theorem d_M_code_88 : decode prog_9_method_44_code 88 = .ok (.ifCond .ne 7, 3) := by decide +kernel
theorem d_M_code_91 : decode prog_9_method_44_code 91 = .ok (.iconst 1, 1) := by decide +kernel
theorem d_M_code_92 : decode prog_9_method_44_code 92 = .ok (.goto 4, 3) := by decide +kernel
theorem d_M_code_95 : decode prog_9_method_44_code 95 = .ok (.iconst 0, 1) := by decide +kernel
theorem d_M_code_96 : decode prog_9_method_44_code 96 = .ok (.iadd, 1) := by decide +kernel
theorem d_M_code_97 : decode prog_9_method_44_code 97 = .ok (.if_icmp .lt 7, 3) := by decide +kernel
theorem d_M_code_100 : decode prog_9_method_44_code 100 = .ok (.iconst 1, 1) := by decide +kernel
theorem d_M_code_101 : decode prog_9_method_44_code 101 = .ok (.goto 4, 3) := by decide +kernel
theorem d_M_code_104 : decode prog_9_method_44_code 104 = .ok (.iconst 0, 1) := by decide +kernel
theorem d_M_code_105 : decode prog_9_method_44_code 105 = .ok (.bipush 21, 2) := by decide +kernel
theorem d_M_code_107 : decode prog_9_method_44_code 107 = .ok (.iload_n 3, 1) := by decide +kernel
theorem d_M_code_108 : decode prog_9_method_44_code 108 = .ok (.invokevirtual 115, 3) := by decide +kernel
theorem d_M_code_111 : decode prog_9_method_44_code 111 = .ok (.pop, 1) := by decide +kernel
theorem d_M_code_112 : decode prog_9_method_44_code 112 = .ok (.aload_n 0, 1) := by decide +kernel
theorem d_M_code_113 : decode prog_9_method_44_code 113 = .ok (.getfield 63, 3) := by decide +kernel
theorem d_M_code_116 : decode prog_9_method_44_code 116 = .ok (.istore_n 3, 1) := by decide +kernel
theorem d_M_code_117 : decode prog_9_method_44_code 117 = .ok (.aload_n 0, 1) := by decide +kernel
theorem d_M_code_118 : decode prog_9_method_44_code 118 = .ok (.invokevirtual 140, 3) := by decide +kernel
theorem d_M_code_121 : decode prog_9_method_44_code 121 = .ok (.lstore 5, 2) := by decide +kernel
theorem d_M_code_123 : decode prog_9_method_44_code 123 = .ok (.aload_n 0, 1) := by decide +kernel
theorem d_M_code_124 : decode prog_9_method_44_code 124 = .ok (.lload 5, 2) := by decide +kernel
theorem d_M_code_126 : decode prog_9_method_44_code 126 = .ok (.lconst 1, 1) := by decide +kernel
theorem d_M_code_127 : decode prog_9_method_44_code 127 = .ok (.lcmp, 1) := by decide +kernel
theorem d_M_code_128 : decode prog_9_method_44_code 128 = .ok (.ifCond .lt 16, 3) := by decide +kernel
theorem d_M_code_131 : decode prog_9_method_44_code 131 = .ok (.lload 5, 2) := by decide +kernel
theorem d_M_code_133 : decode prog_9_method_44_code 133 = .ok (.ldc2_w 259, 3) := by decide +kernel
theorem d_M_code_136 : decode prog_9_method_44_code 136 = .ok (.lcmp, 1) := by decide +kernel
theorem d_M_code_137 : decode prog_9_method_44_code 137 = .ok (.ifCond .gt 7, 3) := by decide +kernel
theorem d_M_code_140 : decode prog_9_method_44_code 140 = .ok (.iconst 1, 1) := by decide +kernel
theorem d_M_code_141 : decode prog_9_method_44_code 141 = .ok (.goto 4, 3) := by decide +kernel
theorem d_M_code_144 : decode prog_9_method_44_code 144 = .ok (.iconst 0, 1) := by decide +kernel
theorem d_M_code_145 : decode prog_9_method_44_code 145 = .ok (.bipush 15, 2) := by decide +kernel
theorem d_M_code_147 : decode prog_9_method_44_code 147 = .ok (.iload_n 3, 1) := by decide +kernel
theorem d_M_code_148 : decode prog_9_method_44_code 148 = .ok (.invokevirtual 115, 3) := by decide +kernel
theorem d_M_code_151 : decode prog_9_method_44_code 151 = .ok (.pop, 1) := by decide +kernel
theorem d_M_code_152 : decode prog_9_method_44_code 152 = .ok (.aload_n 0, 1) := by decide +kernel
theorem d_M_code_153 : decode prog_9_method_44_code 153 = .ok (.invokevirtual 55, 3) := by decide +kernel
theorem d_M_code_156 : decode prog_9_method_44_code 156 = .ok (.ifCond .ne 4, 3) := by decide +kernel
theorem d_M_code_159 : decode prog_9_method_44_code 159 = .ok (.return_, 1) := by decide +kernel
theorem d_M_code_160 : decode prog_9_method_44_code 160 = .ok (.aload_n 0, 1) := by decide +kernel
theorem d_M_code_161 : decode prog_9_method_44_code 161 = .ok (.aload_n 0, 1) := by decide +kernel
theorem d_M_code_162 : decode prog_9_method_44_code 162 = .ok (.getfield 63, 3) := by decide +kernel
theorem d_M_code_165 : decode prog_9_method_44_code 165 = .ok (.putfield 261, 3) := by decide +kernel
theorem d_M_code_168 : decode prog_9_method_44_code 168 = .ok (.aload_n 0, 1) := by decide +kernel
theorem d_M_code_169 : decode prog_9_method_44_code 169 = .ok (.aload_n 0, 1) := by decide +kernel
theorem d_M_code_170 : decode prog_9_method_44_code 170 = .ok (.getfield 261, 3) := by decide +kernel
theorem d_M_code_173 : decode prog_9_method_44_code 173 = .ok (.lload 5, 2) := by decide +kernel
theorem d_M_code_175 : decode prog_9_method_44_code 175 = .ok (.l2i, 1) := by decide +kernel
theorem d_M_code_176 : decode prog_9_method_44_code 176 = .ok (.iadd, 1) := by decide +kernel
theorem d_M_code_177 : decode prog_9_method_44_code 177 = .ok (.putfield 264, 3) := by decide +kernel
theorem d_M_code_180 : decode prog_9_method_44_code 180 = .ok (.aload_n 0, 1) := by decide +kernel
theorem d_M_code_181 : decode prog_9_method_44_code 181 = .ok (.aload_n 0, 1) := by decide +kernel
theorem d_M_code_182 : decode prog_9_method_44_code 182 = .ok (.getfield 264, 3) := by decide +kernel
theorem d_M_code_185 : decode prog_9_method_44_code 185 = .ok (.aload_n 0, 1) := by decide +kernel
theorem d_M_code_186 : decode prog_9_method_44_code 186 = .ok (.getfield 66, 3) := by decide +kernel
theorem d_M_code_189 : decode prog_9_method_44_code 189 = .ok (.if_icmp .gt 7, 3) := by decide +kernel
theorem d_M_code_192 : decode prog_9_method_44_code 192 = .ok (.iconst 1, 1) := by decide +kernel
theorem d_M_code_193 : decode prog_9_method_44_code 193 = .ok (.goto 4, 3) := by decide +kernel
theorem d_M_code_196 : decode prog_9_method_44_code 196 = .ok (.iconst 0, 1) := by decide +kernel
theorem d_M_code_197 : decode prog_9_method_44_code 197 = .ok (.iconst 1, 1) := by decide +kernel
theorem d_M_code_198 : decode prog_9_method_44_code 198 = .ok (.aload_n 0, 1) := by decide +kernel
theorem d_M_code_199 : decode prog_9_method_44_code 199 = .ok (.getfield 66, 3) := by decide +kernel
theorem d_M_code_202 : decode prog_9_method_44_code 202 = .ok (.invokevirtual 115, 3) := by decide +kernel
theorem d_M_code_205 : decode prog_9_method_44_code 205 = .ok (.ifCond .ne 4, 3) := by decide +kernel
theorem d_M_code_208 : decode prog_9_method_44_code 208 = .ok (.return_, 1) := by decide +kernel
theorem d_M_code_209 : decode prog_9_method_44_code 209 = .ok (.iconst 0, 1) := by decide +kernel
theorem d_M_code_210 : decode prog_9_method_44_code 210 = .ok (.istore 7, 2) := by decide +kernel
theorem d_M_code_212 : decode prog_9_method_44_code 212 = .ok (.iload 7, 2) := by decide +kernel
theorem d_M_code_214 : decode prog_9_method_44_code 214 = .ok (.i2l, 1) := by decide +kernel
theorem d_M_code_215 : decode prog_9_method_44_code 215 = .ok (.lload 5, 2) := by decide +kernel
theorem d_M_code_217 : decode prog_9_method_44_code 217 = .ok (.lcmp, 1) := by decide +kernel
theorem d_M_code_218 : decode prog_9_method_44_code 218 = .ok (.ifCond .gt 17, 3) := by decide +kernel
theorem d_M_code_221 : decode prog_9_method_44_code 221 = .ok (.aload_n 0, 1) := by decide +kernel
theorem d_M_code_222 : decode prog_9_method_44_code 222 = .ok (.getfield 32, 3) := by decide +kernel
theorem d_M_code_225 : decode prog_9_method_44_code 225 = .ok (.iload 7, 2) := by decide +kernel
theorem d_M_code_227 : decode prog_9_method_44_code 227 = .ok (.iconst 0, 1) := by decide +kernel
theorem d_M_code_228 : decode prog_9_method_44_code 228 = .ok (.bastore, 1) := by decide +kernel
theorem d_M_code_229 : decode prog_9_method_44_code 229 = .ok (.iinc 7 1, 3) := by decide +kernel
theorem d_M_code_232 : decode prog_9_method_44_code 232 = .ok (.goto (-20), 3) := by decide +kernel
theorem d_M_code_235 : decode prog_9_method_44_code 235 = .ok (.aload_n 0, 1) := by decide +kernel
theorem d_M_code_236 : decode prog_9_method_44_code 236 = .ok (.getfield 261, 3) := by decide +kernel
theorem d_M_code_239 : decode prog_9_method_44_code 239 = .ok (.istore 7, 2) := by decide +kernel
theorem d_M_code_241 : decode prog_9_method_44_code 241 = .ok (.iconst 0, 1) := by decide +kernel
theorem d_M_code_242 : decode prog_9_method_44_code 242 = .ok (.istore 8, 2) := by decide +kernel
theorem d_M_code_244 : decode prog_9_method_44_code 244 = .ok (.aload_n 0, 1) := by decide +kernel
theorem d_M_code_245 : decode prog_9_method_44_code 245 = .ok (.getfield 63, 3) := by decide +kernel
theorem d_M_code_248 : decode prog_9_method_44_code 248 = .ok (.aload_n 0, 1) := by decide +kernel
theorem d_M_code_249 : decode prog_9_method_44_code 249 = .ok (.getfield 264, 3) := by decide +kernel
theorem d_M_code_252 : decode prog_9_method_44_code 252 = .ok (.if_icmp .ge 41, 3) := by decide +kernel
theorem d_M_code_255 : decode prog_9_method_44_code 255 = .ok (.aload_n 0, 1) := by decide +kernel
theorem d_M_code_256 : decode prog_9_method_44_code 256 = .ok (.invokevirtual 55, 3) := by decide +kernel
theorem d_M_code_259 : decode prog_9_method_44_code 259 = .ok (.ifCond .eq 34, 3) := by decide +kernel
theorem d_M_code_262 : decode prog_9_method_44_code 262 = .ok (.aload_n 0, 1) := by decide +kernel
theorem d_M_code_263 : decode prog_9_method_44_code 263 = .ok (.getfield 63, 3) := by decide +kernel
theorem d_M_code_266 : decode prog_9_method_44_code 266 = .ok (.istore 7, 2) := by decide +kernel
theorem d_M_code_268 : decode prog_9_method_44_code 268 = .ok (.aload_n 0, 1) := by decide +kernel
theorem d_M_code_269 : decode prog_9_method_44_code 269 = .ok (.getfield 32, 3) := by decide +kernel
theorem d_M_code_272 : decode prog_9_method_44_code 272 = .ok (.aload_n 0, 1) := by decide +kernel
theorem d_M_code_273 : decode prog_9_method_44_code 273 = .ok (.getfield 63, 3) := by decide +kernel
theorem d_M_code_276 : decode prog_9_method_44_code 276 = .ok (.aload_n 0, 1) := by decide +kernel
theorem d_M_code_277 : decode prog_9_method_44_code 277 = .ok (.getfield 261, 3) := by decide +kernel
theorem d_M_code_280 : decode prog_9_method_44_code 280 = .ok (.isub, 1) := by decide +kernel
theorem d_M_code_281 : decode prog_9_method_44_code 281 = .ok (.iconst 1, 1) := by decide +kernel
theorem d_M_code_282 : decode prog_9_method_44_code 282 = .ok (.bastore, 1) := by decide +kernel
theorem d_M_code_283 : decode prog_9_method_44_code 283 = .ok (.iinc 8 1, 3) := by decide +kernel
theorem d_M_code_286 : decode prog_9_method_44_code 286 = .ok (.aload_n 0, 1) := by decide +kernel
theorem d_M_code_287 : decode prog_9_method_44_code 287 = .ok (.invokevirtual 267, 3) := by decide +kernel
theorem d_M_code_290 : decode prog_9_method_44_code 290 = .ok (.goto (-46), 3) := by decide +kernel
theorem d_M_code_293 : decode prog_9_method_44_code 293 = .ok (.aload_n 0, 1) := by decide +kernel
theorem d_M_code_294 : decode prog_9_method_44_code 294 = .ok (.invokevirtual 55, 3) := by decide +kernel
theorem d_M_code_297 : decode prog_9_method_44_code 297 = .ok (.ifCond .ne 4, 3) := by decide +kernel
theorem d_M_code_300 : decode prog_9_method_44_code 300 = .ok (.return_, 1) := by decide +kernel
theorem d_M_code_301 : decode prog_9_method_44_code 301 = .ok (.aload_n 0, 1) := by decide +kernel
theorem d_M_code_302 : decode prog_9_method_44_code 302 = .ok (.getfield 261, 3) := by decide +kernel
theorem d_M_code_305 : decode prog_9_method_44_code 305 = .ok (.istore 9, 2) := by decide +kernel
theorem d_M_code_307 : decode prog_9_method_44_code 307 = .ok (.iload 9, 2) := by decide +kernel
theorem d_M_code_309 : decode prog_9_method_44_code 309 = .ok (.aload_n 0, 1) := by decide +kernel
theorem d_M_code_310 : decode prog_9_method_44_code 310 = .ok (.getfield 264, 3) := by decide +kernel
theorem d_M_code_313 : decode prog_9_method_44_code 313 = .ok (.if_icmp .ge 27, 3) := by decide +kernel
theorem d_M_code_316 : decode prog_9_method_44_code 316 = .ok (.aload_n 0, 1) := by decide +kernel
theorem d_M_code_317 : decode prog_9_method_44_code 317 = .ok (.invokevirtual 55, 3) := by decide +kernel
theorem d_M_code_320 : decode prog_9_method_44_code 320 = .ok (.ifCond .eq 20, 3) := by decide +kernel
theorem d_M_code_323 : decode prog_9_method_44_code 323 = .ok (.aload_n 0, 1) := by decide +kernel
theorem d_M_code_324 : decode prog_9_method_44_code 324 = .ok (.iload 9, 2) := by decide +kernel
theorem d_M_code_326 : decode prog_9_method_44_code 326 = .ok (.invokevirtual 270, 3) := by decide +kernel
theorem d_M_code_329 : decode prog_9_method_44_code 329 = .ok (.aload_n 0, 1) := by decide +kernel
theorem d_M_code_330 : decode prog_9_method_44_code 330 = .ok (.iload 9, 2) := by decide +kernel
theorem d_M_code_332 : decode prog_9_method_44_code 332 = .ok (.invokevirtual 273, 3) := by decide +kernel
theorem d_M_code_335 : decode prog_9_method_44_code 335 = .ok (.istore 9, 2) := by decide +kernel
theorem d_M_code_337 : decode prog_9_method_44_code 337 = .ok (.goto (-30), 3) := by decide +kernel
theorem d_M_code_340 : decode prog_9_method_44_code 340 = .ok (.aload_n 0, 1) := by decide +kernel
theorem d_M_code_341 : decode prog_9_method_44_code 341 = .ok (.getfield 7, 3) := by decide +kernel
theorem d_M_code_344 : decode prog_9_method_44_code 344 = .ok (.iload 7, 2) := by decide +kernel
theorem d_M_code_346 : decode prog_9_method_44_code 346 = .ok (.baload, 1) := by decide +kernel
theorem d_M_code_347 : decode prog_9_method_44_code 347 = .ok (.sipush 255, 3) := by decide +kernel
theorem d_M_code_350 : decode prog_9_method_44_code 350 = .ok (.iand, 1) := by decide +kernel
theorem d_M_code_351 : decode prog_9_method_44_code 351 = .ok (.istore 9, 2) := by decide +kernel
theorem d_M_code_353 : decode prog_9_method_44_code 353 = .ok (.aload_n 0, 1) := by decide +kernel
theorem d_M_code_354 : decode prog_9_method_44_code 354 = .ok (.iload 9, 2) := by decide +kernel
theorem d_M_code_356 : decode prog_9_method_44_code 356 = .ok (.sipush 167, 3) := by decide +kernel
theorem d_M_code_359 : decode prog_9_method_44_code 359 = .ok (.if_icmp .eq 67, 3) := by decide +kernel
theorem d_M_code_362 : decode prog_9_method_44_code 362 = .ok (.iload 9, 2) := by decide +kernel
theorem d_M_code_364 : decode prog_9_method_44_code 364 = .ok (.sipush 200, 3) := by decide +kernel
theorem d_M_code_367 : decode prog_9_method_44_code 367 = .ok (.if_icmp .eq 59, 3) := by decide +kernel
theorem d_M_code_370 : decode prog_9_method_44_code 370 = .ok (.iload 9, 2) := by decide +kernel
theorem d_M_code_372 : decode prog_9_method_44_code 372 = .ok (.sipush 170, 3) := by decide +kernel
theorem d_M_code_375 : decode prog_9_method_44_code 375 = .ok (.if_icmp .eq 51, 3) := by decide +kernel
theorem d_M_code_378 : decode prog_9_method_44_code 378 = .ok (.iload 9, 2) := by decide +kernel
theorem d_M_code_380 : decode prog_9_method_44_code 380 = .ok (.sipush 171, 3) := by decide +kernel
theorem d_M_code_383 : decode prog_9_method_44_code 383 = .ok (.if_icmp .eq 43, 3) := by decide +kernel
theorem d_M_code_386 : decode prog_9_method_44_code 386 = .ok (.iload 9, 2) := by decide +kernel
theorem d_M_code_388 : decode prog_9_method_44_code 388 = .ok (.sipush 172, 3) := by decide +kernel
theorem d_M_code_391 : decode prog_9_method_44_code 391 = .ok (.if_icmp .eq 35, 3) := by decide +kernel
theorem d_M_code_394 : decode prog_9_method_44_code 394 = .ok (.iload 9, 2) := by decide +kernel
theorem d_M_code_396 : decode prog_9_method_44_code 396 = .ok (.sipush 173, 3) := by decide +kernel
theorem d_M_code_399 : decode prog_9_method_44_code 399 = .ok (.if_icmp .eq 27, 3) := by decide +kernel
theorem d_M_code_402 : decode prog_9_method_44_code 402 = .ok (.iload 9, 2) := by decide +kernel
theorem d_M_code_404 : decode prog_9_method_44_code 404 = .ok (.sipush 176, 3) := by decide +kernel
theorem d_M_code_407 : decode prog_9_method_44_code 407 = .ok (.if_icmp .eq 19, 3) := by decide +kernel
theorem d_M_code_410 : decode prog_9_method_44_code 410 = .ok (.iload 9, 2) := by decide +kernel
theorem d_M_code_412 : decode prog_9_method_44_code 412 = .ok (.sipush 177, 3) := by decide +kernel
theorem d_M_code_415 : decode prog_9_method_44_code 415 = .ok (.if_icmp .eq 11, 3) := by decide +kernel
theorem d_M_code_418 : decode prog_9_method_44_code 418 = .ok (.iload 9, 2) := by decide +kernel
theorem d_M_code_420 : decode prog_9_method_44_code 420 = .ok (.sipush 191, 3) := by decide +kernel
theorem d_M_code_423 : decode prog_9_method_44_code 423 = .ok (.if_icmp .ne 7, 3) := by decide +kernel
theorem d_M_code_426 : decode prog_9_method_44_code 426 = .ok (.iconst 1, 1) := by decide +kernel
theorem d_M_code_427 : decode prog_9_method_44_code 427 = .ok (.goto 4, 3) := by decide +kernel
theorem d_M_code_430 : decode prog_9_method_44_code 430 = .ok (.iconst 0, 1) := by decide +kernel
theorem d_M_code_431 : decode prog_9_method_44_code 431 = .ok (.bipush 27, 2) := by decide +kernel
theorem d_M_code_433 : decode prog_9_method_44_code 433 = .ok (.iload 7, 2) := by decide +kernel
theorem d_M_code_435 : decode prog_9_method_44_code 435 = .ok (.invokevirtual 115, 3) := by decide +kernel
theorem d_M_code_438 : decode prog_9_method_44_code 438 = .ok (.pop, 1) := by decide +kernel
theorem d_M_code_439 : decode prog_9_method_44_code 439 = .ok (.aload_n 0, 1) := by decide +kernel
theorem d_M_code_440 : decode prog_9_method_44_code 440 = .ok (.invokevirtual 276, 3) := by decide +kernel
theorem d_M_code_443 : decode prog_9_method_44_code 443 = .ok (.aload_n 0, 1) := by decide +kernel
theorem d_M_code_444 : decode prog_9_method_44_code 444 = .ok (.getfield 63, 3) := by decide +kernel
theorem d_M_code_447 : decode prog_9_method_44_code 447 = .ok (.istore_n 3, 1) := by decide +kernel
theorem d_M_code_448 : decode prog_9_method_44_code 448 = .ok (.aload_n 0, 1) := by decide +kernel
theorem d_M_code_449 : decode prog_9_method_44_code 449 = .ok (.aload_n 0, 1) := by decide +kernel
theorem d_M_code_450 : decode prog_9_method_44_code 450 = .ok (.invokevirtual 73, 3) := by decide +kernel
theorem d_M_code_453 : decode prog_9_method_44_code 453 = .ok (.ifCond .ne 7, 3) := by decide +kernel
theorem d_M_code_456 : decode prog_9_method_44_code 456 = .ok (.iconst 1, 1) := by decide +kernel
theorem d_M_code_457 : decode prog_9_method_44_code 457 = .ok (.goto 4, 3) := by decide +kernel
theorem d_M_code_460 : decode prog_9_method_44_code 460 = .ok (.iconst 0, 1) := by decide +kernel
theorem d_M_code_461 : decode prog_9_method_44_code 461 = .ok (.bipush 19, 2) := by decide +kernel
theorem d_M_code_463 : decode prog_9_method_44_code 463 = .ok (.iload_n 3, 1) := by decide +kernel
theorem d_M_code_464 : decode prog_9_method_44_code 464 = .ok (.invokevirtual 115, 3) := by decide +kernel
theorem d_M_code_467 : decode prog_9_method_44_code 467 = .ok (.pop, 1) := by decide +kernel
theorem d_M_code_468 : decode prog_9_method_44_code 468 = .ok (.aload_n 0, 1) := by decide +kernel
theorem d_M_code_469 : decode prog_9_method_44_code 469 = .ok (.getfield 20, 3) := by decide +kernel
theorem d_M_code_472 : decode prog_9_method_44_code 472 = .ok (.bipush 6, 2) := by decide +kernel
theorem d_M_code_474 : decode prog_9_method_44_code 474 = .ok (.iload_n 2, 1) := by decide +kernel
theorem d_M_code_475 : decode prog_9_method_44_code 475 = .ok (.imul, 1) := by decide +kernel
theorem d_M_code_476 : decode prog_9_method_44_code 476 = .ok (.iconst 2, 1) := by decide +kernel
theorem d_M_code_477 : decode prog_9_method_44_code 477 = .ok (.iadd, 1) := by decide +kernel
theorem d_M_code_478 : decode prog_9_method_44_code 478 = .ok (.iload 4, 2) := by decide +kernel
theorem d_M_code_480 : decode prog_9_method_44_code 480 = .ok (.iastore, 1) := by decide +kernel
theorem d_M_code_481 : decode prog_9_method_44_code 481 = .ok (.aload_n 0, 1) := by decide +kernel
theorem d_M_code_482 : decode prog_9_method_44_code 482 = .ok (.getfield 20, 3) := by decide +kernel
theorem d_M_code_485 : decode prog_9_method_44_code 485 = .ok (.bipush 6, 2) := by decide +kernel
theorem d_M_code_487 : decode prog_9_method_44_code 487 = .ok (.iload_n 2, 1) := by decide +kernel
theorem d_M_code_488 : decode prog_9_method_44_code 488 = .ok (.imul, 1) := by decide +kernel
theorem d_M_code_489 : decode prog_9_method_44_code 489 = .ok (.iconst 3, 1) := by decide +kernel
theorem d_M_code_490 : decode prog_9_method_44_code 490 = .ok (.iadd, 1) := by decide +kernel
theorem d_M_code_491 : decode prog_9_method_44_code 491 = .ok (.aload_n 0, 1) := by decide +kernel
theorem d_M_code_492 : decode prog_9_method_44_code 492 = .ok (.getfield 256, 3) := by decide +kernel
theorem d_M_code_495 : decode prog_9_method_44_code 495 = .ok (.iastore, 1) := by decide +kernel
theorem d_M_code_496 : decode prog_9_method_44_code 496 = .ok (.aload_n 0, 1) := by decide +kernel
theorem d_M_code_497 : decode prog_9_method_44_code 497 = .ok (.getfield 20, 3) := by decide +kernel
theorem d_M_code_500 : decode prog_9_method_44_code 500 = .ok (.bipush 6, 2) := by decide +kernel
theorem d_M_code_502 : decode prog_9_method_44_code 502 = .ok (.iload_n 2, 1) := by decide +kernel
theorem d_M_code_503 : decode prog_9_method_44_code 503 = .ok (.imul, 1) := by decide +kernel
theorem d_M_code_504 : decode prog_9_method_44_code 504 = .ok (.iconst 4, 1) := by decide +kernel
theorem d_M_code_505 : decode prog_9_method_44_code 505 = .ok (.iadd, 1) := by decide +kernel
theorem d_M_code_506 : decode prog_9_method_44_code 506 = .ok (.iload 8, 2) := by decide +kernel
theorem d_M_code_508 : decode prog_9_method_44_code 508 = .ok (.iastore, 1) := by decide +kernel
theorem d_M_code_509 : decode prog_9_method_44_code 509 = .ok (.aload_n 0, 1) := by decide +kernel
theorem d_M_code_510 : decode prog_9_method_44_code 510 = .ok (.dup, 1) := by decide +kernel
theorem d_M_code_511 : decode prog_9_method_44_code 511 = .ok (.getfield 128, 3) := by decide +kernel
theorem d_M_code_514 : decode prog_9_method_44_code 514 = .ok (.iload 8, 2) := by decide +kernel
theorem d_M_code_516 : decode prog_9_method_44_code 516 = .ok (.iadd, 1) := by decide +kernel
theorem d_M_code_517 : decode prog_9_method_44_code 517 = .ok (.putfield 128, 3) := by decide +kernel
theorem d_M_code_520 : decode prog_9_method_44_code 520 = .ok (.aload_n 0, 1) := by decide +kernel
theorem d_M_code_521 : decode prog_9_method_44_code 521 = .ok (.dup, 1) := by decide +kernel
theorem d_M_code_522 : decode prog_9_method_44_code 522 = .ok (.getfield 131, 3) := by decide +kernel
theorem d_M_code_525 : decode prog_9_method_44_code 525 = .ok (.lload 5, 2) := by decide +kernel
theorem d_M_code_527 : decode prog_9_method_44_code 527 = .ok (.l2i, 1) := by decide +kernel
theorem d_M_code_528 : decode prog_9_method_44_code 528 = .ok (.iadd, 1) := by decide +kernel
theorem d_M_code_529 : decode prog_9_method_44_code 529 = .ok (.putfield 131, 3) := by decide +kernel
theorem d_M_code_532 : decode prog_9_method_44_code 532 = .ok (.return_, 1) := by decide +kernel
def rm_M_byteOf : Room := { frames := 0, cells := 0, slots := 0, locals := 0 }
noncomputable def f_M_byteOf (u : St) (x1 : Int32) : Option (Int32 × St) := gd x1 4000 (some (((u.2 0 x1.toNatClampNeg) &&& 255), u))
set_option maxHeartbeats 4000000 in
set_option maxRecDepth 100000 in
theorem c_M_byteOf {Z : zT} {D : va_G} {cs : Nat → ClassId} {a : Nat → Nat} (hw : wD (mW a cs)) (hz : zOK Z) (l : Launch) {u : St} {x1 : Int32} {r : Int32} {u' : St} (hk : f_M_byteOf u x1 = some (r, u')) : KI clA D cs (mW a cs) Z l y_M_byteOf (.code y_M_byteOf prog_9_method_48_code 2 (Option.some Jvm.ClassFile.FieldType.int)) rm_M_byteOf [.ref (a 0), .int x1] u r u' := by
  unfold f_M_byteOf at hk
  refine KI.of (by decide) (Nat.le_of_ble_eq_true rfl) rfl hw hz ?_
  intro p e s m args below meth c Q C I hQ ls hl
  have hl : lv_has ls 2 [(0, .ref (a 0)), (1, .int x1)] := hl
  have hx := C.1.1
  have hb := C.1.2.1
  refine lv_aload_n hx hb d_M_byteOf_0 rfl (lv_at hl 0 rfl) ?_
  refine g_M_file C I k_694 d_M_byteOf_1 ?_
  refine lv_iload_n hx hb d_M_byteOf_4 rfl (lv_at hl 1 rfl) ?_
  obtain ⟨hi, hk⟩ := gd_u hk
  refine l_M_file C I hi d_M_byteOf_5 ?_
  refine lv_sipush (v := 255) hx hb d_M_byteOf_6 (by decide) ?_
  refine lv_iand hx hb d_M_byteOf_9 ?_
  exact hQ _ _ _ _ _ _ I hk d_M_byteOf_10
def rm_M_four : Room := { frames := 1, cells := 0, slots := 0, locals := 21 }
noncomputable def f_M_four (u : St) (x1 : Int32) : Option (Int32 × St) := cI (f_M_two u x1) fun r3 u1 => cI (f_M_two u1 (x1 + 2)) fun r6 u4 => some (((r3 <<< (16 &&& 31)) ||| r6), u4)
set_option maxHeartbeats 4000000 in
set_option maxRecDepth 100000 in
theorem c_M_four {Z : zT} {D : va_G} {cs : Nat → ClassId} {a : Nat → Nat} (hw : wD (mW a cs)) (hz : zOK Z) (l : Launch) {u : St} {x1 : Int32} {r : Int32} {u' : St} (hk : f_M_four u x1 = some (r, u')) : KI clA D cs (mW a cs) Z l y_M_four (.code y_M_four prog_9_method_49_code 2 (Option.some Jvm.ClassFile.FieldType.int)) rm_M_four [.ref (a 0), .int x1] u r u' := by
  unfold f_M_four at hk
  refine KI.of (by decide) (Nat.le_of_ble_eq_true rfl) rfl hw hz ?_
  intro p e s m args below meth c Q C I hQ ls hl
  have hl : lv_has ls 2 [(0, .ref (a 0)), (1, .int x1)] := hl
  have hx := C.1.1
  have hb := C.1.2.1
  refine lv_aload_n hx hb d_M_four_0 rfl (lv_at hl 0 rfl) ?_
  refine lv_iload_n hx hb d_M_four_1 rfl (lv_at hl 1 rfl) ?_
  obtain ⟨r3, u1, h2, hk⟩ := cI_u hk
  refine go_I I (call_runV (rest := []) C I (c_M_two C.2.2.2.1 C.2.2.2.2.1 l h2 _) wd_M_two (q0 := 0) (ci := 7) rfl rfl k_859 ⟨rfl, rfl⟩ ⟨by decide, by decide⟩ rfl hl.1 rfl (Nat.le_of_ble_eq_true rfl) d_M_four_2) (fun H locs I => ?_)
  refine lv_bipush (v := 16) hx hb d_M_four_5 (by decide) ?_
  refine lv_ishl hx hb d_M_four_7 ?_
  refine lv_aload_n hx hb d_M_four_8 rfl (lv_at hl 0 rfl) ?_
  refine lv_iload_n hx hb d_M_four_9 rfl (lv_at hl 1 rfl) ?_
  refine lv_iconst (v := 2) hx hb d_M_four_10 (by decide) ?_
  refine lv_iadd hx hb d_M_four_11 ?_
  obtain ⟨r6, u4, h5, hk⟩ := cI_u hk
  refine go_I I (call_runV (rest := [.int (r3 <<< (16 &&& 31))]) C I (c_M_two C.2.2.2.1 C.2.2.2.2.1 l h5 _) wd_M_two (q0 := 0) (ci := 7) rfl rfl k_859 ⟨rfl, rfl⟩ ⟨by decide, by decide⟩ rfl hl.1 rfl (Nat.le_of_ble_eq_true rfl) d_M_four_12) (fun H locs I => ?_)
  refine lv_ior hx hb d_M_four_15 ?_
  exact hQ _ _ _ _ _ _ I hk d_M_four_16
def rm_M_lengthOf : Room := { frames := 0, cells := 0, slots := 0, locals := 0 }
noncomputable def f_M_lengthOf (u : St) (x0 : Int32) : Option (Int32 × St) := if x0 = 16 then (some (2, u)) else (if x0 = 18 then (some (2, u)) else (if x0 < 21 then (if x0 < 54 then (if x0 = 188 then (some (2, u)) else (if x0 = 17 then (some (3, u)) else (if x0 = 19 then (some (3, u)) else (if x0 = 20 then (some (3, u)) else (if x0 = 132 then (some (3, u)) else (if x0 < 153 then (if x0 < 178 then (if x0 = 187 then (some (3, u)) else (if x0 = 189 then (some (3, u)) else (if x0 = 192 then (some (3, u)) else (if x0 = 193 then (some (3, u)) else (if x0 = 198 then (some (3, u)) else (if x0 = 199 then (some (3, u)) else (if x0 = 197 then (some (4, u)) else (bnd (if x0 = 185 then (5) else (if x0 = 200 then (5) else (1))) fun (z1 : Int32) => some (z1, u))))))))) else (if x0 ≤ 184 then (some (3, u)) else (if x0 = 187 then (some (3, u)) else (if x0 = 189 then (some (3, u)) else (if x0 = 192 then (some (3, u)) else (if x0 = 193 then (some (3, u)) else (if x0 = 198 then (some (3, u)) else (if x0 = 199 then (some (3, u)) else (if x0 = 197 then (some (4, u)) else (bnd (if x0 = 185 then (5) else (if x0 = 200 then (5) else (1))) fun (z3 : Int32) => some (z3, u))))))))))) else (if x0 ≤ 167 then (some (3, u)) else (if x0 < 178 then (if x0 = 187 then (some (3, u)) else (if x0 = 189 then (some (3, u)) else (if x0 = 192 then (some (3, u)) else (if x0 = 193 then (some (3, u)) else (if x0 = 198 then (some (3, u)) else (if x0 = 199 then (some (3, u)) else (if x0 = 197 then (some (4, u)) else (bnd (if x0 = 185 then (5) else (if x0 = 200 then (5) else (1))) fun (z5 : Int32) => some (z5, u))))))))) else (if x0 ≤ 184 then (some (3, u)) else (if x0 = 187 then (some (3, u)) else (if x0 = 189 then (some (3, u)) else (if x0 = 192 then (some (3, u)) else (if x0 = 193 then (some (3, u)) else (if x0 = 198 then (some (3, u)) else (if x0 = 199 then (some (3, u)) else (if x0 = 197 then (some (4, u)) else (bnd (if x0 = 185 then (5) else (if x0 = 200 then (5) else (1))) fun (z7 : Int32) => some (z7, u)))))))))))))))))) else (if x0 ≤ 58 then (some (2, u)) else (if x0 = 188 then (some (2, u)) else (if x0 = 17 then (some (3, u)) else (if x0 = 19 then (some (3, u)) else (if x0 = 20 then (some (3, u)) else (if x0 = 132 then (some (3, u)) else (if x0 < 153 then (if x0 < 178 then (if x0 = 187 then (some (3, u)) else (if x0 = 189 then (some (3, u)) else (if x0 = 192 then (some (3, u)) else (if x0 = 193 then (some (3, u)) else (if x0 = 198 then (some (3, u)) else (if x0 = 199 then (some (3, u)) else (if x0 = 197 then (some (4, u)) else (bnd (if x0 = 185 then (5) else (if x0 = 200 then (5) else (1))) fun (z9 : Int32) => some (z9, u))))))))) else (if x0 ≤ 184 then (some (3, u)) else (if x0 = 187 then (some (3, u)) else (if x0 = 189 then (some (3, u)) else (if x0 = 192 then (some (3, u)) else (if x0 = 193 then (some (3, u)) else (if x0 = 198 then (some (3, u)) else (if x0 = 199 then (some (3, u)) else (if x0 = 197 then (some (4, u)) else (bnd (if x0 = 185 then (5) else (if x0 = 200 then (5) else (1))) fun (z11 : Int32) => some (z11, u))))))))))) else (if x0 ≤ 167 then (some (3, u)) else (if x0 < 178 then (if x0 = 187 then (some (3, u)) else (if x0 = 189 then (some (3, u)) else (if x0 = 192 then (some (3, u)) else (if x0 = 193 then (some (3, u)) else (if x0 = 198 then (some (3, u)) else (if x0 = 199 then (some (3, u)) else (if x0 = 197 then (some (4, u)) else (bnd (if x0 = 185 then (5) else (if x0 = 200 then (5) else (1))) fun (z13 : Int32) => some (z13, u))))))))) else (if x0 ≤ 184 then (some (3, u)) else (if x0 = 187 then (some (3, u)) else (if x0 = 189 then (some (3, u)) else (if x0 = 192 then (some (3, u)) else (if x0 = 193 then (some (3, u)) else (if x0 = 198 then (some (3, u)) else (if x0 = 199 then (some (3, u)) else (if x0 = 197 then (some (4, u)) else (bnd (if x0 = 185 then (5) else (if x0 = 200 then (5) else (1))) fun (z15 : Int32) => some (z15, u)))))))))))))))))))) else (if x0 ≤ 25 then (some (2, u)) else (if x0 < 54 then (if x0 = 188 then (some (2, u)) else (if x0 = 17 then (some (3, u)) else (if x0 = 19 then (some (3, u)) else (if x0 = 20 then (some (3, u)) else (if x0 = 132 then (some (3, u)) else (if x0 < 153 then (if x0 < 178 then (if x0 = 187 then (some (3, u)) else (if x0 = 189 then (some (3, u)) else (if x0 = 192 then (some (3, u)) else (if x0 = 193 then (some (3, u)) else (if x0 = 198 then (some (3, u)) else (if x0 = 199 then (some (3, u)) else (if x0 = 197 then (some (4, u)) else (bnd (if x0 = 185 then (5) else (if x0 = 200 then (5) else (1))) fun (z17 : Int32) => some (z17, u))))))))) else (if x0 ≤ 184 then (some (3, u)) else (if x0 = 187 then (some (3, u)) else (if x0 = 189 then (some (3, u)) else (if x0 = 192 then (some (3, u)) else (if x0 = 193 then (some (3, u)) else (if x0 = 198 then (some (3, u)) else (if x0 = 199 then (some (3, u)) else (if x0 = 197 then (some (4, u)) else (bnd (if x0 = 185 then (5) else (if x0 = 200 then (5) else (1))) fun (z19 : Int32) => some (z19, u))))))))))) else (if x0 ≤ 167 then (some (3, u)) else (if x0 < 178 then (if x0 = 187 then (some (3, u)) else (if x0 = 189 then (some (3, u)) else (if x0 = 192 then (some (3, u)) else (if x0 = 193 then (some (3, u)) else (if x0 = 198 then (some (3, u)) else (if x0 = 199 then (some (3, u)) else (if x0 = 197 then (some (4, u)) else (bnd (if x0 = 185 then (5) else (if x0 = 200 then (5) else (1))) fun (z21 : Int32) => some (z21, u))))))))) else (if x0 ≤ 184 then (some (3, u)) else (if x0 = 187 then (some (3, u)) else (if x0 = 189 then (some (3, u)) else (if x0 = 192 then (some (3, u)) else (if x0 = 193 then (some (3, u)) else (if x0 = 198 then (some (3, u)) else (if x0 = 199 then (some (3, u)) else (if x0 = 197 then (some (4, u)) else (bnd (if x0 = 185 then (5) else (if x0 = 200 then (5) else (1))) fun (z23 : Int32) => some (z23, u)))))))))))))))))) else (if x0 ≤ 58 then (some (2, u)) else (if x0 = 188 then (some (2, u)) else (if x0 = 17 then (some (3, u)) else (if x0 = 19 then (some (3, u)) else (if x0 = 20 then (some (3, u)) else (if x0 = 132 then (some (3, u)) else (if x0 < 153 then (if x0 < 178 then (if x0 = 187 then (some (3, u)) else (if x0 = 189 then (some (3, u)) else (if x0 = 192 then (some (3, u)) else (if x0 = 193 then (some (3, u)) else (if x0 = 198 then (some (3, u)) else (if x0 = 199 then (some (3, u)) else (if x0 = 197 then (some (4, u)) else (bnd (if x0 = 185 then (5) else (if x0 = 200 then (5) else (1))) fun (z25 : Int32) => some (z25, u))))))))) else (if x0 ≤ 184 then (some (3, u)) else (if x0 = 187 then (some (3, u)) else (if x0 = 189 then (some (3, u)) else (if x0 = 192 then (some (3, u)) else (if x0 = 193 then (some (3, u)) else (if x0 = 198 then (some (3, u)) else (if x0 = 199 then (some (3, u)) else (if x0 = 197 then (some (4, u)) else (bnd (if x0 = 185 then (5) else (if x0 = 200 then (5) else (1))) fun (z27 : Int32) => some (z27, u))))))))))) else (if x0 ≤ 167 then (some (3, u)) else (if x0 < 178 then (if x0 = 187 then (some (3, u)) else (if x0 = 189 then (some (3, u)) else (if x0 = 192 then (some (3, u)) else (if x0 = 193 then (some (3, u)) else (if x0 = 198 then (some (3, u)) else (if x0 = 199 then (some (3, u)) else (if x0 = 197 then (some (4, u)) else (bnd (if x0 = 185 then (5) else (if x0 = 200 then (5) else (1))) fun (z29 : Int32) => some (z29, u))))))))) else (if x0 ≤ 184 then (some (3, u)) else (if x0 = 187 then (some (3, u)) else (if x0 = 189 then (some (3, u)) else (if x0 = 192 then (some (3, u)) else (if x0 = 193 then (some (3, u)) else (if x0 = 198 then (some (3, u)) else (if x0 = 199 then (some (3, u)) else (if x0 = 197 then (some (4, u)) else (bnd (if x0 = 185 then (5) else (if x0 = 200 then (5) else (1))) fun (z31 : Int32) => some (z31, u)))))))))))))))))))))))
set_option maxHeartbeats 4000000 in
set_option maxRecDepth 100000 in
theorem c_M_lengthOf {Z : zT} {D : va_G} {cs : Nat → ClassId} {a : Nat → Nat} (hw : wD (mW a cs)) (hz : zOK Z) (l : Launch) {u : St} {x0 : Int32} {r : Int32} {u' : St} (hk : f_M_lengthOf u x0 = some (r, u')) : KI clA D cs (mW a cs) Z l y_M_lengthOf (.code y_M_lengthOf prog_9_method_47_code 1 (Option.some Jvm.ClassFile.FieldType.int)) rm_M_lengthOf [.int x0] u r u' := by
  unfold f_M_lengthOf at hk
  refine KI.of (by decide) (Nat.le_of_ble_eq_true rfl) rfl hw hz ?_
  intro p e s m args below meth c Q C I hQ ls hl
  have hl : lv_has ls 1 [(0, .int x0)] := hl
  have hx := C.1.1
  have hb := C.1.2.1
  refine lv_iload_n hx hb d_M_lengthOf_0 rfl (lv_at hl 0 rfl) ?_
  refine lv_bipush (v := 16) hx hb d_M_lengthOf_1 (by decide) ?_
  refine lv_icmp_eq (tgt := 43) hx hb d_M_lengthOf_3 (by decide) (fun hc => ?_) (fun hc => ?_)
  · replace hk := it_u hc hk
    refine lv_iconst (v := 2) hx hb d_M_lengthOf_43 (by decide) ?_
    exact hQ _ _ _ _ _ _ I hk d_M_lengthOf_44
  · replace hk := ie_u hc hk
    refine lv_iload_n hx hb d_M_lengthOf_6 rfl (lv_at hl 0 rfl) ?_
    refine lv_bipush (v := 18) hx hb d_M_lengthOf_7 (by decide) ?_
    refine lv_icmp_eq (tgt := 43) hx hb d_M_lengthOf_9 (by decide) (fun hc => ?_) (fun hc => ?_)
    · replace hk := it_u hc hk
      refine lv_iconst (v := 2) hx hb d_M_lengthOf_43 (by decide) ?_
      exact hQ _ _ _ _ _ _ I hk d_M_lengthOf_44
    · replace hk := ie_u hc hk
      refine lv_iload_n hx hb d_M_lengthOf_12 rfl (lv_at hl 0 rfl) ?_
      refine lv_bipush (v := 21) hx hb d_M_lengthOf_13 (by decide) ?_
      refine lv_icmp_lt (tgt := 24) hx hb d_M_lengthOf_15 (by decide) (fun hc => ?_) (fun hc => ?_)
      · replace hk := it_u hc hk
        refine lv_iload_n hx hb d_M_lengthOf_24 rfl (lv_at hl 0 rfl) ?_
        refine lv_bipush (v := 54) hx hb d_M_lengthOf_25 (by decide) ?_
        refine lv_icmp_lt (tgt := 36) hx hb d_M_lengthOf_27 (by decide) (fun hc => ?_) (fun hc => ?_)
        · replace hk := it_u hc hk
          refine lv_iload_n hx hb d_M_lengthOf_36 rfl (lv_at hl 0 rfl) ?_
          refine lv_sipush (v := 188) hx hb d_M_lengthOf_37 (by decide) ?_
          refine lv_icmp_ne (tgt := 45) hx hb d_M_lengthOf_40 (by decide) (fun hc => ?_) (fun hc => ?_)
          · replace hk := ie_u hc hk
            refine lv_iload_n hx hb d_M_lengthOf_45 rfl (lv_at hl 0 rfl) ?_
            refine lv_bipush (v := 17) hx hb d_M_lengthOf_46 (by decide) ?_
            refine lv_icmp_eq (tgt := 140) hx hb d_M_lengthOf_48 (by decide) (fun hc => ?_) (fun hc => ?_)
            · replace hk := it_u hc hk
              refine lv_iconst (v := 3) hx hb d_M_lengthOf_140 (by decide) ?_
              exact hQ _ _ _ _ _ _ I hk d_M_lengthOf_141
            · replace hk := ie_u hc hk
              refine lv_iload_n hx hb d_M_lengthOf_51 rfl (lv_at hl 0 rfl) ?_
              refine lv_bipush (v := 19) hx hb d_M_lengthOf_52 (by decide) ?_
              refine lv_icmp_eq (tgt := 140) hx hb d_M_lengthOf_54 (by decide) (fun hc => ?_) (fun hc => ?_)
              · replace hk := it_u hc hk
                refine lv_iconst (v := 3) hx hb d_M_lengthOf_140 (by decide) ?_
                exact hQ _ _ _ _ _ _ I hk d_M_lengthOf_141
              · replace hk := ie_u hc hk
                refine lv_iload_n hx hb d_M_lengthOf_57 rfl (lv_at hl 0 rfl) ?_
                refine lv_bipush (v := 20) hx hb d_M_lengthOf_58 (by decide) ?_
                refine lv_icmp_eq (tgt := 140) hx hb d_M_lengthOf_60 (by decide) (fun hc => ?_) (fun hc => ?_)
                · replace hk := it_u hc hk
                  refine lv_iconst (v := 3) hx hb d_M_lengthOf_140 (by decide) ?_
                  exact hQ _ _ _ _ _ _ I hk d_M_lengthOf_141
                · replace hk := ie_u hc hk
                  refine lv_iload_n hx hb d_M_lengthOf_63 rfl (lv_at hl 0 rfl) ?_
                  refine lv_sipush (v := 132) hx hb d_M_lengthOf_64 (by decide) ?_
                  refine lv_icmp_eq (tgt := 140) hx hb d_M_lengthOf_67 (by decide) (fun hc => ?_) (fun hc => ?_)
                  · replace hk := it_u hc hk
                    refine lv_iconst (v := 3) hx hb d_M_lengthOf_140 (by decide) ?_
                    exact hQ _ _ _ _ _ _ I hk d_M_lengthOf_141
                  · replace hk := ie_u hc hk
                    refine lv_iload_n hx hb d_M_lengthOf_70 rfl (lv_at hl 0 rfl) ?_
                    refine lv_sipush (v := 153) hx hb d_M_lengthOf_71 (by decide) ?_
                    refine lv_icmp_lt (tgt := 84) hx hb d_M_lengthOf_74 (by decide) (fun hc => ?_) (fun hc => ?_)
                    · replace hk := it_u hc hk
                      refine lv_iload_n hx hb d_M_lengthOf_84 rfl (lv_at hl 0 rfl) ?_
                      refine lv_sipush (v := 178) hx hb d_M_lengthOf_85 (by decide) ?_
                      refine lv_icmp_lt (tgt := 98) hx hb d_M_lengthOf_88 (by decide) (fun hc => ?_) (fun hc => ?_)
                      · replace hk := it_u hc hk
                        refine lv_iload_n hx hb d_M_lengthOf_98 rfl (lv_at hl 0 rfl) ?_
                        refine lv_sipush (v := 187) hx hb d_M_lengthOf_99 (by decide) ?_
                        refine lv_icmp_eq (tgt := 140) hx hb d_M_lengthOf_102 (by decide) (fun hc => ?_) (fun hc => ?_)
                        · replace hk := it_u hc hk
                          refine lv_iconst (v := 3) hx hb d_M_lengthOf_140 (by decide) ?_
                          exact hQ _ _ _ _ _ _ I hk d_M_lengthOf_141
                        · replace hk := ie_u hc hk
                          refine lv_iload_n hx hb d_M_lengthOf_105 rfl (lv_at hl 0 rfl) ?_
                          refine lv_sipush (v := 189) hx hb d_M_lengthOf_106 (by decide) ?_
                          refine lv_icmp_eq (tgt := 140) hx hb d_M_lengthOf_109 (by decide) (fun hc => ?_) (fun hc => ?_)
                          · replace hk := it_u hc hk
                            refine lv_iconst (v := 3) hx hb d_M_lengthOf_140 (by decide) ?_
                            exact hQ _ _ _ _ _ _ I hk d_M_lengthOf_141
                          · replace hk := ie_u hc hk
                            refine lv_iload_n hx hb d_M_lengthOf_112 rfl (lv_at hl 0 rfl) ?_
                            refine lv_sipush (v := 192) hx hb d_M_lengthOf_113 (by decide) ?_
                            refine lv_icmp_eq (tgt := 140) hx hb d_M_lengthOf_116 (by decide) (fun hc => ?_) (fun hc => ?_)
                            · replace hk := it_u hc hk
                              refine lv_iconst (v := 3) hx hb d_M_lengthOf_140 (by decide) ?_
                              exact hQ _ _ _ _ _ _ I hk d_M_lengthOf_141
                            · replace hk := ie_u hc hk
                              refine lv_iload_n hx hb d_M_lengthOf_119 rfl (lv_at hl 0 rfl) ?_
                              refine lv_sipush (v := 193) hx hb d_M_lengthOf_120 (by decide) ?_
                              refine lv_icmp_eq (tgt := 140) hx hb d_M_lengthOf_123 (by decide) (fun hc => ?_) (fun hc => ?_)
                              · replace hk := it_u hc hk
                                refine lv_iconst (v := 3) hx hb d_M_lengthOf_140 (by decide) ?_
                                exact hQ _ _ _ _ _ _ I hk d_M_lengthOf_141
                              · replace hk := ie_u hc hk
                                refine lv_iload_n hx hb d_M_lengthOf_126 rfl (lv_at hl 0 rfl) ?_
                                refine lv_sipush (v := 198) hx hb d_M_lengthOf_127 (by decide) ?_
                                refine lv_icmp_eq (tgt := 140) hx hb d_M_lengthOf_130 (by decide) (fun hc => ?_) (fun hc => ?_)
                                · replace hk := it_u hc hk
                                  refine lv_iconst (v := 3) hx hb d_M_lengthOf_140 (by decide) ?_
                                  exact hQ _ _ _ _ _ _ I hk d_M_lengthOf_141
                                · replace hk := ie_u hc hk
                                  refine lv_iload_n hx hb d_M_lengthOf_133 rfl (lv_at hl 0 rfl) ?_
                                  refine lv_sipush (v := 199) hx hb d_M_lengthOf_134 (by decide) ?_
                                  refine lv_icmp_ne (tgt := 142) hx hb d_M_lengthOf_137 (by decide) (fun hc => ?_) (fun hc => ?_)
                                  · replace hk := ie_u hc hk
                                    refine lv_iload_n hx hb d_M_lengthOf_142 rfl (lv_at hl 0 rfl) ?_
                                    refine lv_sipush (v := 197) hx hb d_M_lengthOf_143 (by decide) ?_
                                    refine lv_icmp_ne (tgt := 151) hx hb d_M_lengthOf_146 (by decide) (fun hc => ?_) (fun hc => ?_)
                                    · replace hk := ie_u hc hk
                                      refine lv_iload_n hx hb d_M_lengthOf_151 rfl (lv_at hl 0 rfl) ?_
                                      refine lv_sipush (v := 185) hx hb d_M_lengthOf_152 (by decide) ?_
                                      obtain ⟨z1, hj2, hk⟩ := bnd_u hk
                                      have Khj2 : ∀ (H : Heap) (locs : List Loc) (ls : Array Slot), Dy clA D (mW a cs) s H locs u → lv_has ls 1 [] → W p l e rm_M_lengthOf s m args below meth c H locs 0 0 Q (F0 m 170 ls [.int z1]) := by
                                        intro H locs ls I hl
                                        exact hQ _ _ _ _ _ _ I hk d_M_lengthOf_170
                                      refine lv_icmp_eq (tgt := 165) hx hb d_M_lengthOf_155 (by decide) (fun hc => ?_) (fun hc => ?_)
                                      · replace hj2 := it_u hc hj2
                                        refine lv_iconst (v := 5) hx hb d_M_lengthOf_165 (by decide) ?_
                                        refine lv_goto (tgt := 170) hx hb d_M_lengthOf_166 (by decide) ?_
                                        cases hj2
                                        exact Khj2 _ _ _ I (lv_sub hl [] rfl)
                                      · replace hj2 := ie_u hc hj2
                                        refine lv_iload_n hx hb d_M_lengthOf_158 rfl (lv_at hl 0 rfl) ?_
                                        refine lv_sipush (v := 200) hx hb d_M_lengthOf_159 (by decide) ?_
                                        refine lv_icmp_ne (tgt := 169) hx hb d_M_lengthOf_162 (by decide) (fun hc => ?_) (fun hc => ?_)
                                        · replace hj2 := ie_u hc hj2
                                          refine lv_iconst (v := 1) hx hb d_M_lengthOf_169 (by decide) ?_
                                          cases hj2
                                          exact Khj2 _ _ _ I (lv_sub hl [] rfl)
                                        · replace hj2 := it_u hc hj2
                                          refine lv_iconst (v := 5) hx hb d_M_lengthOf_165 (by decide) ?_
                                          refine lv_goto (tgt := 170) hx hb d_M_lengthOf_166 (by decide) ?_
                                          cases hj2
                                          exact Khj2 _ _ _ I (lv_sub hl [] rfl)
                                    · replace hk := it_u hc hk
                                      refine lv_iconst (v := 4) hx hb d_M_lengthOf_149 (by decide) ?_
                                      exact hQ _ _ _ _ _ _ I hk d_M_lengthOf_150
                                  · replace hk := it_u hc hk
                                    refine lv_iconst (v := 3) hx hb d_M_lengthOf_140 (by decide) ?_
                                    exact hQ _ _ _ _ _ _ I hk d_M_lengthOf_141
                      · replace hk := ie_u hc hk
                        refine lv_iload_n hx hb d_M_lengthOf_91 rfl (lv_at hl 0 rfl) ?_
                        refine lv_sipush (v := 184) hx hb d_M_lengthOf_92 (by decide) ?_
                        refine lv_icmp_le (tgt := 140) hx hb d_M_lengthOf_95 (by decide) (fun hc => ?_) (fun hc => ?_)
                        · replace hk := it_u hc hk
                          refine lv_iconst (v := 3) hx hb d_M_lengthOf_140 (by decide) ?_
                          exact hQ _ _ _ _ _ _ I hk d_M_lengthOf_141
                        · replace hk := ie_u hc hk
                          refine lv_iload_n hx hb d_M_lengthOf_98 rfl (lv_at hl 0 rfl) ?_
                          refine lv_sipush (v := 187) hx hb d_M_lengthOf_99 (by decide) ?_
                          refine lv_icmp_eq (tgt := 140) hx hb d_M_lengthOf_102 (by decide) (fun hc => ?_) (fun hc => ?_)
                          · replace hk := it_u hc hk
                            refine lv_iconst (v := 3) hx hb d_M_lengthOf_140 (by decide) ?_
                            exact hQ _ _ _ _ _ _ I hk d_M_lengthOf_141
                          · replace hk := ie_u hc hk
                            refine lv_iload_n hx hb d_M_lengthOf_105 rfl (lv_at hl 0 rfl) ?_
                            refine lv_sipush (v := 189) hx hb d_M_lengthOf_106 (by decide) ?_
                            refine lv_icmp_eq (tgt := 140) hx hb d_M_lengthOf_109 (by decide) (fun hc => ?_) (fun hc => ?_)
                            · replace hk := it_u hc hk
                              refine lv_iconst (v := 3) hx hb d_M_lengthOf_140 (by decide) ?_
                              exact hQ _ _ _ _ _ _ I hk d_M_lengthOf_141
                            · replace hk := ie_u hc hk
                              refine lv_iload_n hx hb d_M_lengthOf_112 rfl (lv_at hl 0 rfl) ?_
                              refine lv_sipush (v := 192) hx hb d_M_lengthOf_113 (by decide) ?_
                              refine lv_icmp_eq (tgt := 140) hx hb d_M_lengthOf_116 (by decide) (fun hc => ?_) (fun hc => ?_)
                              · replace hk := it_u hc hk
                                refine lv_iconst (v := 3) hx hb d_M_lengthOf_140 (by decide) ?_
                                exact hQ _ _ _ _ _ _ I hk d_M_lengthOf_141
                              · replace hk := ie_u hc hk
                                refine lv_iload_n hx hb d_M_lengthOf_119 rfl (lv_at hl 0 rfl) ?_
                                refine lv_sipush (v := 193) hx hb d_M_lengthOf_120 (by decide) ?_
                                refine lv_icmp_eq (tgt := 140) hx hb d_M_lengthOf_123 (by decide) (fun hc => ?_) (fun hc => ?_)
                                · replace hk := it_u hc hk
                                  refine lv_iconst (v := 3) hx hb d_M_lengthOf_140 (by decide) ?_
                                  exact hQ _ _ _ _ _ _ I hk d_M_lengthOf_141
                                · replace hk := ie_u hc hk
                                  refine lv_iload_n hx hb d_M_lengthOf_126 rfl (lv_at hl 0 rfl) ?_
                                  refine lv_sipush (v := 198) hx hb d_M_lengthOf_127 (by decide) ?_
                                  refine lv_icmp_eq (tgt := 140) hx hb d_M_lengthOf_130 (by decide) (fun hc => ?_) (fun hc => ?_)
                                  · replace hk := it_u hc hk
                                    refine lv_iconst (v := 3) hx hb d_M_lengthOf_140 (by decide) ?_
                                    exact hQ _ _ _ _ _ _ I hk d_M_lengthOf_141
                                  · replace hk := ie_u hc hk
                                    refine lv_iload_n hx hb d_M_lengthOf_133 rfl (lv_at hl 0 rfl) ?_
                                    refine lv_sipush (v := 199) hx hb d_M_lengthOf_134 (by decide) ?_
                                    refine lv_icmp_ne (tgt := 142) hx hb d_M_lengthOf_137 (by decide) (fun hc => ?_) (fun hc => ?_)
                                    · replace hk := ie_u hc hk
                                      refine lv_iload_n hx hb d_M_lengthOf_142 rfl (lv_at hl 0 rfl) ?_
                                      refine lv_sipush (v := 197) hx hb d_M_lengthOf_143 (by decide) ?_
                                      refine lv_icmp_ne (tgt := 151) hx hb d_M_lengthOf_146 (by decide) (fun hc => ?_) (fun hc => ?_)
                                      · replace hk := ie_u hc hk
                                        refine lv_iload_n hx hb d_M_lengthOf_151 rfl (lv_at hl 0 rfl) ?_
                                        refine lv_sipush (v := 185) hx hb d_M_lengthOf_152 (by decide) ?_
                                        obtain ⟨z3, hj4, hk⟩ := bnd_u hk
                                        have Khj4 : ∀ (H : Heap) (locs : List Loc) (ls : Array Slot), Dy clA D (mW a cs) s H locs u → lv_has ls 1 [] → W p l e rm_M_lengthOf s m args below meth c H locs 0 0 Q (F0 m 170 ls [.int z3]) := by
                                          intro H locs ls I hl
                                          exact hQ _ _ _ _ _ _ I hk d_M_lengthOf_170
                                        refine lv_icmp_eq (tgt := 165) hx hb d_M_lengthOf_155 (by decide) (fun hc => ?_) (fun hc => ?_)
                                        · replace hj4 := it_u hc hj4
                                          refine lv_iconst (v := 5) hx hb d_M_lengthOf_165 (by decide) ?_
                                          refine lv_goto (tgt := 170) hx hb d_M_lengthOf_166 (by decide) ?_
                                          cases hj4
                                          exact Khj4 _ _ _ I (lv_sub hl [] rfl)
                                        · replace hj4 := ie_u hc hj4
                                          refine lv_iload_n hx hb d_M_lengthOf_158 rfl (lv_at hl 0 rfl) ?_
                                          refine lv_sipush (v := 200) hx hb d_M_lengthOf_159 (by decide) ?_
                                          refine lv_icmp_ne (tgt := 169) hx hb d_M_lengthOf_162 (by decide) (fun hc => ?_) (fun hc => ?_)
                                          · replace hj4 := ie_u hc hj4
                                            refine lv_iconst (v := 1) hx hb d_M_lengthOf_169 (by decide) ?_
                                            cases hj4
                                            exact Khj4 _ _ _ I (lv_sub hl [] rfl)
                                          · replace hj4 := it_u hc hj4
                                            refine lv_iconst (v := 5) hx hb d_M_lengthOf_165 (by decide) ?_
                                            refine lv_goto (tgt := 170) hx hb d_M_lengthOf_166 (by decide) ?_
                                            cases hj4
                                            exact Khj4 _ _ _ I (lv_sub hl [] rfl)
                                      · replace hk := it_u hc hk
                                        refine lv_iconst (v := 4) hx hb d_M_lengthOf_149 (by decide) ?_
                                        exact hQ _ _ _ _ _ _ I hk d_M_lengthOf_150
                                    · replace hk := it_u hc hk
                                      refine lv_iconst (v := 3) hx hb d_M_lengthOf_140 (by decide) ?_
                                      exact hQ _ _ _ _ _ _ I hk d_M_lengthOf_141
                    · replace hk := ie_u hc hk
                      refine lv_iload_n hx hb d_M_lengthOf_77 rfl (lv_at hl 0 rfl) ?_
                      refine lv_sipush (v := 167) hx hb d_M_lengthOf_78 (by decide) ?_
                      refine lv_icmp_le (tgt := 140) hx hb d_M_lengthOf_81 (by decide) (fun hc => ?_) (fun hc => ?_)
                      · replace hk := it_u hc hk
                        refine lv_iconst (v := 3) hx hb d_M_lengthOf_140 (by decide) ?_
                        exact hQ _ _ _ _ _ _ I hk d_M_lengthOf_141
                      · replace hk := ie_u hc hk
                        refine lv_iload_n hx hb d_M_lengthOf_84 rfl (lv_at hl 0 rfl) ?_
                        refine lv_sipush (v := 178) hx hb d_M_lengthOf_85 (by decide) ?_
                        refine lv_icmp_lt (tgt := 98) hx hb d_M_lengthOf_88 (by decide) (fun hc => ?_) (fun hc => ?_)
                        · replace hk := it_u hc hk
                          refine lv_iload_n hx hb d_M_lengthOf_98 rfl (lv_at hl 0 rfl) ?_
                          refine lv_sipush (v := 187) hx hb d_M_lengthOf_99 (by decide) ?_
                          refine lv_icmp_eq (tgt := 140) hx hb d_M_lengthOf_102 (by decide) (fun hc => ?_) (fun hc => ?_)
                          · replace hk := it_u hc hk
                            refine lv_iconst (v := 3) hx hb d_M_lengthOf_140 (by decide) ?_
                            exact hQ _ _ _ _ _ _ I hk d_M_lengthOf_141
                          · replace hk := ie_u hc hk
                            refine lv_iload_n hx hb d_M_lengthOf_105 rfl (lv_at hl 0 rfl) ?_
                            refine lv_sipush (v := 189) hx hb d_M_lengthOf_106 (by decide) ?_
                            refine lv_icmp_eq (tgt := 140) hx hb d_M_lengthOf_109 (by decide) (fun hc => ?_) (fun hc => ?_)
                            · replace hk := it_u hc hk
                              refine lv_iconst (v := 3) hx hb d_M_lengthOf_140 (by decide) ?_
                              exact hQ _ _ _ _ _ _ I hk d_M_lengthOf_141
                            · replace hk := ie_u hc hk
                              refine lv_iload_n hx hb d_M_lengthOf_112 rfl (lv_at hl 0 rfl) ?_
                              refine lv_sipush (v := 192) hx hb d_M_lengthOf_113 (by decide) ?_
                              refine lv_icmp_eq (tgt := 140) hx hb d_M_lengthOf_116 (by decide) (fun hc => ?_) (fun hc => ?_)
                              · replace hk := it_u hc hk
                                refine lv_iconst (v := 3) hx hb d_M_lengthOf_140 (by decide) ?_
                                exact hQ _ _ _ _ _ _ I hk d_M_lengthOf_141
                              · replace hk := ie_u hc hk
                                refine lv_iload_n hx hb d_M_lengthOf_119 rfl (lv_at hl 0 rfl) ?_
                                refine lv_sipush (v := 193) hx hb d_M_lengthOf_120 (by decide) ?_
                                refine lv_icmp_eq (tgt := 140) hx hb d_M_lengthOf_123 (by decide) (fun hc => ?_) (fun hc => ?_)
                                · replace hk := it_u hc hk
                                  refine lv_iconst (v := 3) hx hb d_M_lengthOf_140 (by decide) ?_
                                  exact hQ _ _ _ _ _ _ I hk d_M_lengthOf_141
                                · replace hk := ie_u hc hk
                                  refine lv_iload_n hx hb d_M_lengthOf_126 rfl (lv_at hl 0 rfl) ?_
                                  refine lv_sipush (v := 198) hx hb d_M_lengthOf_127 (by decide) ?_
                                  refine lv_icmp_eq (tgt := 140) hx hb d_M_lengthOf_130 (by decide) (fun hc => ?_) (fun hc => ?_)
                                  · replace hk := it_u hc hk
                                    refine lv_iconst (v := 3) hx hb d_M_lengthOf_140 (by decide) ?_
                                    exact hQ _ _ _ _ _ _ I hk d_M_lengthOf_141
                                  · replace hk := ie_u hc hk
                                    refine lv_iload_n hx hb d_M_lengthOf_133 rfl (lv_at hl 0 rfl) ?_
                                    refine lv_sipush (v := 199) hx hb d_M_lengthOf_134 (by decide) ?_
                                    refine lv_icmp_ne (tgt := 142) hx hb d_M_lengthOf_137 (by decide) (fun hc => ?_) (fun hc => ?_)
                                    · replace hk := ie_u hc hk
                                      refine lv_iload_n hx hb d_M_lengthOf_142 rfl (lv_at hl 0 rfl) ?_
                                      refine lv_sipush (v := 197) hx hb d_M_lengthOf_143 (by decide) ?_
                                      refine lv_icmp_ne (tgt := 151) hx hb d_M_lengthOf_146 (by decide) (fun hc => ?_) (fun hc => ?_)
                                      · replace hk := ie_u hc hk
                                        refine lv_iload_n hx hb d_M_lengthOf_151 rfl (lv_at hl 0 rfl) ?_
                                        refine lv_sipush (v := 185) hx hb d_M_lengthOf_152 (by decide) ?_
                                        obtain ⟨z5, hj6, hk⟩ := bnd_u hk
                                        have Khj6 : ∀ (H : Heap) (locs : List Loc) (ls : Array Slot), Dy clA D (mW a cs) s H locs u → lv_has ls 1 [] → W p l e rm_M_lengthOf s m args below meth c H locs 0 0 Q (F0 m 170 ls [.int z5]) := by
                                          intro H locs ls I hl
                                          exact hQ _ _ _ _ _ _ I hk d_M_lengthOf_170
                                        refine lv_icmp_eq (tgt := 165) hx hb d_M_lengthOf_155 (by decide) (fun hc => ?_) (fun hc => ?_)
                                        · replace hj6 := it_u hc hj6
                                          refine lv_iconst (v := 5) hx hb d_M_lengthOf_165 (by decide) ?_
                                          refine lv_goto (tgt := 170) hx hb d_M_lengthOf_166 (by decide) ?_
                                          cases hj6
                                          exact Khj6 _ _ _ I (lv_sub hl [] rfl)
                                        · replace hj6 := ie_u hc hj6
                                          refine lv_iload_n hx hb d_M_lengthOf_158 rfl (lv_at hl 0 rfl) ?_
                                          refine lv_sipush (v := 200) hx hb d_M_lengthOf_159 (by decide) ?_
                                          refine lv_icmp_ne (tgt := 169) hx hb d_M_lengthOf_162 (by decide) (fun hc => ?_) (fun hc => ?_)
                                          · replace hj6 := ie_u hc hj6
                                            refine lv_iconst (v := 1) hx hb d_M_lengthOf_169 (by decide) ?_
                                            cases hj6
                                            exact Khj6 _ _ _ I (lv_sub hl [] rfl)
                                          · replace hj6 := it_u hc hj6
                                            refine lv_iconst (v := 5) hx hb d_M_lengthOf_165 (by decide) ?_
                                            refine lv_goto (tgt := 170) hx hb d_M_lengthOf_166 (by decide) ?_
                                            cases hj6
                                            exact Khj6 _ _ _ I (lv_sub hl [] rfl)
                                      · replace hk := it_u hc hk
                                        refine lv_iconst (v := 4) hx hb d_M_lengthOf_149 (by decide) ?_
                                        exact hQ _ _ _ _ _ _ I hk d_M_lengthOf_150
                                    · replace hk := it_u hc hk
                                      refine lv_iconst (v := 3) hx hb d_M_lengthOf_140 (by decide) ?_
                                      exact hQ _ _ _ _ _ _ I hk d_M_lengthOf_141
                        · replace hk := ie_u hc hk
                          refine lv_iload_n hx hb d_M_lengthOf_91 rfl (lv_at hl 0 rfl) ?_
                          refine lv_sipush (v := 184) hx hb d_M_lengthOf_92 (by decide) ?_
                          refine lv_icmp_le (tgt := 140) hx hb d_M_lengthOf_95 (by decide) (fun hc => ?_) (fun hc => ?_)
                          · replace hk := it_u hc hk
                            refine lv_iconst (v := 3) hx hb d_M_lengthOf_140 (by decide) ?_
                            exact hQ _ _ _ _ _ _ I hk d_M_lengthOf_141
                          · replace hk := ie_u hc hk
                            refine lv_iload_n hx hb d_M_lengthOf_98 rfl (lv_at hl 0 rfl) ?_
                            refine lv_sipush (v := 187) hx hb d_M_lengthOf_99 (by decide) ?_
                            refine lv_icmp_eq (tgt := 140) hx hb d_M_lengthOf_102 (by decide) (fun hc => ?_) (fun hc => ?_)
                            · replace hk := it_u hc hk
                              refine lv_iconst (v := 3) hx hb d_M_lengthOf_140 (by decide) ?_
                              exact hQ _ _ _ _ _ _ I hk d_M_lengthOf_141
                            · replace hk := ie_u hc hk
                              refine lv_iload_n hx hb d_M_lengthOf_105 rfl (lv_at hl 0 rfl) ?_
                              refine lv_sipush (v := 189) hx hb d_M_lengthOf_106 (by decide) ?_
                              refine lv_icmp_eq (tgt := 140) hx hb d_M_lengthOf_109 (by decide) (fun hc => ?_) (fun hc => ?_)
                              · replace hk := it_u hc hk
                                refine lv_iconst (v := 3) hx hb d_M_lengthOf_140 (by decide) ?_
                                exact hQ _ _ _ _ _ _ I hk d_M_lengthOf_141
                              · replace hk := ie_u hc hk
                                refine lv_iload_n hx hb d_M_lengthOf_112 rfl (lv_at hl 0 rfl) ?_
                                refine lv_sipush (v := 192) hx hb d_M_lengthOf_113 (by decide) ?_
                                refine lv_icmp_eq (tgt := 140) hx hb d_M_lengthOf_116 (by decide) (fun hc => ?_) (fun hc => ?_)
                                · replace hk := it_u hc hk
                                  refine lv_iconst (v := 3) hx hb d_M_lengthOf_140 (by decide) ?_
                                  exact hQ _ _ _ _ _ _ I hk d_M_lengthOf_141
                                · replace hk := ie_u hc hk
                                  refine lv_iload_n hx hb d_M_lengthOf_119 rfl (lv_at hl 0 rfl) ?_
                                  refine lv_sipush (v := 193) hx hb d_M_lengthOf_120 (by decide) ?_
                                  refine lv_icmp_eq (tgt := 140) hx hb d_M_lengthOf_123 (by decide) (fun hc => ?_) (fun hc => ?_)
                                  · replace hk := it_u hc hk
                                    refine lv_iconst (v := 3) hx hb d_M_lengthOf_140 (by decide) ?_
                                    exact hQ _ _ _ _ _ _ I hk d_M_lengthOf_141
                                  · replace hk := ie_u hc hk
                                    refine lv_iload_n hx hb d_M_lengthOf_126 rfl (lv_at hl 0 rfl) ?_
                                    refine lv_sipush (v := 198) hx hb d_M_lengthOf_127 (by decide) ?_
                                    refine lv_icmp_eq (tgt := 140) hx hb d_M_lengthOf_130 (by decide) (fun hc => ?_) (fun hc => ?_)
                                    · replace hk := it_u hc hk
                                      refine lv_iconst (v := 3) hx hb d_M_lengthOf_140 (by decide) ?_
                                      exact hQ _ _ _ _ _ _ I hk d_M_lengthOf_141
                                    · replace hk := ie_u hc hk
                                      refine lv_iload_n hx hb d_M_lengthOf_133 rfl (lv_at hl 0 rfl) ?_
                                      refine lv_sipush (v := 199) hx hb d_M_lengthOf_134 (by decide) ?_
                                      refine lv_icmp_ne (tgt := 142) hx hb d_M_lengthOf_137 (by decide) (fun hc => ?_) (fun hc => ?_)
                                      · replace hk := ie_u hc hk
                                        refine lv_iload_n hx hb d_M_lengthOf_142 rfl (lv_at hl 0 rfl) ?_
                                        refine lv_sipush (v := 197) hx hb d_M_lengthOf_143 (by decide) ?_
                                        refine lv_icmp_ne (tgt := 151) hx hb d_M_lengthOf_146 (by decide) (fun hc => ?_) (fun hc => ?_)
                                        · replace hk := ie_u hc hk
                                          refine lv_iload_n hx hb d_M_lengthOf_151 rfl (lv_at hl 0 rfl) ?_
                                          refine lv_sipush (v := 185) hx hb d_M_lengthOf_152 (by decide) ?_
                                          obtain ⟨z7, hj8, hk⟩ := bnd_u hk
                                          have Khj8 : ∀ (H : Heap) (locs : List Loc) (ls : Array Slot), Dy clA D (mW a cs) s H locs u → lv_has ls 1 [] → W p l e rm_M_lengthOf s m args below meth c H locs 0 0 Q (F0 m 170 ls [.int z7]) := by
                                            intro H locs ls I hl
                                            exact hQ _ _ _ _ _ _ I hk d_M_lengthOf_170
                                          refine lv_icmp_eq (tgt := 165) hx hb d_M_lengthOf_155 (by decide) (fun hc => ?_) (fun hc => ?_)
                                          · replace hj8 := it_u hc hj8
                                            refine lv_iconst (v := 5) hx hb d_M_lengthOf_165 (by decide) ?_
                                            refine lv_goto (tgt := 170) hx hb d_M_lengthOf_166 (by decide) ?_
                                            cases hj8
                                            exact Khj8 _ _ _ I (lv_sub hl [] rfl)
                                          · replace hj8 := ie_u hc hj8
                                            refine lv_iload_n hx hb d_M_lengthOf_158 rfl (lv_at hl 0 rfl) ?_
                                            refine lv_sipush (v := 200) hx hb d_M_lengthOf_159 (by decide) ?_
                                            refine lv_icmp_ne (tgt := 169) hx hb d_M_lengthOf_162 (by decide) (fun hc => ?_) (fun hc => ?_)
                                            · replace hj8 := ie_u hc hj8
                                              refine lv_iconst (v := 1) hx hb d_M_lengthOf_169 (by decide) ?_
                                              cases hj8
                                              exact Khj8 _ _ _ I (lv_sub hl [] rfl)
                                            · replace hj8 := it_u hc hj8
                                              refine lv_iconst (v := 5) hx hb d_M_lengthOf_165 (by decide) ?_
                                              refine lv_goto (tgt := 170) hx hb d_M_lengthOf_166 (by decide) ?_
                                              cases hj8
                                              exact Khj8 _ _ _ I (lv_sub hl [] rfl)
                                        · replace hk := it_u hc hk
                                          refine lv_iconst (v := 4) hx hb d_M_lengthOf_149 (by decide) ?_
                                          exact hQ _ _ _ _ _ _ I hk d_M_lengthOf_150
                                      · replace hk := it_u hc hk
                                        refine lv_iconst (v := 3) hx hb d_M_lengthOf_140 (by decide) ?_
                                        exact hQ _ _ _ _ _ _ I hk d_M_lengthOf_141
          · replace hk := it_u hc hk
            refine lv_iconst (v := 2) hx hb d_M_lengthOf_43 (by decide) ?_
            exact hQ _ _ _ _ _ _ I hk d_M_lengthOf_44
        · replace hk := ie_u hc hk
          refine lv_iload_n hx hb d_M_lengthOf_30 rfl (lv_at hl 0 rfl) ?_
          refine lv_bipush (v := 58) hx hb d_M_lengthOf_31 (by decide) ?_
          refine lv_icmp_le (tgt := 43) hx hb d_M_lengthOf_33 (by decide) (fun hc => ?_) (fun hc => ?_)
          · replace hk := it_u hc hk
            refine lv_iconst (v := 2) hx hb d_M_lengthOf_43 (by decide) ?_
            exact hQ _ _ _ _ _ _ I hk d_M_lengthOf_44
          · replace hk := ie_u hc hk
            refine lv_iload_n hx hb d_M_lengthOf_36 rfl (lv_at hl 0 rfl) ?_
            refine lv_sipush (v := 188) hx hb d_M_lengthOf_37 (by decide) ?_
            refine lv_icmp_ne (tgt := 45) hx hb d_M_lengthOf_40 (by decide) (fun hc => ?_) (fun hc => ?_)
            · replace hk := ie_u hc hk
              refine lv_iload_n hx hb d_M_lengthOf_45 rfl (lv_at hl 0 rfl) ?_
              refine lv_bipush (v := 17) hx hb d_M_lengthOf_46 (by decide) ?_
              refine lv_icmp_eq (tgt := 140) hx hb d_M_lengthOf_48 (by decide) (fun hc => ?_) (fun hc => ?_)
              · replace hk := it_u hc hk
                refine lv_iconst (v := 3) hx hb d_M_lengthOf_140 (by decide) ?_
                exact hQ _ _ _ _ _ _ I hk d_M_lengthOf_141
              · replace hk := ie_u hc hk
                refine lv_iload_n hx hb d_M_lengthOf_51 rfl (lv_at hl 0 rfl) ?_
                refine lv_bipush (v := 19) hx hb d_M_lengthOf_52 (by decide) ?_
                refine lv_icmp_eq (tgt := 140) hx hb d_M_lengthOf_54 (by decide) (fun hc => ?_) (fun hc => ?_)
                · replace hk := it_u hc hk
                  refine lv_iconst (v := 3) hx hb d_M_lengthOf_140 (by decide) ?_
                  exact hQ _ _ _ _ _ _ I hk d_M_lengthOf_141
                · replace hk := ie_u hc hk
                  refine lv_iload_n hx hb d_M_lengthOf_57 rfl (lv_at hl 0 rfl) ?_
                  refine lv_bipush (v := 20) hx hb d_M_lengthOf_58 (by decide) ?_
                  refine lv_icmp_eq (tgt := 140) hx hb d_M_lengthOf_60 (by decide) (fun hc => ?_) (fun hc => ?_)
                  · replace hk := it_u hc hk
                    refine lv_iconst (v := 3) hx hb d_M_lengthOf_140 (by decide) ?_
                    exact hQ _ _ _ _ _ _ I hk d_M_lengthOf_141
                  · replace hk := ie_u hc hk
                    refine lv_iload_n hx hb d_M_lengthOf_63 rfl (lv_at hl 0 rfl) ?_
                    refine lv_sipush (v := 132) hx hb d_M_lengthOf_64 (by decide) ?_
                    refine lv_icmp_eq (tgt := 140) hx hb d_M_lengthOf_67 (by decide) (fun hc => ?_) (fun hc => ?_)
                    · replace hk := it_u hc hk
                      refine lv_iconst (v := 3) hx hb d_M_lengthOf_140 (by decide) ?_
                      exact hQ _ _ _ _ _ _ I hk d_M_lengthOf_141
                    · replace hk := ie_u hc hk
                      refine lv_iload_n hx hb d_M_lengthOf_70 rfl (lv_at hl 0 rfl) ?_
                      refine lv_sipush (v := 153) hx hb d_M_lengthOf_71 (by decide) ?_
                      refine lv_icmp_lt (tgt := 84) hx hb d_M_lengthOf_74 (by decide) (fun hc => ?_) (fun hc => ?_)
                      · replace hk := it_u hc hk
                        refine lv_iload_n hx hb d_M_lengthOf_84 rfl (lv_at hl 0 rfl) ?_
                        refine lv_sipush (v := 178) hx hb d_M_lengthOf_85 (by decide) ?_
                        refine lv_icmp_lt (tgt := 98) hx hb d_M_lengthOf_88 (by decide) (fun hc => ?_) (fun hc => ?_)
                        · replace hk := it_u hc hk
                          refine lv_iload_n hx hb d_M_lengthOf_98 rfl (lv_at hl 0 rfl) ?_
                          refine lv_sipush (v := 187) hx hb d_M_lengthOf_99 (by decide) ?_
                          refine lv_icmp_eq (tgt := 140) hx hb d_M_lengthOf_102 (by decide) (fun hc => ?_) (fun hc => ?_)
                          · replace hk := it_u hc hk
                            refine lv_iconst (v := 3) hx hb d_M_lengthOf_140 (by decide) ?_
                            exact hQ _ _ _ _ _ _ I hk d_M_lengthOf_141
                          · replace hk := ie_u hc hk
                            refine lv_iload_n hx hb d_M_lengthOf_105 rfl (lv_at hl 0 rfl) ?_
                            refine lv_sipush (v := 189) hx hb d_M_lengthOf_106 (by decide) ?_
                            refine lv_icmp_eq (tgt := 140) hx hb d_M_lengthOf_109 (by decide) (fun hc => ?_) (fun hc => ?_)
                            · replace hk := it_u hc hk
                              refine lv_iconst (v := 3) hx hb d_M_lengthOf_140 (by decide) ?_
                              exact hQ _ _ _ _ _ _ I hk d_M_lengthOf_141
                            · replace hk := ie_u hc hk
                              refine lv_iload_n hx hb d_M_lengthOf_112 rfl (lv_at hl 0 rfl) ?_
                              refine lv_sipush (v := 192) hx hb d_M_lengthOf_113 (by decide) ?_
                              refine lv_icmp_eq (tgt := 140) hx hb d_M_lengthOf_116 (by decide) (fun hc => ?_) (fun hc => ?_)
                              · replace hk := it_u hc hk
                                refine lv_iconst (v := 3) hx hb d_M_lengthOf_140 (by decide) ?_
                                exact hQ _ _ _ _ _ _ I hk d_M_lengthOf_141
                              · replace hk := ie_u hc hk
                                refine lv_iload_n hx hb d_M_lengthOf_119 rfl (lv_at hl 0 rfl) ?_
                                refine lv_sipush (v := 193) hx hb d_M_lengthOf_120 (by decide) ?_
                                refine lv_icmp_eq (tgt := 140) hx hb d_M_lengthOf_123 (by decide) (fun hc => ?_) (fun hc => ?_)
                                · replace hk := it_u hc hk
                                  refine lv_iconst (v := 3) hx hb d_M_lengthOf_140 (by decide) ?_
                                  exact hQ _ _ _ _ _ _ I hk d_M_lengthOf_141
                                · replace hk := ie_u hc hk
                                  refine lv_iload_n hx hb d_M_lengthOf_126 rfl (lv_at hl 0 rfl) ?_
                                  refine lv_sipush (v := 198) hx hb d_M_lengthOf_127 (by decide) ?_
                                  refine lv_icmp_eq (tgt := 140) hx hb d_M_lengthOf_130 (by decide) (fun hc => ?_) (fun hc => ?_)
                                  · replace hk := it_u hc hk
                                    refine lv_iconst (v := 3) hx hb d_M_lengthOf_140 (by decide) ?_
                                    exact hQ _ _ _ _ _ _ I hk d_M_lengthOf_141
                                  · replace hk := ie_u hc hk
                                    refine lv_iload_n hx hb d_M_lengthOf_133 rfl (lv_at hl 0 rfl) ?_
                                    refine lv_sipush (v := 199) hx hb d_M_lengthOf_134 (by decide) ?_
                                    refine lv_icmp_ne (tgt := 142) hx hb d_M_lengthOf_137 (by decide) (fun hc => ?_) (fun hc => ?_)
                                    · replace hk := ie_u hc hk
                                      refine lv_iload_n hx hb d_M_lengthOf_142 rfl (lv_at hl 0 rfl) ?_
                                      refine lv_sipush (v := 197) hx hb d_M_lengthOf_143 (by decide) ?_
                                      refine lv_icmp_ne (tgt := 151) hx hb d_M_lengthOf_146 (by decide) (fun hc => ?_) (fun hc => ?_)
                                      · replace hk := ie_u hc hk
                                        refine lv_iload_n hx hb d_M_lengthOf_151 rfl (lv_at hl 0 rfl) ?_
                                        refine lv_sipush (v := 185) hx hb d_M_lengthOf_152 (by decide) ?_
                                        obtain ⟨z9, hj10, hk⟩ := bnd_u hk
                                        have Khj10 : ∀ (H : Heap) (locs : List Loc) (ls : Array Slot), Dy clA D (mW a cs) s H locs u → lv_has ls 1 [] → W p l e rm_M_lengthOf s m args below meth c H locs 0 0 Q (F0 m 170 ls [.int z9]) := by
                                          intro H locs ls I hl
                                          exact hQ _ _ _ _ _ _ I hk d_M_lengthOf_170
                                        refine lv_icmp_eq (tgt := 165) hx hb d_M_lengthOf_155 (by decide) (fun hc => ?_) (fun hc => ?_)
                                        · replace hj10 := it_u hc hj10
                                          refine lv_iconst (v := 5) hx hb d_M_lengthOf_165 (by decide) ?_
                                          refine lv_goto (tgt := 170) hx hb d_M_lengthOf_166 (by decide) ?_
                                          cases hj10
                                          exact Khj10 _ _ _ I (lv_sub hl [] rfl)
                                        · replace hj10 := ie_u hc hj10
                                          refine lv_iload_n hx hb d_M_lengthOf_158 rfl (lv_at hl 0 rfl) ?_
                                          refine lv_sipush (v := 200) hx hb d_M_lengthOf_159 (by decide) ?_
                                          refine lv_icmp_ne (tgt := 169) hx hb d_M_lengthOf_162 (by decide) (fun hc => ?_) (fun hc => ?_)
                                          · replace hj10 := ie_u hc hj10
                                            refine lv_iconst (v := 1) hx hb d_M_lengthOf_169 (by decide) ?_
                                            cases hj10
                                            exact Khj10 _ _ _ I (lv_sub hl [] rfl)
                                          · replace hj10 := it_u hc hj10
                                            refine lv_iconst (v := 5) hx hb d_M_lengthOf_165 (by decide) ?_
                                            refine lv_goto (tgt := 170) hx hb d_M_lengthOf_166 (by decide) ?_
                                            cases hj10
                                            exact Khj10 _ _ _ I (lv_sub hl [] rfl)
                                      · replace hk := it_u hc hk
                                        refine lv_iconst (v := 4) hx hb d_M_lengthOf_149 (by decide) ?_
                                        exact hQ _ _ _ _ _ _ I hk d_M_lengthOf_150
                                    · replace hk := it_u hc hk
                                      refine lv_iconst (v := 3) hx hb d_M_lengthOf_140 (by decide) ?_
                                      exact hQ _ _ _ _ _ _ I hk d_M_lengthOf_141
                        · replace hk := ie_u hc hk
                          refine lv_iload_n hx hb d_M_lengthOf_91 rfl (lv_at hl 0 rfl) ?_
                          refine lv_sipush (v := 184) hx hb d_M_lengthOf_92 (by decide) ?_
                          refine lv_icmp_le (tgt := 140) hx hb d_M_lengthOf_95 (by decide) (fun hc => ?_) (fun hc => ?_)
                          · replace hk := it_u hc hk
                            refine lv_iconst (v := 3) hx hb d_M_lengthOf_140 (by decide) ?_
                            exact hQ _ _ _ _ _ _ I hk d_M_lengthOf_141
                          · replace hk := ie_u hc hk
                            refine lv_iload_n hx hb d_M_lengthOf_98 rfl (lv_at hl 0 rfl) ?_
                            refine lv_sipush (v := 187) hx hb d_M_lengthOf_99 (by decide) ?_
                            refine lv_icmp_eq (tgt := 140) hx hb d_M_lengthOf_102 (by decide) (fun hc => ?_) (fun hc => ?_)
                            · replace hk := it_u hc hk
                              refine lv_iconst (v := 3) hx hb d_M_lengthOf_140 (by decide) ?_
                              exact hQ _ _ _ _ _ _ I hk d_M_lengthOf_141
                            · replace hk := ie_u hc hk
                              refine lv_iload_n hx hb d_M_lengthOf_105 rfl (lv_at hl 0 rfl) ?_
                              refine lv_sipush (v := 189) hx hb d_M_lengthOf_106 (by decide) ?_
                              refine lv_icmp_eq (tgt := 140) hx hb d_M_lengthOf_109 (by decide) (fun hc => ?_) (fun hc => ?_)
                              · replace hk := it_u hc hk
                                refine lv_iconst (v := 3) hx hb d_M_lengthOf_140 (by decide) ?_
                                exact hQ _ _ _ _ _ _ I hk d_M_lengthOf_141
                              · replace hk := ie_u hc hk
                                refine lv_iload_n hx hb d_M_lengthOf_112 rfl (lv_at hl 0 rfl) ?_
                                refine lv_sipush (v := 192) hx hb d_M_lengthOf_113 (by decide) ?_
                                refine lv_icmp_eq (tgt := 140) hx hb d_M_lengthOf_116 (by decide) (fun hc => ?_) (fun hc => ?_)
                                · replace hk := it_u hc hk
                                  refine lv_iconst (v := 3) hx hb d_M_lengthOf_140 (by decide) ?_
                                  exact hQ _ _ _ _ _ _ I hk d_M_lengthOf_141
                                · replace hk := ie_u hc hk
                                  refine lv_iload_n hx hb d_M_lengthOf_119 rfl (lv_at hl 0 rfl) ?_
                                  refine lv_sipush (v := 193) hx hb d_M_lengthOf_120 (by decide) ?_
                                  refine lv_icmp_eq (tgt := 140) hx hb d_M_lengthOf_123 (by decide) (fun hc => ?_) (fun hc => ?_)
                                  · replace hk := it_u hc hk
                                    refine lv_iconst (v := 3) hx hb d_M_lengthOf_140 (by decide) ?_
                                    exact hQ _ _ _ _ _ _ I hk d_M_lengthOf_141
                                  · replace hk := ie_u hc hk
                                    refine lv_iload_n hx hb d_M_lengthOf_126 rfl (lv_at hl 0 rfl) ?_
                                    refine lv_sipush (v := 198) hx hb d_M_lengthOf_127 (by decide) ?_
                                    refine lv_icmp_eq (tgt := 140) hx hb d_M_lengthOf_130 (by decide) (fun hc => ?_) (fun hc => ?_)
                                    · replace hk := it_u hc hk
                                      refine lv_iconst (v := 3) hx hb d_M_lengthOf_140 (by decide) ?_
                                      exact hQ _ _ _ _ _ _ I hk d_M_lengthOf_141
                                    · replace hk := ie_u hc hk
                                      refine lv_iload_n hx hb d_M_lengthOf_133 rfl (lv_at hl 0 rfl) ?_
                                      refine lv_sipush (v := 199) hx hb d_M_lengthOf_134 (by decide) ?_
                                      refine lv_icmp_ne (tgt := 142) hx hb d_M_lengthOf_137 (by decide) (fun hc => ?_) (fun hc => ?_)
                                      · replace hk := ie_u hc hk
                                        refine lv_iload_n hx hb d_M_lengthOf_142 rfl (lv_at hl 0 rfl) ?_
                                        refine lv_sipush (v := 197) hx hb d_M_lengthOf_143 (by decide) ?_
                                        refine lv_icmp_ne (tgt := 151) hx hb d_M_lengthOf_146 (by decide) (fun hc => ?_) (fun hc => ?_)
                                        · replace hk := ie_u hc hk
                                          refine lv_iload_n hx hb d_M_lengthOf_151 rfl (lv_at hl 0 rfl) ?_
                                          refine lv_sipush (v := 185) hx hb d_M_lengthOf_152 (by decide) ?_
                                          obtain ⟨z11, hj12, hk⟩ := bnd_u hk
                                          have Khj12 : ∀ (H : Heap) (locs : List Loc) (ls : Array Slot), Dy clA D (mW a cs) s H locs u → lv_has ls 1 [] → W p l e rm_M_lengthOf s m args below meth c H locs 0 0 Q (F0 m 170 ls [.int z11]) := by
                                            intro H locs ls I hl
                                            exact hQ _ _ _ _ _ _ I hk d_M_lengthOf_170
                                          refine lv_icmp_eq (tgt := 165) hx hb d_M_lengthOf_155 (by decide) (fun hc => ?_) (fun hc => ?_)
                                          · replace hj12 := it_u hc hj12
                                            refine lv_iconst (v := 5) hx hb d_M_lengthOf_165 (by decide) ?_
                                            refine lv_goto (tgt := 170) hx hb d_M_lengthOf_166 (by decide) ?_
                                            cases hj12
                                            exact Khj12 _ _ _ I (lv_sub hl [] rfl)
                                          · replace hj12 := ie_u hc hj12
                                            refine lv_iload_n hx hb d_M_lengthOf_158 rfl (lv_at hl 0 rfl) ?_
                                            refine lv_sipush (v := 200) hx hb d_M_lengthOf_159 (by decide) ?_
                                            refine lv_icmp_ne (tgt := 169) hx hb d_M_lengthOf_162 (by decide) (fun hc => ?_) (fun hc => ?_)
                                            · replace hj12 := ie_u hc hj12
                                              refine lv_iconst (v := 1) hx hb d_M_lengthOf_169 (by decide) ?_
                                              cases hj12
                                              exact Khj12 _ _ _ I (lv_sub hl [] rfl)
                                            · replace hj12 := it_u hc hj12
                                              refine lv_iconst (v := 5) hx hb d_M_lengthOf_165 (by decide) ?_
                                              refine lv_goto (tgt := 170) hx hb d_M_lengthOf_166 (by decide) ?_
                                              cases hj12
                                              exact Khj12 _ _ _ I (lv_sub hl [] rfl)
                                        · replace hk := it_u hc hk
                                          refine lv_iconst (v := 4) hx hb d_M_lengthOf_149 (by decide) ?_
                                          exact hQ _ _ _ _ _ _ I hk d_M_lengthOf_150
                                      · replace hk := it_u hc hk
                                        refine lv_iconst (v := 3) hx hb d_M_lengthOf_140 (by decide) ?_
                                        exact hQ _ _ _ _ _ _ I hk d_M_lengthOf_141
                      · replace hk := ie_u hc hk
                        refine lv_iload_n hx hb d_M_lengthOf_77 rfl (lv_at hl 0 rfl) ?_
                        refine lv_sipush (v := 167) hx hb d_M_lengthOf_78 (by decide) ?_
                        refine lv_icmp_le (tgt := 140) hx hb d_M_lengthOf_81 (by decide) (fun hc => ?_) (fun hc => ?_)
                        · replace hk := it_u hc hk
                          refine lv_iconst (v := 3) hx hb d_M_lengthOf_140 (by decide) ?_
                          exact hQ _ _ _ _ _ _ I hk d_M_lengthOf_141
                        · replace hk := ie_u hc hk
                          refine lv_iload_n hx hb d_M_lengthOf_84 rfl (lv_at hl 0 rfl) ?_
                          refine lv_sipush (v := 178) hx hb d_M_lengthOf_85 (by decide) ?_
                          refine lv_icmp_lt (tgt := 98) hx hb d_M_lengthOf_88 (by decide) (fun hc => ?_) (fun hc => ?_)
                          · replace hk := it_u hc hk
                            refine lv_iload_n hx hb d_M_lengthOf_98 rfl (lv_at hl 0 rfl) ?_
                            refine lv_sipush (v := 187) hx hb d_M_lengthOf_99 (by decide) ?_
                            refine lv_icmp_eq (tgt := 140) hx hb d_M_lengthOf_102 (by decide) (fun hc => ?_) (fun hc => ?_)
                            · replace hk := it_u hc hk
                              refine lv_iconst (v := 3) hx hb d_M_lengthOf_140 (by decide) ?_
                              exact hQ _ _ _ _ _ _ I hk d_M_lengthOf_141
                            · replace hk := ie_u hc hk
                              refine lv_iload_n hx hb d_M_lengthOf_105 rfl (lv_at hl 0 rfl) ?_
                              refine lv_sipush (v := 189) hx hb d_M_lengthOf_106 (by decide) ?_
                              refine lv_icmp_eq (tgt := 140) hx hb d_M_lengthOf_109 (by decide) (fun hc => ?_) (fun hc => ?_)
                              · replace hk := it_u hc hk
                                refine lv_iconst (v := 3) hx hb d_M_lengthOf_140 (by decide) ?_
                                exact hQ _ _ _ _ _ _ I hk d_M_lengthOf_141
                              · replace hk := ie_u hc hk
                                refine lv_iload_n hx hb d_M_lengthOf_112 rfl (lv_at hl 0 rfl) ?_
                                refine lv_sipush (v := 192) hx hb d_M_lengthOf_113 (by decide) ?_
                                refine lv_icmp_eq (tgt := 140) hx hb d_M_lengthOf_116 (by decide) (fun hc => ?_) (fun hc => ?_)
                                · replace hk := it_u hc hk
                                  refine lv_iconst (v := 3) hx hb d_M_lengthOf_140 (by decide) ?_
                                  exact hQ _ _ _ _ _ _ I hk d_M_lengthOf_141
                                · replace hk := ie_u hc hk
                                  refine lv_iload_n hx hb d_M_lengthOf_119 rfl (lv_at hl 0 rfl) ?_
                                  refine lv_sipush (v := 193) hx hb d_M_lengthOf_120 (by decide) ?_
                                  refine lv_icmp_eq (tgt := 140) hx hb d_M_lengthOf_123 (by decide) (fun hc => ?_) (fun hc => ?_)
                                  · replace hk := it_u hc hk
                                    refine lv_iconst (v := 3) hx hb d_M_lengthOf_140 (by decide) ?_
                                    exact hQ _ _ _ _ _ _ I hk d_M_lengthOf_141
                                  · replace hk := ie_u hc hk
                                    refine lv_iload_n hx hb d_M_lengthOf_126 rfl (lv_at hl 0 rfl) ?_
                                    refine lv_sipush (v := 198) hx hb d_M_lengthOf_127 (by decide) ?_
                                    refine lv_icmp_eq (tgt := 140) hx hb d_M_lengthOf_130 (by decide) (fun hc => ?_) (fun hc => ?_)
                                    · replace hk := it_u hc hk
                                      refine lv_iconst (v := 3) hx hb d_M_lengthOf_140 (by decide) ?_
                                      exact hQ _ _ _ _ _ _ I hk d_M_lengthOf_141
                                    · replace hk := ie_u hc hk
                                      refine lv_iload_n hx hb d_M_lengthOf_133 rfl (lv_at hl 0 rfl) ?_
                                      refine lv_sipush (v := 199) hx hb d_M_lengthOf_134 (by decide) ?_
                                      refine lv_icmp_ne (tgt := 142) hx hb d_M_lengthOf_137 (by decide) (fun hc => ?_) (fun hc => ?_)
                                      · replace hk := ie_u hc hk
                                        refine lv_iload_n hx hb d_M_lengthOf_142 rfl (lv_at hl 0 rfl) ?_
                                        refine lv_sipush (v := 197) hx hb d_M_lengthOf_143 (by decide) ?_
                                        refine lv_icmp_ne (tgt := 151) hx hb d_M_lengthOf_146 (by decide) (fun hc => ?_) (fun hc => ?_)
                                        · replace hk := ie_u hc hk
                                          refine lv_iload_n hx hb d_M_lengthOf_151 rfl (lv_at hl 0 rfl) ?_
                                          refine lv_sipush (v := 185) hx hb d_M_lengthOf_152 (by decide) ?_
                                          obtain ⟨z13, hj14, hk⟩ := bnd_u hk
                                          have Khj14 : ∀ (H : Heap) (locs : List Loc) (ls : Array Slot), Dy clA D (mW a cs) s H locs u → lv_has ls 1 [] → W p l e rm_M_lengthOf s m args below meth c H locs 0 0 Q (F0 m 170 ls [.int z13]) := by
                                            intro H locs ls I hl
                                            exact hQ _ _ _ _ _ _ I hk d_M_lengthOf_170
                                          refine lv_icmp_eq (tgt := 165) hx hb d_M_lengthOf_155 (by decide) (fun hc => ?_) (fun hc => ?_)
                                          · replace hj14 := it_u hc hj14
                                            refine lv_iconst (v := 5) hx hb d_M_lengthOf_165 (by decide) ?_
                                            refine lv_goto (tgt := 170) hx hb d_M_lengthOf_166 (by decide) ?_
                                            cases hj14
                                            exact Khj14 _ _ _ I (lv_sub hl [] rfl)
                                          · replace hj14 := ie_u hc hj14
                                            refine lv_iload_n hx hb d_M_lengthOf_158 rfl (lv_at hl 0 rfl) ?_
                                            refine lv_sipush (v := 200) hx hb d_M_lengthOf_159 (by decide) ?_
                                            refine lv_icmp_ne (tgt := 169) hx hb d_M_lengthOf_162 (by decide) (fun hc => ?_) (fun hc => ?_)
                                            · replace hj14 := ie_u hc hj14
                                              refine lv_iconst (v := 1) hx hb d_M_lengthOf_169 (by decide) ?_
                                              cases hj14
                                              exact Khj14 _ _ _ I (lv_sub hl [] rfl)
                                            · replace hj14 := it_u hc hj14
                                              refine lv_iconst (v := 5) hx hb d_M_lengthOf_165 (by decide) ?_
                                              refine lv_goto (tgt := 170) hx hb d_M_lengthOf_166 (by decide) ?_
                                              cases hj14
                                              exact Khj14 _ _ _ I (lv_sub hl [] rfl)
                                        · replace hk := it_u hc hk
                                          refine lv_iconst (v := 4) hx hb d_M_lengthOf_149 (by decide) ?_
                                          exact hQ _ _ _ _ _ _ I hk d_M_lengthOf_150
                                      · replace hk := it_u hc hk
                                        refine lv_iconst (v := 3) hx hb d_M_lengthOf_140 (by decide) ?_
                                        exact hQ _ _ _ _ _ _ I hk d_M_lengthOf_141
                          · replace hk := ie_u hc hk
                            refine lv_iload_n hx hb d_M_lengthOf_91 rfl (lv_at hl 0 rfl) ?_
                            refine lv_sipush (v := 184) hx hb d_M_lengthOf_92 (by decide) ?_
                            refine lv_icmp_le (tgt := 140) hx hb d_M_lengthOf_95 (by decide) (fun hc => ?_) (fun hc => ?_)
                            · replace hk := it_u hc hk
                              refine lv_iconst (v := 3) hx hb d_M_lengthOf_140 (by decide) ?_
                              exact hQ _ _ _ _ _ _ I hk d_M_lengthOf_141
                            · replace hk := ie_u hc hk
                              refine lv_iload_n hx hb d_M_lengthOf_98 rfl (lv_at hl 0 rfl) ?_
                              refine lv_sipush (v := 187) hx hb d_M_lengthOf_99 (by decide) ?_
                              refine lv_icmp_eq (tgt := 140) hx hb d_M_lengthOf_102 (by decide) (fun hc => ?_) (fun hc => ?_)
                              · replace hk := it_u hc hk
                                refine lv_iconst (v := 3) hx hb d_M_lengthOf_140 (by decide) ?_
                                exact hQ _ _ _ _ _ _ I hk d_M_lengthOf_141
                              · replace hk := ie_u hc hk
                                refine lv_iload_n hx hb d_M_lengthOf_105 rfl (lv_at hl 0 rfl) ?_
                                refine lv_sipush (v := 189) hx hb d_M_lengthOf_106 (by decide) ?_
                                refine lv_icmp_eq (tgt := 140) hx hb d_M_lengthOf_109 (by decide) (fun hc => ?_) (fun hc => ?_)
                                · replace hk := it_u hc hk
                                  refine lv_iconst (v := 3) hx hb d_M_lengthOf_140 (by decide) ?_
                                  exact hQ _ _ _ _ _ _ I hk d_M_lengthOf_141
                                · replace hk := ie_u hc hk
                                  refine lv_iload_n hx hb d_M_lengthOf_112 rfl (lv_at hl 0 rfl) ?_
                                  refine lv_sipush (v := 192) hx hb d_M_lengthOf_113 (by decide) ?_
                                  refine lv_icmp_eq (tgt := 140) hx hb d_M_lengthOf_116 (by decide) (fun hc => ?_) (fun hc => ?_)
                                  · replace hk := it_u hc hk
                                    refine lv_iconst (v := 3) hx hb d_M_lengthOf_140 (by decide) ?_
                                    exact hQ _ _ _ _ _ _ I hk d_M_lengthOf_141
                                  · replace hk := ie_u hc hk
                                    refine lv_iload_n hx hb d_M_lengthOf_119 rfl (lv_at hl 0 rfl) ?_
                                    refine lv_sipush (v := 193) hx hb d_M_lengthOf_120 (by decide) ?_
                                    refine lv_icmp_eq (tgt := 140) hx hb d_M_lengthOf_123 (by decide) (fun hc => ?_) (fun hc => ?_)
                                    · replace hk := it_u hc hk
                                      refine lv_iconst (v := 3) hx hb d_M_lengthOf_140 (by decide) ?_
                                      exact hQ _ _ _ _ _ _ I hk d_M_lengthOf_141
                                    · replace hk := ie_u hc hk
                                      refine lv_iload_n hx hb d_M_lengthOf_126 rfl (lv_at hl 0 rfl) ?_
                                      refine lv_sipush (v := 198) hx hb d_M_lengthOf_127 (by decide) ?_
                                      refine lv_icmp_eq (tgt := 140) hx hb d_M_lengthOf_130 (by decide) (fun hc => ?_) (fun hc => ?_)
                                      · replace hk := it_u hc hk
                                        refine lv_iconst (v := 3) hx hb d_M_lengthOf_140 (by decide) ?_
                                        exact hQ _ _ _ _ _ _ I hk d_M_lengthOf_141
                                      · replace hk := ie_u hc hk
                                        refine lv_iload_n hx hb d_M_lengthOf_133 rfl (lv_at hl 0 rfl) ?_
                                        refine lv_sipush (v := 199) hx hb d_M_lengthOf_134 (by decide) ?_
                                        refine lv_icmp_ne (tgt := 142) hx hb d_M_lengthOf_137 (by decide) (fun hc => ?_) (fun hc => ?_)
                                        · replace hk := ie_u hc hk
                                          refine lv_iload_n hx hb d_M_lengthOf_142 rfl (lv_at hl 0 rfl) ?_
                                          refine lv_sipush (v := 197) hx hb d_M_lengthOf_143 (by decide) ?_
                                          refine lv_icmp_ne (tgt := 151) hx hb d_M_lengthOf_146 (by decide) (fun hc => ?_) (fun hc => ?_)
                                          · replace hk := ie_u hc hk
                                            refine lv_iload_n hx hb d_M_lengthOf_151 rfl (lv_at hl 0 rfl) ?_
                                            refine lv_sipush (v := 185) hx hb d_M_lengthOf_152 (by decide) ?_
                                            obtain ⟨z15, hj16, hk⟩ := bnd_u hk
                                            have Khj16 : ∀ (H : Heap) (locs : List Loc) (ls : Array Slot), Dy clA D (mW a cs) s H locs u → lv_has ls 1 [] → W p l e rm_M_lengthOf s m args below meth c H locs 0 0 Q (F0 m 170 ls [.int z15]) := by
                                              intro H locs ls I hl
                                              exact hQ _ _ _ _ _ _ I hk d_M_lengthOf_170
                                            refine lv_icmp_eq (tgt := 165) hx hb d_M_lengthOf_155 (by decide) (fun hc => ?_) (fun hc => ?_)
                                            · replace hj16 := it_u hc hj16
                                              refine lv_iconst (v := 5) hx hb d_M_lengthOf_165 (by decide) ?_
                                              refine lv_goto (tgt := 170) hx hb d_M_lengthOf_166 (by decide) ?_
                                              cases hj16
                                              exact Khj16 _ _ _ I (lv_sub hl [] rfl)
                                            · replace hj16 := ie_u hc hj16
                                              refine lv_iload_n hx hb d_M_lengthOf_158 rfl (lv_at hl 0 rfl) ?_
                                              refine lv_sipush (v := 200) hx hb d_M_lengthOf_159 (by decide) ?_
                                              refine lv_icmp_ne (tgt := 169) hx hb d_M_lengthOf_162 (by decide) (fun hc => ?_) (fun hc => ?_)
                                              · replace hj16 := ie_u hc hj16
                                                refine lv_iconst (v := 1) hx hb d_M_lengthOf_169 (by decide) ?_
                                                cases hj16
                                                exact Khj16 _ _ _ I (lv_sub hl [] rfl)
                                              · replace hj16 := it_u hc hj16
                                                refine lv_iconst (v := 5) hx hb d_M_lengthOf_165 (by decide) ?_
                                                refine lv_goto (tgt := 170) hx hb d_M_lengthOf_166 (by decide) ?_
                                                cases hj16
                                                exact Khj16 _ _ _ I (lv_sub hl [] rfl)
                                          · replace hk := it_u hc hk
                                            refine lv_iconst (v := 4) hx hb d_M_lengthOf_149 (by decide) ?_
                                            exact hQ _ _ _ _ _ _ I hk d_M_lengthOf_150
                                        · replace hk := it_u hc hk
                                          refine lv_iconst (v := 3) hx hb d_M_lengthOf_140 (by decide) ?_
                                          exact hQ _ _ _ _ _ _ I hk d_M_lengthOf_141
            · replace hk := it_u hc hk
              refine lv_iconst (v := 2) hx hb d_M_lengthOf_43 (by decide) ?_
              exact hQ _ _ _ _ _ _ I hk d_M_lengthOf_44
      · replace hk := ie_u hc hk
        refine lv_iload_n hx hb d_M_lengthOf_18 rfl (lv_at hl 0 rfl) ?_
        refine lv_bipush (v := 25) hx hb d_M_lengthOf_19 (by decide) ?_
        refine lv_icmp_le (tgt := 43) hx hb d_M_lengthOf_21 (by decide) (fun hc => ?_) (fun hc => ?_)
        · replace hk := it_u hc hk
          refine lv_iconst (v := 2) hx hb d_M_lengthOf_43 (by decide) ?_
          exact hQ _ _ _ _ _ _ I hk d_M_lengthOf_44
        · replace hk := ie_u hc hk
          refine lv_iload_n hx hb d_M_lengthOf_24 rfl (lv_at hl 0 rfl) ?_
          refine lv_bipush (v := 54) hx hb d_M_lengthOf_25 (by decide) ?_
          refine lv_icmp_lt (tgt := 36) hx hb d_M_lengthOf_27 (by decide) (fun hc => ?_) (fun hc => ?_)
          · replace hk := it_u hc hk
            refine lv_iload_n hx hb d_M_lengthOf_36 rfl (lv_at hl 0 rfl) ?_
            refine lv_sipush (v := 188) hx hb d_M_lengthOf_37 (by decide) ?_
            refine lv_icmp_ne (tgt := 45) hx hb d_M_lengthOf_40 (by decide) (fun hc => ?_) (fun hc => ?_)
            · replace hk := ie_u hc hk
              refine lv_iload_n hx hb d_M_lengthOf_45 rfl (lv_at hl 0 rfl) ?_
              refine lv_bipush (v := 17) hx hb d_M_lengthOf_46 (by decide) ?_
              refine lv_icmp_eq (tgt := 140) hx hb d_M_lengthOf_48 (by decide) (fun hc => ?_) (fun hc => ?_)
              · replace hk := it_u hc hk
                refine lv_iconst (v := 3) hx hb d_M_lengthOf_140 (by decide) ?_
                exact hQ _ _ _ _ _ _ I hk d_M_lengthOf_141
              · replace hk := ie_u hc hk
                refine lv_iload_n hx hb d_M_lengthOf_51 rfl (lv_at hl 0 rfl) ?_
                refine lv_bipush (v := 19) hx hb d_M_lengthOf_52 (by decide) ?_
                refine lv_icmp_eq (tgt := 140) hx hb d_M_lengthOf_54 (by decide) (fun hc => ?_) (fun hc => ?_)
                · replace hk := it_u hc hk
                  refine lv_iconst (v := 3) hx hb d_M_lengthOf_140 (by decide) ?_
                  exact hQ _ _ _ _ _ _ I hk d_M_lengthOf_141
                · replace hk := ie_u hc hk
                  refine lv_iload_n hx hb d_M_lengthOf_57 rfl (lv_at hl 0 rfl) ?_
                  refine lv_bipush (v := 20) hx hb d_M_lengthOf_58 (by decide) ?_
                  refine lv_icmp_eq (tgt := 140) hx hb d_M_lengthOf_60 (by decide) (fun hc => ?_) (fun hc => ?_)
                  · replace hk := it_u hc hk
                    refine lv_iconst (v := 3) hx hb d_M_lengthOf_140 (by decide) ?_
                    exact hQ _ _ _ _ _ _ I hk d_M_lengthOf_141
                  · replace hk := ie_u hc hk
                    refine lv_iload_n hx hb d_M_lengthOf_63 rfl (lv_at hl 0 rfl) ?_
                    refine lv_sipush (v := 132) hx hb d_M_lengthOf_64 (by decide) ?_
                    refine lv_icmp_eq (tgt := 140) hx hb d_M_lengthOf_67 (by decide) (fun hc => ?_) (fun hc => ?_)
                    · replace hk := it_u hc hk
                      refine lv_iconst (v := 3) hx hb d_M_lengthOf_140 (by decide) ?_
                      exact hQ _ _ _ _ _ _ I hk d_M_lengthOf_141
                    · replace hk := ie_u hc hk
                      refine lv_iload_n hx hb d_M_lengthOf_70 rfl (lv_at hl 0 rfl) ?_
                      refine lv_sipush (v := 153) hx hb d_M_lengthOf_71 (by decide) ?_
                      refine lv_icmp_lt (tgt := 84) hx hb d_M_lengthOf_74 (by decide) (fun hc => ?_) (fun hc => ?_)
                      · replace hk := it_u hc hk
                        refine lv_iload_n hx hb d_M_lengthOf_84 rfl (lv_at hl 0 rfl) ?_
                        refine lv_sipush (v := 178) hx hb d_M_lengthOf_85 (by decide) ?_
                        refine lv_icmp_lt (tgt := 98) hx hb d_M_lengthOf_88 (by decide) (fun hc => ?_) (fun hc => ?_)
                        · replace hk := it_u hc hk
                          refine lv_iload_n hx hb d_M_lengthOf_98 rfl (lv_at hl 0 rfl) ?_
                          refine lv_sipush (v := 187) hx hb d_M_lengthOf_99 (by decide) ?_
                          refine lv_icmp_eq (tgt := 140) hx hb d_M_lengthOf_102 (by decide) (fun hc => ?_) (fun hc => ?_)
                          · replace hk := it_u hc hk
                            refine lv_iconst (v := 3) hx hb d_M_lengthOf_140 (by decide) ?_
                            exact hQ _ _ _ _ _ _ I hk d_M_lengthOf_141
                          · replace hk := ie_u hc hk
                            refine lv_iload_n hx hb d_M_lengthOf_105 rfl (lv_at hl 0 rfl) ?_
                            refine lv_sipush (v := 189) hx hb d_M_lengthOf_106 (by decide) ?_
                            refine lv_icmp_eq (tgt := 140) hx hb d_M_lengthOf_109 (by decide) (fun hc => ?_) (fun hc => ?_)
                            · replace hk := it_u hc hk
                              refine lv_iconst (v := 3) hx hb d_M_lengthOf_140 (by decide) ?_
                              exact hQ _ _ _ _ _ _ I hk d_M_lengthOf_141
                            · replace hk := ie_u hc hk
                              refine lv_iload_n hx hb d_M_lengthOf_112 rfl (lv_at hl 0 rfl) ?_
                              refine lv_sipush (v := 192) hx hb d_M_lengthOf_113 (by decide) ?_
                              refine lv_icmp_eq (tgt := 140) hx hb d_M_lengthOf_116 (by decide) (fun hc => ?_) (fun hc => ?_)
                              · replace hk := it_u hc hk
                                refine lv_iconst (v := 3) hx hb d_M_lengthOf_140 (by decide) ?_
                                exact hQ _ _ _ _ _ _ I hk d_M_lengthOf_141
                              · replace hk := ie_u hc hk
                                refine lv_iload_n hx hb d_M_lengthOf_119 rfl (lv_at hl 0 rfl) ?_
                                refine lv_sipush (v := 193) hx hb d_M_lengthOf_120 (by decide) ?_
                                refine lv_icmp_eq (tgt := 140) hx hb d_M_lengthOf_123 (by decide) (fun hc => ?_) (fun hc => ?_)
                                · replace hk := it_u hc hk
                                  refine lv_iconst (v := 3) hx hb d_M_lengthOf_140 (by decide) ?_
                                  exact hQ _ _ _ _ _ _ I hk d_M_lengthOf_141
                                · replace hk := ie_u hc hk
                                  refine lv_iload_n hx hb d_M_lengthOf_126 rfl (lv_at hl 0 rfl) ?_
                                  refine lv_sipush (v := 198) hx hb d_M_lengthOf_127 (by decide) ?_
                                  refine lv_icmp_eq (tgt := 140) hx hb d_M_lengthOf_130 (by decide) (fun hc => ?_) (fun hc => ?_)
                                  · replace hk := it_u hc hk
                                    refine lv_iconst (v := 3) hx hb d_M_lengthOf_140 (by decide) ?_
                                    exact hQ _ _ _ _ _ _ I hk d_M_lengthOf_141
                                  · replace hk := ie_u hc hk
                                    refine lv_iload_n hx hb d_M_lengthOf_133 rfl (lv_at hl 0 rfl) ?_
                                    refine lv_sipush (v := 199) hx hb d_M_lengthOf_134 (by decide) ?_
                                    refine lv_icmp_ne (tgt := 142) hx hb d_M_lengthOf_137 (by decide) (fun hc => ?_) (fun hc => ?_)
                                    · replace hk := ie_u hc hk
                                      refine lv_iload_n hx hb d_M_lengthOf_142 rfl (lv_at hl 0 rfl) ?_
                                      refine lv_sipush (v := 197) hx hb d_M_lengthOf_143 (by decide) ?_
                                      refine lv_icmp_ne (tgt := 151) hx hb d_M_lengthOf_146 (by decide) (fun hc => ?_) (fun hc => ?_)
                                      · replace hk := ie_u hc hk
                                        refine lv_iload_n hx hb d_M_lengthOf_151 rfl (lv_at hl 0 rfl) ?_
                                        refine lv_sipush (v := 185) hx hb d_M_lengthOf_152 (by decide) ?_
                                        obtain ⟨z17, hj18, hk⟩ := bnd_u hk
                                        have Khj18 : ∀ (H : Heap) (locs : List Loc) (ls : Array Slot), Dy clA D (mW a cs) s H locs u → lv_has ls 1 [] → W p l e rm_M_lengthOf s m args below meth c H locs 0 0 Q (F0 m 170 ls [.int z17]) := by
                                          intro H locs ls I hl
                                          exact hQ _ _ _ _ _ _ I hk d_M_lengthOf_170
                                        refine lv_icmp_eq (tgt := 165) hx hb d_M_lengthOf_155 (by decide) (fun hc => ?_) (fun hc => ?_)
                                        · replace hj18 := it_u hc hj18
                                          refine lv_iconst (v := 5) hx hb d_M_lengthOf_165 (by decide) ?_
                                          refine lv_goto (tgt := 170) hx hb d_M_lengthOf_166 (by decide) ?_
                                          cases hj18
                                          exact Khj18 _ _ _ I (lv_sub hl [] rfl)
                                        · replace hj18 := ie_u hc hj18
                                          refine lv_iload_n hx hb d_M_lengthOf_158 rfl (lv_at hl 0 rfl) ?_
                                          refine lv_sipush (v := 200) hx hb d_M_lengthOf_159 (by decide) ?_
                                          refine lv_icmp_ne (tgt := 169) hx hb d_M_lengthOf_162 (by decide) (fun hc => ?_) (fun hc => ?_)
                                          · replace hj18 := ie_u hc hj18
                                            refine lv_iconst (v := 1) hx hb d_M_lengthOf_169 (by decide) ?_
                                            cases hj18
                                            exact Khj18 _ _ _ I (lv_sub hl [] rfl)
                                          · replace hj18 := it_u hc hj18
                                            refine lv_iconst (v := 5) hx hb d_M_lengthOf_165 (by decide) ?_
                                            refine lv_goto (tgt := 170) hx hb d_M_lengthOf_166 (by decide) ?_
                                            cases hj18
                                            exact Khj18 _ _ _ I (lv_sub hl [] rfl)
                                      · replace hk := it_u hc hk
                                        refine lv_iconst (v := 4) hx hb d_M_lengthOf_149 (by decide) ?_
                                        exact hQ _ _ _ _ _ _ I hk d_M_lengthOf_150
                                    · replace hk := it_u hc hk
                                      refine lv_iconst (v := 3) hx hb d_M_lengthOf_140 (by decide) ?_
                                      exact hQ _ _ _ _ _ _ I hk d_M_lengthOf_141
                        · replace hk := ie_u hc hk
                          refine lv_iload_n hx hb d_M_lengthOf_91 rfl (lv_at hl 0 rfl) ?_
                          refine lv_sipush (v := 184) hx hb d_M_lengthOf_92 (by decide) ?_
                          refine lv_icmp_le (tgt := 140) hx hb d_M_lengthOf_95 (by decide) (fun hc => ?_) (fun hc => ?_)
                          · replace hk := it_u hc hk
                            refine lv_iconst (v := 3) hx hb d_M_lengthOf_140 (by decide) ?_
                            exact hQ _ _ _ _ _ _ I hk d_M_lengthOf_141
                          · replace hk := ie_u hc hk
                            refine lv_iload_n hx hb d_M_lengthOf_98 rfl (lv_at hl 0 rfl) ?_
                            refine lv_sipush (v := 187) hx hb d_M_lengthOf_99 (by decide) ?_
                            refine lv_icmp_eq (tgt := 140) hx hb d_M_lengthOf_102 (by decide) (fun hc => ?_) (fun hc => ?_)
                            · replace hk := it_u hc hk
                              refine lv_iconst (v := 3) hx hb d_M_lengthOf_140 (by decide) ?_
                              exact hQ _ _ _ _ _ _ I hk d_M_lengthOf_141
                            · replace hk := ie_u hc hk
                              refine lv_iload_n hx hb d_M_lengthOf_105 rfl (lv_at hl 0 rfl) ?_
                              refine lv_sipush (v := 189) hx hb d_M_lengthOf_106 (by decide) ?_
                              refine lv_icmp_eq (tgt := 140) hx hb d_M_lengthOf_109 (by decide) (fun hc => ?_) (fun hc => ?_)
                              · replace hk := it_u hc hk
                                refine lv_iconst (v := 3) hx hb d_M_lengthOf_140 (by decide) ?_
                                exact hQ _ _ _ _ _ _ I hk d_M_lengthOf_141
                              · replace hk := ie_u hc hk
                                refine lv_iload_n hx hb d_M_lengthOf_112 rfl (lv_at hl 0 rfl) ?_
                                refine lv_sipush (v := 192) hx hb d_M_lengthOf_113 (by decide) ?_
                                refine lv_icmp_eq (tgt := 140) hx hb d_M_lengthOf_116 (by decide) (fun hc => ?_) (fun hc => ?_)
                                · replace hk := it_u hc hk
                                  refine lv_iconst (v := 3) hx hb d_M_lengthOf_140 (by decide) ?_
                                  exact hQ _ _ _ _ _ _ I hk d_M_lengthOf_141
                                · replace hk := ie_u hc hk
                                  refine lv_iload_n hx hb d_M_lengthOf_119 rfl (lv_at hl 0 rfl) ?_
                                  refine lv_sipush (v := 193) hx hb d_M_lengthOf_120 (by decide) ?_
                                  refine lv_icmp_eq (tgt := 140) hx hb d_M_lengthOf_123 (by decide) (fun hc => ?_) (fun hc => ?_)
                                  · replace hk := it_u hc hk
                                    refine lv_iconst (v := 3) hx hb d_M_lengthOf_140 (by decide) ?_
                                    exact hQ _ _ _ _ _ _ I hk d_M_lengthOf_141
                                  · replace hk := ie_u hc hk
                                    refine lv_iload_n hx hb d_M_lengthOf_126 rfl (lv_at hl 0 rfl) ?_
                                    refine lv_sipush (v := 198) hx hb d_M_lengthOf_127 (by decide) ?_
                                    refine lv_icmp_eq (tgt := 140) hx hb d_M_lengthOf_130 (by decide) (fun hc => ?_) (fun hc => ?_)
                                    · replace hk := it_u hc hk
                                      refine lv_iconst (v := 3) hx hb d_M_lengthOf_140 (by decide) ?_
                                      exact hQ _ _ _ _ _ _ I hk d_M_lengthOf_141
                                    · replace hk := ie_u hc hk
                                      refine lv_iload_n hx hb d_M_lengthOf_133 rfl (lv_at hl 0 rfl) ?_
                                      refine lv_sipush (v := 199) hx hb d_M_lengthOf_134 (by decide) ?_
                                      refine lv_icmp_ne (tgt := 142) hx hb d_M_lengthOf_137 (by decide) (fun hc => ?_) (fun hc => ?_)
                                      · replace hk := ie_u hc hk
                                        refine lv_iload_n hx hb d_M_lengthOf_142 rfl (lv_at hl 0 rfl) ?_
                                        refine lv_sipush (v := 197) hx hb d_M_lengthOf_143 (by decide) ?_
                                        refine lv_icmp_ne (tgt := 151) hx hb d_M_lengthOf_146 (by decide) (fun hc => ?_) (fun hc => ?_)
                                        · replace hk := ie_u hc hk
                                          refine lv_iload_n hx hb d_M_lengthOf_151 rfl (lv_at hl 0 rfl) ?_
                                          refine lv_sipush (v := 185) hx hb d_M_lengthOf_152 (by decide) ?_
                                          obtain ⟨z19, hj20, hk⟩ := bnd_u hk
                                          have Khj20 : ∀ (H : Heap) (locs : List Loc) (ls : Array Slot), Dy clA D (mW a cs) s H locs u → lv_has ls 1 [] → W p l e rm_M_lengthOf s m args below meth c H locs 0 0 Q (F0 m 170 ls [.int z19]) := by
                                            intro H locs ls I hl
                                            exact hQ _ _ _ _ _ _ I hk d_M_lengthOf_170
                                          refine lv_icmp_eq (tgt := 165) hx hb d_M_lengthOf_155 (by decide) (fun hc => ?_) (fun hc => ?_)
                                          · replace hj20 := it_u hc hj20
                                            refine lv_iconst (v := 5) hx hb d_M_lengthOf_165 (by decide) ?_
                                            refine lv_goto (tgt := 170) hx hb d_M_lengthOf_166 (by decide) ?_
                                            cases hj20
                                            exact Khj20 _ _ _ I (lv_sub hl [] rfl)
                                          · replace hj20 := ie_u hc hj20
                                            refine lv_iload_n hx hb d_M_lengthOf_158 rfl (lv_at hl 0 rfl) ?_
                                            refine lv_sipush (v := 200) hx hb d_M_lengthOf_159 (by decide) ?_
                                            refine lv_icmp_ne (tgt := 169) hx hb d_M_lengthOf_162 (by decide) (fun hc => ?_) (fun hc => ?_)
                                            · replace hj20 := ie_u hc hj20
                                              refine lv_iconst (v := 1) hx hb d_M_lengthOf_169 (by decide) ?_
                                              cases hj20
                                              exact Khj20 _ _ _ I (lv_sub hl [] rfl)
                                            · replace hj20 := it_u hc hj20
                                              refine lv_iconst (v := 5) hx hb d_M_lengthOf_165 (by decide) ?_
                                              refine lv_goto (tgt := 170) hx hb d_M_lengthOf_166 (by decide) ?_
                                              cases hj20
                                              exact Khj20 _ _ _ I (lv_sub hl [] rfl)
                                        · replace hk := it_u hc hk
                                          refine lv_iconst (v := 4) hx hb d_M_lengthOf_149 (by decide) ?_
                                          exact hQ _ _ _ _ _ _ I hk d_M_lengthOf_150
                                      · replace hk := it_u hc hk
                                        refine lv_iconst (v := 3) hx hb d_M_lengthOf_140 (by decide) ?_
                                        exact hQ _ _ _ _ _ _ I hk d_M_lengthOf_141
                      · replace hk := ie_u hc hk
                        refine lv_iload_n hx hb d_M_lengthOf_77 rfl (lv_at hl 0 rfl) ?_
                        refine lv_sipush (v := 167) hx hb d_M_lengthOf_78 (by decide) ?_
                        refine lv_icmp_le (tgt := 140) hx hb d_M_lengthOf_81 (by decide) (fun hc => ?_) (fun hc => ?_)
                        · replace hk := it_u hc hk
                          refine lv_iconst (v := 3) hx hb d_M_lengthOf_140 (by decide) ?_
                          exact hQ _ _ _ _ _ _ I hk d_M_lengthOf_141
                        · replace hk := ie_u hc hk
                          refine lv_iload_n hx hb d_M_lengthOf_84 rfl (lv_at hl 0 rfl) ?_
                          refine lv_sipush (v := 178) hx hb d_M_lengthOf_85 (by decide) ?_
                          refine lv_icmp_lt (tgt := 98) hx hb d_M_lengthOf_88 (by decide) (fun hc => ?_) (fun hc => ?_)
                          · replace hk := it_u hc hk
                            refine lv_iload_n hx hb d_M_lengthOf_98 rfl (lv_at hl 0 rfl) ?_
                            refine lv_sipush (v := 187) hx hb d_M_lengthOf_99 (by decide) ?_
                            refine lv_icmp_eq (tgt := 140) hx hb d_M_lengthOf_102 (by decide) (fun hc => ?_) (fun hc => ?_)
                            · replace hk := it_u hc hk
                              refine lv_iconst (v := 3) hx hb d_M_lengthOf_140 (by decide) ?_
                              exact hQ _ _ _ _ _ _ I hk d_M_lengthOf_141
                            · replace hk := ie_u hc hk
                              refine lv_iload_n hx hb d_M_lengthOf_105 rfl (lv_at hl 0 rfl) ?_
                              refine lv_sipush (v := 189) hx hb d_M_lengthOf_106 (by decide) ?_
                              refine lv_icmp_eq (tgt := 140) hx hb d_M_lengthOf_109 (by decide) (fun hc => ?_) (fun hc => ?_)
                              · replace hk := it_u hc hk
                                refine lv_iconst (v := 3) hx hb d_M_lengthOf_140 (by decide) ?_
                                exact hQ _ _ _ _ _ _ I hk d_M_lengthOf_141
                              · replace hk := ie_u hc hk
                                refine lv_iload_n hx hb d_M_lengthOf_112 rfl (lv_at hl 0 rfl) ?_
                                refine lv_sipush (v := 192) hx hb d_M_lengthOf_113 (by decide) ?_
                                refine lv_icmp_eq (tgt := 140) hx hb d_M_lengthOf_116 (by decide) (fun hc => ?_) (fun hc => ?_)
                                · replace hk := it_u hc hk
                                  refine lv_iconst (v := 3) hx hb d_M_lengthOf_140 (by decide) ?_
                                  exact hQ _ _ _ _ _ _ I hk d_M_lengthOf_141
                                · replace hk := ie_u hc hk
                                  refine lv_iload_n hx hb d_M_lengthOf_119 rfl (lv_at hl 0 rfl) ?_
                                  refine lv_sipush (v := 193) hx hb d_M_lengthOf_120 (by decide) ?_
                                  refine lv_icmp_eq (tgt := 140) hx hb d_M_lengthOf_123 (by decide) (fun hc => ?_) (fun hc => ?_)
                                  · replace hk := it_u hc hk
                                    refine lv_iconst (v := 3) hx hb d_M_lengthOf_140 (by decide) ?_
                                    exact hQ _ _ _ _ _ _ I hk d_M_lengthOf_141
                                  · replace hk := ie_u hc hk
                                    refine lv_iload_n hx hb d_M_lengthOf_126 rfl (lv_at hl 0 rfl) ?_
                                    refine lv_sipush (v := 198) hx hb d_M_lengthOf_127 (by decide) ?_
                                    refine lv_icmp_eq (tgt := 140) hx hb d_M_lengthOf_130 (by decide) (fun hc => ?_) (fun hc => ?_)
                                    · replace hk := it_u hc hk
                                      refine lv_iconst (v := 3) hx hb d_M_lengthOf_140 (by decide) ?_
                                      exact hQ _ _ _ _ _ _ I hk d_M_lengthOf_141
                                    · replace hk := ie_u hc hk
                                      refine lv_iload_n hx hb d_M_lengthOf_133 rfl (lv_at hl 0 rfl) ?_
                                      refine lv_sipush (v := 199) hx hb d_M_lengthOf_134 (by decide) ?_
                                      refine lv_icmp_ne (tgt := 142) hx hb d_M_lengthOf_137 (by decide) (fun hc => ?_) (fun hc => ?_)
                                      · replace hk := ie_u hc hk
                                        refine lv_iload_n hx hb d_M_lengthOf_142 rfl (lv_at hl 0 rfl) ?_
                                        refine lv_sipush (v := 197) hx hb d_M_lengthOf_143 (by decide) ?_
                                        refine lv_icmp_ne (tgt := 151) hx hb d_M_lengthOf_146 (by decide) (fun hc => ?_) (fun hc => ?_)
                                        · replace hk := ie_u hc hk
                                          refine lv_iload_n hx hb d_M_lengthOf_151 rfl (lv_at hl 0 rfl) ?_
                                          refine lv_sipush (v := 185) hx hb d_M_lengthOf_152 (by decide) ?_
                                          obtain ⟨z21, hj22, hk⟩ := bnd_u hk
                                          have Khj22 : ∀ (H : Heap) (locs : List Loc) (ls : Array Slot), Dy clA D (mW a cs) s H locs u → lv_has ls 1 [] → W p l e rm_M_lengthOf s m args below meth c H locs 0 0 Q (F0 m 170 ls [.int z21]) := by
                                            intro H locs ls I hl
                                            exact hQ _ _ _ _ _ _ I hk d_M_lengthOf_170
                                          refine lv_icmp_eq (tgt := 165) hx hb d_M_lengthOf_155 (by decide) (fun hc => ?_) (fun hc => ?_)
                                          · replace hj22 := it_u hc hj22
                                            refine lv_iconst (v := 5) hx hb d_M_lengthOf_165 (by decide) ?_
                                            refine lv_goto (tgt := 170) hx hb d_M_lengthOf_166 (by decide) ?_
                                            cases hj22
                                            exact Khj22 _ _ _ I (lv_sub hl [] rfl)
                                          · replace hj22 := ie_u hc hj22
                                            refine lv_iload_n hx hb d_M_lengthOf_158 rfl (lv_at hl 0 rfl) ?_
                                            refine lv_sipush (v := 200) hx hb d_M_lengthOf_159 (by decide) ?_
                                            refine lv_icmp_ne (tgt := 169) hx hb d_M_lengthOf_162 (by decide) (fun hc => ?_) (fun hc => ?_)
                                            · replace hj22 := ie_u hc hj22
                                              refine lv_iconst (v := 1) hx hb d_M_lengthOf_169 (by decide) ?_
                                              cases hj22
                                              exact Khj22 _ _ _ I (lv_sub hl [] rfl)
                                            · replace hj22 := it_u hc hj22
                                              refine lv_iconst (v := 5) hx hb d_M_lengthOf_165 (by decide) ?_
                                              refine lv_goto (tgt := 170) hx hb d_M_lengthOf_166 (by decide) ?_
                                              cases hj22
                                              exact Khj22 _ _ _ I (lv_sub hl [] rfl)
                                        · replace hk := it_u hc hk
                                          refine lv_iconst (v := 4) hx hb d_M_lengthOf_149 (by decide) ?_
                                          exact hQ _ _ _ _ _ _ I hk d_M_lengthOf_150
                                      · replace hk := it_u hc hk
                                        refine lv_iconst (v := 3) hx hb d_M_lengthOf_140 (by decide) ?_
                                        exact hQ _ _ _ _ _ _ I hk d_M_lengthOf_141
                          · replace hk := ie_u hc hk
                            refine lv_iload_n hx hb d_M_lengthOf_91 rfl (lv_at hl 0 rfl) ?_
                            refine lv_sipush (v := 184) hx hb d_M_lengthOf_92 (by decide) ?_
                            refine lv_icmp_le (tgt := 140) hx hb d_M_lengthOf_95 (by decide) (fun hc => ?_) (fun hc => ?_)
                            · replace hk := it_u hc hk
                              refine lv_iconst (v := 3) hx hb d_M_lengthOf_140 (by decide) ?_
                              exact hQ _ _ _ _ _ _ I hk d_M_lengthOf_141
                            · replace hk := ie_u hc hk
                              refine lv_iload_n hx hb d_M_lengthOf_98 rfl (lv_at hl 0 rfl) ?_
                              refine lv_sipush (v := 187) hx hb d_M_lengthOf_99 (by decide) ?_
                              refine lv_icmp_eq (tgt := 140) hx hb d_M_lengthOf_102 (by decide) (fun hc => ?_) (fun hc => ?_)
                              · replace hk := it_u hc hk
                                refine lv_iconst (v := 3) hx hb d_M_lengthOf_140 (by decide) ?_
                                exact hQ _ _ _ _ _ _ I hk d_M_lengthOf_141
                              · replace hk := ie_u hc hk
                                refine lv_iload_n hx hb d_M_lengthOf_105 rfl (lv_at hl 0 rfl) ?_
                                refine lv_sipush (v := 189) hx hb d_M_lengthOf_106 (by decide) ?_
                                refine lv_icmp_eq (tgt := 140) hx hb d_M_lengthOf_109 (by decide) (fun hc => ?_) (fun hc => ?_)
                                · replace hk := it_u hc hk
                                  refine lv_iconst (v := 3) hx hb d_M_lengthOf_140 (by decide) ?_
                                  exact hQ _ _ _ _ _ _ I hk d_M_lengthOf_141
                                · replace hk := ie_u hc hk
                                  refine lv_iload_n hx hb d_M_lengthOf_112 rfl (lv_at hl 0 rfl) ?_
                                  refine lv_sipush (v := 192) hx hb d_M_lengthOf_113 (by decide) ?_
                                  refine lv_icmp_eq (tgt := 140) hx hb d_M_lengthOf_116 (by decide) (fun hc => ?_) (fun hc => ?_)
                                  · replace hk := it_u hc hk
                                    refine lv_iconst (v := 3) hx hb d_M_lengthOf_140 (by decide) ?_
                                    exact hQ _ _ _ _ _ _ I hk d_M_lengthOf_141
                                  · replace hk := ie_u hc hk
                                    refine lv_iload_n hx hb d_M_lengthOf_119 rfl (lv_at hl 0 rfl) ?_
                                    refine lv_sipush (v := 193) hx hb d_M_lengthOf_120 (by decide) ?_
                                    refine lv_icmp_eq (tgt := 140) hx hb d_M_lengthOf_123 (by decide) (fun hc => ?_) (fun hc => ?_)
                                    · replace hk := it_u hc hk
                                      refine lv_iconst (v := 3) hx hb d_M_lengthOf_140 (by decide) ?_
                                      exact hQ _ _ _ _ _ _ I hk d_M_lengthOf_141
                                    · replace hk := ie_u hc hk
                                      refine lv_iload_n hx hb d_M_lengthOf_126 rfl (lv_at hl 0 rfl) ?_
                                      refine lv_sipush (v := 198) hx hb d_M_lengthOf_127 (by decide) ?_
                                      refine lv_icmp_eq (tgt := 140) hx hb d_M_lengthOf_130 (by decide) (fun hc => ?_) (fun hc => ?_)
                                      · replace hk := it_u hc hk
                                        refine lv_iconst (v := 3) hx hb d_M_lengthOf_140 (by decide) ?_
                                        exact hQ _ _ _ _ _ _ I hk d_M_lengthOf_141
                                      · replace hk := ie_u hc hk
                                        refine lv_iload_n hx hb d_M_lengthOf_133 rfl (lv_at hl 0 rfl) ?_
                                        refine lv_sipush (v := 199) hx hb d_M_lengthOf_134 (by decide) ?_
                                        refine lv_icmp_ne (tgt := 142) hx hb d_M_lengthOf_137 (by decide) (fun hc => ?_) (fun hc => ?_)
                                        · replace hk := ie_u hc hk
                                          refine lv_iload_n hx hb d_M_lengthOf_142 rfl (lv_at hl 0 rfl) ?_
                                          refine lv_sipush (v := 197) hx hb d_M_lengthOf_143 (by decide) ?_
                                          refine lv_icmp_ne (tgt := 151) hx hb d_M_lengthOf_146 (by decide) (fun hc => ?_) (fun hc => ?_)
                                          · replace hk := ie_u hc hk
                                            refine lv_iload_n hx hb d_M_lengthOf_151 rfl (lv_at hl 0 rfl) ?_
                                            refine lv_sipush (v := 185) hx hb d_M_lengthOf_152 (by decide) ?_
                                            obtain ⟨z23, hj24, hk⟩ := bnd_u hk
                                            have Khj24 : ∀ (H : Heap) (locs : List Loc) (ls : Array Slot), Dy clA D (mW a cs) s H locs u → lv_has ls 1 [] → W p l e rm_M_lengthOf s m args below meth c H locs 0 0 Q (F0 m 170 ls [.int z23]) := by
                                              intro H locs ls I hl
                                              exact hQ _ _ _ _ _ _ I hk d_M_lengthOf_170
                                            refine lv_icmp_eq (tgt := 165) hx hb d_M_lengthOf_155 (by decide) (fun hc => ?_) (fun hc => ?_)
                                            · replace hj24 := it_u hc hj24
                                              refine lv_iconst (v := 5) hx hb d_M_lengthOf_165 (by decide) ?_
                                              refine lv_goto (tgt := 170) hx hb d_M_lengthOf_166 (by decide) ?_
                                              cases hj24
                                              exact Khj24 _ _ _ I (lv_sub hl [] rfl)
                                            · replace hj24 := ie_u hc hj24
                                              refine lv_iload_n hx hb d_M_lengthOf_158 rfl (lv_at hl 0 rfl) ?_
                                              refine lv_sipush (v := 200) hx hb d_M_lengthOf_159 (by decide) ?_
                                              refine lv_icmp_ne (tgt := 169) hx hb d_M_lengthOf_162 (by decide) (fun hc => ?_) (fun hc => ?_)
                                              · replace hj24 := ie_u hc hj24
                                                refine lv_iconst (v := 1) hx hb d_M_lengthOf_169 (by decide) ?_
                                                cases hj24
                                                exact Khj24 _ _ _ I (lv_sub hl [] rfl)
                                              · replace hj24 := it_u hc hj24
                                                refine lv_iconst (v := 5) hx hb d_M_lengthOf_165 (by decide) ?_
                                                refine lv_goto (tgt := 170) hx hb d_M_lengthOf_166 (by decide) ?_
                                                cases hj24
                                                exact Khj24 _ _ _ I (lv_sub hl [] rfl)
                                          · replace hk := it_u hc hk
                                            refine lv_iconst (v := 4) hx hb d_M_lengthOf_149 (by decide) ?_
                                            exact hQ _ _ _ _ _ _ I hk d_M_lengthOf_150
                                        · replace hk := it_u hc hk
                                          refine lv_iconst (v := 3) hx hb d_M_lengthOf_140 (by decide) ?_
                                          exact hQ _ _ _ _ _ _ I hk d_M_lengthOf_141
            · replace hk := it_u hc hk
              refine lv_iconst (v := 2) hx hb d_M_lengthOf_43 (by decide) ?_
              exact hQ _ _ _ _ _ _ I hk d_M_lengthOf_44
          · replace hk := ie_u hc hk
            refine lv_iload_n hx hb d_M_lengthOf_30 rfl (lv_at hl 0 rfl) ?_
            refine lv_bipush (v := 58) hx hb d_M_lengthOf_31 (by decide) ?_
            refine lv_icmp_le (tgt := 43) hx hb d_M_lengthOf_33 (by decide) (fun hc => ?_) (fun hc => ?_)
            · replace hk := it_u hc hk
              refine lv_iconst (v := 2) hx hb d_M_lengthOf_43 (by decide) ?_
              exact hQ _ _ _ _ _ _ I hk d_M_lengthOf_44
            · replace hk := ie_u hc hk
              refine lv_iload_n hx hb d_M_lengthOf_36 rfl (lv_at hl 0 rfl) ?_
              refine lv_sipush (v := 188) hx hb d_M_lengthOf_37 (by decide) ?_
              refine lv_icmp_ne (tgt := 45) hx hb d_M_lengthOf_40 (by decide) (fun hc => ?_) (fun hc => ?_)
              · replace hk := ie_u hc hk
                refine lv_iload_n hx hb d_M_lengthOf_45 rfl (lv_at hl 0 rfl) ?_
                refine lv_bipush (v := 17) hx hb d_M_lengthOf_46 (by decide) ?_
                refine lv_icmp_eq (tgt := 140) hx hb d_M_lengthOf_48 (by decide) (fun hc => ?_) (fun hc => ?_)
                · replace hk := it_u hc hk
                  refine lv_iconst (v := 3) hx hb d_M_lengthOf_140 (by decide) ?_
                  exact hQ _ _ _ _ _ _ I hk d_M_lengthOf_141
                · replace hk := ie_u hc hk
                  refine lv_iload_n hx hb d_M_lengthOf_51 rfl (lv_at hl 0 rfl) ?_
                  refine lv_bipush (v := 19) hx hb d_M_lengthOf_52 (by decide) ?_
                  refine lv_icmp_eq (tgt := 140) hx hb d_M_lengthOf_54 (by decide) (fun hc => ?_) (fun hc => ?_)
                  · replace hk := it_u hc hk
                    refine lv_iconst (v := 3) hx hb d_M_lengthOf_140 (by decide) ?_
                    exact hQ _ _ _ _ _ _ I hk d_M_lengthOf_141
                  · replace hk := ie_u hc hk
                    refine lv_iload_n hx hb d_M_lengthOf_57 rfl (lv_at hl 0 rfl) ?_
                    refine lv_bipush (v := 20) hx hb d_M_lengthOf_58 (by decide) ?_
                    refine lv_icmp_eq (tgt := 140) hx hb d_M_lengthOf_60 (by decide) (fun hc => ?_) (fun hc => ?_)
                    · replace hk := it_u hc hk
                      refine lv_iconst (v := 3) hx hb d_M_lengthOf_140 (by decide) ?_
                      exact hQ _ _ _ _ _ _ I hk d_M_lengthOf_141
                    · replace hk := ie_u hc hk
                      refine lv_iload_n hx hb d_M_lengthOf_63 rfl (lv_at hl 0 rfl) ?_
                      refine lv_sipush (v := 132) hx hb d_M_lengthOf_64 (by decide) ?_
                      refine lv_icmp_eq (tgt := 140) hx hb d_M_lengthOf_67 (by decide) (fun hc => ?_) (fun hc => ?_)
                      · replace hk := it_u hc hk
                        refine lv_iconst (v := 3) hx hb d_M_lengthOf_140 (by decide) ?_
                        exact hQ _ _ _ _ _ _ I hk d_M_lengthOf_141
                      · replace hk := ie_u hc hk
                        refine lv_iload_n hx hb d_M_lengthOf_70 rfl (lv_at hl 0 rfl) ?_
                        refine lv_sipush (v := 153) hx hb d_M_lengthOf_71 (by decide) ?_
                        refine lv_icmp_lt (tgt := 84) hx hb d_M_lengthOf_74 (by decide) (fun hc => ?_) (fun hc => ?_)
                        · replace hk := it_u hc hk
                          refine lv_iload_n hx hb d_M_lengthOf_84 rfl (lv_at hl 0 rfl) ?_
                          refine lv_sipush (v := 178) hx hb d_M_lengthOf_85 (by decide) ?_
                          refine lv_icmp_lt (tgt := 98) hx hb d_M_lengthOf_88 (by decide) (fun hc => ?_) (fun hc => ?_)
                          · replace hk := it_u hc hk
                            refine lv_iload_n hx hb d_M_lengthOf_98 rfl (lv_at hl 0 rfl) ?_
                            refine lv_sipush (v := 187) hx hb d_M_lengthOf_99 (by decide) ?_
                            refine lv_icmp_eq (tgt := 140) hx hb d_M_lengthOf_102 (by decide) (fun hc => ?_) (fun hc => ?_)
                            · replace hk := it_u hc hk
                              refine lv_iconst (v := 3) hx hb d_M_lengthOf_140 (by decide) ?_
                              exact hQ _ _ _ _ _ _ I hk d_M_lengthOf_141
                            · replace hk := ie_u hc hk
                              refine lv_iload_n hx hb d_M_lengthOf_105 rfl (lv_at hl 0 rfl) ?_
                              refine lv_sipush (v := 189) hx hb d_M_lengthOf_106 (by decide) ?_
                              refine lv_icmp_eq (tgt := 140) hx hb d_M_lengthOf_109 (by decide) (fun hc => ?_) (fun hc => ?_)
                              · replace hk := it_u hc hk
                                refine lv_iconst (v := 3) hx hb d_M_lengthOf_140 (by decide) ?_
                                exact hQ _ _ _ _ _ _ I hk d_M_lengthOf_141
                              · replace hk := ie_u hc hk
                                refine lv_iload_n hx hb d_M_lengthOf_112 rfl (lv_at hl 0 rfl) ?_
                                refine lv_sipush (v := 192) hx hb d_M_lengthOf_113 (by decide) ?_
                                refine lv_icmp_eq (tgt := 140) hx hb d_M_lengthOf_116 (by decide) (fun hc => ?_) (fun hc => ?_)
                                · replace hk := it_u hc hk
                                  refine lv_iconst (v := 3) hx hb d_M_lengthOf_140 (by decide) ?_
                                  exact hQ _ _ _ _ _ _ I hk d_M_lengthOf_141
                                · replace hk := ie_u hc hk
                                  refine lv_iload_n hx hb d_M_lengthOf_119 rfl (lv_at hl 0 rfl) ?_
                                  refine lv_sipush (v := 193) hx hb d_M_lengthOf_120 (by decide) ?_
                                  refine lv_icmp_eq (tgt := 140) hx hb d_M_lengthOf_123 (by decide) (fun hc => ?_) (fun hc => ?_)
                                  · replace hk := it_u hc hk
                                    refine lv_iconst (v := 3) hx hb d_M_lengthOf_140 (by decide) ?_
                                    exact hQ _ _ _ _ _ _ I hk d_M_lengthOf_141
                                  · replace hk := ie_u hc hk
                                    refine lv_iload_n hx hb d_M_lengthOf_126 rfl (lv_at hl 0 rfl) ?_
                                    refine lv_sipush (v := 198) hx hb d_M_lengthOf_127 (by decide) ?_
                                    refine lv_icmp_eq (tgt := 140) hx hb d_M_lengthOf_130 (by decide) (fun hc => ?_) (fun hc => ?_)
                                    · replace hk := it_u hc hk
                                      refine lv_iconst (v := 3) hx hb d_M_lengthOf_140 (by decide) ?_
                                      exact hQ _ _ _ _ _ _ I hk d_M_lengthOf_141
                                    · replace hk := ie_u hc hk
                                      refine lv_iload_n hx hb d_M_lengthOf_133 rfl (lv_at hl 0 rfl) ?_
                                      refine lv_sipush (v := 199) hx hb d_M_lengthOf_134 (by decide) ?_
                                      refine lv_icmp_ne (tgt := 142) hx hb d_M_lengthOf_137 (by decide) (fun hc => ?_) (fun hc => ?_)
                                      · replace hk := ie_u hc hk
                                        refine lv_iload_n hx hb d_M_lengthOf_142 rfl (lv_at hl 0 rfl) ?_
                                        refine lv_sipush (v := 197) hx hb d_M_lengthOf_143 (by decide) ?_
                                        refine lv_icmp_ne (tgt := 151) hx hb d_M_lengthOf_146 (by decide) (fun hc => ?_) (fun hc => ?_)
                                        · replace hk := ie_u hc hk
                                          refine lv_iload_n hx hb d_M_lengthOf_151 rfl (lv_at hl 0 rfl) ?_
                                          refine lv_sipush (v := 185) hx hb d_M_lengthOf_152 (by decide) ?_
                                          obtain ⟨z25, hj26, hk⟩ := bnd_u hk
                                          have Khj26 : ∀ (H : Heap) (locs : List Loc) (ls : Array Slot), Dy clA D (mW a cs) s H locs u → lv_has ls 1 [] → W p l e rm_M_lengthOf s m args below meth c H locs 0 0 Q (F0 m 170 ls [.int z25]) := by
                                            intro H locs ls I hl
                                            exact hQ _ _ _ _ _ _ I hk d_M_lengthOf_170
                                          refine lv_icmp_eq (tgt := 165) hx hb d_M_lengthOf_155 (by decide) (fun hc => ?_) (fun hc => ?_)
                                          · replace hj26 := it_u hc hj26
                                            refine lv_iconst (v := 5) hx hb d_M_lengthOf_165 (by decide) ?_
                                            refine lv_goto (tgt := 170) hx hb d_M_lengthOf_166 (by decide) ?_
                                            cases hj26
                                            exact Khj26 _ _ _ I (lv_sub hl [] rfl)
                                          · replace hj26 := ie_u hc hj26
                                            refine lv_iload_n hx hb d_M_lengthOf_158 rfl (lv_at hl 0 rfl) ?_
                                            refine lv_sipush (v := 200) hx hb d_M_lengthOf_159 (by decide) ?_
                                            refine lv_icmp_ne (tgt := 169) hx hb d_M_lengthOf_162 (by decide) (fun hc => ?_) (fun hc => ?_)
                                            · replace hj26 := ie_u hc hj26
                                              refine lv_iconst (v := 1) hx hb d_M_lengthOf_169 (by decide) ?_
                                              cases hj26
                                              exact Khj26 _ _ _ I (lv_sub hl [] rfl)
                                            · replace hj26 := it_u hc hj26
                                              refine lv_iconst (v := 5) hx hb d_M_lengthOf_165 (by decide) ?_
                                              refine lv_goto (tgt := 170) hx hb d_M_lengthOf_166 (by decide) ?_
                                              cases hj26
                                              exact Khj26 _ _ _ I (lv_sub hl [] rfl)
                                        · replace hk := it_u hc hk
                                          refine lv_iconst (v := 4) hx hb d_M_lengthOf_149 (by decide) ?_
                                          exact hQ _ _ _ _ _ _ I hk d_M_lengthOf_150
                                      · replace hk := it_u hc hk
                                        refine lv_iconst (v := 3) hx hb d_M_lengthOf_140 (by decide) ?_
                                        exact hQ _ _ _ _ _ _ I hk d_M_lengthOf_141
                          · replace hk := ie_u hc hk
                            refine lv_iload_n hx hb d_M_lengthOf_91 rfl (lv_at hl 0 rfl) ?_
                            refine lv_sipush (v := 184) hx hb d_M_lengthOf_92 (by decide) ?_
                            refine lv_icmp_le (tgt := 140) hx hb d_M_lengthOf_95 (by decide) (fun hc => ?_) (fun hc => ?_)
                            · replace hk := it_u hc hk
                              refine lv_iconst (v := 3) hx hb d_M_lengthOf_140 (by decide) ?_
                              exact hQ _ _ _ _ _ _ I hk d_M_lengthOf_141
                            · replace hk := ie_u hc hk
                              refine lv_iload_n hx hb d_M_lengthOf_98 rfl (lv_at hl 0 rfl) ?_
                              refine lv_sipush (v := 187) hx hb d_M_lengthOf_99 (by decide) ?_
                              refine lv_icmp_eq (tgt := 140) hx hb d_M_lengthOf_102 (by decide) (fun hc => ?_) (fun hc => ?_)
                              · replace hk := it_u hc hk
                                refine lv_iconst (v := 3) hx hb d_M_lengthOf_140 (by decide) ?_
                                exact hQ _ _ _ _ _ _ I hk d_M_lengthOf_141
                              · replace hk := ie_u hc hk
                                refine lv_iload_n hx hb d_M_lengthOf_105 rfl (lv_at hl 0 rfl) ?_
                                refine lv_sipush (v := 189) hx hb d_M_lengthOf_106 (by decide) ?_
                                refine lv_icmp_eq (tgt := 140) hx hb d_M_lengthOf_109 (by decide) (fun hc => ?_) (fun hc => ?_)
                                · replace hk := it_u hc hk
                                  refine lv_iconst (v := 3) hx hb d_M_lengthOf_140 (by decide) ?_
                                  exact hQ _ _ _ _ _ _ I hk d_M_lengthOf_141
                                · replace hk := ie_u hc hk
                                  refine lv_iload_n hx hb d_M_lengthOf_112 rfl (lv_at hl 0 rfl) ?_
                                  refine lv_sipush (v := 192) hx hb d_M_lengthOf_113 (by decide) ?_
                                  refine lv_icmp_eq (tgt := 140) hx hb d_M_lengthOf_116 (by decide) (fun hc => ?_) (fun hc => ?_)
                                  · replace hk := it_u hc hk
                                    refine lv_iconst (v := 3) hx hb d_M_lengthOf_140 (by decide) ?_
                                    exact hQ _ _ _ _ _ _ I hk d_M_lengthOf_141
                                  · replace hk := ie_u hc hk
                                    refine lv_iload_n hx hb d_M_lengthOf_119 rfl (lv_at hl 0 rfl) ?_
                                    refine lv_sipush (v := 193) hx hb d_M_lengthOf_120 (by decide) ?_
                                    refine lv_icmp_eq (tgt := 140) hx hb d_M_lengthOf_123 (by decide) (fun hc => ?_) (fun hc => ?_)
                                    · replace hk := it_u hc hk
                                      refine lv_iconst (v := 3) hx hb d_M_lengthOf_140 (by decide) ?_
                                      exact hQ _ _ _ _ _ _ I hk d_M_lengthOf_141
                                    · replace hk := ie_u hc hk
                                      refine lv_iload_n hx hb d_M_lengthOf_126 rfl (lv_at hl 0 rfl) ?_
                                      refine lv_sipush (v := 198) hx hb d_M_lengthOf_127 (by decide) ?_
                                      refine lv_icmp_eq (tgt := 140) hx hb d_M_lengthOf_130 (by decide) (fun hc => ?_) (fun hc => ?_)
                                      · replace hk := it_u hc hk
                                        refine lv_iconst (v := 3) hx hb d_M_lengthOf_140 (by decide) ?_
                                        exact hQ _ _ _ _ _ _ I hk d_M_lengthOf_141
                                      · replace hk := ie_u hc hk
                                        refine lv_iload_n hx hb d_M_lengthOf_133 rfl (lv_at hl 0 rfl) ?_
                                        refine lv_sipush (v := 199) hx hb d_M_lengthOf_134 (by decide) ?_
                                        refine lv_icmp_ne (tgt := 142) hx hb d_M_lengthOf_137 (by decide) (fun hc => ?_) (fun hc => ?_)
                                        · replace hk := ie_u hc hk
                                          refine lv_iload_n hx hb d_M_lengthOf_142 rfl (lv_at hl 0 rfl) ?_
                                          refine lv_sipush (v := 197) hx hb d_M_lengthOf_143 (by decide) ?_
                                          refine lv_icmp_ne (tgt := 151) hx hb d_M_lengthOf_146 (by decide) (fun hc => ?_) (fun hc => ?_)
                                          · replace hk := ie_u hc hk
                                            refine lv_iload_n hx hb d_M_lengthOf_151 rfl (lv_at hl 0 rfl) ?_
                                            refine lv_sipush (v := 185) hx hb d_M_lengthOf_152 (by decide) ?_
                                            obtain ⟨z27, hj28, hk⟩ := bnd_u hk
                                            have Khj28 : ∀ (H : Heap) (locs : List Loc) (ls : Array Slot), Dy clA D (mW a cs) s H locs u → lv_has ls 1 [] → W p l e rm_M_lengthOf s m args below meth c H locs 0 0 Q (F0 m 170 ls [.int z27]) := by
                                              intro H locs ls I hl
                                              exact hQ _ _ _ _ _ _ I hk d_M_lengthOf_170
                                            refine lv_icmp_eq (tgt := 165) hx hb d_M_lengthOf_155 (by decide) (fun hc => ?_) (fun hc => ?_)
                                            · replace hj28 := it_u hc hj28
                                              refine lv_iconst (v := 5) hx hb d_M_lengthOf_165 (by decide) ?_
                                              refine lv_goto (tgt := 170) hx hb d_M_lengthOf_166 (by decide) ?_
                                              cases hj28
                                              exact Khj28 _ _ _ I (lv_sub hl [] rfl)
                                            · replace hj28 := ie_u hc hj28
                                              refine lv_iload_n hx hb d_M_lengthOf_158 rfl (lv_at hl 0 rfl) ?_
                                              refine lv_sipush (v := 200) hx hb d_M_lengthOf_159 (by decide) ?_
                                              refine lv_icmp_ne (tgt := 169) hx hb d_M_lengthOf_162 (by decide) (fun hc => ?_) (fun hc => ?_)
                                              · replace hj28 := ie_u hc hj28
                                                refine lv_iconst (v := 1) hx hb d_M_lengthOf_169 (by decide) ?_
                                                cases hj28
                                                exact Khj28 _ _ _ I (lv_sub hl [] rfl)
                                              · replace hj28 := it_u hc hj28
                                                refine lv_iconst (v := 5) hx hb d_M_lengthOf_165 (by decide) ?_
                                                refine lv_goto (tgt := 170) hx hb d_M_lengthOf_166 (by decide) ?_
                                                cases hj28
                                                exact Khj28 _ _ _ I (lv_sub hl [] rfl)
                                          · replace hk := it_u hc hk
                                            refine lv_iconst (v := 4) hx hb d_M_lengthOf_149 (by decide) ?_
                                            exact hQ _ _ _ _ _ _ I hk d_M_lengthOf_150
                                        · replace hk := it_u hc hk
                                          refine lv_iconst (v := 3) hx hb d_M_lengthOf_140 (by decide) ?_
                                          exact hQ _ _ _ _ _ _ I hk d_M_lengthOf_141
                        · replace hk := ie_u hc hk
                          refine lv_iload_n hx hb d_M_lengthOf_77 rfl (lv_at hl 0 rfl) ?_
                          refine lv_sipush (v := 167) hx hb d_M_lengthOf_78 (by decide) ?_
                          refine lv_icmp_le (tgt := 140) hx hb d_M_lengthOf_81 (by decide) (fun hc => ?_) (fun hc => ?_)
                          · replace hk := it_u hc hk
                            refine lv_iconst (v := 3) hx hb d_M_lengthOf_140 (by decide) ?_
                            exact hQ _ _ _ _ _ _ I hk d_M_lengthOf_141
                          · replace hk := ie_u hc hk
                            refine lv_iload_n hx hb d_M_lengthOf_84 rfl (lv_at hl 0 rfl) ?_
                            refine lv_sipush (v := 178) hx hb d_M_lengthOf_85 (by decide) ?_
                            refine lv_icmp_lt (tgt := 98) hx hb d_M_lengthOf_88 (by decide) (fun hc => ?_) (fun hc => ?_)
                            · replace hk := it_u hc hk
                              refine lv_iload_n hx hb d_M_lengthOf_98 rfl (lv_at hl 0 rfl) ?_
                              refine lv_sipush (v := 187) hx hb d_M_lengthOf_99 (by decide) ?_
                              refine lv_icmp_eq (tgt := 140) hx hb d_M_lengthOf_102 (by decide) (fun hc => ?_) (fun hc => ?_)
                              · replace hk := it_u hc hk
                                refine lv_iconst (v := 3) hx hb d_M_lengthOf_140 (by decide) ?_
                                exact hQ _ _ _ _ _ _ I hk d_M_lengthOf_141
                              · replace hk := ie_u hc hk
                                refine lv_iload_n hx hb d_M_lengthOf_105 rfl (lv_at hl 0 rfl) ?_
                                refine lv_sipush (v := 189) hx hb d_M_lengthOf_106 (by decide) ?_
                                refine lv_icmp_eq (tgt := 140) hx hb d_M_lengthOf_109 (by decide) (fun hc => ?_) (fun hc => ?_)
                                · replace hk := it_u hc hk
                                  refine lv_iconst (v := 3) hx hb d_M_lengthOf_140 (by decide) ?_
                                  exact hQ _ _ _ _ _ _ I hk d_M_lengthOf_141
                                · replace hk := ie_u hc hk
                                  refine lv_iload_n hx hb d_M_lengthOf_112 rfl (lv_at hl 0 rfl) ?_
                                  refine lv_sipush (v := 192) hx hb d_M_lengthOf_113 (by decide) ?_
                                  refine lv_icmp_eq (tgt := 140) hx hb d_M_lengthOf_116 (by decide) (fun hc => ?_) (fun hc => ?_)
                                  · replace hk := it_u hc hk
                                    refine lv_iconst (v := 3) hx hb d_M_lengthOf_140 (by decide) ?_
                                    exact hQ _ _ _ _ _ _ I hk d_M_lengthOf_141
                                  · replace hk := ie_u hc hk
                                    refine lv_iload_n hx hb d_M_lengthOf_119 rfl (lv_at hl 0 rfl) ?_
                                    refine lv_sipush (v := 193) hx hb d_M_lengthOf_120 (by decide) ?_
                                    refine lv_icmp_eq (tgt := 140) hx hb d_M_lengthOf_123 (by decide) (fun hc => ?_) (fun hc => ?_)
                                    · replace hk := it_u hc hk
                                      refine lv_iconst (v := 3) hx hb d_M_lengthOf_140 (by decide) ?_
                                      exact hQ _ _ _ _ _ _ I hk d_M_lengthOf_141
                                    · replace hk := ie_u hc hk
                                      refine lv_iload_n hx hb d_M_lengthOf_126 rfl (lv_at hl 0 rfl) ?_
                                      refine lv_sipush (v := 198) hx hb d_M_lengthOf_127 (by decide) ?_
                                      refine lv_icmp_eq (tgt := 140) hx hb d_M_lengthOf_130 (by decide) (fun hc => ?_) (fun hc => ?_)
                                      · replace hk := it_u hc hk
                                        refine lv_iconst (v := 3) hx hb d_M_lengthOf_140 (by decide) ?_
                                        exact hQ _ _ _ _ _ _ I hk d_M_lengthOf_141
                                      · replace hk := ie_u hc hk
                                        refine lv_iload_n hx hb d_M_lengthOf_133 rfl (lv_at hl 0 rfl) ?_
                                        refine lv_sipush (v := 199) hx hb d_M_lengthOf_134 (by decide) ?_
                                        refine lv_icmp_ne (tgt := 142) hx hb d_M_lengthOf_137 (by decide) (fun hc => ?_) (fun hc => ?_)
                                        · replace hk := ie_u hc hk
                                          refine lv_iload_n hx hb d_M_lengthOf_142 rfl (lv_at hl 0 rfl) ?_
                                          refine lv_sipush (v := 197) hx hb d_M_lengthOf_143 (by decide) ?_
                                          refine lv_icmp_ne (tgt := 151) hx hb d_M_lengthOf_146 (by decide) (fun hc => ?_) (fun hc => ?_)
                                          · replace hk := ie_u hc hk
                                            refine lv_iload_n hx hb d_M_lengthOf_151 rfl (lv_at hl 0 rfl) ?_
                                            refine lv_sipush (v := 185) hx hb d_M_lengthOf_152 (by decide) ?_
                                            obtain ⟨z29, hj30, hk⟩ := bnd_u hk
                                            have Khj30 : ∀ (H : Heap) (locs : List Loc) (ls : Array Slot), Dy clA D (mW a cs) s H locs u → lv_has ls 1 [] → W p l e rm_M_lengthOf s m args below meth c H locs 0 0 Q (F0 m 170 ls [.int z29]) := by
                                              intro H locs ls I hl
                                              exact hQ _ _ _ _ _ _ I hk d_M_lengthOf_170
                                            refine lv_icmp_eq (tgt := 165) hx hb d_M_lengthOf_155 (by decide) (fun hc => ?_) (fun hc => ?_)
                                            · replace hj30 := it_u hc hj30
                                              refine lv_iconst (v := 5) hx hb d_M_lengthOf_165 (by decide) ?_
                                              refine lv_goto (tgt := 170) hx hb d_M_lengthOf_166 (by decide) ?_
                                              cases hj30
                                              exact Khj30 _ _ _ I (lv_sub hl [] rfl)
                                            · replace hj30 := ie_u hc hj30
                                              refine lv_iload_n hx hb d_M_lengthOf_158 rfl (lv_at hl 0 rfl) ?_
                                              refine lv_sipush (v := 200) hx hb d_M_lengthOf_159 (by decide) ?_
                                              refine lv_icmp_ne (tgt := 169) hx hb d_M_lengthOf_162 (by decide) (fun hc => ?_) (fun hc => ?_)
                                              · replace hj30 := ie_u hc hj30
                                                refine lv_iconst (v := 1) hx hb d_M_lengthOf_169 (by decide) ?_
                                                cases hj30
                                                exact Khj30 _ _ _ I (lv_sub hl [] rfl)
                                              · replace hj30 := it_u hc hj30
                                                refine lv_iconst (v := 5) hx hb d_M_lengthOf_165 (by decide) ?_
                                                refine lv_goto (tgt := 170) hx hb d_M_lengthOf_166 (by decide) ?_
                                                cases hj30
                                                exact Khj30 _ _ _ I (lv_sub hl [] rfl)
                                          · replace hk := it_u hc hk
                                            refine lv_iconst (v := 4) hx hb d_M_lengthOf_149 (by decide) ?_
                                            exact hQ _ _ _ _ _ _ I hk d_M_lengthOf_150
                                        · replace hk := it_u hc hk
                                          refine lv_iconst (v := 3) hx hb d_M_lengthOf_140 (by decide) ?_
                                          exact hQ _ _ _ _ _ _ I hk d_M_lengthOf_141
                            · replace hk := ie_u hc hk
                              refine lv_iload_n hx hb d_M_lengthOf_91 rfl (lv_at hl 0 rfl) ?_
                              refine lv_sipush (v := 184) hx hb d_M_lengthOf_92 (by decide) ?_
                              refine lv_icmp_le (tgt := 140) hx hb d_M_lengthOf_95 (by decide) (fun hc => ?_) (fun hc => ?_)
                              · replace hk := it_u hc hk
                                refine lv_iconst (v := 3) hx hb d_M_lengthOf_140 (by decide) ?_
                                exact hQ _ _ _ _ _ _ I hk d_M_lengthOf_141
                              · replace hk := ie_u hc hk
                                refine lv_iload_n hx hb d_M_lengthOf_98 rfl (lv_at hl 0 rfl) ?_
                                refine lv_sipush (v := 187) hx hb d_M_lengthOf_99 (by decide) ?_
                                refine lv_icmp_eq (tgt := 140) hx hb d_M_lengthOf_102 (by decide) (fun hc => ?_) (fun hc => ?_)
                                · replace hk := it_u hc hk
                                  refine lv_iconst (v := 3) hx hb d_M_lengthOf_140 (by decide) ?_
                                  exact hQ _ _ _ _ _ _ I hk d_M_lengthOf_141
                                · replace hk := ie_u hc hk
                                  refine lv_iload_n hx hb d_M_lengthOf_105 rfl (lv_at hl 0 rfl) ?_
                                  refine lv_sipush (v := 189) hx hb d_M_lengthOf_106 (by decide) ?_
                                  refine lv_icmp_eq (tgt := 140) hx hb d_M_lengthOf_109 (by decide) (fun hc => ?_) (fun hc => ?_)
                                  · replace hk := it_u hc hk
                                    refine lv_iconst (v := 3) hx hb d_M_lengthOf_140 (by decide) ?_
                                    exact hQ _ _ _ _ _ _ I hk d_M_lengthOf_141
                                  · replace hk := ie_u hc hk
                                    refine lv_iload_n hx hb d_M_lengthOf_112 rfl (lv_at hl 0 rfl) ?_
                                    refine lv_sipush (v := 192) hx hb d_M_lengthOf_113 (by decide) ?_
                                    refine lv_icmp_eq (tgt := 140) hx hb d_M_lengthOf_116 (by decide) (fun hc => ?_) (fun hc => ?_)
                                    · replace hk := it_u hc hk
                                      refine lv_iconst (v := 3) hx hb d_M_lengthOf_140 (by decide) ?_
                                      exact hQ _ _ _ _ _ _ I hk d_M_lengthOf_141
                                    · replace hk := ie_u hc hk
                                      refine lv_iload_n hx hb d_M_lengthOf_119 rfl (lv_at hl 0 rfl) ?_
                                      refine lv_sipush (v := 193) hx hb d_M_lengthOf_120 (by decide) ?_
                                      refine lv_icmp_eq (tgt := 140) hx hb d_M_lengthOf_123 (by decide) (fun hc => ?_) (fun hc => ?_)
                                      · replace hk := it_u hc hk
                                        refine lv_iconst (v := 3) hx hb d_M_lengthOf_140 (by decide) ?_
                                        exact hQ _ _ _ _ _ _ I hk d_M_lengthOf_141
                                      · replace hk := ie_u hc hk
                                        refine lv_iload_n hx hb d_M_lengthOf_126 rfl (lv_at hl 0 rfl) ?_
                                        refine lv_sipush (v := 198) hx hb d_M_lengthOf_127 (by decide) ?_
                                        refine lv_icmp_eq (tgt := 140) hx hb d_M_lengthOf_130 (by decide) (fun hc => ?_) (fun hc => ?_)
                                        · replace hk := it_u hc hk
                                          refine lv_iconst (v := 3) hx hb d_M_lengthOf_140 (by decide) ?_
                                          exact hQ _ _ _ _ _ _ I hk d_M_lengthOf_141
                                        · replace hk := ie_u hc hk
                                          refine lv_iload_n hx hb d_M_lengthOf_133 rfl (lv_at hl 0 rfl) ?_
                                          refine lv_sipush (v := 199) hx hb d_M_lengthOf_134 (by decide) ?_
                                          refine lv_icmp_ne (tgt := 142) hx hb d_M_lengthOf_137 (by decide) (fun hc => ?_) (fun hc => ?_)
                                          · replace hk := ie_u hc hk
                                            refine lv_iload_n hx hb d_M_lengthOf_142 rfl (lv_at hl 0 rfl) ?_
                                            refine lv_sipush (v := 197) hx hb d_M_lengthOf_143 (by decide) ?_
                                            refine lv_icmp_ne (tgt := 151) hx hb d_M_lengthOf_146 (by decide) (fun hc => ?_) (fun hc => ?_)
                                            · replace hk := ie_u hc hk
                                              refine lv_iload_n hx hb d_M_lengthOf_151 rfl (lv_at hl 0 rfl) ?_
                                              refine lv_sipush (v := 185) hx hb d_M_lengthOf_152 (by decide) ?_
                                              obtain ⟨z31, hj32, hk⟩ := bnd_u hk
                                              have Khj32 : ∀ (H : Heap) (locs : List Loc) (ls : Array Slot), Dy clA D (mW a cs) s H locs u → lv_has ls 1 [] → W p l e rm_M_lengthOf s m args below meth c H locs 0 0 Q (F0 m 170 ls [.int z31]) := by
                                                intro H locs ls I hl
                                                exact hQ _ _ _ _ _ _ I hk d_M_lengthOf_170
                                              refine lv_icmp_eq (tgt := 165) hx hb d_M_lengthOf_155 (by decide) (fun hc => ?_) (fun hc => ?_)
                                              · replace hj32 := it_u hc hj32
                                                refine lv_iconst (v := 5) hx hb d_M_lengthOf_165 (by decide) ?_
                                                refine lv_goto (tgt := 170) hx hb d_M_lengthOf_166 (by decide) ?_
                                                cases hj32
                                                exact Khj32 _ _ _ I (lv_sub hl [] rfl)
                                              · replace hj32 := ie_u hc hj32
                                                refine lv_iload_n hx hb d_M_lengthOf_158 rfl (lv_at hl 0 rfl) ?_
                                                refine lv_sipush (v := 200) hx hb d_M_lengthOf_159 (by decide) ?_
                                                refine lv_icmp_ne (tgt := 169) hx hb d_M_lengthOf_162 (by decide) (fun hc => ?_) (fun hc => ?_)
                                                · replace hj32 := ie_u hc hj32
                                                  refine lv_iconst (v := 1) hx hb d_M_lengthOf_169 (by decide) ?_
                                                  cases hj32
                                                  exact Khj32 _ _ _ I (lv_sub hl [] rfl)
                                                · replace hj32 := it_u hc hj32
                                                  refine lv_iconst (v := 5) hx hb d_M_lengthOf_165 (by decide) ?_
                                                  refine lv_goto (tgt := 170) hx hb d_M_lengthOf_166 (by decide) ?_
                                                  cases hj32
                                                  exact Khj32 _ _ _ I (lv_sub hl [] rfl)
                                            · replace hk := it_u hc hk
                                              refine lv_iconst (v := 4) hx hb d_M_lengthOf_149 (by decide) ?_
                                              exact hQ _ _ _ _ _ _ I hk d_M_lengthOf_150
                                          · replace hk := it_u hc hk
                                            refine lv_iconst (v := 3) hx hb d_M_lengthOf_140 (by decide) ?_
                                            exact hQ _ _ _ _ _ _ I hk d_M_lengthOf_141
              · replace hk := it_u hc hk
                refine lv_iconst (v := 2) hx hb d_M_lengthOf_43 (by decide) ?_
                exact hQ _ _ _ _ _ _ I hk d_M_lengthOf_44
def rm_M_numbersOf : Room := { frames := 0, cells := 0, slots := 0, locals := 0 }
noncomputable def f_M_numbersOf (u : St) (x1 : Int32) : Option (Int32 × St) := some (((x1 + 4) - ((x1 - (u.1 20)) - (x1 - (u.1 20)) / 4 * 4)), u)
set_option maxHeartbeats 4000000 in
set_option maxRecDepth 100000 in
theorem c_M_numbersOf {Z : zT} {D : va_G} {cs : Nat → ClassId} {a : Nat → Nat} (hw : wD (mW a cs)) (hz : zOK Z) (l : Launch) {u : St} {x1 : Int32} {r : Int32} {u' : St} (hk : f_M_numbersOf u x1 = some (r, u')) : KI clA D cs (mW a cs) Z l y_M_numbersOf (.code y_M_numbersOf prog_9_method_50_code 2 (Option.some Jvm.ClassFile.FieldType.int)) rm_M_numbersOf [.ref (a 0), .int x1] u r u' := by
  unfold f_M_numbersOf at hk
  refine KI.of (by decide) (Nat.le_of_ble_eq_true rfl) rfl hw hz ?_
  intro p e s m args below meth c Q C I hQ ls hl
  have hl : lv_has ls 2 [(0, .ref (a 0)), (1, .int x1)] := hl
  have hx := C.1.1
  have hb := C.1.2.1
  refine lv_iload_n hx hb d_M_numbersOf_0 rfl (lv_at hl 1 rfl) ?_
  refine lv_iconst (v := 4) hx hb d_M_numbersOf_1 (by decide) ?_
  refine lv_iadd hx hb d_M_numbersOf_2 ?_
  refine lv_iload_n hx hb d_M_numbersOf_3 rfl (lv_at hl 1 rfl) ?_
  refine lv_aload_n hx hb d_M_numbersOf_4 rfl (lv_at hl 0 rfl) ?_
  refine g_M_begin C I k_725 d_M_numbersOf_5 ?_
  refine lv_isub hx hb d_M_numbersOf_8 ?_
  refine lv_iconst (v := 4) hx hb d_M_numbersOf_9 (by decide) ?_
  refine lv_irem hx hb d_M_numbersOf_10 (by decide) ?_
  refine lv_isub hx hb d_M_numbersOf_11 ?_
  exact hQ _ _ _ _ _ _ I hk d_M_numbersOf_12
def rm_M_after : Room := { frames := 2, cells := 0, slots := 0, locals := 42 }
noncomputable def f_M_after (u : St) (x1 : Int32) : Option (Int32 × St) := cI (f_M_byteOf u x1) fun r3 u1 => if r3 = 196 then (cI (f_M_byteOf u1 (x1 + 1)) fun r21 u19 => bnd (if r21 = 132 then (6) else (4)) fun (z22 : Int32) => some ((x1 + z22), u19)) else (cI (f_M_numbersOf u1 x1) fun r6 u4 => if r3 = 170 then (cI (f_M_four u4 (r6 + 8)) fun r15 u13 => cI (f_M_four u13 (r6 + 4)) fun r18 u16 => some (((r6 + 12) + (4 * ((r15 - r18) + 1))), u16)) else (if r3 = 171 then (cI (f_M_four u4 (r6 + 4)) fun r12 u10 => some (((r6 + 8) + (8 * r12)), u10)) else (cI (f_M_lengthOf u4 r3) fun r9 u7 => some ((x1 + r9), u7))))
set_option maxHeartbeats 4000000 in
set_option maxRecDepth 100000 in
theorem c_M_after {Z : zT} {D : va_G} {cs : Nat → ClassId} {a : Nat → Nat} (hw : wD (mW a cs)) (hz : zOK Z) (l : Launch) {u : St} {x1 : Int32} {r : Int32} {u' : St} (hk : f_M_after u x1 = some (r, u')) : KI clA D cs (mW a cs) Z l y_M_after (.code y_M_after prog_9_method_51_code 4 (Option.some Jvm.ClassFile.FieldType.int)) rm_M_after [.ref (a 0), .int x1] u r u' := by
  unfold f_M_after at hk
  refine KI.of (by decide) (Nat.le_of_ble_eq_true rfl) rfl hw hz ?_
  intro p e s m args below meth c Q C I hQ ls hl
  have hl : lv_has ls 4 [(0, .ref (a 0)), (1, .int x1)] := hl
  have hx := C.1.1
  have hb := C.1.2.1
  refine lv_aload_n hx hb d_M_after_0 rfl (lv_at hl 0 rfl) ?_
  refine lv_iload_n hx hb d_M_after_1 rfl (lv_at hl 1 rfl) ?_
  obtain ⟨r3, u1, h2, hk⟩ := cI_u hk
  refine go_I I (call_runV (rest := []) C I (c_M_byteOf C.2.2.2.1 C.2.2.2.2.1 l h2 _) wd_M_byteOf (q0 := 0) (ci := 7) rfl rfl k_985 ⟨rfl, rfl⟩ ⟨by decide, by decide⟩ rfl hl.1 rfl (Nat.le_of_ble_eq_true rfl) d_M_after_2) (fun H locs I => ?_)
  refine lv_istore_n (lv' := [(2, .int r3), (0, .ref (a 0)), (1, .int x1)]) hx hb d_M_after_5 rfl hl (by decide) rfl (fun ls hl => ?_)
  refine lv_iload_n hx hb d_M_after_6 rfl (lv_at hl 0 rfl) ?_
  refine lv_sipush (v := 196) hx hb d_M_after_7 (by decide) ?_
  refine lv_icmp_ne (tgt := 35) hx hb d_M_after_10 (by decide) (fun hc => ?_) (fun hc => ?_)
  · replace hk := ie_u hc hk
    refine lv_aload_n hx hb d_M_after_35 rfl (lv_at hl 1 rfl) ?_
    refine lv_iload_n hx hb d_M_after_36 rfl (lv_at hl 2 rfl) ?_
    obtain ⟨r6, u4, h5, hk⟩ := cI_u hk
    refine go_I I (call_runV (rest := []) C I (c_M_numbersOf C.2.2.2.1 C.2.2.2.2.1 l h5 _) wd_M_numbersOf (q0 := 0) (ci := 7) rfl rfl k_996 ⟨rfl, rfl⟩ ⟨by decide, by decide⟩ rfl hl.1 rfl (Nat.le_of_ble_eq_true rfl) d_M_after_37) (fun H locs I => ?_)
    refine lv_istore_n (lv' := [(3, .int r6), (2, .int r3), (0, .ref (a 0)), (1, .int x1)]) hx hb d_M_after_40 rfl hl (by decide) rfl (fun ls hl => ?_)
    refine lv_iload_n hx hb d_M_after_41 rfl (lv_at hl 1 rfl) ?_
    refine lv_sipush (v := 170) hx hb d_M_after_42 (by decide) ?_
    refine lv_icmp_ne (tgt := 74) hx hb d_M_after_45 (by decide) (fun hc => ?_) (fun hc => ?_)
    · replace hk := ie_u hc hk
      refine lv_iload_n hx hb d_M_after_74 rfl (lv_at hl 1 rfl) ?_
      refine lv_sipush (v := 171) hx hb d_M_after_75 (by decide) ?_
      refine lv_icmp_ne (tgt := 97) hx hb d_M_after_78 (by decide) (fun hc => ?_) (fun hc => ?_)
      · replace hk := ie_u hc hk
        refine lv_iload_n hx hb d_M_after_97 rfl (lv_at hl 3 rfl) ?_
        refine lv_iload_n hx hb d_M_after_98 rfl (lv_at hl 1 rfl) ?_
        obtain ⟨r9, u7, h8, hk⟩ := cI_u hk
        refine go_I I (call_runS (rest := [.int x1]) C I (c_M_lengthOf C.2.2.2.1 C.2.2.2.2.1 l h8 _) wd_M_lengthOf k_1013 ⟨rfl, rfl⟩ ⟨by decide, by decide⟩ rfl hl.1 rfl (Nat.le_of_ble_eq_true rfl) d_M_after_99) (fun H locs I => ?_)
        refine lv_iadd hx hb d_M_after_102 ?_
        exact hQ _ _ _ _ _ _ I hk d_M_after_103
      · replace hk := it_u hc hk
        refine lv_iload_n hx hb d_M_after_81 rfl (lv_at hl 0 rfl) ?_
        refine lv_bipush (v := 8) hx hb d_M_after_82 (by decide) ?_
        refine lv_iadd hx hb d_M_after_84 ?_
        refine lv_bipush (v := 8) hx hb d_M_after_85 (by decide) ?_
        refine lv_aload_n hx hb d_M_after_87 rfl (lv_at hl 2 rfl) ?_
        refine lv_iload_n hx hb d_M_after_88 rfl (lv_at hl 0 rfl) ?_
        refine lv_iconst (v := 4) hx hb d_M_after_89 (by decide) ?_
        refine lv_iadd hx hb d_M_after_90 ?_
        obtain ⟨r12, u10, h11, hk⟩ := cI_u hk
        refine go_I I (call_runV (rest := [.int 8, .int (r6 + 8)]) C I (c_M_four C.2.2.2.1 C.2.2.2.2.1 l h11 _) wd_M_four (q0 := 0) (ci := 7) rfl rfl k_1004 ⟨rfl, rfl⟩ ⟨by decide, by decide⟩ rfl hl.1 rfl (Nat.le_of_ble_eq_true rfl) d_M_after_91) (fun H locs I => ?_)
        refine lv_imul hx hb d_M_after_94 ?_
        refine lv_iadd hx hb d_M_after_95 ?_
        exact hQ _ _ _ _ _ _ I hk d_M_after_96
    · replace hk := it_u hc hk
      refine lv_iload_n hx hb d_M_after_48 rfl (lv_at hl 0 rfl) ?_
      refine lv_bipush (v := 12) hx hb d_M_after_49 (by decide) ?_
      refine lv_iadd hx hb d_M_after_51 ?_
      refine lv_iconst (v := 4) hx hb d_M_after_52 (by decide) ?_
      refine lv_aload_n hx hb d_M_after_53 rfl (lv_at hl 2 rfl) ?_
      refine lv_iload_n hx hb d_M_after_54 rfl (lv_at hl 0 rfl) ?_
      refine lv_bipush (v := 8) hx hb d_M_after_55 (by decide) ?_
      refine lv_iadd hx hb d_M_after_57 ?_
      obtain ⟨r15, u13, h14, hk⟩ := cI_u hk
      refine go_I I (call_runV (rest := [.int 4, .int (r6 + 12)]) C I (c_M_four C.2.2.2.1 C.2.2.2.2.1 l h14 _) wd_M_four (q0 := 0) (ci := 7) rfl rfl k_1004 ⟨rfl, rfl⟩ ⟨by decide, by decide⟩ rfl hl.1 rfl (Nat.le_of_ble_eq_true rfl) d_M_after_58) (fun H locs I => ?_)
      refine lv_aload_n hx hb d_M_after_61 rfl (lv_at hl 2 rfl) ?_
      refine lv_iload_n hx hb d_M_after_62 rfl (lv_at hl 0 rfl) ?_
      refine lv_iconst (v := 4) hx hb d_M_after_63 (by decide) ?_
      refine lv_iadd hx hb d_M_after_64 ?_
      obtain ⟨r18, u16, h17, hk⟩ := cI_u hk
      refine go_I I (call_runV (rest := [.int r15, .int 4, .int (r6 + 12)]) C I (c_M_four C.2.2.2.1 C.2.2.2.2.1 l h17 _) wd_M_four (q0 := 0) (ci := 7) rfl rfl k_1004 ⟨rfl, rfl⟩ ⟨by decide, by decide⟩ rfl hl.1 rfl (Nat.le_of_ble_eq_true rfl) d_M_after_65) (fun H locs I => ?_)
      refine lv_isub hx hb d_M_after_68 ?_
      refine lv_iconst (v := 1) hx hb d_M_after_69 (by decide) ?_
      refine lv_iadd hx hb d_M_after_70 ?_
      refine lv_imul hx hb d_M_after_71 ?_
      refine lv_iadd hx hb d_M_after_72 ?_
      exact hQ _ _ _ _ _ _ I hk d_M_after_73
  · replace hk := it_u hc hk
    refine lv_iload_n hx hb d_M_after_13 rfl (lv_at hl 2 rfl) ?_
    refine lv_aload_n hx hb d_M_after_14 rfl (lv_at hl 1 rfl) ?_
    refine lv_iload_n hx hb d_M_after_15 rfl (lv_at hl 2 rfl) ?_
    refine lv_iconst (v := 1) hx hb d_M_after_16 (by decide) ?_
    refine lv_iadd hx hb d_M_after_17 ?_
    obtain ⟨r21, u19, h20, hk⟩ := cI_u hk
    refine go_I I (call_runV (rest := [.int x1]) C I (c_M_byteOf C.2.2.2.1 C.2.2.2.2.1 l h20 _) wd_M_byteOf (q0 := 0) (ci := 7) rfl rfl k_985 ⟨rfl, rfl⟩ ⟨by decide, by decide⟩ rfl hl.1 rfl (Nat.le_of_ble_eq_true rfl) d_M_after_18) (fun H locs I => ?_)
    refine lv_sipush (v := 132) hx hb d_M_after_21 (by decide) ?_
    obtain ⟨z22, hj23, hk⟩ := bnd_u hk
    have Khj23 : ∀ (H : Heap) (locs : List Loc) (ls : Array Slot), Dy clA D (mW a cs) s H locs u19 → lv_has ls 4 [] → W p l e rm_M_after s m args below meth c H locs 0 0 Q (F0 m 33 ls [.int z22, .int x1]) := by
      intro H locs ls I hl
      refine lv_iadd hx hb d_M_after_33 ?_
      exact hQ _ _ _ _ _ _ I hk d_M_after_34
    refine lv_icmp_ne (tgt := 32) hx hb d_M_after_24 (by decide) (fun hc => ?_) (fun hc => ?_)
    · replace hj23 := ie_u hc hj23
      refine lv_iconst (v := 4) hx hb d_M_after_32 (by decide) ?_
      cases hj23
      exact Khj23 _ _ _ I (lv_sub hl [] rfl)
    · replace hj23 := it_u hc hj23
      refine lv_bipush (v := 6) hx hb d_M_after_27 (by decide) ?_
      refine lv_goto (tgt := 33) hx hb d_M_after_29 (by decide) ?_
      cases hj23
      exact Khj23 _ _ _ I (lv_sub hl [] rfl)
def rm_M_handlers : Room := { frames := 3, cells := 0, slots := 0, locals := 63 }
noncomputable def f_M_handlers_L31 (kx : St → Option (St)) (x2 : Int32) : Nat → St → Int32 → Option (St)
  | 0, _, _ => none
  | n + 1, u, x3 => if x2 ≤ x3 then (kx u) else (cI (f_M_ok u) fun r10 u8 => if r10 = 0 then (kx u8) else (cI (f_M_u2 u8) fun r13 u11 => cI (f_M_u2 u11) fun r16 u14 => cI (f_M_u2 u14) fun r19 u17 => cI (f_M_u2 u17) fun r22 u20 => cI (f_M_ok u20) fun r25 u23 => if r25 = 0 then (some u23) else (cT (if r16 ≤ r13 then (some (0)) else (if ((u23.1 21) - (u23.1 20)) ≤ r13 then (some (0)) else (gd r13 2001 (if (u23.2 7 r13.toNatClampNeg) = 0 then (some (0)) else (if ((u23.1 21) - (u23.1 20)) ≤ r19 then (some (0)) else (gd r19 2001 (if (u23.2 7 r19.toNatClampNeg) = 0 then (some (0)) else (if ((u23.1 21) - (u23.1 20)) < r16 then (some (0)) else (if r16 = ((u23.1 21) - (u23.1 20)) then (some (1)) else (gd r16 2001 (if (u23.2 7 r16.toNatClampNeg) = 0 then (some (0)) else (some (1))))))))))))) fun (z26 : Int32) => cI (f_M_must u23 z26 28 (u8.1 2)) fun r29 u27 => if r29 = 0 then (some u27) else (cT (if r22 = 0 then (some (1, u27)) else (cI (f_M_isKind u27 r22 7) fun r39 u37 => if r39 = 0 then (some (0, u37)) else (some (1, u37)))) fun (p40 : Int32 × St) => cI (f_M_must p40.2 p40.1 8 (u17.1 2)) fun r34 u32 => bnd (sv u32 15 ((u32.1 15) + 1)) fun u35 => f_M_handlers_L31 kx x2 n u35 (x3 + 1)))))
noncomputable def f_M_handlers (u : St) : Option (St) := cI (f_M_u2 u) fun r3 u1 => bnd (if 30 < r3 then (0) else (1)) fun (z4 : Int32) => cI (f_M_must u1 z4 15 (u.1 2)) fun r7 u5 => f_M_handlers_L31 (fun u42 => some u42) r3 FU u5 0
set_option maxHeartbeats 4000000 in
set_option maxRecDepth 100000 in
theorem w_M_handlers_L31 {Z : zT} {D : va_G} {cs : Nat → ClassId} {a : Nat → Nat} {p : Program} {l : Launch} {e : Env} {s : State} {m : MethodId} {args : Array Value} {below : List Frame} {meth : Method} {c : Code} {Q : State → Prop} {F : St} {kx : St → Option (St)} {x2 : Int32} (C : Cx clA R_M prog_9_method_45_code 11 D cs (mW a cs) Z p s m args c) (hE : ∀ (u2 : St) (H : Heap) (locs : List Loc) (ls : Array Slot), kx u2 = some F → Dy clA D (mW a cs) s H locs u2 → lv_has ls 11 [] → W p l e rm_M_handlers s m args below meth c H locs 0 0 Q (F0 m 228 ls [])) (hQ : ∀ (H : Heap) (locs : List Loc) (pc : Nat) (ls : Array Slot) (u1 : St), Dy clA D (mW a cs) s H locs u1 → some u1 = some F → decode prog_9_method_45_code pc = .ok (.return_, 1) → W p l e rm_M_handlers s m args below meth c H locs 0 0 Q (F0 m pc ls [])): ∀ (n : Nat) (u : St) (x3 : Int32) (H : Heap) (locs : List Loc) (ls : Array Slot), f_M_handlers_L31 kx x2 n u x3 = some F → Dy clA D (mW a cs) s H locs u → lv_has ls 11 [(0, .ref (a 0)), (2, .int x2), (3, .int x3)] → W p l e rm_M_handlers s m args below meth c H locs 0 0 Q (F0 m 31 ls []) := by
  have hx := C.1.1
  have hb := C.1.2.1
  intro n
  induction n with
  | zero =>
    intro u x3 H locs ls hk I hl
    rw [f_M_handlers_L31] at hk
    cases hk
  | succ n ih =>
    intro u x3 H locs ls hk I hl
    rw [f_M_handlers_L31] at hk
    refine lv_iload_n hx hb d_M_handlers_31 rfl (lv_at hl 2 rfl) ?_
    refine lv_iload_n hx hb d_M_handlers_32 rfl (lv_at hl 1 rfl) ?_
    refine lv_icmp_ge (tgt := 228) hx hb d_M_handlers_33 (by decide) (fun hc => ?_) (fun hc => ?_)
    · replace hk := it_u hc hk
      exact hE u _ _ _ hk I (lv_sub hl [] rfl)
    · replace hk := ie_u hc hk
      refine lv_aload_n hx hb d_M_handlers_36 rfl (lv_at hl 0 rfl) ?_
      obtain ⟨r10, u8, h9, hk⟩ := cI_u hk
      refine go_I I (call_runV (rest := []) C I (c_M_ok C.2.2.2.1 C.2.2.2.2.1 l h9 _) wd_M_ok (q0 := 0) (ci := 7) rfl rfl k_834 ⟨rfl, rfl⟩ ⟨by decide, by decide⟩ rfl hl.1 rfl (Nat.le_of_ble_eq_true rfl) d_M_handlers_37) (fun H locs I => ?_)
      refine lv_if_eq (tgt := 228) hx hb d_M_handlers_40 (by decide) (fun hc => ?_) (fun hc => ?_)
      · replace hk := it_u hc hk
        exact hE u8 _ _ _ hk I (lv_sub hl [] rfl)
      · replace hk := ie_u hc hk
        refine lv_aload_n hx hb d_M_handlers_43 rfl (lv_at hl 0 rfl) ?_
        refine g_M_at C I k_697 d_M_handlers_44 ?_
        refine lv_istore_n (lv' := [(1, .int (u8.1 2)), (0, .ref (a 0)), (2, .int x2), (3, .int x3)]) hx hb d_M_handlers_47 rfl hl (by decide) rfl (fun ls hl => ?_)
        refine lv_aload_n hx hb d_M_handlers_48 rfl (lv_at hl 1 rfl) ?_
        obtain ⟨r13, u11, h12, hk⟩ := cI_u hk
        refine go_I I (call_runV (rest := []) C I (c_M_u2 C.2.2.2.1 C.2.2.2.2.1 l h12 _) wd_M_u2 (q0 := 0) (ci := 7) rfl rfl k_826 ⟨rfl, rfl⟩ ⟨by decide, by decide⟩ rfl hl.1 rfl (Nat.le_of_ble_eq_true rfl) d_M_handlers_49) (fun H locs I => ?_)
        refine lv_istore (lv' := [(4, .int r13), (1, .int (u8.1 2)), (0, .ref (a 0)), (2, .int x2), (3, .int x3)]) hx hb d_M_handlers_52 hl (by decide) rfl (fun ls hl => ?_)
        refine lv_aload_n hx hb d_M_handlers_54 rfl (lv_at hl 2 rfl) ?_
        obtain ⟨r16, u14, h15, hk⟩ := cI_u hk
        refine go_I I (call_runV (rest := []) C I (c_M_u2 C.2.2.2.1 C.2.2.2.2.1 l h15 _) wd_M_u2 (q0 := 0) (ci := 7) rfl rfl k_826 ⟨rfl, rfl⟩ ⟨by decide, by decide⟩ rfl hl.1 rfl (Nat.le_of_ble_eq_true rfl) d_M_handlers_55) (fun H locs I => ?_)
        refine lv_istore (lv' := [(5, .int r16), (4, .int r13), (1, .int (u8.1 2)), (0, .ref (a 0)), (2, .int x2), (3, .int x3)]) hx hb d_M_handlers_58 hl (by decide) rfl (fun ls hl => ?_)
        refine lv_aload_n hx hb d_M_handlers_60 rfl (lv_at hl 3 rfl) ?_
        obtain ⟨r19, u17, h18, hk⟩ := cI_u hk
        refine go_I I (call_runV (rest := []) C I (c_M_u2 C.2.2.2.1 C.2.2.2.2.1 l h18 _) wd_M_u2 (q0 := 0) (ci := 7) rfl rfl k_826 ⟨rfl, rfl⟩ ⟨by decide, by decide⟩ rfl hl.1 rfl (Nat.le_of_ble_eq_true rfl) d_M_handlers_61) (fun H locs I => ?_)
        refine lv_istore (lv' := [(6, .int r19), (5, .int r16), (4, .int r13), (1, .int (u8.1 2)), (0, .ref (a 0)), (2, .int x2), (3, .int x3)]) hx hb d_M_handlers_64 hl (by decide) rfl (fun ls hl => ?_)
        refine lv_aload_n hx hb d_M_handlers_66 rfl (lv_at hl 4 rfl) ?_
        refine g_M_at C I k_697 d_M_handlers_67 ?_
        refine lv_istore (lv' := [(7, .int (u17.1 2)), (6, .int r19), (5, .int r16), (4, .int r13), (1, .int (u8.1 2)), (0, .ref (a 0)), (2, .int x2), (3, .int x3)]) hx hb d_M_handlers_70 hl (by decide) rfl (fun ls hl => ?_)
        refine lv_aload_n hx hb d_M_handlers_72 rfl (lv_at hl 5 rfl) ?_
        obtain ⟨r22, u20, h21, hk⟩ := cI_u hk
        refine go_I I (call_runV (rest := []) C I (c_M_u2 C.2.2.2.1 C.2.2.2.2.1 l h21 _) wd_M_u2 (q0 := 0) (ci := 7) rfl rfl k_826 ⟨rfl, rfl⟩ ⟨by decide, by decide⟩ rfl hl.1 rfl (Nat.le_of_ble_eq_true rfl) d_M_handlers_73) (fun H locs I => ?_)
        refine lv_istore (lv' := [(8, .int r22), (7, .int (u17.1 2)), (6, .int r19), (5, .int r16), (4, .int r13), (1, .int (u8.1 2)), (0, .ref (a 0)), (2, .int x2), (3, .int x3)]) hx hb d_M_handlers_76 hl (by decide) rfl (fun ls hl => ?_)
        refine lv_aload_n hx hb d_M_handlers_78 rfl (lv_at hl 6 rfl) ?_
        obtain ⟨r25, u23, h24, hk⟩ := cI_u hk
        refine go_I I (call_runV (rest := []) C I (c_M_ok C.2.2.2.1 C.2.2.2.2.1 l h24 _) wd_M_ok (q0 := 0) (ci := 7) rfl rfl k_834 ⟨rfl, rfl⟩ ⟨by decide, by decide⟩ rfl hl.1 rfl (Nat.le_of_ble_eq_true rfl) d_M_handlers_79) (fun H locs I => ?_)
        refine lv_if_ne (tgt := 86) hx hb d_M_handlers_82 (by decide) (fun hc => ?_) (fun hc => ?_)
        · replace hk := ie_u hc hk
          refine lv_aload_n hx hb d_M_handlers_86 rfl (lv_at hl 6 rfl) ?_
          refine g_M_end C I k_726 d_M_handlers_87 ?_
          refine lv_aload_n hx hb d_M_handlers_90 rfl (lv_at hl 6 rfl) ?_
          refine g_M_begin C I k_725 d_M_handlers_91 ?_
          refine lv_isub hx hb d_M_handlers_94 ?_
          refine lv_istore (lv' := [(9, .int ((u23.1 21) - (u23.1 20))), (8, .int r22), (7, .int (u17.1 2)), (6, .int r19), (5, .int r16), (4, .int r13), (1, .int (u8.1 2)), (0, .ref (a 0)), (2, .int x2), (3, .int x3)]) hx hb d_M_handlers_95 hl (by decide) rfl (fun ls hl => ?_)
          refine lv_iload hx hb d_M_handlers_97 (lv_at hl 5 rfl) ?_
          refine lv_iload hx hb d_M_handlers_99 (lv_at hl 4 rfl) ?_
          obtain ⟨z26, hj41, hk⟩ := cT_u hk
          have Khj41 : ∀ (H : Heap) (locs : List Loc) (ls : Array Slot), Dy clA D (mW a cs) s H locs u23 → lv_has ls 11 [(0, .ref (a 0)), (1, .int (u8.1 2)), (2, .int x2), (3, .int x3), (7, .int (u17.1 2)), (8, .int r22)] → W p l e rm_M_handlers s m args below meth c H locs 0 0 Q (F0 m 167 ls [.int z26]) := by
            intro H locs ls I hl
            refine lv_istore (lv' := [(10, .int z26), (0, .ref (a 0)), (1, .int (u8.1 2)), (2, .int x2), (3, .int x3), (7, .int (u17.1 2)), (8, .int r22)]) hx hb d_M_handlers_167 hl (by decide) rfl (fun ls hl => ?_)
            refine lv_aload_n hx hb d_M_handlers_169 rfl (lv_at hl 1 rfl) ?_
            refine lv_iload hx hb d_M_handlers_170 (lv_at hl 0 rfl) ?_
            refine lv_bipush (v := 28) hx hb d_M_handlers_172 (by decide) ?_
            refine lv_iload_n hx hb d_M_handlers_174 rfl (lv_at hl 2 rfl) ?_
            obtain ⟨r29, u27, h28, hk⟩ := cI_u hk
            refine go_I I (call_runV (rest := []) C I (c_M_must C.2.2.2.1 C.2.2.2.2.1 l h28 _) wd_M_must (q0 := 0) (ci := 7) rfl rfl k_843 ⟨rfl, rfl⟩ ⟨by decide, by decide⟩ rfl hl.1 rfl (Nat.le_of_ble_eq_true rfl) d_M_handlers_175) (fun H locs I => ?_)
            refine lv_if_ne (tgt := 182) hx hb d_M_handlers_178 (by decide) (fun hc => ?_) (fun hc => ?_)
            · replace hk := ie_u hc hk
              refine lv_aload_n hx hb d_M_handlers_182 rfl (lv_at hl 1 rfl) ?_
              refine lv_iload hx hb d_M_handlers_183 (lv_at hl 6 rfl) ?_
              obtain ⟨⟨z30, u31⟩, hj36, hk⟩ := cT_u hk
              have Khj36 : ∀ (H : Heap) (locs : List Loc) (ls : Array Slot), Dy clA D (mW a cs) s H locs u31 → lv_has ls 11 [(0, .ref (a 0)), (2, .int x2), (3, .int x3), (7, .int (u17.1 2))] → W p l e rm_M_handlers s m args below meth c H locs 0 0 Q (F0 m 204 ls [.int z30, .ref (a 0)]) := by
                intro H locs ls I hl
                refine lv_bipush (v := 8) hx hb d_M_handlers_204 (by decide) ?_
                refine lv_iload hx hb d_M_handlers_206 (lv_at hl 3 rfl) ?_
                obtain ⟨r34, u32, h33, hk⟩ := cI_u hk
                refine go_I I (call_runV (rest := []) C I (c_M_must C.2.2.2.1 C.2.2.2.2.1 l h33 _) wd_M_must (q0 := 0) (ci := 7) rfl rfl k_843 ⟨rfl, rfl⟩ ⟨by decide, by decide⟩ rfl hl.1 rfl (Nat.le_of_ble_eq_true rfl) d_M_handlers_208) (fun H locs I => ?_)
                refine lv_pop hx hb d_M_handlers_211 rfl ?_
                refine lv_aload_n hx hb d_M_handlers_212 rfl (lv_at hl 0 rfl) ?_
                refine lv_dup hx hb d_M_handlers_213 rfl ?_
                refine g_M_rows C I k_712 d_M_handlers_214 ?_
                refine lv_iconst (v := 1) hx hb d_M_handlers_217 (by decide) ?_
                refine lv_iadd hx hb d_M_handlers_218 ?_
                refine p_M_rows C I k_712 d_M_handlers_219 (fun H locs I => ?_)
                obtain ⟨u35, hu, hk⟩ := bnd_u hk
                rw [hu] at I
                clear hu
                refine lv_iinc (v := (x3 + 1)) (lv' := [(3, .int (x3 + 1)), (0, .ref (a 0)), (2, .int x2), (7, .int (u17.1 2))]) hx hb d_M_handlers_222 hl (k := 2) rfl rfl (by decide) rfl (fun ls hl => ?_)
                refine lv_goto (tgt := 31) hx hb d_M_handlers_225 (by decide) ?_
                exact ih u35 (x3 + 1) _ _ _ hk I (lv_sub hl [1, 2, 0] rfl)
              refine lv_if_eq (tgt := 199) hx hb d_M_handlers_185 (by decide) (fun hc => ?_) (fun hc => ?_)
              · replace hj36 := it_u hc hj36
                refine lv_iconst (v := 1) hx hb d_M_handlers_199 (by decide) ?_
                refine lv_goto (tgt := 204) hx hb d_M_handlers_200 (by decide) ?_
                cases hj36
                exact Khj36 _ _ _ I (lv_sub hl [1, 3, 4, 5] rfl)
              · replace hj36 := ie_u hc hj36
                refine lv_aload_n hx hb d_M_handlers_188 rfl (lv_at hl 1 rfl) ?_
                refine lv_iload hx hb d_M_handlers_189 (lv_at hl 6 rfl) ?_
                refine lv_bipush (v := 7) hx hb d_M_handlers_191 (by decide) ?_
                obtain ⟨r39, u37, h38, hj36⟩ := cI_u hj36
                refine go_I I (call_runV (rest := [.ref (a 0)]) C I (c_M_isKind C.2.2.2.1 C.2.2.2.2.1 l h38 _) wd_M_isKind (q0 := 0) (ci := 7) rfl rfl k_863 ⟨rfl, rfl⟩ ⟨by decide, by decide⟩ rfl hl.1 rfl (Nat.le_of_ble_eq_true rfl) d_M_handlers_193) (fun H locs I => ?_)
                refine lv_if_eq (tgt := 203) hx hb d_M_handlers_196 (by decide) (fun hc => ?_) (fun hc => ?_)
                · replace hj36 := it_u hc hj36
                  refine lv_iconst (v := 0) hx hb d_M_handlers_203 (by decide) ?_
                  cases hj36
                  exact Khj36 _ _ _ I (lv_sub hl [1, 3, 4, 5] rfl)
                · replace hj36 := ie_u hc hj36
                  refine lv_iconst (v := 1) hx hb d_M_handlers_199 (by decide) ?_
                  refine lv_goto (tgt := 204) hx hb d_M_handlers_200 (by decide) ?_
                  cases hj36
                  exact Khj36 _ _ _ I (lv_sub hl [1, 3, 4, 5] rfl)
            · replace hk := it_u hc hk
              exact hQ _ _ _ _ _ I hk d_M_handlers_181
          refine lv_icmp_ge (tgt := 166) hx hb d_M_handlers_101 (by decide) (fun hc => ?_) (fun hc => ?_)
          · replace hj41 := it_u hc hj41
            refine lv_iconst (v := 0) hx hb d_M_handlers_166 (by decide) ?_
            cases hj41
            exact Khj41 _ _ _ I (lv_sub hl [7, 6, 8, 9, 2, 1] rfl)
          · replace hj41 := ie_u hc hj41
            refine lv_iload hx hb d_M_handlers_104 (lv_at hl 5 rfl) ?_
            refine lv_iload hx hb d_M_handlers_106 (lv_at hl 0 rfl) ?_
            refine lv_icmp_ge (tgt := 166) hx hb d_M_handlers_108 (by decide) (fun hc => ?_) (fun hc => ?_)
            · replace hj41 := it_u hc hj41
              refine lv_iconst (v := 0) hx hb d_M_handlers_166 (by decide) ?_
              cases hj41
              exact Khj41 _ _ _ I (lv_sub hl [7, 6, 8, 9, 2, 1] rfl)
            · replace hj41 := ie_u hc hj41
              refine lv_aload_n hx hb d_M_handlers_111 rfl (lv_at hl 7 rfl) ?_
              refine g_M_starts C I k_717 d_M_handlers_112 ?_
              refine lv_iload hx hb d_M_handlers_115 (lv_at hl 5 rfl) ?_
              obtain ⟨hi, hj41⟩ := gd_u hj41
              refine l_M_starts C I hi d_M_handlers_117 ?_
              refine lv_if_eq (tgt := 166) hx hb d_M_handlers_118 (by decide) (fun hc => ?_) (fun hc => ?_)
              · replace hj41 := it_u hc hj41
                refine lv_iconst (v := 0) hx hb d_M_handlers_166 (by decide) ?_
                cases hj41
                exact Khj41 _ _ _ I (lv_sub hl [7, 6, 8, 9, 2, 1] rfl)
              · replace hj41 := ie_u hc hj41
                refine lv_iload hx hb d_M_handlers_121 (lv_at hl 3 rfl) ?_
                refine lv_iload hx hb d_M_handlers_123 (lv_at hl 0 rfl) ?_
                refine lv_icmp_ge (tgt := 166) hx hb d_M_handlers_125 (by decide) (fun hc => ?_) (fun hc => ?_)
                · replace hj41 := it_u hc hj41
                  refine lv_iconst (v := 0) hx hb d_M_handlers_166 (by decide) ?_
                  cases hj41
                  exact Khj41 _ _ _ I (lv_sub hl [7, 6, 8, 9, 2, 1] rfl)
                · replace hj41 := ie_u hc hj41
                  refine lv_aload_n hx hb d_M_handlers_128 rfl (lv_at hl 7 rfl) ?_
                  refine g_M_starts C I k_717 d_M_handlers_129 ?_
                  refine lv_iload hx hb d_M_handlers_132 (lv_at hl 3 rfl) ?_
                  obtain ⟨hi, hj41⟩ := gd_u hj41
                  refine l_M_starts C I hi d_M_handlers_134 ?_
                  refine lv_if_eq (tgt := 166) hx hb d_M_handlers_135 (by decide) (fun hc => ?_) (fun hc => ?_)
                  · replace hj41 := it_u hc hj41
                    refine lv_iconst (v := 0) hx hb d_M_handlers_166 (by decide) ?_
                    cases hj41
                    exact Khj41 _ _ _ I (lv_sub hl [7, 6, 8, 9, 2, 1] rfl)
                  · replace hj41 := ie_u hc hj41
                    refine lv_iload hx hb d_M_handlers_138 (lv_at hl 4 rfl) ?_
                    refine lv_iload hx hb d_M_handlers_140 (lv_at hl 0 rfl) ?_
                    refine lv_icmp_gt (tgt := 166) hx hb d_M_handlers_142 (by decide) (fun hc => ?_) (fun hc => ?_)
                    · replace hj41 := it_u hc hj41
                      refine lv_iconst (v := 0) hx hb d_M_handlers_166 (by decide) ?_
                      cases hj41
                      exact Khj41 _ _ _ I (lv_sub hl [7, 6, 8, 9, 2, 1] rfl)
                    · replace hj41 := ie_u hc hj41
                      refine lv_iload hx hb d_M_handlers_145 (lv_at hl 4 rfl) ?_
                      refine lv_iload hx hb d_M_handlers_147 (lv_at hl 0 rfl) ?_
                      refine lv_icmp_eq (tgt := 162) hx hb d_M_handlers_149 (by decide) (fun hc => ?_) (fun hc => ?_)
                      · replace hj41 := it_u hc hj41
                        refine lv_iconst (v := 1) hx hb d_M_handlers_162 (by decide) ?_
                        refine lv_goto (tgt := 167) hx hb d_M_handlers_163 (by decide) ?_
                        cases hj41
                        exact Khj41 _ _ _ I (lv_sub hl [7, 6, 8, 9, 2, 1] rfl)
                      · replace hj41 := ie_u hc hj41
                        refine lv_aload_n hx hb d_M_handlers_152 rfl (lv_at hl 7 rfl) ?_
                        refine g_M_starts C I k_717 d_M_handlers_153 ?_
                        refine lv_iload hx hb d_M_handlers_156 (lv_at hl 4 rfl) ?_
                        obtain ⟨hi, hj41⟩ := gd_u hj41
                        refine l_M_starts C I hi d_M_handlers_158 ?_
                        refine lv_if_eq (tgt := 166) hx hb d_M_handlers_159 (by decide) (fun hc => ?_) (fun hc => ?_)
                        · replace hj41 := it_u hc hj41
                          refine lv_iconst (v := 0) hx hb d_M_handlers_166 (by decide) ?_
                          cases hj41
                          exact Khj41 _ _ _ I (lv_sub hl [7, 6, 8, 9, 2, 1] rfl)
                        · replace hj41 := ie_u hc hj41
                          refine lv_iconst (v := 1) hx hb d_M_handlers_162 (by decide) ?_
                          refine lv_goto (tgt := 167) hx hb d_M_handlers_163 (by decide) ?_
                          cases hj41
                          exact Khj41 _ _ _ I (lv_sub hl [7, 6, 8, 9, 2, 1] rfl)
        · replace hk := it_u hc hk
          exact hQ _ _ _ _ _ I hk d_M_handlers_85
set_option maxHeartbeats 4000000 in
set_option maxRecDepth 100000 in
theorem c_M_handlers {Z : zT} {D : va_G} {cs : Nat → ClassId} {a : Nat → Nat} (hw : wD (mW a cs)) (hz : zOK Z) (l : Launch) {u : St} {u' : St} (hk : f_M_handlers u = some u') : KV clA D cs (mW a cs) Z l y_M_handlers (.code y_M_handlers prog_9_method_45_code 11 (Option.none : Option Jvm.ClassFile.FieldType)) rm_M_handlers [.ref (a 0)] u u' := by
  unfold f_M_handlers at hk
  refine KV.of (by decide) (Nat.le_of_ble_eq_true rfl) hw hz ?_
  intro p e s m args below meth c Q C I hQ ls hl
  have hl : lv_has ls 11 [(0, .ref (a 0))] := hl
  have hx := C.1.1
  have hb := C.1.2.1
  refine lv_aload_n hx hb d_M_handlers_0 rfl (lv_at hl 0 rfl) ?_
  refine g_M_at C I k_697 d_M_handlers_1 ?_
  refine lv_istore_n (lv' := [(1, .int (u.1 2)), (0, .ref (a 0))]) hx hb d_M_handlers_4 rfl hl (by decide) rfl (fun ls hl => ?_)
  refine lv_aload_n hx hb d_M_handlers_5 rfl (lv_at hl 1 rfl) ?_
  obtain ⟨r3, u1, h2, hk⟩ := cI_u hk
  refine go_I I (call_runV (rest := []) C I (c_M_u2 C.2.2.2.1 C.2.2.2.2.1 l h2 _) wd_M_u2 (q0 := 0) (ci := 7) rfl rfl k_826 ⟨rfl, rfl⟩ ⟨by decide, by decide⟩ rfl hl.1 rfl (Nat.le_of_ble_eq_true rfl) d_M_handlers_6) (fun H locs I => ?_)
  refine lv_istore_n (lv' := [(2, .int r3), (1, .int (u.1 2)), (0, .ref (a 0))]) hx hb d_M_handlers_9 rfl hl (by decide) rfl (fun ls hl => ?_)
  refine lv_aload_n hx hb d_M_handlers_10 rfl (lv_at hl 2 rfl) ?_
  refine lv_iload_n hx hb d_M_handlers_11 rfl (lv_at hl 0 rfl) ?_
  refine lv_bipush (v := 30) hx hb d_M_handlers_12 (by decide) ?_
  obtain ⟨z4, hj43, hk⟩ := bnd_u hk
  have Khj43 : ∀ (H : Heap) (locs : List Loc) (ls : Array Slot), Dy clA D (mW a cs) s H locs u1 → lv_has ls 11 [(0, .ref (a 0)), (1, .int (u.1 2)), (2, .int r3)] → W p l e rm_M_handlers s m args below meth c H locs 0 0 Q (F0 m 22 ls [.int z4, .ref (a 0)]) := by
    intro H locs ls I hl
    refine lv_bipush (v := 15) hx hb d_M_handlers_22 (by decide) ?_
    refine lv_iload_n hx hb d_M_handlers_24 rfl (lv_at hl 1 rfl) ?_
    obtain ⟨r7, u5, h6, hk⟩ := cI_u hk
    refine go_I I (call_runV (rest := []) C I (c_M_must C.2.2.2.1 C.2.2.2.2.1 l h6 _) wd_M_must (q0 := 0) (ci := 7) rfl rfl k_843 ⟨rfl, rfl⟩ ⟨by decide, by decide⟩ rfl hl.1 rfl (Nat.le_of_ble_eq_true rfl) d_M_handlers_25) (fun H locs I => ?_)
    refine lv_pop hx hb d_M_handlers_28 rfl ?_
    refine lv_iconst (v := 0) hx hb d_M_handlers_29 (by decide) ?_
    refine lv_istore_n (lv' := [(3, .int 0), (0, .ref (a 0)), (1, .int (u.1 2)), (2, .int r3)]) hx hb d_M_handlers_30 rfl hl (by decide) rfl (fun ls hl => ?_)
    refine w_M_handlers_L31 C (fun u42 H locs ls hk I hl => ?_) hQ FU u5 0 _ _ _ hk I (lv_sub hl [1, 3, 0] rfl)
    exact hQ _ _ _ _ _ I hk d_M_handlers_228
  refine lv_icmp_gt (tgt := 21) hx hb d_M_handlers_14 (by decide) (fun hc => ?_) (fun hc => ?_)
  · replace hj43 := it_u hc hj43
    refine lv_iconst (v := 0) hx hb d_M_handlers_21 (by decide) ?_
    cases hj43
    exact Khj43 _ _ _ I (lv_sub hl [2, 1, 0] rfl)
  · replace hj43 := ie_u hc hj43
    refine lv_iconst (v := 1) hx hb d_M_handlers_17 (by decide) ?_
    refine lv_goto (tgt := 22) hx hb d_M_handlers_18 (by decide) ?_
    cases hj43
    exact Khj43 _ _ _ I (lv_sub hl [2, 1, 0] rfl)
def rm_M_isThere : Room := { frames := 2, cells := 0, slots := 0, locals := 45 }
noncomputable def f_M_isThere (u : St) (x1 : Int32) (x2 : Int32) : Option (Int32 × St) := bnd (if (u.1 21) < x2 then (0) else (1)) fun (z1 : Int32) => cI (f_M_must u z1 25 x1) fun r4 u2 => gb r4 (some (r4, u2))
set_option maxHeartbeats 4000000 in
set_option maxRecDepth 100000 in
theorem c_M_isThere {Z : zT} {D : va_G} {cs : Nat → ClassId} {a : Nat → Nat} (hw : wD (mW a cs)) (hz : zOK Z) (l : Launch) {u : St} {x1 : Int32} {x2 : Int32} {r : Int32} {u' : St} (hk : f_M_isThere u x1 x2 = some (r, u')) : KI clA D cs (mW a cs) Z l y_M_isThere (.code y_M_isThere prog_9_method_52_code 3 (Option.some Jvm.ClassFile.FieldType.boolean)) rm_M_isThere [.ref (a 0), .int x1, .int x2] u r u' := by
  unfold f_M_isThere at hk
  refine KZ.of (by decide) (Nat.le_of_ble_eq_true rfl) hw hz ?_
  intro p e s m args below meth c Q C I hQ ls hl
  have hl : lv_has ls 3 [(0, .ref (a 0)), (1, .int x1), (2, .int x2)] := hl
  have hx := C.1.1
  have hb := C.1.2.1
  refine lv_aload_n hx hb d_M_isThere_0 rfl (lv_at hl 0 rfl) ?_
  refine lv_iload_n hx hb d_M_isThere_1 rfl (lv_at hl 2 rfl) ?_
  refine lv_aload_n hx hb d_M_isThere_2 rfl (lv_at hl 0 rfl) ?_
  refine g_M_end C I k_726 d_M_isThere_3 ?_
  obtain ⟨z1, hj5, hk⟩ := bnd_u hk
  have Khj5 : ∀ (H : Heap) (locs : List Loc) (ls : Array Slot), Dy clA D (mW a cs) s H locs u → lv_has ls 3 [(1, .int x1)] → W p l e rm_M_isThere s m args below meth c H locs 0 0 Q (F0 m 14 ls [.int z1, .ref (a 0)]) := by
    intro H locs ls I hl
    refine lv_bipush (v := 25) hx hb d_M_isThere_14 (by decide) ?_
    refine lv_iload_n hx hb d_M_isThere_16 rfl (lv_at hl 0 rfl) ?_
    obtain ⟨r4, u2, h3, hk⟩ := cI_u hk
    refine go_I I (call_runV (rest := []) C I (c_M_must C.2.2.2.1 C.2.2.2.2.1 l h3 _) wd_M_must (q0 := 0) (ci := 7) rfl rfl k_843 ⟨rfl, rfl⟩ ⟨by decide, by decide⟩ rfl hl.1 rfl (Nat.le_of_ble_eq_true rfl) d_M_isThere_17) (fun H locs I => ?_)
    exact hQ _ _ _ _ _ _ I hk d_M_isThere_20
  refine lv_icmp_gt (tgt := 13) hx hb d_M_isThere_6 (by decide) (fun hc => ?_) (fun hc => ?_)
  · replace hj5 := it_u hc hj5
    refine lv_iconst (v := 0) hx hb d_M_isThere_13 (by decide) ?_
    cases hj5
    exact Khj5 _ _ _ I (lv_sub hl [1] rfl)
  · replace hj5 := ie_u hc hj5
    refine lv_iconst (v := 1) hx hb d_M_isThere_9 (by decide) ?_
    refine lv_goto (tgt := 14) hx hb d_M_isThere_10 (by decide) ?_
    cases hj5
    exact Khj5 _ _ _ I (lv_sub hl [1] rfl)
def rm_M_branches : Room := { frames := 3, cells := 0, slots := 0, locals := 67 }
noncomputable def f_M_branches_L11 (kx : St → Option (St)) (x1 : Int32) (x2 : Int32) (x3 : Int32) : Nat → St → Int32 → Option (St)
  | 0, _, _ => none
  | n + 1, u, x4 => if x3 ≤ x4 then (kx u) else (cI (f_M_isThere u x1 (x4 + 1)) fun r6 u4 => if r6 = 0 then (some u4) else (gd x4 4000 (bnd (if (u4.2 0 x4.toNatClampNeg) = 0 then (1) else (0)) fun (z7 : Int32) => cI (f_M_must u4 z7 24 x1) fun r10 u8 => if r10 = 0 then (some u8) else (f_M_branches_L11 kx x1 x2 x3 n u8 (x4 + 1)))))
noncomputable def f_M_branches_L193 (kx : St → Option (St)) (x1 : Int32) (x3 : Int32) (x4 : Int32) : Nat → St → Int32 → Option (St)
  | 0, _, _ => none
  | n + 1, u, x5 => if x4 ≤ x5 then (kx u) else (cI (f_M_isThere u x1 (((x3 + 8) + (8 * x5)) + 4)) fun r26 u24 => if r26 = 0 then (some u24) else (if x5 ≤ 0 then (cI (f_M_isThere u24 x1 (((x3 + 8) + (8 * x5)) + 8)) fun r29 u27 => if r29 = 0 then (some u27) else (f_M_branches_L193 kx x1 x3 x4 n u27 (x5 + 1))) else (cI (f_M_four u24 (((x3 + 8) + (8 * x5)) - 8)) fun r32 u30 => cI (f_M_four u30 ((x3 + 8) + (8 * x5))) fun r35 u33 => bnd (if r35 ≤ r32 then (0) else (1)) fun (z36 : Int32) => cI (f_M_must u33 z36 24 x1) fun r39 u37 => if r39 = 0 then (some u37) else (cI (f_M_isThere u37 x1 (((x3 + 8) + (8 * x5)) + 8)) fun r42 u40 => if r42 = 0 then (some u40) else (f_M_branches_L193 kx x1 x3 x4 n u40 (x5 + 1))))))
noncomputable def f_M_branches (u : St) (x1 : Int32) (x2 : Int32) : Option (St) := cI (f_M_numbersOf u x1) fun r3 u1 => f_M_branches_L11 (fun u12 => bnd (if x2 = 0 then (8) else (12)) fun (z13 : Int32) => cI (f_M_isThere u12 x1 (r3 + z13)) fun r16 u14 => if r16 = 0 then (some u14) else (cI (f_M_four u14 (r3 + 4)) fun r19 u17 => if x2 = 0 then (bnd (if r19 < 0 then (0) else (if 250 < r19 then (0) else (1))) fun (z20 : Int32) => cI (f_M_must u17 z20 24 x1) fun r23 u21 => if r23 = 0 then (some u21) else (f_M_branches_L193 (fun u44 => some u44) x1 r3 r19 FU u21 0)) else (cI (f_M_four u17 (r3 + 8)) fun r48 u46 => bnd (if (lg_cmp (((r48).toInt64 - (r19).toInt64) + 1) 1) < 0 then (0) else (if 0 < (lg_cmp (((r48).toInt64 - (r19).toInt64) + 1) 500) then (0) else (1))) fun (z49 : Int32) => cI (f_M_must u46 z49 24 x1) fun r52 u50 => cT (if r52 = 0 then (some (u50)) else (cI (f_M_isThere u50 x1 ((r3 + 12) + (4 * (((r48).toInt64 - (r19).toInt64) + 1).toInt32))) fun r57 u55 => some (u55))) fun (u53 : St) => some u53))) x1 x2 r3 FU u1 (x1 + 1)
set_option maxHeartbeats 4000000 in
set_option maxRecDepth 100000 in
theorem w_M_branches_L11 {Z : zT} {D : va_G} {cs : Nat → ClassId} {a : Nat → Nat} {p : Program} {l : Launch} {e : Env} {s : State} {m : MethodId} {args : Array Value} {below : List Frame} {meth : Method} {c : Code} {Q : State → Prop} {F : St} {kx : St → Option (St)} {x1 : Int32} {x2 : Int32} {x3 : Int32} (C : Cx clA R_M prog_9_method_55_code 7 D cs (mW a cs) Z p s m args c) (hE : ∀ (u2 : St) (H : Heap) (locs : List Loc) (ls : Array Slot), kx u2 = some F → Dy clA D (mW a cs) s H locs u2 → lv_has ls 7 [(0, .ref (a 0)), (1, .int x1), (2, .int x2), (3, .int x3)] → W p l e rm_M_branches s m args below meth c H locs 0 0 Q (F0 m 61 ls [])) (hQ : ∀ (H : Heap) (locs : List Loc) (pc : Nat) (ls : Array Slot) (u1 : St), Dy clA D (mW a cs) s H locs u1 → some u1 = some F → decode prog_9_method_55_code pc = .ok (.return_, 1) → W p l e rm_M_branches s m args below meth c H locs 0 0 Q (F0 m pc ls [])): ∀ (n : Nat) (u : St) (x4 : Int32) (H : Heap) (locs : List Loc) (ls : Array Slot), f_M_branches_L11 kx x1 x2 x3 n u x4 = some F → Dy clA D (mW a cs) s H locs u → lv_has ls 7 [(0, .ref (a 0)), (1, .int x1), (2, .int x2), (3, .int x3), (4, .int x4)] → W p l e rm_M_branches s m args below meth c H locs 0 0 Q (F0 m 11 ls []) := by
  have hx := C.1.1
  have hb := C.1.2.1
  intro n
  induction n with
  | zero =>
    intro u x4 H locs ls hk I hl
    rw [f_M_branches_L11] at hk
    cases hk
  | succ n ih =>
    intro u x4 H locs ls hk I hl
    rw [f_M_branches_L11] at hk
    refine lv_iload hx hb d_M_branches_11 (lv_at hl 4 rfl) ?_
    refine lv_iload_n hx hb d_M_branches_13 rfl (lv_at hl 3 rfl) ?_
    refine lv_icmp_ge (tgt := 61) hx hb d_M_branches_14 (by decide) (fun hc => ?_) (fun hc => ?_)
    · replace hk := it_u hc hk
      exact hE u _ _ _ hk I (lv_sub hl [0, 1, 2, 3] rfl)
    · replace hk := ie_u hc hk
      refine lv_aload_n hx hb d_M_branches_17 rfl (lv_at hl 0 rfl) ?_
      refine lv_iload_n hx hb d_M_branches_18 rfl (lv_at hl 1 rfl) ?_
      refine lv_iload hx hb d_M_branches_19 (lv_at hl 4 rfl) ?_
      refine lv_iconst (v := 1) hx hb d_M_branches_21 (by decide) ?_
      refine lv_iadd hx hb d_M_branches_22 ?_
      obtain ⟨r6, u4, h5, hk⟩ := cI_u hk
      refine go_I I (call_runV (rest := []) C I (c_M_isThere C.2.2.2.1 C.2.2.2.2.1 l h5 _) wd_M_isThere (q0 := 0) (ci := 7) rfl rfl k_1000 ⟨rfl, rfl⟩ ⟨by decide, by decide⟩ rfl hl.1 rfl (Nat.le_of_ble_eq_true rfl) d_M_branches_23) (fun H locs I => ?_)
      refine lv_if_eq (tgt := 54) hx hb d_M_branches_26 (by decide) (fun hc => ?_) (fun hc => ?_)
      · replace hk := it_u hc hk
        exact hQ _ _ _ _ _ I hk d_M_branches_54
      · replace hk := ie_u hc hk
        refine lv_aload_n hx hb d_M_branches_29 rfl (lv_at hl 0 rfl) ?_
        refine lv_aload_n hx hb d_M_branches_30 rfl (lv_at hl 0 rfl) ?_
        refine g_M_file C I k_694 d_M_branches_31 ?_
        refine lv_iload hx hb d_M_branches_34 (lv_at hl 4 rfl) ?_
        obtain ⟨hi, hk⟩ := gd_u hk
        refine l_M_file C I hi d_M_branches_36 ?_
        obtain ⟨z7, hj11, hk⟩ := bnd_u hk
        have Khj11 : ∀ (H : Heap) (locs : List Loc) (ls : Array Slot), Dy clA D (mW a cs) s H locs u4 → lv_has ls 7 [(0, .ref (a 0)), (1, .int x1), (2, .int x2), (3, .int x3), (4, .int x4)] → W p l e rm_M_branches s m args below meth c H locs 0 0 Q (F0 m 45 ls [.int z7, .ref (a 0)]) := by
          intro H locs ls I hl
          refine lv_bipush (v := 24) hx hb d_M_branches_45 (by decide) ?_
          refine lv_iload_n hx hb d_M_branches_47 rfl (lv_at hl 1 rfl) ?_
          obtain ⟨r10, u8, h9, hk⟩ := cI_u hk
          refine go_I I (call_runV (rest := []) C I (c_M_must C.2.2.2.1 C.2.2.2.2.1 l h9 _) wd_M_must (q0 := 0) (ci := 7) rfl rfl k_843 ⟨rfl, rfl⟩ ⟨by decide, by decide⟩ rfl hl.1 rfl (Nat.le_of_ble_eq_true rfl) d_M_branches_48) (fun H locs I => ?_)
          refine lv_if_ne (tgt := 55) hx hb d_M_branches_51 (by decide) (fun hc => ?_) (fun hc => ?_)
          · replace hk := ie_u hc hk
            refine lv_iinc (v := (x4 + 1)) (lv' := [(4, .int (x4 + 1)), (0, .ref (a 0)), (1, .int x1), (2, .int x2), (3, .int x3)]) hx hb d_M_branches_55 hl (k := 4) rfl rfl (by decide) rfl (fun ls hl => ?_)
            refine lv_goto (tgt := 11) hx hb d_M_branches_58 (by decide) ?_
            exact ih u8 (x4 + 1) _ _ _ hk I (lv_sub hl [1, 2, 3, 4, 0] rfl)
          · replace hk := it_u hc hk
            exact hQ _ _ _ _ _ I hk d_M_branches_54
        refine lv_if_ne (tgt := 44) hx hb d_M_branches_37 (by decide) (fun hc => ?_) (fun hc => ?_)
        · replace hj11 := ie_u hc hj11
          refine lv_iconst (v := 0) hx hb d_M_branches_44 (by decide) ?_
          cases hj11
          exact Khj11 _ _ _ I (lv_sub hl [0, 1, 2, 3, 4] rfl)
        · replace hj11 := it_u hc hj11
          refine lv_iconst (v := 1) hx hb d_M_branches_40 (by decide) ?_
          refine lv_goto (tgt := 45) hx hb d_M_branches_41 (by decide) ?_
          cases hj11
          exact Khj11 _ _ _ I (lv_sub hl [0, 1, 2, 3, 4] rfl)
set_option maxHeartbeats 4000000 in
set_option maxRecDepth 100000 in
theorem w_M_branches_L193 {Z : zT} {D : va_G} {cs : Nat → ClassId} {a : Nat → Nat} {p : Program} {l : Launch} {e : Env} {s : State} {m : MethodId} {args : Array Value} {below : List Frame} {meth : Method} {c : Code} {Q : State → Prop} {F : St} {kx : St → Option (St)} {x1 : Int32} {x3 : Int32} {x4 : Int32} (C : Cx clA R_M prog_9_method_55_code 7 D cs (mW a cs) Z p s m args c) (hE : ∀ (u2 : St) (H : Heap) (locs : List Loc) (ls : Array Slot), kx u2 = some F → Dy clA D (mW a cs) s H locs u2 → lv_has ls 7 [] → W p l e rm_M_branches s m args below meth c H locs 0 0 Q (F0 m 282 ls [])) (hQ : ∀ (H : Heap) (locs : List Loc) (pc : Nat) (ls : Array Slot) (u1 : St), Dy clA D (mW a cs) s H locs u1 → some u1 = some F → decode prog_9_method_55_code pc = .ok (.return_, 1) → W p l e rm_M_branches s m args below meth c H locs 0 0 Q (F0 m pc ls [])): ∀ (n : Nat) (u : St) (x5 : Int32) (H : Heap) (locs : List Loc) (ls : Array Slot), f_M_branches_L193 kx x1 x3 x4 n u x5 = some F → Dy clA D (mW a cs) s H locs u → lv_has ls 7 [(0, .ref (a 0)), (1, .int x1), (3, .int x3), (4, .int x4), (5, .int x5)] → W p l e rm_M_branches s m args below meth c H locs 0 0 Q (F0 m 193 ls []) := by
  have hx := C.1.1
  have hb := C.1.2.1
  intro n
  induction n with
  | zero =>
    intro u x5 H locs ls hk I hl
    rw [f_M_branches_L193] at hk
    cases hk
  | succ n ih =>
    intro u x5 H locs ls hk I hl
    rw [f_M_branches_L193] at hk
    refine lv_iload hx hb d_M_branches_193 (lv_at hl 4 rfl) ?_
    refine lv_iload hx hb d_M_branches_195 (lv_at hl 3 rfl) ?_
    refine lv_icmp_ge (tgt := 282) hx hb d_M_branches_197 (by decide) (fun hc => ?_) (fun hc => ?_)
    · replace hk := it_u hc hk
      exact hE u _ _ _ hk I (lv_sub hl [] rfl)
    · replace hk := ie_u hc hk
      refine lv_iload_n hx hb d_M_branches_200 rfl (lv_at hl 2 rfl) ?_
      refine lv_bipush (v := 8) hx hb d_M_branches_201 (by decide) ?_
      refine lv_iadd hx hb d_M_branches_203 ?_
      refine lv_bipush (v := 8) hx hb d_M_branches_204 (by decide) ?_
      refine lv_iload hx hb d_M_branches_206 (lv_at hl 4 rfl) ?_
      refine lv_imul hx hb d_M_branches_208 ?_
      refine lv_iadd hx hb d_M_branches_209 ?_
      refine lv_istore (lv' := [(6, .int ((x3 + 8) + (8 * x5))), (0, .ref (a 0)), (1, .int x1), (3, .int x3), (4, .int x4), (5, .int x5)]) hx hb d_M_branches_210 hl (by decide) rfl (fun ls hl => ?_)
      refine lv_aload_n hx hb d_M_branches_212 rfl (lv_at hl 1 rfl) ?_
      refine lv_iload_n hx hb d_M_branches_213 rfl (lv_at hl 2 rfl) ?_
      refine lv_iload hx hb d_M_branches_214 (lv_at hl 0 rfl) ?_
      refine lv_iconst (v := 4) hx hb d_M_branches_216 (by decide) ?_
      refine lv_iadd hx hb d_M_branches_217 ?_
      obtain ⟨r26, u24, h25, hk⟩ := cI_u hk
      refine go_I I (call_runV (rest := []) C I (c_M_isThere C.2.2.2.1 C.2.2.2.2.1 l h25 _) wd_M_isThere (q0 := 0) (ci := 7) rfl rfl k_1000 ⟨rfl, rfl⟩ ⟨by decide, by decide⟩ rfl hl.1 rfl (Nat.le_of_ble_eq_true rfl) d_M_branches_218) (fun H locs I => ?_)
      refine lv_if_eq (tgt := 275) hx hb d_M_branches_221 (by decide) (fun hc => ?_) (fun hc => ?_)
      · replace hk := it_u hc hk
        exact hQ _ _ _ _ _ I hk d_M_branches_275
      · replace hk := ie_u hc hk
        refine lv_iload hx hb d_M_branches_224 (lv_at hl 5 rfl) ?_
        refine lv_if_le (tgt := 262) hx hb d_M_branches_226 (by decide) (fun hc => ?_) (fun hc => ?_)
        · replace hk := it_u hc hk
          refine lv_aload_n hx hb d_M_branches_262 rfl (lv_at hl 1 rfl) ?_
          refine lv_iload_n hx hb d_M_branches_263 rfl (lv_at hl 2 rfl) ?_
          refine lv_iload hx hb d_M_branches_264 (lv_at hl 0 rfl) ?_
          refine lv_bipush (v := 8) hx hb d_M_branches_266 (by decide) ?_
          refine lv_iadd hx hb d_M_branches_268 ?_
          obtain ⟨r29, u27, h28, hk⟩ := cI_u hk
          refine go_I I (call_runV (rest := []) C I (c_M_isThere C.2.2.2.1 C.2.2.2.2.1 l h28 _) wd_M_isThere (q0 := 0) (ci := 7) rfl rfl k_1000 ⟨rfl, rfl⟩ ⟨by decide, by decide⟩ rfl hl.1 rfl (Nat.le_of_ble_eq_true rfl) d_M_branches_269) (fun H locs I => ?_)
          refine lv_if_ne (tgt := 276) hx hb d_M_branches_272 (by decide) (fun hc => ?_) (fun hc => ?_)
          · replace hk := ie_u hc hk
            refine lv_iinc (v := (x5 + 1)) (lv' := [(5, .int (x5 + 1)), (6, .int ((x3 + 8) + (8 * x5))), (0, .ref (a 0)), (1, .int x1), (3, .int x3), (4, .int x4)]) hx hb d_M_branches_276 hl (k := 5) rfl rfl (by decide) rfl (fun ls hl => ?_)
            refine lv_goto (tgt := 193) hx hb d_M_branches_279 (by decide) ?_
            exact ih u27 (x5 + 1) _ _ _ hk I (lv_sub hl [2, 3, 4, 5, 0] rfl)
          · replace hk := it_u hc hk
            exact hQ _ _ _ _ _ I hk d_M_branches_275
        · replace hk := ie_u hc hk
          refine lv_aload_n hx hb d_M_branches_229 rfl (lv_at hl 1 rfl) ?_
          refine lv_aload_n hx hb d_M_branches_230 rfl (lv_at hl 1 rfl) ?_
          refine lv_iload hx hb d_M_branches_231 (lv_at hl 0 rfl) ?_
          refine lv_bipush (v := 8) hx hb d_M_branches_233 (by decide) ?_
          refine lv_isub hx hb d_M_branches_235 ?_
          obtain ⟨r32, u30, h31, hk⟩ := cI_u hk
          refine go_I I (call_runV (rest := [.ref (a 0)]) C I (c_M_four C.2.2.2.1 C.2.2.2.2.1 l h31 _) wd_M_four (q0 := 0) (ci := 7) rfl rfl k_1004 ⟨rfl, rfl⟩ ⟨by decide, by decide⟩ rfl hl.1 rfl (Nat.le_of_ble_eq_true rfl) d_M_branches_236) (fun H locs I => ?_)
          refine lv_aload_n hx hb d_M_branches_239 rfl (lv_at hl 1 rfl) ?_
          refine lv_iload hx hb d_M_branches_240 (lv_at hl 0 rfl) ?_
          obtain ⟨r35, u33, h34, hk⟩ := cI_u hk
          refine go_I I (call_runV (rest := [.int r32, .ref (a 0)]) C I (c_M_four C.2.2.2.1 C.2.2.2.2.1 l h34 _) wd_M_four (q0 := 0) (ci := 7) rfl rfl k_1004 ⟨rfl, rfl⟩ ⟨by decide, by decide⟩ rfl hl.1 rfl (Nat.le_of_ble_eq_true rfl) d_M_branches_242) (fun H locs I => ?_)
          obtain ⟨z36, hj43, hk⟩ := bnd_u hk
          have Khj43 : ∀ (H : Heap) (locs : List Loc) (ls : Array Slot), Dy clA D (mW a cs) s H locs u33 → lv_has ls 7 [(0, .ref (a 0)), (1, .int x1), (3, .int x3), (4, .int x4), (5, .int x5), (6, .int ((x3 + 8) + (8 * x5)))] → W p l e rm_M_branches s m args below meth c H locs 0 0 Q (F0 m 253 ls [.int z36, .ref (a 0)]) := by
            intro H locs ls I hl
            refine lv_bipush (v := 24) hx hb d_M_branches_253 (by decide) ?_
            refine lv_iload_n hx hb d_M_branches_255 rfl (lv_at hl 1 rfl) ?_
            obtain ⟨r39, u37, h38, hk⟩ := cI_u hk
            refine go_I I (call_runV (rest := []) C I (c_M_must C.2.2.2.1 C.2.2.2.2.1 l h38 _) wd_M_must (q0 := 0) (ci := 7) rfl rfl k_843 ⟨rfl, rfl⟩ ⟨by decide, by decide⟩ rfl hl.1 rfl (Nat.le_of_ble_eq_true rfl) d_M_branches_256) (fun H locs I => ?_)
            refine lv_if_eq (tgt := 275) hx hb d_M_branches_259 (by decide) (fun hc => ?_) (fun hc => ?_)
            · replace hk := it_u hc hk
              exact hQ _ _ _ _ _ I hk d_M_branches_275
            · replace hk := ie_u hc hk
              refine lv_aload_n hx hb d_M_branches_262 rfl (lv_at hl 0 rfl) ?_
              refine lv_iload_n hx hb d_M_branches_263 rfl (lv_at hl 1 rfl) ?_
              refine lv_iload hx hb d_M_branches_264 (lv_at hl 5 rfl) ?_
              refine lv_bipush (v := 8) hx hb d_M_branches_266 (by decide) ?_
              refine lv_iadd hx hb d_M_branches_268 ?_
              obtain ⟨r42, u40, h41, hk⟩ := cI_u hk
              refine go_I I (call_runV (rest := []) C I (c_M_isThere C.2.2.2.1 C.2.2.2.2.1 l h41 _) wd_M_isThere (q0 := 0) (ci := 7) rfl rfl k_1000 ⟨rfl, rfl⟩ ⟨by decide, by decide⟩ rfl hl.1 rfl (Nat.le_of_ble_eq_true rfl) d_M_branches_269) (fun H locs I => ?_)
              refine lv_if_ne (tgt := 276) hx hb d_M_branches_272 (by decide) (fun hc => ?_) (fun hc => ?_)
              · replace hk := ie_u hc hk
                refine lv_iinc (v := (x5 + 1)) (lv' := [(5, .int (x5 + 1)), (0, .ref (a 0)), (1, .int x1), (3, .int x3), (4, .int x4), (6, .int ((x3 + 8) + (8 * x5)))]) hx hb d_M_branches_276 hl (k := 4) rfl rfl (by decide) rfl (fun ls hl => ?_)
                refine lv_goto (tgt := 193) hx hb d_M_branches_279 (by decide) ?_
                exact ih u40 (x5 + 1) _ _ _ hk I (lv_sub hl [1, 2, 3, 4, 0] rfl)
              · replace hk := it_u hc hk
                exact hQ _ _ _ _ _ I hk d_M_branches_275
          refine lv_icmp_ge (tgt := 252) hx hb d_M_branches_245 (by decide) (fun hc => ?_) (fun hc => ?_)
          · replace hj43 := it_u hc hj43
            refine lv_iconst (v := 0) hx hb d_M_branches_252 (by decide) ?_
            cases hj43
            exact Khj43 _ _ _ I (lv_sub hl [1, 2, 3, 4, 5, 0] rfl)
          · replace hj43 := ie_u hc hj43
            refine lv_iconst (v := 1) hx hb d_M_branches_248 (by decide) ?_
            refine lv_goto (tgt := 253) hx hb d_M_branches_249 (by decide) ?_
            cases hj43
            exact Khj43 _ _ _ I (lv_sub hl [1, 2, 3, 4, 5, 0] rfl)
set_option maxHeartbeats 4000000 in
set_option maxRecDepth 100000 in
theorem c_M_branches {Z : zT} {D : va_G} {cs : Nat → ClassId} {a : Nat → Nat} (hw : wD (mW a cs)) (hz : zOK Z) (l : Launch) {u : St} {x1 : Int32} {x2 : Int32} {u' : St} (hk : f_M_branches u x1 x2 = some u') : KV clA D cs (mW a cs) Z l y_M_branches (.code y_M_branches prog_9_method_55_code 7 (Option.none : Option Jvm.ClassFile.FieldType)) rm_M_branches [.ref (a 0), .int x1, .int x2] u u' := by
  unfold f_M_branches at hk
  refine KV.of (by decide) (Nat.le_of_ble_eq_true rfl) hw hz ?_
  intro p e s m args below meth c Q C I hQ ls hl
  have hl : lv_has ls 7 [(0, .ref (a 0)), (1, .int x1), (2, .int x2)] := hl
  have hx := C.1.1
  have hb := C.1.2.1
  refine lv_aload_n hx hb d_M_branches_0 rfl (lv_at hl 0 rfl) ?_
  refine lv_iload_n hx hb d_M_branches_1 rfl (lv_at hl 1 rfl) ?_
  obtain ⟨r3, u1, h2, hk⟩ := cI_u hk
  refine go_I I (call_runV (rest := []) C I (c_M_numbersOf C.2.2.2.1 C.2.2.2.2.1 l h2 _) wd_M_numbersOf (q0 := 0) (ci := 7) rfl rfl k_996 ⟨rfl, rfl⟩ ⟨by decide, by decide⟩ rfl hl.1 rfl (Nat.le_of_ble_eq_true rfl) d_M_branches_2) (fun H locs I => ?_)
  refine lv_istore_n (lv' := [(3, .int r3), (0, .ref (a 0)), (1, .int x1), (2, .int x2)]) hx hb d_M_branches_5 rfl hl (by decide) rfl (fun ls hl => ?_)
  refine lv_iload_n hx hb d_M_branches_6 rfl (lv_at hl 2 rfl) ?_
  refine lv_iconst (v := 1) hx hb d_M_branches_7 (by decide) ?_
  refine lv_iadd hx hb d_M_branches_8 ?_
  refine lv_istore (lv' := [(4, .int (x1 + 1)), (3, .int r3), (0, .ref (a 0)), (1, .int x1), (2, .int x2)]) hx hb d_M_branches_9 hl (by decide) rfl (fun ls hl => ?_)
  refine w_M_branches_L11 C (fun u12 H locs ls hk I hl => ?_) hQ FU u1 (x1 + 1) _ _ _ hk I (lv_sub hl [2, 3, 4, 1, 0] rfl)
  refine lv_aload_n hx hb d_M_branches_61 rfl (lv_at hl 0 rfl) ?_
  refine lv_iload_n hx hb d_M_branches_62 rfl (lv_at hl 1 rfl) ?_
  refine lv_iload_n hx hb d_M_branches_63 rfl (lv_at hl 3 rfl) ?_
  refine lv_iload_n hx hb d_M_branches_64 rfl (lv_at hl 2 rfl) ?_
  obtain ⟨z13, hj59, hk⟩ := bnd_u hk
  have Khj59 : ∀ (H : Heap) (locs : List Loc) (ls : Array Slot), Dy clA D (mW a cs) s H locs u12 → lv_has ls 7 [(0, .ref (a 0)), (1, .int x1), (2, .int x2), (3, .int r3)] → W p l e rm_M_branches s m args below meth c H locs 0 0 Q (F0 m 75 ls [.int z13, .int r3, .int x1, .ref (a 0)]) := by
    intro H locs ls I hl
    refine lv_iadd hx hb d_M_branches_75 ?_
    obtain ⟨r16, u14, h15, hk⟩ := cI_u hk
    refine go_I I (call_runV (rest := []) C I (c_M_isThere C.2.2.2.1 C.2.2.2.2.1 l h15 _) wd_M_isThere (q0 := 0) (ci := 7) rfl rfl k_1000 ⟨rfl, rfl⟩ ⟨by decide, by decide⟩ rfl hl.1 rfl (Nat.le_of_ble_eq_true rfl) d_M_branches_76) (fun H locs I => ?_)
    refine lv_if_ne (tgt := 83) hx hb d_M_branches_79 (by decide) (fun hc => ?_) (fun hc => ?_)
    · replace hk := ie_u hc hk
      refine lv_aload_n hx hb d_M_branches_83 rfl (lv_at hl 0 rfl) ?_
      refine lv_iload_n hx hb d_M_branches_84 rfl (lv_at hl 3 rfl) ?_
      refine lv_iconst (v := 4) hx hb d_M_branches_85 (by decide) ?_
      refine lv_iadd hx hb d_M_branches_86 ?_
      obtain ⟨r19, u17, h18, hk⟩ := cI_u hk
      refine go_I I (call_runV (rest := []) C I (c_M_four C.2.2.2.1 C.2.2.2.2.1 l h18 _) wd_M_four (q0 := 0) (ci := 7) rfl rfl k_1004 ⟨rfl, rfl⟩ ⟨by decide, by decide⟩ rfl hl.1 rfl (Nat.le_of_ble_eq_true rfl) d_M_branches_87) (fun H locs I => ?_)
      refine lv_istore (lv' := [(4, .int r19), (0, .ref (a 0)), (1, .int x1), (2, .int x2), (3, .int r3)]) hx hb d_M_branches_90 hl (by decide) rfl (fun ls hl => ?_)
      refine lv_iload_n hx hb d_M_branches_92 rfl (lv_at hl 3 rfl) ?_
      refine lv_if_eq (tgt := 161) hx hb d_M_branches_93 (by decide) (fun hc => ?_) (fun hc => ?_)
      · replace hk := it_u hc hk
        refine lv_aload_n hx hb d_M_branches_161 rfl (lv_at hl 1 rfl) ?_
        refine lv_iload hx hb d_M_branches_162 (lv_at hl 0 rfl) ?_
        obtain ⟨z20, hj45, hk⟩ := bnd_u hk
        have Khj45 : ∀ (H : Heap) (locs : List Loc) (ls : Array Slot), Dy clA D (mW a cs) s H locs u17 → lv_has ls 7 [(0, .ref (a 0)), (1, .int x1), (3, .int r3), (4, .int r19)] → W p l e rm_M_branches s m args below meth c H locs 0 0 Q (F0 m 180 ls [.int z20, .ref (a 0)]) := by
          intro H locs ls I hl
          refine lv_bipush (v := 24) hx hb d_M_branches_180 (by decide) ?_
          refine lv_iload_n hx hb d_M_branches_182 rfl (lv_at hl 1 rfl) ?_
          obtain ⟨r23, u21, h22, hk⟩ := cI_u hk
          refine go_I I (call_runV (rest := []) C I (c_M_must C.2.2.2.1 C.2.2.2.2.1 l h22 _) wd_M_must (q0 := 0) (ci := 7) rfl rfl k_843 ⟨rfl, rfl⟩ ⟨by decide, by decide⟩ rfl hl.1 rfl (Nat.le_of_ble_eq_true rfl) d_M_branches_183) (fun H locs I => ?_)
          refine lv_if_ne (tgt := 190) hx hb d_M_branches_186 (by decide) (fun hc => ?_) (fun hc => ?_)
          · replace hk := ie_u hc hk
            refine lv_iconst (v := 0) hx hb d_M_branches_190 (by decide) ?_
            refine lv_istore (lv' := [(5, .int 0), (0, .ref (a 0)), (1, .int x1), (3, .int r3), (4, .int r19)]) hx hb d_M_branches_191 hl (by decide) rfl (fun ls hl => ?_)
            refine w_M_branches_L193 C (fun u44 H locs ls hk I hl => ?_) hQ FU u21 0 _ _ _ hk I (lv_sub hl [1, 2, 3, 4, 0] rfl)
            exact hQ _ _ _ _ _ I hk d_M_branches_282
          · replace hk := it_u hc hk
            exact hQ _ _ _ _ _ I hk d_M_branches_189
        refine lv_if_lt (tgt := 179) hx hb d_M_branches_164 (by decide) (fun hc => ?_) (fun hc => ?_)
        · replace hj45 := it_u hc hj45
          refine lv_iconst (v := 0) hx hb d_M_branches_179 (by decide) ?_
          cases hj45
          exact Khj45 _ _ _ I (lv_sub hl [1, 2, 4, 0] rfl)
        · replace hj45 := ie_u hc hj45
          refine lv_iload hx hb d_M_branches_167 (lv_at hl 0 rfl) ?_
          refine lv_sipush (v := 250) hx hb d_M_branches_169 (by decide) ?_
          refine lv_icmp_gt (tgt := 179) hx hb d_M_branches_172 (by decide) (fun hc => ?_) (fun hc => ?_)
          · replace hj45 := it_u hc hj45
            refine lv_iconst (v := 0) hx hb d_M_branches_179 (by decide) ?_
            cases hj45
            exact Khj45 _ _ _ I (lv_sub hl [1, 2, 4, 0] rfl)
          · replace hj45 := ie_u hc hj45
            refine lv_iconst (v := 1) hx hb d_M_branches_175 (by decide) ?_
            refine lv_goto (tgt := 180) hx hb d_M_branches_176 (by decide) ?_
            cases hj45
            exact Khj45 _ _ _ I (lv_sub hl [1, 2, 4, 0] rfl)
      · replace hk := ie_u hc hk
        refine lv_aload_n hx hb d_M_branches_96 rfl (lv_at hl 1 rfl) ?_
        refine lv_iload_n hx hb d_M_branches_97 rfl (lv_at hl 4 rfl) ?_
        refine lv_bipush (v := 8) hx hb d_M_branches_98 (by decide) ?_
        refine lv_iadd hx hb d_M_branches_100 ?_
        obtain ⟨r48, u46, h47, hk⟩ := cI_u hk
        refine go_I I (call_runV (rest := []) C I (c_M_four C.2.2.2.1 C.2.2.2.2.1 l h47 _) wd_M_four (q0 := 0) (ci := 7) rfl rfl k_1004 ⟨rfl, rfl⟩ ⟨by decide, by decide⟩ rfl hl.1 rfl (Nat.le_of_ble_eq_true rfl) d_M_branches_101) (fun H locs I => ?_)
        refine lv_i2l (v := (r48).toInt64) hx hb d_M_branches_104 rfl ?_
        refine lv_iload hx hb d_M_branches_105 (lv_at hl 0 rfl) ?_
        refine lv_i2l (v := (r19).toInt64) hx hb d_M_branches_107 rfl ?_
        refine lv_lsub hx hb d_M_branches_108 ?_
        refine lv_lconst (v := 1) hx hb d_M_branches_109 (by decide) ?_
        refine lv_ladd hx hb d_M_branches_110 ?_
        refine lv_lstore (lv' := [(5, .long (((r48).toInt64 - (r19).toInt64) + 1)), (4, .int r19), (0, .ref (a 0)), (1, .int x1), (2, .int x2), (3, .int r3)]) hx hb d_M_branches_111 hl (by decide) rfl (fun ls hl => ?_)
        refine lv_aload_n hx hb d_M_branches_113 rfl (lv_at hl 2 rfl) ?_
        refine lv_lload hx hb d_M_branches_114 (lv_at hl 0 rfl) ?_
        refine lv_lconst (v := 1) hx hb d_M_branches_116 (by decide) ?_
        refine W.lcmp hx hb d_M_branches_117 ?_
        obtain ⟨z49, hj58, hk⟩ := bnd_u hk
        have Khj58 : ∀ (H : Heap) (locs : List Loc) (ls : Array Slot), Dy clA D (mW a cs) s H locs u46 → lv_has ls 7 [(0, .ref (a 0)), (1, .int x1), (3, .int r3), (5, .long (((r48).toInt64 - (r19).toInt64) + 1))] → W p l e rm_M_branches s m args below meth c H locs 0 0 Q (F0 m 135 ls [.int z49, .ref (a 0)]) := by
          intro H locs ls I hl
          refine lv_bipush (v := 24) hx hb d_M_branches_135 (by decide) ?_
          refine lv_iload_n hx hb d_M_branches_137 rfl (lv_at hl 1 rfl) ?_
          obtain ⟨r52, u50, h51, hk⟩ := cI_u hk
          refine go_I I (call_runV (rest := []) C I (c_M_must C.2.2.2.1 C.2.2.2.2.1 l h51 _) wd_M_must (q0 := 0) (ci := 7) rfl rfl k_843 ⟨rfl, rfl⟩ ⟨by decide, by decide⟩ rfl hl.1 rfl (Nat.le_of_ble_eq_true rfl) d_M_branches_138) (fun H locs I => ?_)
          obtain ⟨u53, hj54, hk⟩ := cT_u hk
          have Khj54 : ∀ (H : Heap) (locs : List Loc) (ls : Array Slot), Dy clA D (mW a cs) s H locs u53 → lv_has ls 7 [] → W p l e rm_M_branches s m args below meth c H locs 0 0 Q (F0 m 160 ls []) := by
            intro H locs ls I hl
            exact hQ _ _ _ _ _ I hk d_M_branches_160
          refine lv_if_eq (tgt := 160) hx hb d_M_branches_141 (by decide) (fun hc => ?_) (fun hc => ?_)
          · replace hj54 := it_u hc hj54
            cases hj54
            exact Khj54 _ _ _ I (lv_sub hl [] rfl)
          · replace hj54 := ie_u hc hj54
            refine lv_aload_n hx hb d_M_branches_144 rfl (lv_at hl 0 rfl) ?_
            refine lv_iload_n hx hb d_M_branches_145 rfl (lv_at hl 1 rfl) ?_
            refine lv_iload_n hx hb d_M_branches_146 rfl (lv_at hl 2 rfl) ?_
            refine lv_bipush (v := 12) hx hb d_M_branches_147 (by decide) ?_
            refine lv_iadd hx hb d_M_branches_149 ?_
            refine lv_iconst (v := 4) hx hb d_M_branches_150 (by decide) ?_
            refine lv_lload hx hb d_M_branches_151 (lv_at hl 3 rfl) ?_
            refine lv_l2i (v := (((r48).toInt64 - (r19).toInt64) + 1).toInt32) hx hb d_M_branches_153 rfl ?_
            refine lv_imul hx hb d_M_branches_154 ?_
            refine lv_iadd hx hb d_M_branches_155 ?_
            obtain ⟨r57, u55, h56, hj54⟩ := cI_u hj54
            refine go_I I (call_runV (rest := []) C I (c_M_isThere C.2.2.2.1 C.2.2.2.2.1 l h56 _) wd_M_isThere (q0 := 0) (ci := 7) rfl rfl k_1000 ⟨rfl, rfl⟩ ⟨by decide, by decide⟩ rfl hl.1 rfl (Nat.le_of_ble_eq_true rfl) d_M_branches_156) (fun H locs I => ?_)
            refine lv_pop hx hb d_M_branches_159 rfl ?_
            cases hj54
            exact Khj54 _ _ _ I (lv_sub hl [] rfl)
        refine lv_if_lt (tgt := 134) hx hb d_M_branches_118 (by decide) (fun hc => ?_) (fun hc => ?_)
        · replace hj58 := it_u hc hj58
          refine lv_iconst (v := 0) hx hb d_M_branches_134 (by decide) ?_
          cases hj58
          exact Khj58 _ _ _ I (lv_sub hl [2, 3, 5, 0] rfl)
        · replace hj58 := ie_u hc hj58
          refine lv_lload hx hb d_M_branches_121 (lv_at hl 0 rfl) ?_
          refine lv_ldc2 hx hb C.1.2.2.2 (C.2.1 _ k_1008) d_M_branches_123 ?_
          refine W.lcmp hx hb d_M_branches_126 ?_
          refine lv_if_gt (tgt := 134) hx hb d_M_branches_127 (by decide) (fun hc => ?_) (fun hc => ?_)
          · replace hj58 := it_u hc hj58
            refine lv_iconst (v := 0) hx hb d_M_branches_134 (by decide) ?_
            cases hj58
            exact Khj58 _ _ _ I (lv_sub hl [2, 3, 5, 0] rfl)
          · replace hj58 := ie_u hc hj58
            refine lv_iconst (v := 1) hx hb d_M_branches_130 (by decide) ?_
            refine lv_goto (tgt := 135) hx hb d_M_branches_131 (by decide) ?_
            cases hj58
            exact Khj58 _ _ _ I (lv_sub hl [2, 3, 5, 0] rfl)
    · replace hk := it_u hc hk
      exact hQ _ _ _ _ _ I hk d_M_branches_82
  refine lv_if_eq (tgt := 73) hx hb d_M_branches_65 (by decide) (fun hc => ?_) (fun hc => ?_)
  · replace hj59 := it_u hc hj59
    refine lv_bipush (v := 8) hx hb d_M_branches_73 (by decide) ?_
    cases hj59
    exact Khj59 _ _ _ I (lv_sub hl [0, 1, 2, 3] rfl)
  · replace hj59 := ie_u hc hj59
    refine lv_bipush (v := 12) hx hb d_M_branches_68 (by decide) ?_
    refine lv_goto (tgt := 75) hx hb d_M_branches_70 (by decide) ?_
    cases hj59
    exact Khj59 _ _ _ I (lv_sub hl [0, 1, 2, 3] rfl)
def rm_M_isBarred : Room := { frames := 0, cells := 0, slots := 0, locals := 0 }
noncomputable def f_M_isBarred (u : St) (x0 : Int32) : Option (Int32 × St) := bnd (if x0 < 11 then (if x0 = 23 then (1) else (if x0 = 24 then (1) else (if x0 < 34 then (if x0 = 48 then (1) else (if x0 = 49 then (1) else (if x0 = 56 then (1) else (if x0 = 57 then (1) else (if x0 < 67 then (if x0 = 81 then (1) else (if x0 = 82 then (1) else (0))) else (if x0 ≤ 74 then (1) else (if x0 = 81 then (1) else (if x0 = 82 then (1) else (0))))))))) else (if x0 ≤ 41 then (1) else (if x0 = 48 then (1) else (if x0 = 49 then (1) else (if x0 = 56 then (1) else (if x0 = 57 then (1) else (if x0 < 67 then (if x0 = 81 then (1) else (if x0 = 82 then (1) else (0))) else (if x0 ≤ 74 then (1) else (if x0 = 81 then (1) else (if x0 = 82 then (1) else (0))))))))))))) else (if x0 ≤ 15 then (1) else (if x0 = 23 then (1) else (if x0 = 24 then (1) else (if x0 < 34 then (if x0 = 48 then (1) else (if x0 = 49 then (1) else (if x0 = 56 then (1) else (if x0 = 57 then (1) else (if x0 < 67 then (if x0 = 81 then (1) else (if x0 = 82 then (1) else (0))) else (if x0 ≤ 74 then (1) else (if x0 = 81 then (1) else (if x0 = 82 then (1) else (0))))))))) else (if x0 ≤ 41 then (1) else (if x0 = 48 then (1) else (if x0 = 49 then (1) else (if x0 = 56 then (1) else (if x0 = 57 then (1) else (if x0 < 67 then (if x0 = 81 then (1) else (if x0 = 82 then (1) else (0))) else (if x0 ≤ 74 then (1) else (if x0 = 81 then (1) else (if x0 = 82 then (1) else (0))))))))))))))) fun (z1 : Int32) => bnd (if x0 < 96 then (0) else (if 119 < x0 then (0) else (if (x0 - x0 / 4 * 4) < 2 then (0) else (1)))) fun (z2 : Int32) => bnd (if x0 = 134 then (1) else (if x0 = 135 then (1) else (if x0 < 137 then (if x0 < 149 then (if x0 = 174 then (1) else (if x0 = 175 then (1) else (0))) else (if x0 ≤ 152 then (1) else (if x0 = 174 then (1) else (if x0 = 175 then (1) else (0))))) else (if x0 ≤ 144 then (1) else (if x0 < 149 then (if x0 = 174 then (1) else (if x0 = 175 then (1) else (0))) else (if x0 ≤ 152 then (1) else (if x0 = 174 then (1) else (if x0 = 175 then (1) else (0))))))))) fun (z3 : Int32) => bnd (if ((z1 ||| z2) ||| z3) = 0 then (if x0 = 168 then (1) else (if x0 = 169 then (1) else (if x0 = 186 then (1) else (if x0 = 194 then (1) else (if x0 = 195 then (1) else (if x0 ≤ 200 then (0) else (1))))))) else (1)) fun (z4 : Int32) => gb z4 (some (z4, u))
set_option maxHeartbeats 4000000 in
set_option maxRecDepth 100000 in
theorem c_M_isBarred {Z : zT} {D : va_G} {cs : Nat → ClassId} {a : Nat → Nat} (hw : wD (mW a cs)) (hz : zOK Z) (l : Launch) {u : St} {x0 : Int32} {r : Int32} {u' : St} (hk : f_M_isBarred u x0 = some (r, u')) : KI clA D cs (mW a cs) Z l y_M_isBarred (.code y_M_isBarred prog_9_method_46_code 2 (Option.some Jvm.ClassFile.FieldType.boolean)) rm_M_isBarred [.int x0] u r u' := by
  unfold f_M_isBarred at hk
  refine KZ.of (by decide) (Nat.le_of_ble_eq_true rfl) hw hz ?_
  intro p e s m args below meth c Q C I hQ ls hl
  have hl : lv_has ls 2 [(0, .int x0)] := hl
  have hx := C.1.1
  have hb := C.1.2.1
  refine lv_iload_n hx hb d_M_isBarred_0 rfl (lv_at hl 0 rfl) ?_
  refine lv_bipush (v := 11) hx hb d_M_isBarred_1 (by decide) ?_
  obtain ⟨z1, hj8, hk⟩ := bnd_u hk
  have Khj8 : ∀ (H : Heap) (locs : List Loc) (ls : Array Slot), Dy clA D (mW a cs) s H locs u → lv_has ls 2 [(0, .int x0)] → W p l e rm_M_isBarred s m args below meth c H locs 0 0 Q (F0 m 89 ls [.int z1]) := by
    intro H locs ls I hl
    refine lv_istore_n (lv' := [(1, .int z1), (0, .int x0)]) hx hb d_M_isBarred_89 rfl hl (by decide) rfl (fun ls hl => ?_)
    refine lv_iload_n hx hb d_M_isBarred_90 rfl (lv_at hl 0 rfl) ?_
    refine lv_iload_n hx hb d_M_isBarred_91 rfl (lv_at hl 1 rfl) ?_
    refine lv_bipush (v := 96) hx hb d_M_isBarred_92 (by decide) ?_
    obtain ⟨z2, hj7, hk⟩ := bnd_u hk
    have Khj7 : ∀ (H : Heap) (locs : List Loc) (ls : Array Slot), Dy clA D (mW a cs) s H locs u → lv_has ls 2 [(0, .int x0)] → W p l e rm_M_isBarred s m args below meth c H locs 0 0 Q (F0 m 115 ls [.int z2, .int z1]) := by
      intro H locs ls I hl
      refine lv_ior hx hb d_M_isBarred_115 ?_
      refine lv_istore_n (lv' := [(1, .int (z1 ||| z2)), (0, .int x0)]) hx hb d_M_isBarred_116 rfl hl (by decide) rfl (fun ls hl => ?_)
      refine lv_iload_n hx hb d_M_isBarred_117 rfl (lv_at hl 0 rfl) ?_
      refine lv_iload_n hx hb d_M_isBarred_118 rfl (lv_at hl 1 rfl) ?_
      refine lv_sipush (v := 134) hx hb d_M_isBarred_119 (by decide) ?_
      obtain ⟨z3, hj6, hk⟩ := bnd_u hk
      have Khj6 : ∀ (H : Heap) (locs : List Loc) (ls : Array Slot), Dy clA D (mW a cs) s H locs u → lv_has ls 2 [(0, .int x0)] → W p l e rm_M_isBarred s m args below meth c H locs 0 0 Q (F0 m 179 ls [.int z3, .int (z1 ||| z2)]) := by
        intro H locs ls I hl
        refine lv_ior hx hb d_M_isBarred_179 ?_
        refine lv_istore_n (lv' := [(1, .int ((z1 ||| z2) ||| z3)), (0, .int x0)]) hx hb d_M_isBarred_180 rfl hl (by decide) rfl (fun ls hl => ?_)
        refine lv_iload_n hx hb d_M_isBarred_181 rfl (lv_at hl 0 rfl) ?_
        obtain ⟨z4, hj5, hk⟩ := bnd_u hk
        have Khj5 : ∀ (H : Heap) (locs : List Loc) (ls : Array Slot), Dy clA D (mW a cs) s H locs u → lv_has ls 2 [] → W p l e rm_M_isBarred s m args below meth c H locs 0 0 Q (F0 m 232 ls [.int z4]) := by
          intro H locs ls I hl
          exact hQ _ _ _ _ _ _ I hk d_M_isBarred_232
        refine lv_if_ne (tgt := 227) hx hb d_M_isBarred_182 (by decide) (fun hc => ?_) (fun hc => ?_)
        · replace hj5 := ie_u hc hj5
          refine lv_iconst (v := 1) hx hb d_M_isBarred_227 (by decide) ?_
          refine lv_goto (tgt := 232) hx hb d_M_isBarred_228 (by decide) ?_
          cases hj5
          exact Khj5 _ _ _ I (lv_sub hl [] rfl)
        · replace hj5 := it_u hc hj5
          refine lv_iload_n hx hb d_M_isBarred_185 rfl (lv_at hl 1 rfl) ?_
          refine lv_sipush (v := 168) hx hb d_M_isBarred_186 (by decide) ?_
          refine lv_icmp_eq (tgt := 227) hx hb d_M_isBarred_189 (by decide) (fun hc => ?_) (fun hc => ?_)
          · replace hj5 := it_u hc hj5
            refine lv_iconst (v := 1) hx hb d_M_isBarred_227 (by decide) ?_
            refine lv_goto (tgt := 232) hx hb d_M_isBarred_228 (by decide) ?_
            cases hj5
            exact Khj5 _ _ _ I (lv_sub hl [] rfl)
          · replace hj5 := ie_u hc hj5
            refine lv_iload_n hx hb d_M_isBarred_192 rfl (lv_at hl 1 rfl) ?_
            refine lv_sipush (v := 169) hx hb d_M_isBarred_193 (by decide) ?_
            refine lv_icmp_eq (tgt := 227) hx hb d_M_isBarred_196 (by decide) (fun hc => ?_) (fun hc => ?_)
            · replace hj5 := it_u hc hj5
              refine lv_iconst (v := 1) hx hb d_M_isBarred_227 (by decide) ?_
              refine lv_goto (tgt := 232) hx hb d_M_isBarred_228 (by decide) ?_
              cases hj5
              exact Khj5 _ _ _ I (lv_sub hl [] rfl)
            · replace hj5 := ie_u hc hj5
              refine lv_iload_n hx hb d_M_isBarred_199 rfl (lv_at hl 1 rfl) ?_
              refine lv_sipush (v := 186) hx hb d_M_isBarred_200 (by decide) ?_
              refine lv_icmp_eq (tgt := 227) hx hb d_M_isBarred_203 (by decide) (fun hc => ?_) (fun hc => ?_)
              · replace hj5 := it_u hc hj5
                refine lv_iconst (v := 1) hx hb d_M_isBarred_227 (by decide) ?_
                refine lv_goto (tgt := 232) hx hb d_M_isBarred_228 (by decide) ?_
                cases hj5
                exact Khj5 _ _ _ I (lv_sub hl [] rfl)
              · replace hj5 := ie_u hc hj5
                refine lv_iload_n hx hb d_M_isBarred_206 rfl (lv_at hl 1 rfl) ?_
                refine lv_sipush (v := 194) hx hb d_M_isBarred_207 (by decide) ?_
                refine lv_icmp_eq (tgt := 227) hx hb d_M_isBarred_210 (by decide) (fun hc => ?_) (fun hc => ?_)
                · replace hj5 := it_u hc hj5
                  refine lv_iconst (v := 1) hx hb d_M_isBarred_227 (by decide) ?_
                  refine lv_goto (tgt := 232) hx hb d_M_isBarred_228 (by decide) ?_
                  cases hj5
                  exact Khj5 _ _ _ I (lv_sub hl [] rfl)
                · replace hj5 := ie_u hc hj5
                  refine lv_iload_n hx hb d_M_isBarred_213 rfl (lv_at hl 1 rfl) ?_
                  refine lv_sipush (v := 195) hx hb d_M_isBarred_214 (by decide) ?_
                  refine lv_icmp_eq (tgt := 227) hx hb d_M_isBarred_217 (by decide) (fun hc => ?_) (fun hc => ?_)
                  · replace hj5 := it_u hc hj5
                    refine lv_iconst (v := 1) hx hb d_M_isBarred_227 (by decide) ?_
                    refine lv_goto (tgt := 232) hx hb d_M_isBarred_228 (by decide) ?_
                    cases hj5
                    exact Khj5 _ _ _ I (lv_sub hl [] rfl)
                  · replace hj5 := ie_u hc hj5
                    refine lv_iload_n hx hb d_M_isBarred_220 rfl (lv_at hl 1 rfl) ?_
                    refine lv_sipush (v := 200) hx hb d_M_isBarred_221 (by decide) ?_
                    refine lv_icmp_le (tgt := 231) hx hb d_M_isBarred_224 (by decide) (fun hc => ?_) (fun hc => ?_)
                    · replace hj5 := it_u hc hj5
                      refine lv_iconst (v := 0) hx hb d_M_isBarred_231 (by decide) ?_
                      cases hj5
                      exact Khj5 _ _ _ I (lv_sub hl [] rfl)
                    · replace hj5 := ie_u hc hj5
                      refine lv_iconst (v := 1) hx hb d_M_isBarred_227 (by decide) ?_
                      refine lv_goto (tgt := 232) hx hb d_M_isBarred_228 (by decide) ?_
                      cases hj5
                      exact Khj5 _ _ _ I (lv_sub hl [] rfl)
      refine lv_icmp_eq (tgt := 174) hx hb d_M_isBarred_122 (by decide) (fun hc => ?_) (fun hc => ?_)
      · replace hj6 := it_u hc hj6
        refine lv_iconst (v := 1) hx hb d_M_isBarred_174 (by decide) ?_
        refine lv_goto (tgt := 179) hx hb d_M_isBarred_175 (by decide) ?_
        cases hj6
        exact Khj6 _ _ _ I (lv_sub hl [1] rfl)
      · replace hj6 := ie_u hc hj6
        refine lv_iload_n hx hb d_M_isBarred_125 rfl (lv_at hl 1 rfl) ?_
        refine lv_sipush (v := 135) hx hb d_M_isBarred_126 (by decide) ?_
        refine lv_icmp_eq (tgt := 174) hx hb d_M_isBarred_129 (by decide) (fun hc => ?_) (fun hc => ?_)
        · replace hj6 := it_u hc hj6
          refine lv_iconst (v := 1) hx hb d_M_isBarred_174 (by decide) ?_
          refine lv_goto (tgt := 179) hx hb d_M_isBarred_175 (by decide) ?_
          cases hj6
          exact Khj6 _ _ _ I (lv_sub hl [1] rfl)
        · replace hj6 := ie_u hc hj6
          refine lv_iload_n hx hb d_M_isBarred_132 rfl (lv_at hl 1 rfl) ?_
          refine lv_sipush (v := 137) hx hb d_M_isBarred_133 (by decide) ?_
          refine lv_icmp_lt (tgt := 146) hx hb d_M_isBarred_136 (by decide) (fun hc => ?_) (fun hc => ?_)
          · replace hj6 := it_u hc hj6
            refine lv_iload_n hx hb d_M_isBarred_146 rfl (lv_at hl 1 rfl) ?_
            refine lv_sipush (v := 149) hx hb d_M_isBarred_147 (by decide) ?_
            refine lv_icmp_lt (tgt := 160) hx hb d_M_isBarred_150 (by decide) (fun hc => ?_) (fun hc => ?_)
            · replace hj6 := it_u hc hj6
              refine lv_iload_n hx hb d_M_isBarred_160 rfl (lv_at hl 1 rfl) ?_
              refine lv_sipush (v := 174) hx hb d_M_isBarred_161 (by decide) ?_
              refine lv_icmp_eq (tgt := 174) hx hb d_M_isBarred_164 (by decide) (fun hc => ?_) (fun hc => ?_)
              · replace hj6 := it_u hc hj6
                refine lv_iconst (v := 1) hx hb d_M_isBarred_174 (by decide) ?_
                refine lv_goto (tgt := 179) hx hb d_M_isBarred_175 (by decide) ?_
                cases hj6
                exact Khj6 _ _ _ I (lv_sub hl [1] rfl)
              · replace hj6 := ie_u hc hj6
                refine lv_iload_n hx hb d_M_isBarred_167 rfl (lv_at hl 1 rfl) ?_
                refine lv_sipush (v := 175) hx hb d_M_isBarred_168 (by decide) ?_
                refine lv_icmp_ne (tgt := 178) hx hb d_M_isBarred_171 (by decide) (fun hc => ?_) (fun hc => ?_)
                · replace hj6 := ie_u hc hj6
                  refine lv_iconst (v := 0) hx hb d_M_isBarred_178 (by decide) ?_
                  cases hj6
                  exact Khj6 _ _ _ I (lv_sub hl [1] rfl)
                · replace hj6 := it_u hc hj6
                  refine lv_iconst (v := 1) hx hb d_M_isBarred_174 (by decide) ?_
                  refine lv_goto (tgt := 179) hx hb d_M_isBarred_175 (by decide) ?_
                  cases hj6
                  exact Khj6 _ _ _ I (lv_sub hl [1] rfl)
            · replace hj6 := ie_u hc hj6
              refine lv_iload_n hx hb d_M_isBarred_153 rfl (lv_at hl 1 rfl) ?_
              refine lv_sipush (v := 152) hx hb d_M_isBarred_154 (by decide) ?_
              refine lv_icmp_le (tgt := 174) hx hb d_M_isBarred_157 (by decide) (fun hc => ?_) (fun hc => ?_)
              · replace hj6 := it_u hc hj6
                refine lv_iconst (v := 1) hx hb d_M_isBarred_174 (by decide) ?_
                refine lv_goto (tgt := 179) hx hb d_M_isBarred_175 (by decide) ?_
                cases hj6
                exact Khj6 _ _ _ I (lv_sub hl [1] rfl)
              · replace hj6 := ie_u hc hj6
                refine lv_iload_n hx hb d_M_isBarred_160 rfl (lv_at hl 1 rfl) ?_
                refine lv_sipush (v := 174) hx hb d_M_isBarred_161 (by decide) ?_
                refine lv_icmp_eq (tgt := 174) hx hb d_M_isBarred_164 (by decide) (fun hc => ?_) (fun hc => ?_)
                · replace hj6 := it_u hc hj6
                  refine lv_iconst (v := 1) hx hb d_M_isBarred_174 (by decide) ?_
                  refine lv_goto (tgt := 179) hx hb d_M_isBarred_175 (by decide) ?_
                  cases hj6
                  exact Khj6 _ _ _ I (lv_sub hl [1] rfl)
                · replace hj6 := ie_u hc hj6
                  refine lv_iload_n hx hb d_M_isBarred_167 rfl (lv_at hl 1 rfl) ?_
                  refine lv_sipush (v := 175) hx hb d_M_isBarred_168 (by decide) ?_
                  refine lv_icmp_ne (tgt := 178) hx hb d_M_isBarred_171 (by decide) (fun hc => ?_) (fun hc => ?_)
                  · replace hj6 := ie_u hc hj6
                    refine lv_iconst (v := 0) hx hb d_M_isBarred_178 (by decide) ?_
                    cases hj6
                    exact Khj6 _ _ _ I (lv_sub hl [1] rfl)
                  · replace hj6 := it_u hc hj6
                    refine lv_iconst (v := 1) hx hb d_M_isBarred_174 (by decide) ?_
                    refine lv_goto (tgt := 179) hx hb d_M_isBarred_175 (by decide) ?_
                    cases hj6
                    exact Khj6 _ _ _ I (lv_sub hl [1] rfl)
          · replace hj6 := ie_u hc hj6
            refine lv_iload_n hx hb d_M_isBarred_139 rfl (lv_at hl 1 rfl) ?_
            refine lv_sipush (v := 144) hx hb d_M_isBarred_140 (by decide) ?_
            refine lv_icmp_le (tgt := 174) hx hb d_M_isBarred_143 (by decide) (fun hc => ?_) (fun hc => ?_)
            · replace hj6 := it_u hc hj6
              refine lv_iconst (v := 1) hx hb d_M_isBarred_174 (by decide) ?_
              refine lv_goto (tgt := 179) hx hb d_M_isBarred_175 (by decide) ?_
              cases hj6
              exact Khj6 _ _ _ I (lv_sub hl [1] rfl)
            · replace hj6 := ie_u hc hj6
              refine lv_iload_n hx hb d_M_isBarred_146 rfl (lv_at hl 1 rfl) ?_
              refine lv_sipush (v := 149) hx hb d_M_isBarred_147 (by decide) ?_
              refine lv_icmp_lt (tgt := 160) hx hb d_M_isBarred_150 (by decide) (fun hc => ?_) (fun hc => ?_)
              · replace hj6 := it_u hc hj6
                refine lv_iload_n hx hb d_M_isBarred_160 rfl (lv_at hl 1 rfl) ?_
                refine lv_sipush (v := 174) hx hb d_M_isBarred_161 (by decide) ?_
                refine lv_icmp_eq (tgt := 174) hx hb d_M_isBarred_164 (by decide) (fun hc => ?_) (fun hc => ?_)
                · replace hj6 := it_u hc hj6
                  refine lv_iconst (v := 1) hx hb d_M_isBarred_174 (by decide) ?_
                  refine lv_goto (tgt := 179) hx hb d_M_isBarred_175 (by decide) ?_
                  cases hj6
                  exact Khj6 _ _ _ I (lv_sub hl [1] rfl)
                · replace hj6 := ie_u hc hj6
                  refine lv_iload_n hx hb d_M_isBarred_167 rfl (lv_at hl 1 rfl) ?_
                  refine lv_sipush (v := 175) hx hb d_M_isBarred_168 (by decide) ?_
                  refine lv_icmp_ne (tgt := 178) hx hb d_M_isBarred_171 (by decide) (fun hc => ?_) (fun hc => ?_)
                  · replace hj6 := ie_u hc hj6
                    refine lv_iconst (v := 0) hx hb d_M_isBarred_178 (by decide) ?_
                    cases hj6
                    exact Khj6 _ _ _ I (lv_sub hl [1] rfl)
                  · replace hj6 := it_u hc hj6
                    refine lv_iconst (v := 1) hx hb d_M_isBarred_174 (by decide) ?_
                    refine lv_goto (tgt := 179) hx hb d_M_isBarred_175 (by decide) ?_
                    cases hj6
                    exact Khj6 _ _ _ I (lv_sub hl [1] rfl)
              · replace hj6 := ie_u hc hj6
                refine lv_iload_n hx hb d_M_isBarred_153 rfl (lv_at hl 1 rfl) ?_
                refine lv_sipush (v := 152) hx hb d_M_isBarred_154 (by decide) ?_
                refine lv_icmp_le (tgt := 174) hx hb d_M_isBarred_157 (by decide) (fun hc => ?_) (fun hc => ?_)
                · replace hj6 := it_u hc hj6
                  refine lv_iconst (v := 1) hx hb d_M_isBarred_174 (by decide) ?_
                  refine lv_goto (tgt := 179) hx hb d_M_isBarred_175 (by decide) ?_
                  cases hj6
                  exact Khj6 _ _ _ I (lv_sub hl [1] rfl)
                · replace hj6 := ie_u hc hj6
                  refine lv_iload_n hx hb d_M_isBarred_160 rfl (lv_at hl 1 rfl) ?_
                  refine lv_sipush (v := 174) hx hb d_M_isBarred_161 (by decide) ?_
                  refine lv_icmp_eq (tgt := 174) hx hb d_M_isBarred_164 (by decide) (fun hc => ?_) (fun hc => ?_)
                  · replace hj6 := it_u hc hj6
                    refine lv_iconst (v := 1) hx hb d_M_isBarred_174 (by decide) ?_
                    refine lv_goto (tgt := 179) hx hb d_M_isBarred_175 (by decide) ?_
                    cases hj6
                    exact Khj6 _ _ _ I (lv_sub hl [1] rfl)
                  · replace hj6 := ie_u hc hj6
                    refine lv_iload_n hx hb d_M_isBarred_167 rfl (lv_at hl 1 rfl) ?_
                    refine lv_sipush (v := 175) hx hb d_M_isBarred_168 (by decide) ?_
                    refine lv_icmp_ne (tgt := 178) hx hb d_M_isBarred_171 (by decide) (fun hc => ?_) (fun hc => ?_)
                    · replace hj6 := ie_u hc hj6
                      refine lv_iconst (v := 0) hx hb d_M_isBarred_178 (by decide) ?_
                      cases hj6
                      exact Khj6 _ _ _ I (lv_sub hl [1] rfl)
                    · replace hj6 := it_u hc hj6
                      refine lv_iconst (v := 1) hx hb d_M_isBarred_174 (by decide) ?_
                      refine lv_goto (tgt := 179) hx hb d_M_isBarred_175 (by decide) ?_
                      cases hj6
                      exact Khj6 _ _ _ I (lv_sub hl [1] rfl)
    refine lv_icmp_lt (tgt := 114) hx hb d_M_isBarred_94 (by decide) (fun hc => ?_) (fun hc => ?_)
    · replace hj7 := it_u hc hj7
      refine lv_iconst (v := 0) hx hb d_M_isBarred_114 (by decide) ?_
      cases hj7
      exact Khj7 _ _ _ I (lv_sub hl [1] rfl)
    · replace hj7 := ie_u hc hj7
      refine lv_iload_n hx hb d_M_isBarred_97 rfl (lv_at hl 1 rfl) ?_
      refine lv_bipush (v := 119) hx hb d_M_isBarred_98 (by decide) ?_
      refine lv_icmp_gt (tgt := 114) hx hb d_M_isBarred_100 (by decide) (fun hc => ?_) (fun hc => ?_)
      · replace hj7 := it_u hc hj7
        refine lv_iconst (v := 0) hx hb d_M_isBarred_114 (by decide) ?_
        cases hj7
        exact Khj7 _ _ _ I (lv_sub hl [1] rfl)
      · replace hj7 := ie_u hc hj7
        refine lv_iload_n hx hb d_M_isBarred_103 rfl (lv_at hl 1 rfl) ?_
        refine lv_iconst (v := 4) hx hb d_M_isBarred_104 (by decide) ?_
        refine lv_irem hx hb d_M_isBarred_105 (by decide) ?_
        refine lv_iconst (v := 2) hx hb d_M_isBarred_106 (by decide) ?_
        refine lv_icmp_lt (tgt := 114) hx hb d_M_isBarred_107 (by decide) (fun hc => ?_) (fun hc => ?_)
        · replace hj7 := it_u hc hj7
          refine lv_iconst (v := 0) hx hb d_M_isBarred_114 (by decide) ?_
          cases hj7
          exact Khj7 _ _ _ I (lv_sub hl [1] rfl)
        · replace hj7 := ie_u hc hj7
          refine lv_iconst (v := 1) hx hb d_M_isBarred_110 (by decide) ?_
          refine lv_goto (tgt := 115) hx hb d_M_isBarred_111 (by decide) ?_
          cases hj7
          exact Khj7 _ _ _ I (lv_sub hl [1] rfl)
  refine lv_icmp_lt (tgt := 12) hx hb d_M_isBarred_3 (by decide) (fun hc => ?_) (fun hc => ?_)
  · replace hj8 := it_u hc hj8
    refine lv_iload_n hx hb d_M_isBarred_12 rfl (lv_at hl 0 rfl) ?_
    refine lv_bipush (v := 23) hx hb d_M_isBarred_13 (by decide) ?_
    refine lv_icmp_eq (tgt := 84) hx hb d_M_isBarred_15 (by decide) (fun hc => ?_) (fun hc => ?_)
    · replace hj8 := it_u hc hj8
      refine lv_iconst (v := 1) hx hb d_M_isBarred_84 (by decide) ?_
      refine lv_goto (tgt := 89) hx hb d_M_isBarred_85 (by decide) ?_
      cases hj8
      exact Khj8 _ _ _ I (lv_sub hl [0] rfl)
    · replace hj8 := ie_u hc hj8
      refine lv_iload_n hx hb d_M_isBarred_18 rfl (lv_at hl 0 rfl) ?_
      refine lv_bipush (v := 24) hx hb d_M_isBarred_19 (by decide) ?_
      refine lv_icmp_eq (tgt := 84) hx hb d_M_isBarred_21 (by decide) (fun hc => ?_) (fun hc => ?_)
      · replace hj8 := it_u hc hj8
        refine lv_iconst (v := 1) hx hb d_M_isBarred_84 (by decide) ?_
        refine lv_goto (tgt := 89) hx hb d_M_isBarred_85 (by decide) ?_
        cases hj8
        exact Khj8 _ _ _ I (lv_sub hl [0] rfl)
      · replace hj8 := ie_u hc hj8
        refine lv_iload_n hx hb d_M_isBarred_24 rfl (lv_at hl 0 rfl) ?_
        refine lv_bipush (v := 34) hx hb d_M_isBarred_25 (by decide) ?_
        refine lv_icmp_lt (tgt := 36) hx hb d_M_isBarred_27 (by decide) (fun hc => ?_) (fun hc => ?_)
        · replace hj8 := it_u hc hj8
          refine lv_iload_n hx hb d_M_isBarred_36 rfl (lv_at hl 0 rfl) ?_
          refine lv_bipush (v := 48) hx hb d_M_isBarred_37 (by decide) ?_
          refine lv_icmp_eq (tgt := 84) hx hb d_M_isBarred_39 (by decide) (fun hc => ?_) (fun hc => ?_)
          · replace hj8 := it_u hc hj8
            refine lv_iconst (v := 1) hx hb d_M_isBarred_84 (by decide) ?_
            refine lv_goto (tgt := 89) hx hb d_M_isBarred_85 (by decide) ?_
            cases hj8
            exact Khj8 _ _ _ I (lv_sub hl [0] rfl)
          · replace hj8 := ie_u hc hj8
            refine lv_iload_n hx hb d_M_isBarred_42 rfl (lv_at hl 0 rfl) ?_
            refine lv_bipush (v := 49) hx hb d_M_isBarred_43 (by decide) ?_
            refine lv_icmp_eq (tgt := 84) hx hb d_M_isBarred_45 (by decide) (fun hc => ?_) (fun hc => ?_)
            · replace hj8 := it_u hc hj8
              refine lv_iconst (v := 1) hx hb d_M_isBarred_84 (by decide) ?_
              refine lv_goto (tgt := 89) hx hb d_M_isBarred_85 (by decide) ?_
              cases hj8
              exact Khj8 _ _ _ I (lv_sub hl [0] rfl)
            · replace hj8 := ie_u hc hj8
              refine lv_iload_n hx hb d_M_isBarred_48 rfl (lv_at hl 0 rfl) ?_
              refine lv_bipush (v := 56) hx hb d_M_isBarred_49 (by decide) ?_
              refine lv_icmp_eq (tgt := 84) hx hb d_M_isBarred_51 (by decide) (fun hc => ?_) (fun hc => ?_)
              · replace hj8 := it_u hc hj8
                refine lv_iconst (v := 1) hx hb d_M_isBarred_84 (by decide) ?_
                refine lv_goto (tgt := 89) hx hb d_M_isBarred_85 (by decide) ?_
                cases hj8
                exact Khj8 _ _ _ I (lv_sub hl [0] rfl)
              · replace hj8 := ie_u hc hj8
                refine lv_iload_n hx hb d_M_isBarred_54 rfl (lv_at hl 0 rfl) ?_
                refine lv_bipush (v := 57) hx hb d_M_isBarred_55 (by decide) ?_
                refine lv_icmp_eq (tgt := 84) hx hb d_M_isBarred_57 (by decide) (fun hc => ?_) (fun hc => ?_)
                · replace hj8 := it_u hc hj8
                  refine lv_iconst (v := 1) hx hb d_M_isBarred_84 (by decide) ?_
                  refine lv_goto (tgt := 89) hx hb d_M_isBarred_85 (by decide) ?_
                  cases hj8
                  exact Khj8 _ _ _ I (lv_sub hl [0] rfl)
                · replace hj8 := ie_u hc hj8
                  refine lv_iload_n hx hb d_M_isBarred_60 rfl (lv_at hl 0 rfl) ?_
                  refine lv_bipush (v := 67) hx hb d_M_isBarred_61 (by decide) ?_
                  refine lv_icmp_lt (tgt := 72) hx hb d_M_isBarred_63 (by decide) (fun hc => ?_) (fun hc => ?_)
                  · replace hj8 := it_u hc hj8
                    refine lv_iload_n hx hb d_M_isBarred_72 rfl (lv_at hl 0 rfl) ?_
                    refine lv_bipush (v := 81) hx hb d_M_isBarred_73 (by decide) ?_
                    refine lv_icmp_eq (tgt := 84) hx hb d_M_isBarred_75 (by decide) (fun hc => ?_) (fun hc => ?_)
                    · replace hj8 := it_u hc hj8
                      refine lv_iconst (v := 1) hx hb d_M_isBarred_84 (by decide) ?_
                      refine lv_goto (tgt := 89) hx hb d_M_isBarred_85 (by decide) ?_
                      cases hj8
                      exact Khj8 _ _ _ I (lv_sub hl [0] rfl)
                    · replace hj8 := ie_u hc hj8
                      refine lv_iload_n hx hb d_M_isBarred_78 rfl (lv_at hl 0 rfl) ?_
                      refine lv_bipush (v := 82) hx hb d_M_isBarred_79 (by decide) ?_
                      refine lv_icmp_ne (tgt := 88) hx hb d_M_isBarred_81 (by decide) (fun hc => ?_) (fun hc => ?_)
                      · replace hj8 := ie_u hc hj8
                        refine lv_iconst (v := 0) hx hb d_M_isBarred_88 (by decide) ?_
                        cases hj8
                        exact Khj8 _ _ _ I (lv_sub hl [0] rfl)
                      · replace hj8 := it_u hc hj8
                        refine lv_iconst (v := 1) hx hb d_M_isBarred_84 (by decide) ?_
                        refine lv_goto (tgt := 89) hx hb d_M_isBarred_85 (by decide) ?_
                        cases hj8
                        exact Khj8 _ _ _ I (lv_sub hl [0] rfl)
                  · replace hj8 := ie_u hc hj8
                    refine lv_iload_n hx hb d_M_isBarred_66 rfl (lv_at hl 0 rfl) ?_
                    refine lv_bipush (v := 74) hx hb d_M_isBarred_67 (by decide) ?_
                    refine lv_icmp_le (tgt := 84) hx hb d_M_isBarred_69 (by decide) (fun hc => ?_) (fun hc => ?_)
                    · replace hj8 := it_u hc hj8
                      refine lv_iconst (v := 1) hx hb d_M_isBarred_84 (by decide) ?_
                      refine lv_goto (tgt := 89) hx hb d_M_isBarred_85 (by decide) ?_
                      cases hj8
                      exact Khj8 _ _ _ I (lv_sub hl [0] rfl)
                    · replace hj8 := ie_u hc hj8
                      refine lv_iload_n hx hb d_M_isBarred_72 rfl (lv_at hl 0 rfl) ?_
                      refine lv_bipush (v := 81) hx hb d_M_isBarred_73 (by decide) ?_
                      refine lv_icmp_eq (tgt := 84) hx hb d_M_isBarred_75 (by decide) (fun hc => ?_) (fun hc => ?_)
                      · replace hj8 := it_u hc hj8
                        refine lv_iconst (v := 1) hx hb d_M_isBarred_84 (by decide) ?_
                        refine lv_goto (tgt := 89) hx hb d_M_isBarred_85 (by decide) ?_
                        cases hj8
                        exact Khj8 _ _ _ I (lv_sub hl [0] rfl)
                      · replace hj8 := ie_u hc hj8
                        refine lv_iload_n hx hb d_M_isBarred_78 rfl (lv_at hl 0 rfl) ?_
                        refine lv_bipush (v := 82) hx hb d_M_isBarred_79 (by decide) ?_
                        refine lv_icmp_ne (tgt := 88) hx hb d_M_isBarred_81 (by decide) (fun hc => ?_) (fun hc => ?_)
                        · replace hj8 := ie_u hc hj8
                          refine lv_iconst (v := 0) hx hb d_M_isBarred_88 (by decide) ?_
                          cases hj8
                          exact Khj8 _ _ _ I (lv_sub hl [0] rfl)
                        · replace hj8 := it_u hc hj8
                          refine lv_iconst (v := 1) hx hb d_M_isBarred_84 (by decide) ?_
                          refine lv_goto (tgt := 89) hx hb d_M_isBarred_85 (by decide) ?_
                          cases hj8
                          exact Khj8 _ _ _ I (lv_sub hl [0] rfl)
        · replace hj8 := ie_u hc hj8
          refine lv_iload_n hx hb d_M_isBarred_30 rfl (lv_at hl 0 rfl) ?_
          refine lv_bipush (v := 41) hx hb d_M_isBarred_31 (by decide) ?_
          refine lv_icmp_le (tgt := 84) hx hb d_M_isBarred_33 (by decide) (fun hc => ?_) (fun hc => ?_)
          · replace hj8 := it_u hc hj8
            refine lv_iconst (v := 1) hx hb d_M_isBarred_84 (by decide) ?_
            refine lv_goto (tgt := 89) hx hb d_M_isBarred_85 (by decide) ?_
            cases hj8
            exact Khj8 _ _ _ I (lv_sub hl [0] rfl)
          · replace hj8 := ie_u hc hj8
            refine lv_iload_n hx hb d_M_isBarred_36 rfl (lv_at hl 0 rfl) ?_
            refine lv_bipush (v := 48) hx hb d_M_isBarred_37 (by decide) ?_
            refine lv_icmp_eq (tgt := 84) hx hb d_M_isBarred_39 (by decide) (fun hc => ?_) (fun hc => ?_)
            · replace hj8 := it_u hc hj8
              refine lv_iconst (v := 1) hx hb d_M_isBarred_84 (by decide) ?_
              refine lv_goto (tgt := 89) hx hb d_M_isBarred_85 (by decide) ?_
              cases hj8
              exact Khj8 _ _ _ I (lv_sub hl [0] rfl)
            · replace hj8 := ie_u hc hj8
              refine lv_iload_n hx hb d_M_isBarred_42 rfl (lv_at hl 0 rfl) ?_
              refine lv_bipush (v := 49) hx hb d_M_isBarred_43 (by decide) ?_
              refine lv_icmp_eq (tgt := 84) hx hb d_M_isBarred_45 (by decide) (fun hc => ?_) (fun hc => ?_)
              · replace hj8 := it_u hc hj8
                refine lv_iconst (v := 1) hx hb d_M_isBarred_84 (by decide) ?_
                refine lv_goto (tgt := 89) hx hb d_M_isBarred_85 (by decide) ?_
                cases hj8
                exact Khj8 _ _ _ I (lv_sub hl [0] rfl)
              · replace hj8 := ie_u hc hj8
                refine lv_iload_n hx hb d_M_isBarred_48 rfl (lv_at hl 0 rfl) ?_
                refine lv_bipush (v := 56) hx hb d_M_isBarred_49 (by decide) ?_
                refine lv_icmp_eq (tgt := 84) hx hb d_M_isBarred_51 (by decide) (fun hc => ?_) (fun hc => ?_)
                · replace hj8 := it_u hc hj8
                  refine lv_iconst (v := 1) hx hb d_M_isBarred_84 (by decide) ?_
                  refine lv_goto (tgt := 89) hx hb d_M_isBarred_85 (by decide) ?_
                  cases hj8
                  exact Khj8 _ _ _ I (lv_sub hl [0] rfl)
                · replace hj8 := ie_u hc hj8
                  refine lv_iload_n hx hb d_M_isBarred_54 rfl (lv_at hl 0 rfl) ?_
                  refine lv_bipush (v := 57) hx hb d_M_isBarred_55 (by decide) ?_
                  refine lv_icmp_eq (tgt := 84) hx hb d_M_isBarred_57 (by decide) (fun hc => ?_) (fun hc => ?_)
                  · replace hj8 := it_u hc hj8
                    refine lv_iconst (v := 1) hx hb d_M_isBarred_84 (by decide) ?_
                    refine lv_goto (tgt := 89) hx hb d_M_isBarred_85 (by decide) ?_
                    cases hj8
                    exact Khj8 _ _ _ I (lv_sub hl [0] rfl)
                  · replace hj8 := ie_u hc hj8
                    refine lv_iload_n hx hb d_M_isBarred_60 rfl (lv_at hl 0 rfl) ?_
                    refine lv_bipush (v := 67) hx hb d_M_isBarred_61 (by decide) ?_
                    refine lv_icmp_lt (tgt := 72) hx hb d_M_isBarred_63 (by decide) (fun hc => ?_) (fun hc => ?_)
                    · replace hj8 := it_u hc hj8
                      refine lv_iload_n hx hb d_M_isBarred_72 rfl (lv_at hl 0 rfl) ?_
                      refine lv_bipush (v := 81) hx hb d_M_isBarred_73 (by decide) ?_
                      refine lv_icmp_eq (tgt := 84) hx hb d_M_isBarred_75 (by decide) (fun hc => ?_) (fun hc => ?_)
                      · replace hj8 := it_u hc hj8
                        refine lv_iconst (v := 1) hx hb d_M_isBarred_84 (by decide) ?_
                        refine lv_goto (tgt := 89) hx hb d_M_isBarred_85 (by decide) ?_
                        cases hj8
                        exact Khj8 _ _ _ I (lv_sub hl [0] rfl)
                      · replace hj8 := ie_u hc hj8
                        refine lv_iload_n hx hb d_M_isBarred_78 rfl (lv_at hl 0 rfl) ?_
                        refine lv_bipush (v := 82) hx hb d_M_isBarred_79 (by decide) ?_
                        refine lv_icmp_ne (tgt := 88) hx hb d_M_isBarred_81 (by decide) (fun hc => ?_) (fun hc => ?_)
                        · replace hj8 := ie_u hc hj8
                          refine lv_iconst (v := 0) hx hb d_M_isBarred_88 (by decide) ?_
                          cases hj8
                          exact Khj8 _ _ _ I (lv_sub hl [0] rfl)
                        · replace hj8 := it_u hc hj8
                          refine lv_iconst (v := 1) hx hb d_M_isBarred_84 (by decide) ?_
                          refine lv_goto (tgt := 89) hx hb d_M_isBarred_85 (by decide) ?_
                          cases hj8
                          exact Khj8 _ _ _ I (lv_sub hl [0] rfl)
                    · replace hj8 := ie_u hc hj8
                      refine lv_iload_n hx hb d_M_isBarred_66 rfl (lv_at hl 0 rfl) ?_
                      refine lv_bipush (v := 74) hx hb d_M_isBarred_67 (by decide) ?_
                      refine lv_icmp_le (tgt := 84) hx hb d_M_isBarred_69 (by decide) (fun hc => ?_) (fun hc => ?_)
                      · replace hj8 := it_u hc hj8
                        refine lv_iconst (v := 1) hx hb d_M_isBarred_84 (by decide) ?_
                        refine lv_goto (tgt := 89) hx hb d_M_isBarred_85 (by decide) ?_
                        cases hj8
                        exact Khj8 _ _ _ I (lv_sub hl [0] rfl)
                      · replace hj8 := ie_u hc hj8
                        refine lv_iload_n hx hb d_M_isBarred_72 rfl (lv_at hl 0 rfl) ?_
                        refine lv_bipush (v := 81) hx hb d_M_isBarred_73 (by decide) ?_
                        refine lv_icmp_eq (tgt := 84) hx hb d_M_isBarred_75 (by decide) (fun hc => ?_) (fun hc => ?_)
                        · replace hj8 := it_u hc hj8
                          refine lv_iconst (v := 1) hx hb d_M_isBarred_84 (by decide) ?_
                          refine lv_goto (tgt := 89) hx hb d_M_isBarred_85 (by decide) ?_
                          cases hj8
                          exact Khj8 _ _ _ I (lv_sub hl [0] rfl)
                        · replace hj8 := ie_u hc hj8
                          refine lv_iload_n hx hb d_M_isBarred_78 rfl (lv_at hl 0 rfl) ?_
                          refine lv_bipush (v := 82) hx hb d_M_isBarred_79 (by decide) ?_
                          refine lv_icmp_ne (tgt := 88) hx hb d_M_isBarred_81 (by decide) (fun hc => ?_) (fun hc => ?_)
                          · replace hj8 := ie_u hc hj8
                            refine lv_iconst (v := 0) hx hb d_M_isBarred_88 (by decide) ?_
                            cases hj8
                            exact Khj8 _ _ _ I (lv_sub hl [0] rfl)
                          · replace hj8 := it_u hc hj8
                            refine lv_iconst (v := 1) hx hb d_M_isBarred_84 (by decide) ?_
                            refine lv_goto (tgt := 89) hx hb d_M_isBarred_85 (by decide) ?_
                            cases hj8
                            exact Khj8 _ _ _ I (lv_sub hl [0] rfl)
  · replace hj8 := ie_u hc hj8
    refine lv_iload_n hx hb d_M_isBarred_6 rfl (lv_at hl 0 rfl) ?_
    refine lv_bipush (v := 15) hx hb d_M_isBarred_7 (by decide) ?_
    refine lv_icmp_le (tgt := 84) hx hb d_M_isBarred_9 (by decide) (fun hc => ?_) (fun hc => ?_)
    · replace hj8 := it_u hc hj8
      refine lv_iconst (v := 1) hx hb d_M_isBarred_84 (by decide) ?_
      refine lv_goto (tgt := 89) hx hb d_M_isBarred_85 (by decide) ?_
      cases hj8
      exact Khj8 _ _ _ I (lv_sub hl [0] rfl)
    · replace hj8 := ie_u hc hj8
      refine lv_iload_n hx hb d_M_isBarred_12 rfl (lv_at hl 0 rfl) ?_
      refine lv_bipush (v := 23) hx hb d_M_isBarred_13 (by decide) ?_
      refine lv_icmp_eq (tgt := 84) hx hb d_M_isBarred_15 (by decide) (fun hc => ?_) (fun hc => ?_)
      · replace hj8 := it_u hc hj8
        refine lv_iconst (v := 1) hx hb d_M_isBarred_84 (by decide) ?_
        refine lv_goto (tgt := 89) hx hb d_M_isBarred_85 (by decide) ?_
        cases hj8
        exact Khj8 _ _ _ I (lv_sub hl [0] rfl)
      · replace hj8 := ie_u hc hj8
        refine lv_iload_n hx hb d_M_isBarred_18 rfl (lv_at hl 0 rfl) ?_
        refine lv_bipush (v := 24) hx hb d_M_isBarred_19 (by decide) ?_
        refine lv_icmp_eq (tgt := 84) hx hb d_M_isBarred_21 (by decide) (fun hc => ?_) (fun hc => ?_)
        · replace hj8 := it_u hc hj8
          refine lv_iconst (v := 1) hx hb d_M_isBarred_84 (by decide) ?_
          refine lv_goto (tgt := 89) hx hb d_M_isBarred_85 (by decide) ?_
          cases hj8
          exact Khj8 _ _ _ I (lv_sub hl [0] rfl)
        · replace hj8 := ie_u hc hj8
          refine lv_iload_n hx hb d_M_isBarred_24 rfl (lv_at hl 0 rfl) ?_
          refine lv_bipush (v := 34) hx hb d_M_isBarred_25 (by decide) ?_
          refine lv_icmp_lt (tgt := 36) hx hb d_M_isBarred_27 (by decide) (fun hc => ?_) (fun hc => ?_)
          · replace hj8 := it_u hc hj8
            refine lv_iload_n hx hb d_M_isBarred_36 rfl (lv_at hl 0 rfl) ?_
            refine lv_bipush (v := 48) hx hb d_M_isBarred_37 (by decide) ?_
            refine lv_icmp_eq (tgt := 84) hx hb d_M_isBarred_39 (by decide) (fun hc => ?_) (fun hc => ?_)
            · replace hj8 := it_u hc hj8
              refine lv_iconst (v := 1) hx hb d_M_isBarred_84 (by decide) ?_
              refine lv_goto (tgt := 89) hx hb d_M_isBarred_85 (by decide) ?_
              cases hj8
              exact Khj8 _ _ _ I (lv_sub hl [0] rfl)
            · replace hj8 := ie_u hc hj8
              refine lv_iload_n hx hb d_M_isBarred_42 rfl (lv_at hl 0 rfl) ?_
              refine lv_bipush (v := 49) hx hb d_M_isBarred_43 (by decide) ?_
              refine lv_icmp_eq (tgt := 84) hx hb d_M_isBarred_45 (by decide) (fun hc => ?_) (fun hc => ?_)
              · replace hj8 := it_u hc hj8
                refine lv_iconst (v := 1) hx hb d_M_isBarred_84 (by decide) ?_
                refine lv_goto (tgt := 89) hx hb d_M_isBarred_85 (by decide) ?_
                cases hj8
                exact Khj8 _ _ _ I (lv_sub hl [0] rfl)
              · replace hj8 := ie_u hc hj8
                refine lv_iload_n hx hb d_M_isBarred_48 rfl (lv_at hl 0 rfl) ?_
                refine lv_bipush (v := 56) hx hb d_M_isBarred_49 (by decide) ?_
                refine lv_icmp_eq (tgt := 84) hx hb d_M_isBarred_51 (by decide) (fun hc => ?_) (fun hc => ?_)
                · replace hj8 := it_u hc hj8
                  refine lv_iconst (v := 1) hx hb d_M_isBarred_84 (by decide) ?_
                  refine lv_goto (tgt := 89) hx hb d_M_isBarred_85 (by decide) ?_
                  cases hj8
                  exact Khj8 _ _ _ I (lv_sub hl [0] rfl)
                · replace hj8 := ie_u hc hj8
                  refine lv_iload_n hx hb d_M_isBarred_54 rfl (lv_at hl 0 rfl) ?_
                  refine lv_bipush (v := 57) hx hb d_M_isBarred_55 (by decide) ?_
                  refine lv_icmp_eq (tgt := 84) hx hb d_M_isBarred_57 (by decide) (fun hc => ?_) (fun hc => ?_)
                  · replace hj8 := it_u hc hj8
                    refine lv_iconst (v := 1) hx hb d_M_isBarred_84 (by decide) ?_
                    refine lv_goto (tgt := 89) hx hb d_M_isBarred_85 (by decide) ?_
                    cases hj8
                    exact Khj8 _ _ _ I (lv_sub hl [0] rfl)
                  · replace hj8 := ie_u hc hj8
                    refine lv_iload_n hx hb d_M_isBarred_60 rfl (lv_at hl 0 rfl) ?_
                    refine lv_bipush (v := 67) hx hb d_M_isBarred_61 (by decide) ?_
                    refine lv_icmp_lt (tgt := 72) hx hb d_M_isBarred_63 (by decide) (fun hc => ?_) (fun hc => ?_)
                    · replace hj8 := it_u hc hj8
                      refine lv_iload_n hx hb d_M_isBarred_72 rfl (lv_at hl 0 rfl) ?_
                      refine lv_bipush (v := 81) hx hb d_M_isBarred_73 (by decide) ?_
                      refine lv_icmp_eq (tgt := 84) hx hb d_M_isBarred_75 (by decide) (fun hc => ?_) (fun hc => ?_)
                      · replace hj8 := it_u hc hj8
                        refine lv_iconst (v := 1) hx hb d_M_isBarred_84 (by decide) ?_
                        refine lv_goto (tgt := 89) hx hb d_M_isBarred_85 (by decide) ?_
                        cases hj8
                        exact Khj8 _ _ _ I (lv_sub hl [0] rfl)
                      · replace hj8 := ie_u hc hj8
                        refine lv_iload_n hx hb d_M_isBarred_78 rfl (lv_at hl 0 rfl) ?_
                        refine lv_bipush (v := 82) hx hb d_M_isBarred_79 (by decide) ?_
                        refine lv_icmp_ne (tgt := 88) hx hb d_M_isBarred_81 (by decide) (fun hc => ?_) (fun hc => ?_)
                        · replace hj8 := ie_u hc hj8
                          refine lv_iconst (v := 0) hx hb d_M_isBarred_88 (by decide) ?_
                          cases hj8
                          exact Khj8 _ _ _ I (lv_sub hl [0] rfl)
                        · replace hj8 := it_u hc hj8
                          refine lv_iconst (v := 1) hx hb d_M_isBarred_84 (by decide) ?_
                          refine lv_goto (tgt := 89) hx hb d_M_isBarred_85 (by decide) ?_
                          cases hj8
                          exact Khj8 _ _ _ I (lv_sub hl [0] rfl)
                    · replace hj8 := ie_u hc hj8
                      refine lv_iload_n hx hb d_M_isBarred_66 rfl (lv_at hl 0 rfl) ?_
                      refine lv_bipush (v := 74) hx hb d_M_isBarred_67 (by decide) ?_
                      refine lv_icmp_le (tgt := 84) hx hb d_M_isBarred_69 (by decide) (fun hc => ?_) (fun hc => ?_)
                      · replace hj8 := it_u hc hj8
                        refine lv_iconst (v := 1) hx hb d_M_isBarred_84 (by decide) ?_
                        refine lv_goto (tgt := 89) hx hb d_M_isBarred_85 (by decide) ?_
                        cases hj8
                        exact Khj8 _ _ _ I (lv_sub hl [0] rfl)
                      · replace hj8 := ie_u hc hj8
                        refine lv_iload_n hx hb d_M_isBarred_72 rfl (lv_at hl 0 rfl) ?_
                        refine lv_bipush (v := 81) hx hb d_M_isBarred_73 (by decide) ?_
                        refine lv_icmp_eq (tgt := 84) hx hb d_M_isBarred_75 (by decide) (fun hc => ?_) (fun hc => ?_)
                        · replace hj8 := it_u hc hj8
                          refine lv_iconst (v := 1) hx hb d_M_isBarred_84 (by decide) ?_
                          refine lv_goto (tgt := 89) hx hb d_M_isBarred_85 (by decide) ?_
                          cases hj8
                          exact Khj8 _ _ _ I (lv_sub hl [0] rfl)
                        · replace hj8 := ie_u hc hj8
                          refine lv_iload_n hx hb d_M_isBarred_78 rfl (lv_at hl 0 rfl) ?_
                          refine lv_bipush (v := 82) hx hb d_M_isBarred_79 (by decide) ?_
                          refine lv_icmp_ne (tgt := 88) hx hb d_M_isBarred_81 (by decide) (fun hc => ?_) (fun hc => ?_)
                          · replace hj8 := ie_u hc hj8
                            refine lv_iconst (v := 0) hx hb d_M_isBarred_88 (by decide) ?_
                            cases hj8
                            exact Khj8 _ _ _ I (lv_sub hl [0] rfl)
                          · replace hj8 := it_u hc hj8
                            refine lv_iconst (v := 1) hx hb d_M_isBarred_84 (by decide) ?_
                            refine lv_goto (tgt := 89) hx hb d_M_isBarred_85 (by decide) ?_
                            cases hj8
                            exact Khj8 _ _ _ I (lv_sub hl [0] rfl)
          · replace hj8 := ie_u hc hj8
            refine lv_iload_n hx hb d_M_isBarred_30 rfl (lv_at hl 0 rfl) ?_
            refine lv_bipush (v := 41) hx hb d_M_isBarred_31 (by decide) ?_
            refine lv_icmp_le (tgt := 84) hx hb d_M_isBarred_33 (by decide) (fun hc => ?_) (fun hc => ?_)
            · replace hj8 := it_u hc hj8
              refine lv_iconst (v := 1) hx hb d_M_isBarred_84 (by decide) ?_
              refine lv_goto (tgt := 89) hx hb d_M_isBarred_85 (by decide) ?_
              cases hj8
              exact Khj8 _ _ _ I (lv_sub hl [0] rfl)
            · replace hj8 := ie_u hc hj8
              refine lv_iload_n hx hb d_M_isBarred_36 rfl (lv_at hl 0 rfl) ?_
              refine lv_bipush (v := 48) hx hb d_M_isBarred_37 (by decide) ?_
              refine lv_icmp_eq (tgt := 84) hx hb d_M_isBarred_39 (by decide) (fun hc => ?_) (fun hc => ?_)
              · replace hj8 := it_u hc hj8
                refine lv_iconst (v := 1) hx hb d_M_isBarred_84 (by decide) ?_
                refine lv_goto (tgt := 89) hx hb d_M_isBarred_85 (by decide) ?_
                cases hj8
                exact Khj8 _ _ _ I (lv_sub hl [0] rfl)
              · replace hj8 := ie_u hc hj8
                refine lv_iload_n hx hb d_M_isBarred_42 rfl (lv_at hl 0 rfl) ?_
                refine lv_bipush (v := 49) hx hb d_M_isBarred_43 (by decide) ?_
                refine lv_icmp_eq (tgt := 84) hx hb d_M_isBarred_45 (by decide) (fun hc => ?_) (fun hc => ?_)
                · replace hj8 := it_u hc hj8
                  refine lv_iconst (v := 1) hx hb d_M_isBarred_84 (by decide) ?_
                  refine lv_goto (tgt := 89) hx hb d_M_isBarred_85 (by decide) ?_
                  cases hj8
                  exact Khj8 _ _ _ I (lv_sub hl [0] rfl)
                · replace hj8 := ie_u hc hj8
                  refine lv_iload_n hx hb d_M_isBarred_48 rfl (lv_at hl 0 rfl) ?_
                  refine lv_bipush (v := 56) hx hb d_M_isBarred_49 (by decide) ?_
                  refine lv_icmp_eq (tgt := 84) hx hb d_M_isBarred_51 (by decide) (fun hc => ?_) (fun hc => ?_)
                  · replace hj8 := it_u hc hj8
                    refine lv_iconst (v := 1) hx hb d_M_isBarred_84 (by decide) ?_
                    refine lv_goto (tgt := 89) hx hb d_M_isBarred_85 (by decide) ?_
                    cases hj8
                    exact Khj8 _ _ _ I (lv_sub hl [0] rfl)
                  · replace hj8 := ie_u hc hj8
                    refine lv_iload_n hx hb d_M_isBarred_54 rfl (lv_at hl 0 rfl) ?_
                    refine lv_bipush (v := 57) hx hb d_M_isBarred_55 (by decide) ?_
                    refine lv_icmp_eq (tgt := 84) hx hb d_M_isBarred_57 (by decide) (fun hc => ?_) (fun hc => ?_)
                    · replace hj8 := it_u hc hj8
                      refine lv_iconst (v := 1) hx hb d_M_isBarred_84 (by decide) ?_
                      refine lv_goto (tgt := 89) hx hb d_M_isBarred_85 (by decide) ?_
                      cases hj8
                      exact Khj8 _ _ _ I (lv_sub hl [0] rfl)
                    · replace hj8 := ie_u hc hj8
                      refine lv_iload_n hx hb d_M_isBarred_60 rfl (lv_at hl 0 rfl) ?_
                      refine lv_bipush (v := 67) hx hb d_M_isBarred_61 (by decide) ?_
                      refine lv_icmp_lt (tgt := 72) hx hb d_M_isBarred_63 (by decide) (fun hc => ?_) (fun hc => ?_)
                      · replace hj8 := it_u hc hj8
                        refine lv_iload_n hx hb d_M_isBarred_72 rfl (lv_at hl 0 rfl) ?_
                        refine lv_bipush (v := 81) hx hb d_M_isBarred_73 (by decide) ?_
                        refine lv_icmp_eq (tgt := 84) hx hb d_M_isBarred_75 (by decide) (fun hc => ?_) (fun hc => ?_)
                        · replace hj8 := it_u hc hj8
                          refine lv_iconst (v := 1) hx hb d_M_isBarred_84 (by decide) ?_
                          refine lv_goto (tgt := 89) hx hb d_M_isBarred_85 (by decide) ?_
                          cases hj8
                          exact Khj8 _ _ _ I (lv_sub hl [0] rfl)
                        · replace hj8 := ie_u hc hj8
                          refine lv_iload_n hx hb d_M_isBarred_78 rfl (lv_at hl 0 rfl) ?_
                          refine lv_bipush (v := 82) hx hb d_M_isBarred_79 (by decide) ?_
                          refine lv_icmp_ne (tgt := 88) hx hb d_M_isBarred_81 (by decide) (fun hc => ?_) (fun hc => ?_)
                          · replace hj8 := ie_u hc hj8
                            refine lv_iconst (v := 0) hx hb d_M_isBarred_88 (by decide) ?_
                            cases hj8
                            exact Khj8 _ _ _ I (lv_sub hl [0] rfl)
                          · replace hj8 := it_u hc hj8
                            refine lv_iconst (v := 1) hx hb d_M_isBarred_84 (by decide) ?_
                            refine lv_goto (tgt := 89) hx hb d_M_isBarred_85 (by decide) ?_
                            cases hj8
                            exact Khj8 _ _ _ I (lv_sub hl [0] rfl)
                      · replace hj8 := ie_u hc hj8
                        refine lv_iload_n hx hb d_M_isBarred_66 rfl (lv_at hl 0 rfl) ?_
                        refine lv_bipush (v := 74) hx hb d_M_isBarred_67 (by decide) ?_
                        refine lv_icmp_le (tgt := 84) hx hb d_M_isBarred_69 (by decide) (fun hc => ?_) (fun hc => ?_)
                        · replace hj8 := it_u hc hj8
                          refine lv_iconst (v := 1) hx hb d_M_isBarred_84 (by decide) ?_
                          refine lv_goto (tgt := 89) hx hb d_M_isBarred_85 (by decide) ?_
                          cases hj8
                          exact Khj8 _ _ _ I (lv_sub hl [0] rfl)
                        · replace hj8 := ie_u hc hj8
                          refine lv_iload_n hx hb d_M_isBarred_72 rfl (lv_at hl 0 rfl) ?_
                          refine lv_bipush (v := 81) hx hb d_M_isBarred_73 (by decide) ?_
                          refine lv_icmp_eq (tgt := 84) hx hb d_M_isBarred_75 (by decide) (fun hc => ?_) (fun hc => ?_)
                          · replace hj8 := it_u hc hj8
                            refine lv_iconst (v := 1) hx hb d_M_isBarred_84 (by decide) ?_
                            refine lv_goto (tgt := 89) hx hb d_M_isBarred_85 (by decide) ?_
                            cases hj8
                            exact Khj8 _ _ _ I (lv_sub hl [0] rfl)
                          · replace hj8 := ie_u hc hj8
                            refine lv_iload_n hx hb d_M_isBarred_78 rfl (lv_at hl 0 rfl) ?_
                            refine lv_bipush (v := 82) hx hb d_M_isBarred_79 (by decide) ?_
                            refine lv_icmp_ne (tgt := 88) hx hb d_M_isBarred_81 (by decide) (fun hc => ?_) (fun hc => ?_)
                            · replace hj8 := ie_u hc hj8
                              refine lv_iconst (v := 0) hx hb d_M_isBarred_88 (by decide) ?_
                              cases hj8
                              exact Khj8 _ _ _ I (lv_sub hl [0] rfl)
                            · replace hj8 := it_u hc hj8
                              refine lv_iconst (v := 1) hx hb d_M_isBarred_84 (by decide) ?_
                              refine lv_goto (tgt := 89) hx hb d_M_isBarred_85 (by decide) ?_
                              cases hj8
                              exact Khj8 _ _ _ I (lv_sub hl [0] rfl)
def rm_M_local : Room := { frames := 2, cells := 0, slots := 0, locals := 45 }
noncomputable def f_M_local (u : St) (x1 : Int32) (x2 : Int32) (x3 : Int32) : Option (St) := bnd (if x2 = 22 then (1) else (if x2 = 55 then (1) else (0))) fun (z1 : Int32) => bnd (if (u.1 22) ≤ (x3 + z1) then (0) else (1)) fun (z2 : Int32) => cI (f_M_must u z2 23 x1) fun r5 u3 => some u3
set_option maxHeartbeats 4000000 in
set_option maxRecDepth 100000 in
theorem c_M_local {Z : zT} {D : va_G} {cs : Nat → ClassId} {a : Nat → Nat} (hw : wD (mW a cs)) (hz : zOK Z) (l : Launch) {u : St} {x1 : Int32} {x2 : Int32} {x3 : Int32} {u' : St} (hk : f_M_local u x1 x2 x3 = some u') : KV clA D cs (mW a cs) Z l y_M_local (.code y_M_local prog_9_method_54_code 4 (Option.none : Option Jvm.ClassFile.FieldType)) rm_M_local [.ref (a 0), .int x1, .int x2, .int x3] u u' := by
  unfold f_M_local at hk
  refine KV.of (by decide) (Nat.le_of_ble_eq_true rfl) hw hz ?_
  intro p e s m args below meth c Q C I hQ ls hl
  have hl : lv_has ls 4 [(0, .ref (a 0)), (1, .int x1), (2, .int x2), (3, .int x3)] := hl
  have hx := C.1.1
  have hb := C.1.2.1
  refine lv_aload_n hx hb d_M_local_0 rfl (lv_at hl 0 rfl) ?_
  refine lv_iload_n hx hb d_M_local_1 rfl (lv_at hl 3 rfl) ?_
  refine lv_iload_n hx hb d_M_local_2 rfl (lv_at hl 2 rfl) ?_
  refine lv_bipush (v := 22) hx hb d_M_local_3 (by decide) ?_
  obtain ⟨z1, hj7, hk⟩ := bnd_u hk
  have Khj7 : ∀ (H : Heap) (locs : List Loc) (ls : Array Slot), Dy clA D (mW a cs) s H locs u → lv_has ls 4 [(0, .ref (a 0)), (1, .int x1)] → W p l e rm_M_local s m args below meth c H locs 0 0 Q (F0 m 19 ls [.int z1, .int x3, .ref (a 0)]) := by
    intro H locs ls I hl
    refine lv_iadd hx hb d_M_local_19 ?_
    refine lv_aload_n hx hb d_M_local_20 rfl (lv_at hl 0 rfl) ?_
    refine g_M_locals C I k_727 d_M_local_21 ?_
    obtain ⟨z2, hj6, hk⟩ := bnd_u hk
    have Khj6 : ∀ (H : Heap) (locs : List Loc) (ls : Array Slot), Dy clA D (mW a cs) s H locs u → lv_has ls 4 [(1, .int x1)] → W p l e rm_M_local s m args below meth c H locs 0 0 Q (F0 m 32 ls [.int z2, .ref (a 0)]) := by
      intro H locs ls I hl
      refine lv_bipush (v := 23) hx hb d_M_local_32 (by decide) ?_
      refine lv_iload_n hx hb d_M_local_34 rfl (lv_at hl 0 rfl) ?_
      obtain ⟨r5, u3, h4, hk⟩ := cI_u hk
      refine go_I I (call_runV (rest := []) C I (c_M_must C.2.2.2.1 C.2.2.2.2.1 l h4 _) wd_M_must (q0 := 0) (ci := 7) rfl rfl k_843 ⟨rfl, rfl⟩ ⟨by decide, by decide⟩ rfl hl.1 rfl (Nat.le_of_ble_eq_true rfl) d_M_local_35) (fun H locs I => ?_)
      refine lv_pop hx hb d_M_local_38 rfl ?_
      exact hQ _ _ _ _ _ I hk d_M_local_39
    refine lv_icmp_ge (tgt := 31) hx hb d_M_local_24 (by decide) (fun hc => ?_) (fun hc => ?_)
    · replace hj6 := it_u hc hj6
      refine lv_iconst (v := 0) hx hb d_M_local_31 (by decide) ?_
      cases hj6
      exact Khj6 _ _ _ I (lv_sub hl [1] rfl)
    · replace hj6 := ie_u hc hj6
      refine lv_iconst (v := 1) hx hb d_M_local_27 (by decide) ?_
      refine lv_goto (tgt := 32) hx hb d_M_local_28 (by decide) ?_
      cases hj6
      exact Khj6 _ _ _ I (lv_sub hl [1] rfl)
  refine lv_icmp_eq (tgt := 14) hx hb d_M_local_5 (by decide) (fun hc => ?_) (fun hc => ?_)
  · replace hj7 := it_u hc hj7
    refine lv_iconst (v := 1) hx hb d_M_local_14 (by decide) ?_
    refine lv_goto (tgt := 19) hx hb d_M_local_15 (by decide) ?_
    cases hj7
    exact Khj7 _ _ _ I (lv_sub hl [0, 1] rfl)
  · replace hj7 := ie_u hc hj7
    refine lv_iload_n hx hb d_M_local_8 rfl (lv_at hl 2 rfl) ?_
    refine lv_bipush (v := 55) hx hb d_M_local_9 (by decide) ?_
    refine lv_icmp_ne (tgt := 18) hx hb d_M_local_11 (by decide) (fun hc => ?_) (fun hc => ?_)
    · replace hj7 := ie_u hc hj7
      refine lv_iconst (v := 0) hx hb d_M_local_18 (by decide) ?_
      cases hj7
      exact Khj7 _ _ _ I (lv_sub hl [0, 1] rfl)
    · replace hj7 := it_u hc hj7
      refine lv_iconst (v := 1) hx hb d_M_local_14 (by decide) ?_
      refine lv_goto (tgt := 19) hx hb d_M_local_15 (by decide) ?_
      cases hj7
      exact Khj7 _ _ _ I (lv_sub hl [0, 1] rfl)
def rm_M_invoke : Room := { frames := 6, cells := 0, slots := 0, locals := 137 }
noncomputable def f_M_invoke (u : St) (x1 : Int32) (x2 : Int32) (x3 : Int32) : Option (St) := cT (if x2 = 185 then (cI (f_M_isKind u x3 11) fun r47 u45 => some (r47, u45)) else (cI (f_M_isKind u x3 10) fun r41 u39 => if r41 = 0 then (if x2 = 182 then (some (0, u39)) else (if (u39.1 5) < 52 then (some (0, u39)) else (cI (f_M_isKind u39 x3 11) fun r44 u42 => if r44 = 0 then (some (0, u42)) else (some (1, u42))))) else (some (1, u39)))) fun (p48 : Int32 × St) => cI (f_M_must p48.2 p48.1 8 x1) fun r5 u3 => if r5 = 0 then (some u3) else (cT (if x2 = 183 then (some (1, u3)) else (cI (f_M_nameOf u3 x3) fun r33 u31 => cI (f_M_is u31 r33 6 66423521637438 0 0) fun r36 u34 => if r36 = 0 then (some (1, u34)) else (some (0, u34)))) fun (p37 : Int32 × St) => cI (f_M_must p37.2 p37.1 24 x1) fun r10 u8 => if x2 = 185 then (cI (f_M_typeOf u8 x3) fun r13 u11 => cI (f_M_isMethod u11 r13) fun r16 u14 => cT (if r16 = 0 then (some (0, u14)) else (cI (f_M_byteOf u14 (x1 + 3)) fun r25 u23 => if r25 = ((u23.1 19) + 1) then (cI (f_M_byteOf u23 (x1 + 4)) fun r28 u26 => if r28 = 0 then (some (1, u26)) else (some (0, u26))) else (some (0, u23)))) fun (p29 : Int32 × St) => cI (f_M_must p29.2 p29.1 24 x1) fun r21 u19 => some u19) else (some u8))
set_option maxHeartbeats 4000000 in
set_option maxRecDepth 100000 in
theorem c_M_invoke {Z : zT} {D : va_G} {cs : Nat → ClassId} {a : Nat → Nat} (hw : wD (mW a cs)) (hz : zOK Z) (l : Launch) {u : St} {x1 : Int32} {x2 : Int32} {x3 : Int32} {u' : St} (hk : f_M_invoke u x1 x2 x3 = some u') : KV clA D cs (mW a cs) Z l y_M_invoke (.code y_M_invoke prog_9_method_57_code 6 (Option.none : Option Jvm.ClassFile.FieldType)) rm_M_invoke [.ref (a 0), .int x1, .int x2, .int x3] u u' := by
  unfold f_M_invoke at hk
  refine KV.of (by decide) (Nat.le_of_ble_eq_true rfl) hw hz ?_
  intro p e s m args below meth c Q C I hQ ls hl
  have hl : lv_has ls 6 [(0, .ref (a 0)), (1, .int x1), (2, .int x2), (3, .int x3)] := hl
  have hx := C.1.1
  have hb := C.1.2.1
  refine lv_iload_n hx hb d_M_invoke_0 rfl (lv_at hl 2 rfl) ?_
  refine lv_sipush (v := 185) hx hb d_M_invoke_1 (by decide) ?_
  obtain ⟨⟨z1, u2⟩, hj38, hk⟩ := cT_u hk
  have Khj38 : ∀ (H : Heap) (locs : List Loc) (ls : Array Slot), Dy clA D (mW a cs) s H locs u2 → lv_has ls 6 [(0, .ref (a 0)), (1, .int x1), (2, .int x2), (3, .int x3)] → W p l e rm_M_invoke s m args below meth c H locs 0 0 Q (F0 m 58 ls [.int z1]) := by
    intro H locs ls I hl
    refine lv_istore (lv' := [(4, .int z1), (0, .ref (a 0)), (1, .int x1), (2, .int x2), (3, .int x3)]) hx hb d_M_invoke_58 hl (by decide) rfl (fun ls hl => ?_)
    refine lv_aload_n hx hb d_M_invoke_60 rfl (lv_at hl 1 rfl) ?_
    refine lv_iload hx hb d_M_invoke_61 (lv_at hl 0 rfl) ?_
    refine lv_bipush (v := 8) hx hb d_M_invoke_63 (by decide) ?_
    refine lv_iload_n hx hb d_M_invoke_65 rfl (lv_at hl 2 rfl) ?_
    obtain ⟨r5, u3, h4, hk⟩ := cI_u hk
    refine go_I I (call_runV (rest := []) C I (c_M_must C.2.2.2.1 C.2.2.2.2.1 l h4 _) wd_M_must (q0 := 0) (ci := 7) rfl rfl k_843 ⟨rfl, rfl⟩ ⟨by decide, by decide⟩ rfl hl.1 rfl (Nat.le_of_ble_eq_true rfl) d_M_invoke_66) (fun H locs I => ?_)
    refine lv_if_ne (tgt := 73) hx hb d_M_invoke_69 (by decide) (fun hc => ?_) (fun hc => ?_)
    · replace hk := ie_u hc hk
      refine lv_aload_n hx hb d_M_invoke_73 rfl (lv_at hl 1 rfl) ?_
      refine lv_iload_n hx hb d_M_invoke_74 rfl (lv_at hl 3 rfl) ?_
      refine lv_sipush (v := 183) hx hb d_M_invoke_75 (by decide) ?_
      obtain ⟨⟨z6, u7⟩, hj30, hk⟩ := cT_u hk
      have Khj30 : ∀ (H : Heap) (locs : List Loc) (ls : Array Slot), Dy clA D (mW a cs) s H locs u7 → lv_has ls 6 [(0, .ref (a 0)), (1, .int x1), (2, .int x2), (3, .int x3)] → W p l e rm_M_invoke s m args below meth c H locs 0 0 Q (F0 m 105 ls [.int z6, .ref (a 0)]) := by
        intro H locs ls I hl
        refine lv_bipush (v := 24) hx hb d_M_invoke_105 (by decide) ?_
        refine lv_iload_n hx hb d_M_invoke_107 rfl (lv_at hl 1 rfl) ?_
        obtain ⟨r10, u8, h9, hk⟩ := cI_u hk
        refine go_I I (call_runV (rest := []) C I (c_M_must C.2.2.2.1 C.2.2.2.2.1 l h9 _) wd_M_must (q0 := 0) (ci := 7) rfl rfl k_843 ⟨rfl, rfl⟩ ⟨by decide, by decide⟩ rfl hl.1 rfl (Nat.le_of_ble_eq_true rfl) d_M_invoke_108) (fun H locs I => ?_)
        refine lv_pop hx hb d_M_invoke_111 rfl ?_
        refine lv_iload_n hx hb d_M_invoke_112 rfl (lv_at hl 2 rfl) ?_
        refine lv_sipush (v := 185) hx hb d_M_invoke_113 (by decide) ?_
        refine lv_icmp_eq (tgt := 120) hx hb d_M_invoke_116 (by decide) (fun hc => ?_) (fun hc => ?_)
        · replace hk := it_u hc hk
          refine lv_aload_n hx hb d_M_invoke_120 rfl (lv_at hl 0 rfl) ?_
          refine lv_aload_n hx hb d_M_invoke_121 rfl (lv_at hl 0 rfl) ?_
          refine lv_iload_n hx hb d_M_invoke_122 rfl (lv_at hl 3 rfl) ?_
          obtain ⟨r13, u11, h12, hk⟩ := cI_u hk
          refine go_I I (call_runV (rest := [.ref (a 0)]) C I (c_M_typeOf C.2.2.2.1 C.2.2.2.2.1 l h12 _) wd_M_typeOf (q0 := 0) (ci := 7) rfl rfl k_913 ⟨rfl, rfl⟩ ⟨by decide, by decide⟩ rfl hl.1 rfl (Nat.le_of_ble_eq_true rfl) d_M_invoke_123) (fun H locs I => ?_)
          obtain ⟨r16, u14, h15, hk⟩ := cI_u hk
          refine go_I I (call_runV (rest := []) C I (c_M_isMethod C.2.2.2.1 C.2.2.2.2.1 l h15 _) wd_M_isMethod (q0 := 0) (ci := 7) rfl rfl k_909 ⟨rfl, rfl⟩ ⟨by decide, by decide⟩ rfl hl.1 rfl (Nat.le_of_ble_eq_true rfl) d_M_invoke_126) (fun H locs I => ?_)
          refine lv_istore (lv' := [(5, .int r16), (0, .ref (a 0)), (1, .int x1), (2, .int x2), (3, .int x3)]) hx hb d_M_invoke_129 hl (by decide) rfl (fun ls hl => ?_)
          refine lv_aload_n hx hb d_M_invoke_131 rfl (lv_at hl 1 rfl) ?_
          refine lv_iload hx hb d_M_invoke_132 (lv_at hl 0 rfl) ?_
          obtain ⟨⟨z17, u18⟩, hj22, hk⟩ := cT_u hk
          have Khj22 : ∀ (H : Heap) (locs : List Loc) (ls : Array Slot), Dy clA D (mW a cs) s H locs u18 → lv_has ls 6 [(1, .int x1)] → W p l e rm_M_invoke s m args below meth c H locs 0 0 Q (F0 m 168 ls [.int z17, .ref (a 0)]) := by
            intro H locs ls I hl
            refine lv_bipush (v := 24) hx hb d_M_invoke_168 (by decide) ?_
            refine lv_iload_n hx hb d_M_invoke_170 rfl (lv_at hl 0 rfl) ?_
            obtain ⟨r21, u19, h20, hk⟩ := cI_u hk
            refine go_I I (call_runV (rest := []) C I (c_M_must C.2.2.2.1 C.2.2.2.2.1 l h20 _) wd_M_must (q0 := 0) (ci := 7) rfl rfl k_843 ⟨rfl, rfl⟩ ⟨by decide, by decide⟩ rfl hl.1 rfl (Nat.le_of_ble_eq_true rfl) d_M_invoke_171) (fun H locs I => ?_)
            refine lv_pop hx hb d_M_invoke_174 rfl ?_
            exact hQ _ _ _ _ _ I hk d_M_invoke_175
          refine lv_if_eq (tgt := 167) hx hb d_M_invoke_134 (by decide) (fun hc => ?_) (fun hc => ?_)
          · replace hj22 := it_u hc hj22
            refine lv_iconst (v := 0) hx hb d_M_invoke_167 (by decide) ?_
            cases hj22
            exact Khj22 _ _ _ I (lv_sub hl [2] rfl)
          · replace hj22 := ie_u hc hj22
            refine lv_aload_n hx hb d_M_invoke_137 rfl (lv_at hl 1 rfl) ?_
            refine lv_iload_n hx hb d_M_invoke_138 rfl (lv_at hl 2 rfl) ?_
            refine lv_iconst (v := 3) hx hb d_M_invoke_139 (by decide) ?_
            refine lv_iadd hx hb d_M_invoke_140 ?_
            obtain ⟨r25, u23, h24, hj22⟩ := cI_u hj22
            refine go_I I (call_runV (rest := [.ref (a 0)]) C I (c_M_byteOf C.2.2.2.1 C.2.2.2.2.1 l h24 _) wd_M_byteOf (q0 := 0) (ci := 7) rfl rfl k_985 ⟨rfl, rfl⟩ ⟨by decide, by decide⟩ rfl hl.1 rfl (Nat.le_of_ble_eq_true rfl) d_M_invoke_141) (fun H locs I => ?_)
            refine lv_aload_n hx hb d_M_invoke_144 rfl (lv_at hl 1 rfl) ?_
            refine g_M_slots C I k_724 d_M_invoke_145 ?_
            refine lv_iconst (v := 1) hx hb d_M_invoke_148 (by decide) ?_
            refine lv_iadd hx hb d_M_invoke_149 ?_
            refine lv_icmp_ne (tgt := 167) hx hb d_M_invoke_150 (by decide) (fun hc => ?_) (fun hc => ?_)
            · replace hj22 := ie_u hc hj22
              refine lv_iconst (v := 0) hx hb d_M_invoke_167 (by decide) ?_
              cases hj22
              exact Khj22 _ _ _ I (lv_sub hl [2] rfl)
            · replace hj22 := it_u hc hj22
              refine lv_aload_n hx hb d_M_invoke_153 rfl (lv_at hl 1 rfl) ?_
              refine lv_iload_n hx hb d_M_invoke_154 rfl (lv_at hl 2 rfl) ?_
              refine lv_iconst (v := 4) hx hb d_M_invoke_155 (by decide) ?_
              refine lv_iadd hx hb d_M_invoke_156 ?_
              obtain ⟨r28, u26, h27, hj22⟩ := cI_u hj22
              refine go_I I (call_runV (rest := [.ref (a 0)]) C I (c_M_byteOf C.2.2.2.1 C.2.2.2.2.1 l h27 _) wd_M_byteOf (q0 := 0) (ci := 7) rfl rfl k_985 ⟨rfl, rfl⟩ ⟨by decide, by decide⟩ rfl hl.1 rfl (Nat.le_of_ble_eq_true rfl) d_M_invoke_157) (fun H locs I => ?_)
              refine lv_if_ne (tgt := 167) hx hb d_M_invoke_160 (by decide) (fun hc => ?_) (fun hc => ?_)
              · replace hj22 := ie_u hc hj22
                refine lv_iconst (v := 0) hx hb d_M_invoke_167 (by decide) ?_
                cases hj22
                exact Khj22 _ _ _ I (lv_sub hl [2] rfl)
              · replace hj22 := it_u hc hj22
                refine lv_iconst (v := 1) hx hb d_M_invoke_163 (by decide) ?_
                refine lv_goto (tgt := 168) hx hb d_M_invoke_164 (by decide) ?_
                cases hj22
                exact Khj22 _ _ _ I (lv_sub hl [2] rfl)
        · replace hk := ie_u hc hk
          exact hQ _ _ _ _ _ I hk d_M_invoke_119
      refine lv_icmp_eq (tgt := 100) hx hb d_M_invoke_78 (by decide) (fun hc => ?_) (fun hc => ?_)
      · replace hj30 := it_u hc hj30
        refine lv_iconst (v := 1) hx hb d_M_invoke_100 (by decide) ?_
        refine lv_goto (tgt := 105) hx hb d_M_invoke_101 (by decide) ?_
        cases hj30
        exact Khj30 _ _ _ I (lv_sub hl [1, 2, 3, 4] rfl)
      · replace hj30 := ie_u hc hj30
        refine lv_aload_n hx hb d_M_invoke_81 rfl (lv_at hl 1 rfl) ?_
        refine lv_aload_n hx hb d_M_invoke_82 rfl (lv_at hl 1 rfl) ?_
        refine lv_iload_n hx hb d_M_invoke_83 rfl (lv_at hl 4 rfl) ?_
        obtain ⟨r33, u31, h32, hj30⟩ := cI_u hj30
        refine go_I I (call_runV (rest := [.ref (a 0), .ref (a 0)]) C I (c_M_nameOf C.2.2.2.1 C.2.2.2.2.1 l h32 _) wd_M_nameOf (q0 := 0) (ci := 7) rfl rfl k_917 ⟨rfl, rfl⟩ ⟨by decide, by decide⟩ rfl hl.1 rfl (Nat.le_of_ble_eq_true rfl) d_M_invoke_84) (fun H locs I => ?_)
        refine lv_bipush (v := 6) hx hb d_M_invoke_87 (by decide) ?_
        refine lv_ldc2 hx hb C.1.2.2.2 (C.2.1 _ k_902) d_M_invoke_89 ?_
        refine lv_lconst (v := 0) hx hb d_M_invoke_92 (by decide) ?_
        refine lv_lconst (v := 0) hx hb d_M_invoke_93 (by decide) ?_
        obtain ⟨r36, u34, h35, hj30⟩ := cI_u hj30
        refine go_I I (call_runV (rest := [.ref (a 0)]) C I (c_M_is C.2.2.2.1 C.2.2.2.2.1 l h35 _) wd_M_is (q0 := 0) (ci := 7) rfl rfl k_903 ⟨rfl, rfl⟩ ⟨by decide, by decide⟩ rfl hl.1 rfl (Nat.le_of_ble_eq_true rfl) d_M_invoke_94) (fun H locs I => ?_)
        refine lv_if_ne (tgt := 104) hx hb d_M_invoke_97 (by decide) (fun hc => ?_) (fun hc => ?_)
        · replace hj30 := ie_u hc hj30
          refine lv_iconst (v := 0) hx hb d_M_invoke_104 (by decide) ?_
          cases hj30
          exact Khj30 _ _ _ I (lv_sub hl [1, 2, 3, 4] rfl)
        · replace hj30 := it_u hc hj30
          refine lv_iconst (v := 1) hx hb d_M_invoke_100 (by decide) ?_
          refine lv_goto (tgt := 105) hx hb d_M_invoke_101 (by decide) ?_
          cases hj30
          exact Khj30 _ _ _ I (lv_sub hl [1, 2, 3, 4] rfl)
    · replace hk := it_u hc hk
      exact hQ _ _ _ _ _ I hk d_M_invoke_72
  refine lv_icmp_ne (tgt := 17) hx hb d_M_invoke_4 (by decide) (fun hc => ?_) (fun hc => ?_)
  · replace hj38 := ie_u hc hj38
    refine lv_aload_n hx hb d_M_invoke_17 rfl (lv_at hl 0 rfl) ?_
    refine lv_iload_n hx hb d_M_invoke_18 rfl (lv_at hl 3 rfl) ?_
    refine lv_bipush (v := 10) hx hb d_M_invoke_19 (by decide) ?_
    obtain ⟨r41, u39, h40, hj38⟩ := cI_u hj38
    refine go_I I (call_runV (rest := []) C I (c_M_isKind C.2.2.2.1 C.2.2.2.2.1 l h40 _) wd_M_isKind (q0 := 0) (ci := 7) rfl rfl k_863 ⟨rfl, rfl⟩ ⟨by decide, by decide⟩ rfl hl.1 rfl (Nat.le_of_ble_eq_true rfl) d_M_invoke_21) (fun H locs I => ?_)
    refine lv_if_ne (tgt := 53) hx hb d_M_invoke_24 (by decide) (fun hc => ?_) (fun hc => ?_)
    · replace hj38 := ie_u hc hj38
      refine lv_iconst (v := 1) hx hb d_M_invoke_53 (by decide) ?_
      refine lv_goto (tgt := 58) hx hb d_M_invoke_54 (by decide) ?_
      cases hj38
      exact Khj38 _ _ _ I (lv_sub hl [0, 1, 2, 3] rfl)
    · replace hj38 := it_u hc hj38
      refine lv_iload_n hx hb d_M_invoke_27 rfl (lv_at hl 2 rfl) ?_
      refine lv_sipush (v := 182) hx hb d_M_invoke_28 (by decide) ?_
      refine lv_icmp_eq (tgt := 57) hx hb d_M_invoke_31 (by decide) (fun hc => ?_) (fun hc => ?_)
      · replace hj38 := it_u hc hj38
        refine lv_iconst (v := 0) hx hb d_M_invoke_57 (by decide) ?_
        cases hj38
        exact Khj38 _ _ _ I (lv_sub hl [0, 1, 2, 3] rfl)
      · replace hj38 := ie_u hc hj38
        refine lv_aload_n hx hb d_M_invoke_34 rfl (lv_at hl 0 rfl) ?_
        refine g_M_version C I k_700 d_M_invoke_35 ?_
        refine lv_bipush (v := 52) hx hb d_M_invoke_38 (by decide) ?_
        refine lv_icmp_lt (tgt := 57) hx hb d_M_invoke_40 (by decide) (fun hc => ?_) (fun hc => ?_)
        · replace hj38 := it_u hc hj38
          refine lv_iconst (v := 0) hx hb d_M_invoke_57 (by decide) ?_
          cases hj38
          exact Khj38 _ _ _ I (lv_sub hl [0, 1, 2, 3] rfl)
        · replace hj38 := ie_u hc hj38
          refine lv_aload_n hx hb d_M_invoke_43 rfl (lv_at hl 0 rfl) ?_
          refine lv_iload_n hx hb d_M_invoke_44 rfl (lv_at hl 3 rfl) ?_
          refine lv_bipush (v := 11) hx hb d_M_invoke_45 (by decide) ?_
          obtain ⟨r44, u42, h43, hj38⟩ := cI_u hj38
          refine go_I I (call_runV (rest := []) C I (c_M_isKind C.2.2.2.1 C.2.2.2.2.1 l h43 _) wd_M_isKind (q0 := 0) (ci := 7) rfl rfl k_863 ⟨rfl, rfl⟩ ⟨by decide, by decide⟩ rfl hl.1 rfl (Nat.le_of_ble_eq_true rfl) d_M_invoke_47) (fun H locs I => ?_)
          refine lv_if_eq (tgt := 57) hx hb d_M_invoke_50 (by decide) (fun hc => ?_) (fun hc => ?_)
          · replace hj38 := it_u hc hj38
            refine lv_iconst (v := 0) hx hb d_M_invoke_57 (by decide) ?_
            cases hj38
            exact Khj38 _ _ _ I (lv_sub hl [0, 1, 2, 3] rfl)
          · replace hj38 := ie_u hc hj38
            refine lv_iconst (v := 1) hx hb d_M_invoke_53 (by decide) ?_
            refine lv_goto (tgt := 58) hx hb d_M_invoke_54 (by decide) ?_
            cases hj38
            exact Khj38 _ _ _ I (lv_sub hl [0, 1, 2, 3] rfl)
  · replace hj38 := it_u hc hj38
    refine lv_aload_n hx hb d_M_invoke_7 rfl (lv_at hl 0 rfl) ?_
    refine lv_iload_n hx hb d_M_invoke_8 rfl (lv_at hl 3 rfl) ?_
    refine lv_bipush (v := 11) hx hb d_M_invoke_9 (by decide) ?_
    obtain ⟨r47, u45, h46, hj38⟩ := cI_u hj38
    refine go_I I (call_runV (rest := []) C I (c_M_isKind C.2.2.2.1 C.2.2.2.2.1 l h46 _) wd_M_isKind (q0 := 0) (ci := 7) rfl rfl k_863 ⟨rfl, rfl⟩ ⟨by decide, by decide⟩ rfl hl.1 rfl (Nat.le_of_ble_eq_true rfl) d_M_invoke_11) (fun H locs I => ?_)
    refine lv_goto (tgt := 58) hx hb d_M_invoke_14 (by decide) ?_
    cases hj38
    exact Khj38 _ _ _ I (lv_sub hl [0, 1, 2, 3] rfl)
def rm_M_plain : Room := { frames := 7, cells := 0, slots := 0, locals := 162 }
noncomputable def f_M_plain_L395 (x1 : Int32) (x2 : Int32) (x3 : Int32) (x4 : Int32) : Nat → St → Int32 → Option (St × Int32)
  | 0, _, _ => none
  | n + 1, u, x5 => cI (f_M_textOf u x3) fun r24 u22 => cI (f_M_letter u22 r24 x5) fun r27 u25 => if r27 = 91 then (f_M_plain_L395 x1 x2 x3 x4 n u25 (x5 + 1)) else (some (u25, x5))
noncomputable def f_M_plain (u : St) (x1 : Int32) (x2 : Int32) : Option (St) := cT (if x2 < 21 then (if x2 < 54 then (some (u)) else (if 58 < x2 then (some (u)) else (cI (f_M_byteOf u (x1 + 1)) fun r394 u392 => cV (f_M_local u392 x1 x2 r394) fun u395 => some (u395)))) else (if x2 ≤ 25 then (cI (f_M_byteOf u (x1 + 1)) fun r399 u397 => cV (f_M_local u397 x1 x2 r399) fun u400 => some (u400)) else (if x2 < 54 then (some (u)) else (if 58 < x2 then (some (u)) else (cI (f_M_byteOf u (x1 + 1)) fun r404 u402 => cV (f_M_local u402 x1 x2 r404) fun u405 => some (u405)))))) fun (u1 : St) => cT (if x2 < 26 then (some (u1)) else (if 45 < x2 then (some (u1)) else (cV (f_M_local u1 x1 (21 + ((x2 - 26) / 4)) ((x2 - 26) - (x2 - 26) / 4 * 4)) fun u389 => some (u389)))) fun (u2 : St) => cT (if x2 < 59 then (some (u2)) else (if 78 < x2 then (some (u2)) else (cV (f_M_local u2 x1 (54 + ((x2 - 59) / 4)) ((x2 - 59) - (x2 - 59) / 4 * 4)) fun u386 => some (u386)))) fun (u3 : St) => cT (if x2 = 132 then (cI (f_M_byteOf u3 (x1 + 1)) fun r382 u380 => cV (f_M_local u380 x1 x2 r382) fun u383 => some (u383)) else (some (u3))) fun (u4 : St) => cT (if x2 = 18 then (cT (if x2 = 18 then (cI (f_M_byteOf u4 (x1 + 1)) fun r351 u349 => some (r351, u349)) else (cI (f_M_two u4 (x1 + 1)) fun r348 u346 => some (r348, u346))) fun (p352 : Int32 × St) => cI (f_M_isKind p352.2 p352.1 3) fun r331 u329 => cT (if r331 = 0 then (cI (f_M_isKind u329 p352.1 8) fun r340 u338 => if r340 = 0 then (cI (f_M_isKind u338 p352.1 7) fun r343 u341 => if r343 = 0 then (some (0, u341)) else (some (1, u341))) else (some (1, u338))) else (some (1, u329))) fun (p344 : Int32 × St) => cI (f_M_must p344.2 p344.1 8 x1) fun r336 u334 => some (u334)) else (if x2 = 19 then (cT (if x2 = 18 then (cI (f_M_byteOf u4 (x1 + 1)) fun r377 u375 => some (r377, u375)) else (cI (f_M_two u4 (x1 + 1)) fun r374 u372 => some (r374, u372))) fun (p378 : Int32 × St) => cI (f_M_isKind p378.2 p378.1 3) fun r357 u355 => cT (if r357 = 0 then (cI (f_M_isKind u355 p378.1 8) fun r366 u364 => if r366 = 0 then (cI (f_M_isKind u364 p378.1 7) fun r369 u367 => if r369 = 0 then (some (0, u367)) else (some (1, u367))) else (some (1, u364))) else (some (1, u355))) fun (p370 : Int32 × St) => cI (f_M_must p370.2 p370.1 8 x1) fun r362 u360 => some (u360)) else (some (u4)))) fun (u5 : St) => cT (if x2 = 20 then (cI (f_M_two u5 (x1 + 1)) fun r319 u317 => cI (f_M_isKind u317 r319 5) fun r322 u320 => cI (f_M_must u320 r322 8 x1) fun r325 u323 => some (u323)) else (some (u5))) fun (u6 : St) => cT (if x2 < 178 then (some (u6)) else (if 181 < x2 then (some (u6)) else (cI (f_M_two u6 (x1 + 1)) fun r309 u307 => cI (f_M_isKind u307 r309 9) fun r312 u310 => cI (f_M_must u310 r312 8 x1) fun r315 u313 => some (u313)))) fun (u7 : St) => cT (if x2 < 182 then (some (u7)) else (if 185 < x2 then (some (u7)) else (cI (f_M_two u7 (x1 + 1)) fun r303 u301 => cV (f_M_invoke u301 x1 x2 r303) fun u304 => some (u304)))) fun (u8 : St) => if x2 = 187 then (cI (f_M_two u8 (x1 + 1)) fun r11 u9 => cI (f_M_isKind u9 r11 7) fun r14 u12 => cI (f_M_must u12 r14 8 x1) fun r17 u15 => if r17 = 0 then (some u15) else (cT (if x2 = 187 then (cI (f_M_isArray u15 r11) fun r57 u55 => bnd (if r57 = 0 then (1) else (0)) fun (z58 : Int32) => cI (f_M_must u55 z58 24 x1) fun r61 u59 => some (u59)) else (some (u15))) fun (u18 : St) => cT (if x2 = 197 then (cI (f_M_byteOf u18 (x1 + 3)) fun r44 u42 => cT (f_M_plain_L395 x1 x2 r11 r44 FU u42 0) fun (p53 : St × Int32) => bnd (if r44 < 1 then (0) else (if p53.2 < r44 then (0) else (1))) fun (z47 : Int32) => cI (f_M_must p53.1 z47 24 x1) fun r50 u48 => some (u48)) else (some (u18))) fun (u19 : St) => cT (if x2 = 188 then (cI (f_M_byteOf u19 (x1 + 1)) fun r24 u22 => cT (if r24 = 4 then (some (1, u22)) else (cI (f_M_byteOf u22 (x1 + 1)) fun r33 u31 => if r33 = 5 then (some (1, u31)) else (cI (f_M_byteOf u31 (x1 + 1)) fun r36 u34 => if r36 < 8 then (some (0, u34)) else (cI (f_M_byteOf u34 (x1 + 1)) fun r39 u37 => if 11 < r39 then (some (0, u37)) else (some (1, u37)))))) fun (p40 : Int32 × St) => cI (f_M_must p40.2 p40.1 24 x1) fun r29 u27 => some (u27)) else (some (u19))) fun (u20 : St) => some u20)) else (if x2 = 189 then (cI (f_M_two u8 (x1 + 1)) fun r65 u63 => cI (f_M_isKind u63 r65 7) fun r68 u66 => cI (f_M_must u66 r68 8 x1) fun r71 u69 => if r71 = 0 then (some u69) else (cT (if x2 = 187 then (cI (f_M_isArray u69 r65) fun r111 u109 => bnd (if r111 = 0 then (1) else (0)) fun (z112 : Int32) => cI (f_M_must u109 z112 24 x1) fun r115 u113 => some (u113)) else (some (u69))) fun (u72 : St) => cT (if x2 = 197 then (cI (f_M_byteOf u72 (x1 + 3)) fun r98 u96 => cT (f_M_plain_L395 x1 x2 r65 r98 FU u96 0) fun (p107 : St × Int32) => bnd (if r98 < 1 then (0) else (if p107.2 < r98 then (0) else (1))) fun (z101 : Int32) => cI (f_M_must p107.1 z101 24 x1) fun r104 u102 => some (u102)) else (some (u72))) fun (u73 : St) => cT (if x2 = 188 then (cI (f_M_byteOf u73 (x1 + 1)) fun r78 u76 => cT (if r78 = 4 then (some (1, u76)) else (cI (f_M_byteOf u76 (x1 + 1)) fun r87 u85 => if r87 = 5 then (some (1, u85)) else (cI (f_M_byteOf u85 (x1 + 1)) fun r90 u88 => if r90 < 8 then (some (0, u88)) else (cI (f_M_byteOf u88 (x1 + 1)) fun r93 u91 => if 11 < r93 then (some (0, u91)) else (some (1, u91)))))) fun (p94 : Int32 × St) => cI (f_M_must p94.2 p94.1 24 x1) fun r83 u81 => some (u81)) else (some (u73))) fun (u74 : St) => some u74)) else (if x2 = 192 then (cI (f_M_two u8 (x1 + 1)) fun r119 u117 => cI (f_M_isKind u117 r119 7) fun r122 u120 => cI (f_M_must u120 r122 8 x1) fun r125 u123 => if r125 = 0 then (some u123) else (cT (if x2 = 187 then (cI (f_M_isArray u123 r119) fun r165 u163 => bnd (if r165 = 0 then (1) else (0)) fun (z166 : Int32) => cI (f_M_must u163 z166 24 x1) fun r169 u167 => some (u167)) else (some (u123))) fun (u126 : St) => cT (if x2 = 197 then (cI (f_M_byteOf u126 (x1 + 3)) fun r152 u150 => cT (f_M_plain_L395 x1 x2 r119 r152 FU u150 0) fun (p161 : St × Int32) => bnd (if r152 < 1 then (0) else (if p161.2 < r152 then (0) else (1))) fun (z155 : Int32) => cI (f_M_must p161.1 z155 24 x1) fun r158 u156 => some (u156)) else (some (u126))) fun (u127 : St) => cT (if x2 = 188 then (cI (f_M_byteOf u127 (x1 + 1)) fun r132 u130 => cT (if r132 = 4 then (some (1, u130)) else (cI (f_M_byteOf u130 (x1 + 1)) fun r141 u139 => if r141 = 5 then (some (1, u139)) else (cI (f_M_byteOf u139 (x1 + 1)) fun r144 u142 => if r144 < 8 then (some (0, u142)) else (cI (f_M_byteOf u142 (x1 + 1)) fun r147 u145 => if 11 < r147 then (some (0, u145)) else (some (1, u145)))))) fun (p148 : Int32 × St) => cI (f_M_must p148.2 p148.1 24 x1) fun r137 u135 => some (u135)) else (some (u127))) fun (u128 : St) => some u128)) else (if x2 = 193 then (cI (f_M_two u8 (x1 + 1)) fun r173 u171 => cI (f_M_isKind u171 r173 7) fun r176 u174 => cI (f_M_must u174 r176 8 x1) fun r179 u177 => if r179 = 0 then (some u177) else (cT (if x2 = 187 then (cI (f_M_isArray u177 r173) fun r219 u217 => bnd (if r219 = 0 then (1) else (0)) fun (z220 : Int32) => cI (f_M_must u217 z220 24 x1) fun r223 u221 => some (u221)) else (some (u177))) fun (u180 : St) => cT (if x2 = 197 then (cI (f_M_byteOf u180 (x1 + 3)) fun r206 u204 => cT (f_M_plain_L395 x1 x2 r173 r206 FU u204 0) fun (p215 : St × Int32) => bnd (if r206 < 1 then (0) else (if p215.2 < r206 then (0) else (1))) fun (z209 : Int32) => cI (f_M_must p215.1 z209 24 x1) fun r212 u210 => some (u210)) else (some (u180))) fun (u181 : St) => cT (if x2 = 188 then (cI (f_M_byteOf u181 (x1 + 1)) fun r186 u184 => cT (if r186 = 4 then (some (1, u184)) else (cI (f_M_byteOf u184 (x1 + 1)) fun r195 u193 => if r195 = 5 then (some (1, u193)) else (cI (f_M_byteOf u193 (x1 + 1)) fun r198 u196 => if r198 < 8 then (some (0, u196)) else (cI (f_M_byteOf u196 (x1 + 1)) fun r201 u199 => if 11 < r201 then (some (0, u199)) else (some (1, u199)))))) fun (p202 : Int32 × St) => cI (f_M_must p202.2 p202.1 24 x1) fun r191 u189 => some (u189)) else (some (u181))) fun (u182 : St) => some u182)) else (if x2 = 197 then (cI (f_M_two u8 (x1 + 1)) fun r248 u246 => cI (f_M_isKind u246 r248 7) fun r251 u249 => cI (f_M_must u249 r251 8 x1) fun r254 u252 => if r254 = 0 then (some u252) else (cT (if x2 = 187 then (cI (f_M_isArray u252 r248) fun r294 u292 => bnd (if r294 = 0 then (1) else (0)) fun (z295 : Int32) => cI (f_M_must u292 z295 24 x1) fun r298 u296 => some (u296)) else (some (u252))) fun (u255 : St) => cT (if x2 = 197 then (cI (f_M_byteOf u255 (x1 + 3)) fun r281 u279 => cT (f_M_plain_L395 x1 x2 r248 r281 FU u279 0) fun (p290 : St × Int32) => bnd (if r281 < 1 then (0) else (if p290.2 < r281 then (0) else (1))) fun (z284 : Int32) => cI (f_M_must p290.1 z284 24 x1) fun r287 u285 => some (u285)) else (some (u255))) fun (u256 : St) => cT (if x2 = 188 then (cI (f_M_byteOf u256 (x1 + 1)) fun r261 u259 => cT (if r261 = 4 then (some (1, u259)) else (cI (f_M_byteOf u259 (x1 + 1)) fun r270 u268 => if r270 = 5 then (some (1, u268)) else (cI (f_M_byteOf u268 (x1 + 1)) fun r273 u271 => if r273 < 8 then (some (0, u271)) else (cI (f_M_byteOf u271 (x1 + 1)) fun r276 u274 => if 11 < r276 then (some (0, u274)) else (some (1, u274)))))) fun (p277 : Int32 × St) => cI (f_M_must p277.2 p277.1 24 x1) fun r266 u264 => some (u264)) else (some (u256))) fun (u257 : St) => some u257)) else (cT (if x2 = 188 then (cI (f_M_byteOf u8 (x1 + 1)) fun r229 u227 => cT (if r229 = 4 then (some (1, u227)) else (cI (f_M_byteOf u227 (x1 + 1)) fun r238 u236 => if r238 = 5 then (some (1, u236)) else (cI (f_M_byteOf u236 (x1 + 1)) fun r241 u239 => if r241 < 8 then (some (0, u239)) else (cI (f_M_byteOf u239 (x1 + 1)) fun r244 u242 => if 11 < r244 then (some (0, u242)) else (some (1, u242)))))) fun (p245 : Int32 × St) => cI (f_M_must p245.2 p245.1 24 x1) fun r234 u232 => some (u232)) else (some (u8))) fun (u225 : St) => some u225)))))
set_option maxHeartbeats 4000000 in
set_option maxRecDepth 100000 in
theorem w_M_plain_L395 {Z : zT} {D : va_G} {cs : Nat → ClassId} {a : Nat → Nat} {p : Program} {l : Launch} {e : Env} {s : State} {m : MethodId} {args : Array Value} {below : List Frame} {meth : Method} {c : Code} {Q : State → Prop}  {u2 : St} {o5 : Int32} {x1 : Int32} {x2 : Int32} {x3 : Int32} {x4 : Int32} (C : Cx clA R_M prog_9_method_56_code 6 D cs (mW a cs) Z p s m args c) (hE : ∀ (H : Heap) (locs : List Loc) (ls : Array Slot), Dy clA D (mW a cs) s H locs u2 → lv_has ls 6 [(0, .ref (a 0)), (1, .int x1), (2, .int x2), (4, .int x4), (5, .int o5)] → W p l e rm_M_plain s m args below meth c H locs 0 0 Q (F0 m 417 ls [])) : ∀ (n : Nat) (u : St) (x5 : Int32) (H : Heap) (locs : List Loc) (ls : Array Slot), f_M_plain_L395 x1 x2 x3 x4 n u x5 = some (u2, o5) → Dy clA D (mW a cs) s H locs u → lv_has ls 6 [(0, .ref (a 0)), (1, .int x1), (2, .int x2), (3, .int x3), (4, .int x4), (5, .int x5)] → W p l e rm_M_plain s m args below meth c H locs 0 0 Q (F0 m 395 ls []) := by
  have hx := C.1.1
  have hb := C.1.2.1
  intro n
  induction n with
  | zero =>
    intro u x5 H locs ls hk I hl
    rw [f_M_plain_L395] at hk
    cases hk
  | succ n ih =>
    intro u x5 H locs ls hk I hl
    rw [f_M_plain_L395] at hk
    refine lv_aload_n hx hb d_M_plain_395 rfl (lv_at hl 0 rfl) ?_
    refine lv_aload_n hx hb d_M_plain_396 rfl (lv_at hl 0 rfl) ?_
    refine lv_iload_n hx hb d_M_plain_397 rfl (lv_at hl 3 rfl) ?_
    obtain ⟨r24, u22, h23, hk⟩ := cI_u hk
    refine go_I I (call_runV (rest := [.ref (a 0)]) C I (c_M_textOf C.2.2.2.1 C.2.2.2.2.1 l h23 _) wd_M_textOf (q0 := 0) (ci := 7) rfl rfl k_937 ⟨rfl, rfl⟩ ⟨by decide, by decide⟩ rfl hl.1 rfl (Nat.le_of_ble_eq_true rfl) d_M_plain_398) (fun H locs I => ?_)
    refine lv_iload hx hb d_M_plain_401 (lv_at hl 5 rfl) ?_
    obtain ⟨r27, u25, h26, hk⟩ := cI_u hk
    refine go_I I (call_runV (rest := []) C I (c_M_letter C.2.2.2.1 C.2.2.2.2.1 l h26 _) wd_M_letter (q0 := 0) (ci := 7) rfl rfl k_867 ⟨rfl, rfl⟩ ⟨by decide, by decide⟩ rfl hl.1 rfl (Nat.le_of_ble_eq_true rfl) d_M_plain_403) (fun H locs I => ?_)
    refine lv_bipush (v := 91) hx hb d_M_plain_406 (by decide) ?_
    refine lv_icmp_ne (tgt := 417) hx hb d_M_plain_408 (by decide) (fun hc => ?_) (fun hc => ?_)
    · replace hk := ie_u hc hk
      cases hk
      exact hE _ _ _ I (lv_sub hl [0, 1, 2, 4, 5] rfl)
    · replace hk := it_u hc hk
      refine lv_iinc (v := (x5 + 1)) (lv' := [(5, .int (x5 + 1)), (0, .ref (a 0)), (1, .int x1), (2, .int x2), (3, .int x3), (4, .int x4)]) hx hb d_M_plain_411 hl (k := 5) rfl rfl (by decide) rfl (fun ls hl => ?_)
      refine lv_goto (tgt := 395) hx hb d_M_plain_414 (by decide) ?_
      exact ih u25 (x5 + 1) _ _ _ hk I (lv_sub hl [1, 2, 3, 4, 5, 0] rfl)
set_option maxHeartbeats 4000000 in
set_option maxRecDepth 100000 in
theorem c_M_plain {Z : zT} {D : va_G} {cs : Nat → ClassId} {a : Nat → Nat} (hw : wD (mW a cs)) (hz : zOK Z) (l : Launch) {u : St} {x1 : Int32} {x2 : Int32} {u' : St} (hk : f_M_plain u x1 x2 = some u') : KV clA D cs (mW a cs) Z l y_M_plain (.code y_M_plain prog_9_method_56_code 6 (Option.none : Option Jvm.ClassFile.FieldType)) rm_M_plain [.ref (a 0), .int x1, .int x2] u u' := by
  unfold f_M_plain at hk
  refine KV.of (by decide) (Nat.le_of_ble_eq_true rfl) hw hz ?_
  intro p e s m args below meth c Q C I hQ ls hl
  have hl : lv_has ls 6 [(0, .ref (a 0)), (1, .int x1), (2, .int x2)] := hl
  have hx := C.1.1
  have hb := C.1.2.1
  refine lv_iload_n hx hb d_M_plain_0 rfl (lv_at hl 2 rfl) ?_
  refine lv_bipush (v := 21) hx hb d_M_plain_1 (by decide) ?_
  obtain ⟨u1, hj391, hk⟩ := cT_u hk
  have Khj391 : ∀ (H : Heap) (locs : List Loc) (ls : Array Slot), Dy clA D (mW a cs) s H locs u1 → lv_has ls 6 [(0, .ref (a 0)), (1, .int x1), (2, .int x2)] → W p l e rm_M_plain s m args below meth c H locs 0 0 Q (F0 m 37 ls []) := by
    intro H locs ls I hl
    refine lv_iload_n hx hb d_M_plain_37 rfl (lv_at hl 2 rfl) ?_
    refine lv_bipush (v := 26) hx hb d_M_plain_38 (by decide) ?_
    obtain ⟨u2, hj388, hk⟩ := cT_u hk
    have Khj388 : ∀ (H : Heap) (locs : List Loc) (ls : Array Slot), Dy clA D (mW a cs) s H locs u2 → lv_has ls 6 [(0, .ref (a 0)), (1, .int x1), (2, .int x2)] → W p l e rm_M_plain s m args below meth c H locs 0 0 Q (F0 m 69 ls []) := by
      intro H locs ls I hl
      refine lv_iload_n hx hb d_M_plain_69 rfl (lv_at hl 2 rfl) ?_
      refine lv_bipush (v := 59) hx hb d_M_plain_70 (by decide) ?_
      obtain ⟨u3, hj385, hk⟩ := cT_u hk
      have Khj385 : ∀ (H : Heap) (locs : List Loc) (ls : Array Slot), Dy clA D (mW a cs) s H locs u3 → lv_has ls 6 [(0, .ref (a 0)), (1, .int x1), (2, .int x2)] → W p l e rm_M_plain s m args below meth c H locs 0 0 Q (F0 m 101 ls []) := by
        intro H locs ls I hl
        refine lv_iload_n hx hb d_M_plain_101 rfl (lv_at hl 2 rfl) ?_
        refine lv_sipush (v := 132) hx hb d_M_plain_102 (by decide) ?_
        obtain ⟨u4, hj379, hk⟩ := cT_u hk
        have Khj379 : ∀ (H : Heap) (locs : List Loc) (ls : Array Slot), Dy clA D (mW a cs) s H locs u4 → lv_has ls 6 [(0, .ref (a 0)), (1, .int x1), (2, .int x2)] → W p l e rm_M_plain s m args below meth c H locs 0 0 Q (F0 m 121 ls []) := by
          intro H locs ls I hl
          refine lv_iload_n hx hb d_M_plain_121 rfl (lv_at hl 2 rfl) ?_
          refine lv_bipush (v := 18) hx hb d_M_plain_122 (by decide) ?_
          obtain ⟨u5, hj326, hk⟩ := cT_u hk
          have Khj326 : ∀ (H : Heap) (locs : List Loc) (ls : Array Slot), Dy clA D (mW a cs) s H locs u5 → lv_has ls 6 [(0, .ref (a 0)), (1, .int x1), (2, .int x2)] → W p l e rm_M_plain s m args below meth c H locs 0 0 Q (F0 m 199 ls []) := by
            intro H locs ls I hl
            refine lv_iload_n hx hb d_M_plain_199 rfl (lv_at hl 2 rfl) ?_
            refine lv_bipush (v := 20) hx hb d_M_plain_200 (by decide) ?_
            obtain ⟨u6, hj316, hk⟩ := cT_u hk
            have Khj316 : ∀ (H : Heap) (locs : List Loc) (ls : Array Slot), Dy clA D (mW a cs) s H locs u6 → lv_has ls 6 [(0, .ref (a 0)), (1, .int x1), (2, .int x2)] → W p l e rm_M_plain s m args below meth c H locs 0 0 Q (F0 m 225 ls []) := by
              intro H locs ls I hl
              refine lv_iload_n hx hb d_M_plain_225 rfl (lv_at hl 2 rfl) ?_
              refine lv_sipush (v := 178) hx hb d_M_plain_226 (by decide) ?_
              obtain ⟨u7, hj306, hk⟩ := cT_u hk
              have Khj306 : ∀ (H : Heap) (locs : List Loc) (ls : Array Slot), Dy clA D (mW a cs) s H locs u7 → lv_has ls 6 [(0, .ref (a 0)), (1, .int x1), (2, .int x2)] → W p l e rm_M_plain s m args below meth c H locs 0 0 Q (F0 m 260 ls []) := by
                intro H locs ls I hl
                refine lv_iload_n hx hb d_M_plain_260 rfl (lv_at hl 2 rfl) ?_
                refine lv_sipush (v := 182) hx hb d_M_plain_261 (by decide) ?_
                obtain ⟨u8, hj300, hk⟩ := cT_u hk
                have Khj300 : ∀ (H : Heap) (locs : List Loc) (ls : Array Slot), Dy clA D (mW a cs) s H locs u8 → lv_has ls 6 [(0, .ref (a 0)), (1, .int x1), (2, .int x2)] → W p l e rm_M_plain s m args below meth c H locs 0 0 Q (F0 m 287 ls []) := by
                  intro H locs ls I hl
                  refine lv_iload_n hx hb d_M_plain_287 rfl (lv_at hl 2 rfl) ?_
                  refine lv_sipush (v := 187) hx hb d_M_plain_288 (by decide) ?_
                  refine lv_icmp_eq (tgt := 322) hx hb d_M_plain_291 (by decide) (fun hc => ?_) (fun hc => ?_)
                  · replace hk := it_u hc hk
                    refine lv_aload_n hx hb d_M_plain_322 rfl (lv_at hl 0 rfl) ?_
                    refine lv_iload_n hx hb d_M_plain_323 rfl (lv_at hl 1 rfl) ?_
                    refine lv_iconst (v := 1) hx hb d_M_plain_324 (by decide) ?_
                    refine lv_iadd hx hb d_M_plain_325 ?_
                    obtain ⟨r11, u9, h10, hk⟩ := cI_u hk
                    refine go_I I (call_runV (rest := []) C I (c_M_two C.2.2.2.1 C.2.2.2.2.1 l h10 _) wd_M_two (q0 := 0) (ci := 7) rfl rfl k_859 ⟨rfl, rfl⟩ ⟨by decide, by decide⟩ rfl hl.1 rfl (Nat.le_of_ble_eq_true rfl) d_M_plain_326) (fun H locs I => ?_)
                    refine lv_istore_n (lv' := [(3, .int r11), (0, .ref (a 0)), (1, .int x1), (2, .int x2)]) hx hb d_M_plain_329 rfl hl (by decide) rfl (fun ls hl => ?_)
                    refine lv_aload_n hx hb d_M_plain_330 rfl (lv_at hl 1 rfl) ?_
                    refine lv_aload_n hx hb d_M_plain_331 rfl (lv_at hl 1 rfl) ?_
                    refine lv_iload_n hx hb d_M_plain_332 rfl (lv_at hl 0 rfl) ?_
                    refine lv_bipush (v := 7) hx hb d_M_plain_333 (by decide) ?_
                    obtain ⟨r14, u12, h13, hk⟩ := cI_u hk
                    refine go_I I (call_runV (rest := [.ref (a 0)]) C I (c_M_isKind C.2.2.2.1 C.2.2.2.2.1 l h13 _) wd_M_isKind (q0 := 0) (ci := 7) rfl rfl k_863 ⟨rfl, rfl⟩ ⟨by decide, by decide⟩ rfl hl.1 rfl (Nat.le_of_ble_eq_true rfl) d_M_plain_335) (fun H locs I => ?_)
                    refine lv_bipush (v := 8) hx hb d_M_plain_338 (by decide) ?_
                    refine lv_iload_n hx hb d_M_plain_340 rfl (lv_at hl 2 rfl) ?_
                    obtain ⟨r17, u15, h16, hk⟩ := cI_u hk
                    refine go_I I (call_runV (rest := []) C I (c_M_must C.2.2.2.1 C.2.2.2.2.1 l h16 _) wd_M_must (q0 := 0) (ci := 7) rfl rfl k_843 ⟨rfl, rfl⟩ ⟨by decide, by decide⟩ rfl hl.1 rfl (Nat.le_of_ble_eq_true rfl) d_M_plain_341) (fun H locs I => ?_)
                    refine lv_if_ne (tgt := 348) hx hb d_M_plain_344 (by decide) (fun hc => ?_) (fun hc => ?_)
                    · replace hk := ie_u hc hk
                      refine lv_iload_n hx hb d_M_plain_348 rfl (lv_at hl 3 rfl) ?_
                      refine lv_sipush (v := 187) hx hb d_M_plain_349 (by decide) ?_
                      obtain ⟨u18, hj54, hk⟩ := cT_u hk
                      have Khj54 : ∀ (H : Heap) (locs : List Loc) (ls : Array Slot), Dy clA D (mW a cs) s H locs u18 → lv_has ls 6 [(0, .ref (a 0)), (1, .int x1), (2, .int x2), (3, .int r11)] → W p l e rm_M_plain s m args below meth c H locs 0 0 Q (F0 m 376 ls []) := by
                        intro H locs ls I hl
                        refine lv_iload_n hx hb d_M_plain_376 rfl (lv_at hl 2 rfl) ?_
                        refine lv_sipush (v := 197) hx hb d_M_plain_377 (by decide) ?_
                        obtain ⟨u19, hj41, hk⟩ := cT_u hk
                        have Khj41 : ∀ (H : Heap) (locs : List Loc) (ls : Array Slot), Dy clA D (mW a cs) s H locs u19 → lv_has ls 6 [(0, .ref (a 0)), (1, .int x1), (2, .int x2)] → W p l e rm_M_plain s m args below meth c H locs 0 0 Q (F0 m 443 ls []) := by
                          intro H locs ls I hl
                          refine lv_iload_n hx hb d_M_plain_443 rfl (lv_at hl 2 rfl) ?_
                          refine lv_sipush (v := 188) hx hb d_M_plain_444 (by decide) ?_
                          obtain ⟨u20, hj21, hk⟩ := cT_u hk
                          have Khj21 : ∀ (H : Heap) (locs : List Loc) (ls : Array Slot), Dy clA D (mW a cs) s H locs u20 → lv_has ls 6 [] → W p l e rm_M_plain s m args below meth c H locs 0 0 Q (F0 m 509 ls []) := by
                            intro H locs ls I hl
                            exact hQ _ _ _ _ _ I hk d_M_plain_509
                          refine lv_icmp_ne (tgt := 509) hx hb d_M_plain_447 (by decide) (fun hc => ?_) (fun hc => ?_)
                          · replace hj21 := ie_u hc hj21
                            cases hj21
                            exact Khj21 _ _ _ I (lv_sub hl [] rfl)
                          · replace hj21 := it_u hc hj21
                            refine lv_aload_n hx hb d_M_plain_450 rfl (lv_at hl 0 rfl) ?_
                            refine lv_aload_n hx hb d_M_plain_451 rfl (lv_at hl 0 rfl) ?_
                            refine lv_iload_n hx hb d_M_plain_452 rfl (lv_at hl 1 rfl) ?_
                            refine lv_iconst (v := 1) hx hb d_M_plain_453 (by decide) ?_
                            refine lv_iadd hx hb d_M_plain_454 ?_
                            obtain ⟨r24, u22, h23, hj21⟩ := cI_u hj21
                            refine go_I I (call_runV (rest := [.ref (a 0)]) C I (c_M_byteOf C.2.2.2.1 C.2.2.2.2.1 l h23 _) wd_M_byteOf (q0 := 0) (ci := 7) rfl rfl k_985 ⟨rfl, rfl⟩ ⟨by decide, by decide⟩ rfl hl.1 rfl (Nat.le_of_ble_eq_true rfl) d_M_plain_455) (fun H locs I => ?_)
                            refine lv_iconst (v := 4) hx hb d_M_plain_458 (by decide) ?_
                            obtain ⟨⟨z25, u26⟩, hj30, hj21⟩ := cT_u hj21
                            have Khj30 : ∀ (H : Heap) (locs : List Loc) (ls : Array Slot), Dy clA D (mW a cs) s H locs u26 → lv_has ls 6 [(1, .int x1)] → W p l e rm_M_plain s m args below meth c H locs 0 0 Q (F0 m 502 ls [.int z25, .ref (a 0)]) := by
                              intro H locs ls I hl
                              refine lv_bipush (v := 24) hx hb d_M_plain_502 (by decide) ?_
                              refine lv_iload_n hx hb d_M_plain_504 rfl (lv_at hl 0 rfl) ?_
                              obtain ⟨r29, u27, h28, hj21⟩ := cI_u hj21
                              refine go_I I (call_runV (rest := []) C I (c_M_must C.2.2.2.1 C.2.2.2.2.1 l h28 _) wd_M_must (q0 := 0) (ci := 7) rfl rfl k_843 ⟨rfl, rfl⟩ ⟨by decide, by decide⟩ rfl hl.1 rfl (Nat.le_of_ble_eq_true rfl) d_M_plain_505) (fun H locs I => ?_)
                              refine lv_pop hx hb d_M_plain_508 rfl ?_
                              cases hj21
                              exact Khj21 _ _ _ I (lv_sub hl [] rfl)
                            refine lv_icmp_eq (tgt := 497) hx hb d_M_plain_459 (by decide) (fun hc => ?_) (fun hc => ?_)
                            · replace hj30 := it_u hc hj30
                              refine lv_iconst (v := 1) hx hb d_M_plain_497 (by decide) ?_
                              refine lv_goto (tgt := 502) hx hb d_M_plain_498 (by decide) ?_
                              cases hj30
                              exact Khj30 _ _ _ I (lv_sub hl [1] rfl)
                            · replace hj30 := ie_u hc hj30
                              refine lv_aload_n hx hb d_M_plain_462 rfl (lv_at hl 0 rfl) ?_
                              refine lv_iload_n hx hb d_M_plain_463 rfl (lv_at hl 1 rfl) ?_
                              refine lv_iconst (v := 1) hx hb d_M_plain_464 (by decide) ?_
                              refine lv_iadd hx hb d_M_plain_465 ?_
                              obtain ⟨r33, u31, h32, hj30⟩ := cI_u hj30
                              refine go_I I (call_runV (rest := [.ref (a 0)]) C I (c_M_byteOf C.2.2.2.1 C.2.2.2.2.1 l h32 _) wd_M_byteOf (q0 := 0) (ci := 7) rfl rfl k_985 ⟨rfl, rfl⟩ ⟨by decide, by decide⟩ rfl hl.1 rfl (Nat.le_of_ble_eq_true rfl) d_M_plain_466) (fun H locs I => ?_)
                              refine lv_iconst (v := 5) hx hb d_M_plain_469 (by decide) ?_
                              refine lv_icmp_eq (tgt := 497) hx hb d_M_plain_470 (by decide) (fun hc => ?_) (fun hc => ?_)
                              · replace hj30 := it_u hc hj30
                                refine lv_iconst (v := 1) hx hb d_M_plain_497 (by decide) ?_
                                refine lv_goto (tgt := 502) hx hb d_M_plain_498 (by decide) ?_
                                cases hj30
                                exact Khj30 _ _ _ I (lv_sub hl [1] rfl)
                              · replace hj30 := ie_u hc hj30
                                refine lv_aload_n hx hb d_M_plain_473 rfl (lv_at hl 0 rfl) ?_
                                refine lv_iload_n hx hb d_M_plain_474 rfl (lv_at hl 1 rfl) ?_
                                refine lv_iconst (v := 1) hx hb d_M_plain_475 (by decide) ?_
                                refine lv_iadd hx hb d_M_plain_476 ?_
                                obtain ⟨r36, u34, h35, hj30⟩ := cI_u hj30
                                refine go_I I (call_runV (rest := [.ref (a 0)]) C I (c_M_byteOf C.2.2.2.1 C.2.2.2.2.1 l h35 _) wd_M_byteOf (q0 := 0) (ci := 7) rfl rfl k_985 ⟨rfl, rfl⟩ ⟨by decide, by decide⟩ rfl hl.1 rfl (Nat.le_of_ble_eq_true rfl) d_M_plain_477) (fun H locs I => ?_)
                                refine lv_bipush (v := 8) hx hb d_M_plain_480 (by decide) ?_
                                refine lv_icmp_lt (tgt := 501) hx hb d_M_plain_482 (by decide) (fun hc => ?_) (fun hc => ?_)
                                · replace hj30 := it_u hc hj30
                                  refine lv_iconst (v := 0) hx hb d_M_plain_501 (by decide) ?_
                                  cases hj30
                                  exact Khj30 _ _ _ I (lv_sub hl [1] rfl)
                                · replace hj30 := ie_u hc hj30
                                  refine lv_aload_n hx hb d_M_plain_485 rfl (lv_at hl 0 rfl) ?_
                                  refine lv_iload_n hx hb d_M_plain_486 rfl (lv_at hl 1 rfl) ?_
                                  refine lv_iconst (v := 1) hx hb d_M_plain_487 (by decide) ?_
                                  refine lv_iadd hx hb d_M_plain_488 ?_
                                  obtain ⟨r39, u37, h38, hj30⟩ := cI_u hj30
                                  refine go_I I (call_runV (rest := [.ref (a 0)]) C I (c_M_byteOf C.2.2.2.1 C.2.2.2.2.1 l h38 _) wd_M_byteOf (q0 := 0) (ci := 7) rfl rfl k_985 ⟨rfl, rfl⟩ ⟨by decide, by decide⟩ rfl hl.1 rfl (Nat.le_of_ble_eq_true rfl) d_M_plain_489) (fun H locs I => ?_)
                                  refine lv_bipush (v := 11) hx hb d_M_plain_492 (by decide) ?_
                                  refine lv_icmp_gt (tgt := 501) hx hb d_M_plain_494 (by decide) (fun hc => ?_) (fun hc => ?_)
                                  · replace hj30 := it_u hc hj30
                                    refine lv_iconst (v := 0) hx hb d_M_plain_501 (by decide) ?_
                                    cases hj30
                                    exact Khj30 _ _ _ I (lv_sub hl [1] rfl)
                                  · replace hj30 := ie_u hc hj30
                                    refine lv_iconst (v := 1) hx hb d_M_plain_497 (by decide) ?_
                                    refine lv_goto (tgt := 502) hx hb d_M_plain_498 (by decide) ?_
                                    cases hj30
                                    exact Khj30 _ _ _ I (lv_sub hl [1] rfl)
                        refine lv_icmp_ne (tgt := 443) hx hb d_M_plain_380 (by decide) (fun hc => ?_) (fun hc => ?_)
                        · replace hj41 := ie_u hc hj41
                          cases hj41
                          exact Khj41 _ _ _ I (lv_sub hl [0, 1, 2] rfl)
                        · replace hj41 := it_u hc hj41
                          refine lv_aload_n hx hb d_M_plain_383 rfl (lv_at hl 0 rfl) ?_
                          refine lv_iload_n hx hb d_M_plain_384 rfl (lv_at hl 1 rfl) ?_
                          refine lv_iconst (v := 3) hx hb d_M_plain_385 (by decide) ?_
                          refine lv_iadd hx hb d_M_plain_386 ?_
                          obtain ⟨r44, u42, h43, hj41⟩ := cI_u hj41
                          refine go_I I (call_runV (rest := []) C I (c_M_byteOf C.2.2.2.1 C.2.2.2.2.1 l h43 _) wd_M_byteOf (q0 := 0) (ci := 7) rfl rfl k_985 ⟨rfl, rfl⟩ ⟨by decide, by decide⟩ rfl hl.1 rfl (Nat.le_of_ble_eq_true rfl) d_M_plain_387) (fun H locs I => ?_)
                          refine lv_istore (lv' := [(4, .int r44), (0, .ref (a 0)), (1, .int x1), (2, .int x2), (3, .int r11)]) hx hb d_M_plain_390 hl (by decide) rfl (fun ls hl => ?_)
                          refine lv_iconst (v := 0) hx hb d_M_plain_392 (by decide) ?_
                          refine lv_istore (lv' := [(5, .int 0), (4, .int r44), (0, .ref (a 0)), (1, .int x1), (2, .int x2), (3, .int r11)]) hx hb d_M_plain_393 hl (by decide) rfl (fun ls hl => ?_)
                          obtain ⟨⟨u45, z46⟩, hj52, hj41⟩ := cT_u hj41
                          refine w_M_plain_L395 C (fun H locs ls I hl => ?_) FU u42 0 _ _ _ hj52 I (lv_sub hl [2, 3, 4, 5, 1, 0] rfl)
                          refine lv_aload_n hx hb d_M_plain_417 rfl (lv_at hl 0 rfl) ?_
                          refine lv_iload hx hb d_M_plain_418 (lv_at hl 3 rfl) ?_
                          refine lv_iconst (v := 1) hx hb d_M_plain_420 (by decide) ?_
                          obtain ⟨z47, hj51, hj41⟩ := bnd_u hj41
                          have Khj51 : ∀ (H : Heap) (locs : List Loc) (ls : Array Slot), Dy clA D (mW a cs) s H locs u45 → lv_has ls 6 [(0, .ref (a 0)), (1, .int x1), (2, .int x2)] → W p l e rm_M_plain s m args below meth c H locs 0 0 Q (F0 m 436 ls [.int z47, .ref (a 0)]) := by
                            intro H locs ls I hl
                            refine lv_bipush (v := 24) hx hb d_M_plain_436 (by decide) ?_
                            refine lv_iload_n hx hb d_M_plain_438 rfl (lv_at hl 1 rfl) ?_
                            obtain ⟨r50, u48, h49, hj41⟩ := cI_u hj41
                            refine go_I I (call_runV (rest := []) C I (c_M_must C.2.2.2.1 C.2.2.2.2.1 l h49 _) wd_M_must (q0 := 0) (ci := 7) rfl rfl k_843 ⟨rfl, rfl⟩ ⟨by decide, by decide⟩ rfl hl.1 rfl (Nat.le_of_ble_eq_true rfl) d_M_plain_439) (fun H locs I => ?_)
                            refine lv_pop hx hb d_M_plain_442 rfl ?_
                            cases hj41
                            exact Khj41 _ _ _ I (lv_sub hl [0, 1, 2] rfl)
                          refine lv_icmp_lt (tgt := 435) hx hb d_M_plain_421 (by decide) (fun hc => ?_) (fun hc => ?_)
                          · replace hj51 := it_u hc hj51
                            refine lv_iconst (v := 0) hx hb d_M_plain_435 (by decide) ?_
                            cases hj51
                            exact Khj51 _ _ _ I (lv_sub hl [0, 1, 2] rfl)
                          · replace hj51 := ie_u hc hj51
                            refine lv_iload hx hb d_M_plain_424 (lv_at hl 3 rfl) ?_
                            refine lv_iload hx hb d_M_plain_426 (lv_at hl 4 rfl) ?_
                            refine lv_icmp_gt (tgt := 435) hx hb d_M_plain_428 (by decide) (fun hc => ?_) (fun hc => ?_)
                            · replace hj51 := it_u hc hj51
                              refine lv_iconst (v := 0) hx hb d_M_plain_435 (by decide) ?_
                              cases hj51
                              exact Khj51 _ _ _ I (lv_sub hl [0, 1, 2] rfl)
                            · replace hj51 := ie_u hc hj51
                              refine lv_iconst (v := 1) hx hb d_M_plain_431 (by decide) ?_
                              refine lv_goto (tgt := 436) hx hb d_M_plain_432 (by decide) ?_
                              cases hj51
                              exact Khj51 _ _ _ I (lv_sub hl [0, 1, 2] rfl)
                      refine lv_icmp_ne (tgt := 376) hx hb d_M_plain_352 (by decide) (fun hc => ?_) (fun hc => ?_)
                      · replace hj54 := ie_u hc hj54
                        cases hj54
                        exact Khj54 _ _ _ I (lv_sub hl [1, 2, 3, 0] rfl)
                      · replace hj54 := it_u hc hj54
                        refine lv_aload_n hx hb d_M_plain_355 rfl (lv_at hl 1 rfl) ?_
                        refine lv_aload_n hx hb d_M_plain_356 rfl (lv_at hl 1 rfl) ?_
                        refine lv_iload_n hx hb d_M_plain_357 rfl (lv_at hl 0 rfl) ?_
                        obtain ⟨r57, u55, h56, hj54⟩ := cI_u hj54
                        refine go_I I (call_runV (rest := [.ref (a 0)]) C I (c_M_isArray C.2.2.2.1 C.2.2.2.2.1 l h56 _) wd_M_isArray (q0 := 0) (ci := 7) rfl rfl k_933 ⟨rfl, rfl⟩ ⟨by decide, by decide⟩ rfl hl.1 rfl (Nat.le_of_ble_eq_true rfl) d_M_plain_358) (fun H locs I => ?_)
                        obtain ⟨z58, hj62, hj54⟩ := bnd_u hj54
                        have Khj62 : ∀ (H : Heap) (locs : List Loc) (ls : Array Slot), Dy clA D (mW a cs) s H locs u55 → lv_has ls 6 [(0, .ref (a 0)), (1, .int x1), (2, .int x2), (3, .int r11)] → W p l e rm_M_plain s m args below meth c H locs 0 0 Q (F0 m 369 ls [.int z58, .ref (a 0)]) := by
                          intro H locs ls I hl
                          refine lv_bipush (v := 24) hx hb d_M_plain_369 (by decide) ?_
                          refine lv_iload_n hx hb d_M_plain_371 rfl (lv_at hl 1 rfl) ?_
                          obtain ⟨r61, u59, h60, hj54⟩ := cI_u hj54
                          refine go_I I (call_runV (rest := []) C I (c_M_must C.2.2.2.1 C.2.2.2.2.1 l h60 _) wd_M_must (q0 := 0) (ci := 7) rfl rfl k_843 ⟨rfl, rfl⟩ ⟨by decide, by decide⟩ rfl hl.1 rfl (Nat.le_of_ble_eq_true rfl) d_M_plain_372) (fun H locs I => ?_)
                          refine lv_pop hx hb d_M_plain_375 rfl ?_
                          cases hj54
                          exact Khj54 _ _ _ I (lv_sub hl [0, 1, 2, 3] rfl)
                        refine lv_if_ne (tgt := 368) hx hb d_M_plain_361 (by decide) (fun hc => ?_) (fun hc => ?_)
                        · replace hj62 := ie_u hc hj62
                          refine lv_iconst (v := 0) hx hb d_M_plain_368 (by decide) ?_
                          cases hj62
                          exact Khj62 _ _ _ I (lv_sub hl [1, 2, 3, 0] rfl)
                        · replace hj62 := it_u hc hj62
                          refine lv_iconst (v := 1) hx hb d_M_plain_364 (by decide) ?_
                          refine lv_goto (tgt := 369) hx hb d_M_plain_365 (by decide) ?_
                          cases hj62
                          exact Khj62 _ _ _ I (lv_sub hl [1, 2, 3, 0] rfl)
                    · replace hk := it_u hc hk
                      exact hQ _ _ _ _ _ I hk d_M_plain_347
                  · replace hk := ie_u hc hk
                    refine lv_iload_n hx hb d_M_plain_294 rfl (lv_at hl 2 rfl) ?_
                    refine lv_sipush (v := 189) hx hb d_M_plain_295 (by decide) ?_
                    refine lv_icmp_eq (tgt := 322) hx hb d_M_plain_298 (by decide) (fun hc => ?_) (fun hc => ?_)
                    · replace hk := it_u hc hk
                      refine lv_aload_n hx hb d_M_plain_322 rfl (lv_at hl 0 rfl) ?_
                      refine lv_iload_n hx hb d_M_plain_323 rfl (lv_at hl 1 rfl) ?_
                      refine lv_iconst (v := 1) hx hb d_M_plain_324 (by decide) ?_
                      refine lv_iadd hx hb d_M_plain_325 ?_
                      obtain ⟨r65, u63, h64, hk⟩ := cI_u hk
                      refine go_I I (call_runV (rest := []) C I (c_M_two C.2.2.2.1 C.2.2.2.2.1 l h64 _) wd_M_two (q0 := 0) (ci := 7) rfl rfl k_859 ⟨rfl, rfl⟩ ⟨by decide, by decide⟩ rfl hl.1 rfl (Nat.le_of_ble_eq_true rfl) d_M_plain_326) (fun H locs I => ?_)
                      refine lv_istore_n (lv' := [(3, .int r65), (0, .ref (a 0)), (1, .int x1), (2, .int x2)]) hx hb d_M_plain_329 rfl hl (by decide) rfl (fun ls hl => ?_)
                      refine lv_aload_n hx hb d_M_plain_330 rfl (lv_at hl 1 rfl) ?_
                      refine lv_aload_n hx hb d_M_plain_331 rfl (lv_at hl 1 rfl) ?_
                      refine lv_iload_n hx hb d_M_plain_332 rfl (lv_at hl 0 rfl) ?_
                      refine lv_bipush (v := 7) hx hb d_M_plain_333 (by decide) ?_
                      obtain ⟨r68, u66, h67, hk⟩ := cI_u hk
                      refine go_I I (call_runV (rest := [.ref (a 0)]) C I (c_M_isKind C.2.2.2.1 C.2.2.2.2.1 l h67 _) wd_M_isKind (q0 := 0) (ci := 7) rfl rfl k_863 ⟨rfl, rfl⟩ ⟨by decide, by decide⟩ rfl hl.1 rfl (Nat.le_of_ble_eq_true rfl) d_M_plain_335) (fun H locs I => ?_)
                      refine lv_bipush (v := 8) hx hb d_M_plain_338 (by decide) ?_
                      refine lv_iload_n hx hb d_M_plain_340 rfl (lv_at hl 2 rfl) ?_
                      obtain ⟨r71, u69, h70, hk⟩ := cI_u hk
                      refine go_I I (call_runV (rest := []) C I (c_M_must C.2.2.2.1 C.2.2.2.2.1 l h70 _) wd_M_must (q0 := 0) (ci := 7) rfl rfl k_843 ⟨rfl, rfl⟩ ⟨by decide, by decide⟩ rfl hl.1 rfl (Nat.le_of_ble_eq_true rfl) d_M_plain_341) (fun H locs I => ?_)
                      refine lv_if_ne (tgt := 348) hx hb d_M_plain_344 (by decide) (fun hc => ?_) (fun hc => ?_)
                      · replace hk := ie_u hc hk
                        refine lv_iload_n hx hb d_M_plain_348 rfl (lv_at hl 3 rfl) ?_
                        refine lv_sipush (v := 187) hx hb d_M_plain_349 (by decide) ?_
                        obtain ⟨u72, hj108, hk⟩ := cT_u hk
                        have Khj108 : ∀ (H : Heap) (locs : List Loc) (ls : Array Slot), Dy clA D (mW a cs) s H locs u72 → lv_has ls 6 [(0, .ref (a 0)), (1, .int x1), (2, .int x2), (3, .int r65)] → W p l e rm_M_plain s m args below meth c H locs 0 0 Q (F0 m 376 ls []) := by
                          intro H locs ls I hl
                          refine lv_iload_n hx hb d_M_plain_376 rfl (lv_at hl 2 rfl) ?_
                          refine lv_sipush (v := 197) hx hb d_M_plain_377 (by decide) ?_
                          obtain ⟨u73, hj95, hk⟩ := cT_u hk
                          have Khj95 : ∀ (H : Heap) (locs : List Loc) (ls : Array Slot), Dy clA D (mW a cs) s H locs u73 → lv_has ls 6 [(0, .ref (a 0)), (1, .int x1), (2, .int x2)] → W p l e rm_M_plain s m args below meth c H locs 0 0 Q (F0 m 443 ls []) := by
                            intro H locs ls I hl
                            refine lv_iload_n hx hb d_M_plain_443 rfl (lv_at hl 2 rfl) ?_
                            refine lv_sipush (v := 188) hx hb d_M_plain_444 (by decide) ?_
                            obtain ⟨u74, hj75, hk⟩ := cT_u hk
                            have Khj75 : ∀ (H : Heap) (locs : List Loc) (ls : Array Slot), Dy clA D (mW a cs) s H locs u74 → lv_has ls 6 [] → W p l e rm_M_plain s m args below meth c H locs 0 0 Q (F0 m 509 ls []) := by
                              intro H locs ls I hl
                              exact hQ _ _ _ _ _ I hk d_M_plain_509
                            refine lv_icmp_ne (tgt := 509) hx hb d_M_plain_447 (by decide) (fun hc => ?_) (fun hc => ?_)
                            · replace hj75 := ie_u hc hj75
                              cases hj75
                              exact Khj75 _ _ _ I (lv_sub hl [] rfl)
                            · replace hj75 := it_u hc hj75
                              refine lv_aload_n hx hb d_M_plain_450 rfl (lv_at hl 0 rfl) ?_
                              refine lv_aload_n hx hb d_M_plain_451 rfl (lv_at hl 0 rfl) ?_
                              refine lv_iload_n hx hb d_M_plain_452 rfl (lv_at hl 1 rfl) ?_
                              refine lv_iconst (v := 1) hx hb d_M_plain_453 (by decide) ?_
                              refine lv_iadd hx hb d_M_plain_454 ?_
                              obtain ⟨r78, u76, h77, hj75⟩ := cI_u hj75
                              refine go_I I (call_runV (rest := [.ref (a 0)]) C I (c_M_byteOf C.2.2.2.1 C.2.2.2.2.1 l h77 _) wd_M_byteOf (q0 := 0) (ci := 7) rfl rfl k_985 ⟨rfl, rfl⟩ ⟨by decide, by decide⟩ rfl hl.1 rfl (Nat.le_of_ble_eq_true rfl) d_M_plain_455) (fun H locs I => ?_)
                              refine lv_iconst (v := 4) hx hb d_M_plain_458 (by decide) ?_
                              obtain ⟨⟨z79, u80⟩, hj84, hj75⟩ := cT_u hj75
                              have Khj84 : ∀ (H : Heap) (locs : List Loc) (ls : Array Slot), Dy clA D (mW a cs) s H locs u80 → lv_has ls 6 [(1, .int x1)] → W p l e rm_M_plain s m args below meth c H locs 0 0 Q (F0 m 502 ls [.int z79, .ref (a 0)]) := by
                                intro H locs ls I hl
                                refine lv_bipush (v := 24) hx hb d_M_plain_502 (by decide) ?_
                                refine lv_iload_n hx hb d_M_plain_504 rfl (lv_at hl 0 rfl) ?_
                                obtain ⟨r83, u81, h82, hj75⟩ := cI_u hj75
                                refine go_I I (call_runV (rest := []) C I (c_M_must C.2.2.2.1 C.2.2.2.2.1 l h82 _) wd_M_must (q0 := 0) (ci := 7) rfl rfl k_843 ⟨rfl, rfl⟩ ⟨by decide, by decide⟩ rfl hl.1 rfl (Nat.le_of_ble_eq_true rfl) d_M_plain_505) (fun H locs I => ?_)
                                refine lv_pop hx hb d_M_plain_508 rfl ?_
                                cases hj75
                                exact Khj75 _ _ _ I (lv_sub hl [] rfl)
                              refine lv_icmp_eq (tgt := 497) hx hb d_M_plain_459 (by decide) (fun hc => ?_) (fun hc => ?_)
                              · replace hj84 := it_u hc hj84
                                refine lv_iconst (v := 1) hx hb d_M_plain_497 (by decide) ?_
                                refine lv_goto (tgt := 502) hx hb d_M_plain_498 (by decide) ?_
                                cases hj84
                                exact Khj84 _ _ _ I (lv_sub hl [1] rfl)
                              · replace hj84 := ie_u hc hj84
                                refine lv_aload_n hx hb d_M_plain_462 rfl (lv_at hl 0 rfl) ?_
                                refine lv_iload_n hx hb d_M_plain_463 rfl (lv_at hl 1 rfl) ?_
                                refine lv_iconst (v := 1) hx hb d_M_plain_464 (by decide) ?_
                                refine lv_iadd hx hb d_M_plain_465 ?_
                                obtain ⟨r87, u85, h86, hj84⟩ := cI_u hj84
                                refine go_I I (call_runV (rest := [.ref (a 0)]) C I (c_M_byteOf C.2.2.2.1 C.2.2.2.2.1 l h86 _) wd_M_byteOf (q0 := 0) (ci := 7) rfl rfl k_985 ⟨rfl, rfl⟩ ⟨by decide, by decide⟩ rfl hl.1 rfl (Nat.le_of_ble_eq_true rfl) d_M_plain_466) (fun H locs I => ?_)
                                refine lv_iconst (v := 5) hx hb d_M_plain_469 (by decide) ?_
                                refine lv_icmp_eq (tgt := 497) hx hb d_M_plain_470 (by decide) (fun hc => ?_) (fun hc => ?_)
                                · replace hj84 := it_u hc hj84
                                  refine lv_iconst (v := 1) hx hb d_M_plain_497 (by decide) ?_
                                  refine lv_goto (tgt := 502) hx hb d_M_plain_498 (by decide) ?_
                                  cases hj84
                                  exact Khj84 _ _ _ I (lv_sub hl [1] rfl)
                                · replace hj84 := ie_u hc hj84
                                  refine lv_aload_n hx hb d_M_plain_473 rfl (lv_at hl 0 rfl) ?_
                                  refine lv_iload_n hx hb d_M_plain_474 rfl (lv_at hl 1 rfl) ?_
                                  refine lv_iconst (v := 1) hx hb d_M_plain_475 (by decide) ?_
                                  refine lv_iadd hx hb d_M_plain_476 ?_
                                  obtain ⟨r90, u88, h89, hj84⟩ := cI_u hj84
                                  refine go_I I (call_runV (rest := [.ref (a 0)]) C I (c_M_byteOf C.2.2.2.1 C.2.2.2.2.1 l h89 _) wd_M_byteOf (q0 := 0) (ci := 7) rfl rfl k_985 ⟨rfl, rfl⟩ ⟨by decide, by decide⟩ rfl hl.1 rfl (Nat.le_of_ble_eq_true rfl) d_M_plain_477) (fun H locs I => ?_)
                                  refine lv_bipush (v := 8) hx hb d_M_plain_480 (by decide) ?_
                                  refine lv_icmp_lt (tgt := 501) hx hb d_M_plain_482 (by decide) (fun hc => ?_) (fun hc => ?_)
                                  · replace hj84 := it_u hc hj84
                                    refine lv_iconst (v := 0) hx hb d_M_plain_501 (by decide) ?_
                                    cases hj84
                                    exact Khj84 _ _ _ I (lv_sub hl [1] rfl)
                                  · replace hj84 := ie_u hc hj84
                                    refine lv_aload_n hx hb d_M_plain_485 rfl (lv_at hl 0 rfl) ?_
                                    refine lv_iload_n hx hb d_M_plain_486 rfl (lv_at hl 1 rfl) ?_
                                    refine lv_iconst (v := 1) hx hb d_M_plain_487 (by decide) ?_
                                    refine lv_iadd hx hb d_M_plain_488 ?_
                                    obtain ⟨r93, u91, h92, hj84⟩ := cI_u hj84
                                    refine go_I I (call_runV (rest := [.ref (a 0)]) C I (c_M_byteOf C.2.2.2.1 C.2.2.2.2.1 l h92 _) wd_M_byteOf (q0 := 0) (ci := 7) rfl rfl k_985 ⟨rfl, rfl⟩ ⟨by decide, by decide⟩ rfl hl.1 rfl (Nat.le_of_ble_eq_true rfl) d_M_plain_489) (fun H locs I => ?_)
                                    refine lv_bipush (v := 11) hx hb d_M_plain_492 (by decide) ?_
                                    refine lv_icmp_gt (tgt := 501) hx hb d_M_plain_494 (by decide) (fun hc => ?_) (fun hc => ?_)
                                    · replace hj84 := it_u hc hj84
                                      refine lv_iconst (v := 0) hx hb d_M_plain_501 (by decide) ?_
                                      cases hj84
                                      exact Khj84 _ _ _ I (lv_sub hl [1] rfl)
                                    · replace hj84 := ie_u hc hj84
                                      refine lv_iconst (v := 1) hx hb d_M_plain_497 (by decide) ?_
                                      refine lv_goto (tgt := 502) hx hb d_M_plain_498 (by decide) ?_
                                      cases hj84
                                      exact Khj84 _ _ _ I (lv_sub hl [1] rfl)
                          refine lv_icmp_ne (tgt := 443) hx hb d_M_plain_380 (by decide) (fun hc => ?_) (fun hc => ?_)
                          · replace hj95 := ie_u hc hj95
                            cases hj95
                            exact Khj95 _ _ _ I (lv_sub hl [0, 1, 2] rfl)
                          · replace hj95 := it_u hc hj95
                            refine lv_aload_n hx hb d_M_plain_383 rfl (lv_at hl 0 rfl) ?_
                            refine lv_iload_n hx hb d_M_plain_384 rfl (lv_at hl 1 rfl) ?_
                            refine lv_iconst (v := 3) hx hb d_M_plain_385 (by decide) ?_
                            refine lv_iadd hx hb d_M_plain_386 ?_
                            obtain ⟨r98, u96, h97, hj95⟩ := cI_u hj95
                            refine go_I I (call_runV (rest := []) C I (c_M_byteOf C.2.2.2.1 C.2.2.2.2.1 l h97 _) wd_M_byteOf (q0 := 0) (ci := 7) rfl rfl k_985 ⟨rfl, rfl⟩ ⟨by decide, by decide⟩ rfl hl.1 rfl (Nat.le_of_ble_eq_true rfl) d_M_plain_387) (fun H locs I => ?_)
                            refine lv_istore (lv' := [(4, .int r98), (0, .ref (a 0)), (1, .int x1), (2, .int x2), (3, .int r65)]) hx hb d_M_plain_390 hl (by decide) rfl (fun ls hl => ?_)
                            refine lv_iconst (v := 0) hx hb d_M_plain_392 (by decide) ?_
                            refine lv_istore (lv' := [(5, .int 0), (4, .int r98), (0, .ref (a 0)), (1, .int x1), (2, .int x2), (3, .int r65)]) hx hb d_M_plain_393 hl (by decide) rfl (fun ls hl => ?_)
                            obtain ⟨⟨u99, z100⟩, hj106, hj95⟩ := cT_u hj95
                            refine w_M_plain_L395 C (fun H locs ls I hl => ?_) FU u96 0 _ _ _ hj106 I (lv_sub hl [2, 3, 4, 5, 1, 0] rfl)
                            refine lv_aload_n hx hb d_M_plain_417 rfl (lv_at hl 0 rfl) ?_
                            refine lv_iload hx hb d_M_plain_418 (lv_at hl 3 rfl) ?_
                            refine lv_iconst (v := 1) hx hb d_M_plain_420 (by decide) ?_
                            obtain ⟨z101, hj105, hj95⟩ := bnd_u hj95
                            have Khj105 : ∀ (H : Heap) (locs : List Loc) (ls : Array Slot), Dy clA D (mW a cs) s H locs u99 → lv_has ls 6 [(0, .ref (a 0)), (1, .int x1), (2, .int x2)] → W p l e rm_M_plain s m args below meth c H locs 0 0 Q (F0 m 436 ls [.int z101, .ref (a 0)]) := by
                              intro H locs ls I hl
                              refine lv_bipush (v := 24) hx hb d_M_plain_436 (by decide) ?_
                              refine lv_iload_n hx hb d_M_plain_438 rfl (lv_at hl 1 rfl) ?_
                              obtain ⟨r104, u102, h103, hj95⟩ := cI_u hj95
                              refine go_I I (call_runV (rest := []) C I (c_M_must C.2.2.2.1 C.2.2.2.2.1 l h103 _) wd_M_must (q0 := 0) (ci := 7) rfl rfl k_843 ⟨rfl, rfl⟩ ⟨by decide, by decide⟩ rfl hl.1 rfl (Nat.le_of_ble_eq_true rfl) d_M_plain_439) (fun H locs I => ?_)
                              refine lv_pop hx hb d_M_plain_442 rfl ?_
                              cases hj95
                              exact Khj95 _ _ _ I (lv_sub hl [0, 1, 2] rfl)
                            refine lv_icmp_lt (tgt := 435) hx hb d_M_plain_421 (by decide) (fun hc => ?_) (fun hc => ?_)
                            · replace hj105 := it_u hc hj105
                              refine lv_iconst (v := 0) hx hb d_M_plain_435 (by decide) ?_
                              cases hj105
                              exact Khj105 _ _ _ I (lv_sub hl [0, 1, 2] rfl)
                            · replace hj105 := ie_u hc hj105
                              refine lv_iload hx hb d_M_plain_424 (lv_at hl 3 rfl) ?_
                              refine lv_iload hx hb d_M_plain_426 (lv_at hl 4 rfl) ?_
                              refine lv_icmp_gt (tgt := 435) hx hb d_M_plain_428 (by decide) (fun hc => ?_) (fun hc => ?_)
                              · replace hj105 := it_u hc hj105
                                refine lv_iconst (v := 0) hx hb d_M_plain_435 (by decide) ?_
                                cases hj105
                                exact Khj105 _ _ _ I (lv_sub hl [0, 1, 2] rfl)
                              · replace hj105 := ie_u hc hj105
                                refine lv_iconst (v := 1) hx hb d_M_plain_431 (by decide) ?_
                                refine lv_goto (tgt := 436) hx hb d_M_plain_432 (by decide) ?_
                                cases hj105
                                exact Khj105 _ _ _ I (lv_sub hl [0, 1, 2] rfl)
                        refine lv_icmp_ne (tgt := 376) hx hb d_M_plain_352 (by decide) (fun hc => ?_) (fun hc => ?_)
                        · replace hj108 := ie_u hc hj108
                          cases hj108
                          exact Khj108 _ _ _ I (lv_sub hl [1, 2, 3, 0] rfl)
                        · replace hj108 := it_u hc hj108
                          refine lv_aload_n hx hb d_M_plain_355 rfl (lv_at hl 1 rfl) ?_
                          refine lv_aload_n hx hb d_M_plain_356 rfl (lv_at hl 1 rfl) ?_
                          refine lv_iload_n hx hb d_M_plain_357 rfl (lv_at hl 0 rfl) ?_
                          obtain ⟨r111, u109, h110, hj108⟩ := cI_u hj108
                          refine go_I I (call_runV (rest := [.ref (a 0)]) C I (c_M_isArray C.2.2.2.1 C.2.2.2.2.1 l h110 _) wd_M_isArray (q0 := 0) (ci := 7) rfl rfl k_933 ⟨rfl, rfl⟩ ⟨by decide, by decide⟩ rfl hl.1 rfl (Nat.le_of_ble_eq_true rfl) d_M_plain_358) (fun H locs I => ?_)
                          obtain ⟨z112, hj116, hj108⟩ := bnd_u hj108
                          have Khj116 : ∀ (H : Heap) (locs : List Loc) (ls : Array Slot), Dy clA D (mW a cs) s H locs u109 → lv_has ls 6 [(0, .ref (a 0)), (1, .int x1), (2, .int x2), (3, .int r65)] → W p l e rm_M_plain s m args below meth c H locs 0 0 Q (F0 m 369 ls [.int z112, .ref (a 0)]) := by
                            intro H locs ls I hl
                            refine lv_bipush (v := 24) hx hb d_M_plain_369 (by decide) ?_
                            refine lv_iload_n hx hb d_M_plain_371 rfl (lv_at hl 1 rfl) ?_
                            obtain ⟨r115, u113, h114, hj108⟩ := cI_u hj108
                            refine go_I I (call_runV (rest := []) C I (c_M_must C.2.2.2.1 C.2.2.2.2.1 l h114 _) wd_M_must (q0 := 0) (ci := 7) rfl rfl k_843 ⟨rfl, rfl⟩ ⟨by decide, by decide⟩ rfl hl.1 rfl (Nat.le_of_ble_eq_true rfl) d_M_plain_372) (fun H locs I => ?_)
                            refine lv_pop hx hb d_M_plain_375 rfl ?_
                            cases hj108
                            exact Khj108 _ _ _ I (lv_sub hl [0, 1, 2, 3] rfl)
                          refine lv_if_ne (tgt := 368) hx hb d_M_plain_361 (by decide) (fun hc => ?_) (fun hc => ?_)
                          · replace hj116 := ie_u hc hj116
                            refine lv_iconst (v := 0) hx hb d_M_plain_368 (by decide) ?_
                            cases hj116
                            exact Khj116 _ _ _ I (lv_sub hl [1, 2, 3, 0] rfl)
                          · replace hj116 := it_u hc hj116
                            refine lv_iconst (v := 1) hx hb d_M_plain_364 (by decide) ?_
                            refine lv_goto (tgt := 369) hx hb d_M_plain_365 (by decide) ?_
                            cases hj116
                            exact Khj116 _ _ _ I (lv_sub hl [1, 2, 3, 0] rfl)
                      · replace hk := it_u hc hk
                        exact hQ _ _ _ _ _ I hk d_M_plain_347
                    · replace hk := ie_u hc hk
                      refine lv_iload_n hx hb d_M_plain_301 rfl (lv_at hl 2 rfl) ?_
                      refine lv_sipush (v := 192) hx hb d_M_plain_302 (by decide) ?_
                      refine lv_icmp_eq (tgt := 322) hx hb d_M_plain_305 (by decide) (fun hc => ?_) (fun hc => ?_)
                      · replace hk := it_u hc hk
                        refine lv_aload_n hx hb d_M_plain_322 rfl (lv_at hl 0 rfl) ?_
                        refine lv_iload_n hx hb d_M_plain_323 rfl (lv_at hl 1 rfl) ?_
                        refine lv_iconst (v := 1) hx hb d_M_plain_324 (by decide) ?_
                        refine lv_iadd hx hb d_M_plain_325 ?_
                        obtain ⟨r119, u117, h118, hk⟩ := cI_u hk
                        refine go_I I (call_runV (rest := []) C I (c_M_two C.2.2.2.1 C.2.2.2.2.1 l h118 _) wd_M_two (q0 := 0) (ci := 7) rfl rfl k_859 ⟨rfl, rfl⟩ ⟨by decide, by decide⟩ rfl hl.1 rfl (Nat.le_of_ble_eq_true rfl) d_M_plain_326) (fun H locs I => ?_)
                        refine lv_istore_n (lv' := [(3, .int r119), (0, .ref (a 0)), (1, .int x1), (2, .int x2)]) hx hb d_M_plain_329 rfl hl (by decide) rfl (fun ls hl => ?_)
                        refine lv_aload_n hx hb d_M_plain_330 rfl (lv_at hl 1 rfl) ?_
                        refine lv_aload_n hx hb d_M_plain_331 rfl (lv_at hl 1 rfl) ?_
                        refine lv_iload_n hx hb d_M_plain_332 rfl (lv_at hl 0 rfl) ?_
                        refine lv_bipush (v := 7) hx hb d_M_plain_333 (by decide) ?_
                        obtain ⟨r122, u120, h121, hk⟩ := cI_u hk
                        refine go_I I (call_runV (rest := [.ref (a 0)]) C I (c_M_isKind C.2.2.2.1 C.2.2.2.2.1 l h121 _) wd_M_isKind (q0 := 0) (ci := 7) rfl rfl k_863 ⟨rfl, rfl⟩ ⟨by decide, by decide⟩ rfl hl.1 rfl (Nat.le_of_ble_eq_true rfl) d_M_plain_335) (fun H locs I => ?_)
                        refine lv_bipush (v := 8) hx hb d_M_plain_338 (by decide) ?_
                        refine lv_iload_n hx hb d_M_plain_340 rfl (lv_at hl 2 rfl) ?_
                        obtain ⟨r125, u123, h124, hk⟩ := cI_u hk
                        refine go_I I (call_runV (rest := []) C I (c_M_must C.2.2.2.1 C.2.2.2.2.1 l h124 _) wd_M_must (q0 := 0) (ci := 7) rfl rfl k_843 ⟨rfl, rfl⟩ ⟨by decide, by decide⟩ rfl hl.1 rfl (Nat.le_of_ble_eq_true rfl) d_M_plain_341) (fun H locs I => ?_)
                        refine lv_if_ne (tgt := 348) hx hb d_M_plain_344 (by decide) (fun hc => ?_) (fun hc => ?_)
                        · replace hk := ie_u hc hk
                          refine lv_iload_n hx hb d_M_plain_348 rfl (lv_at hl 3 rfl) ?_
                          refine lv_sipush (v := 187) hx hb d_M_plain_349 (by decide) ?_
                          obtain ⟨u126, hj162, hk⟩ := cT_u hk
                          have Khj162 : ∀ (H : Heap) (locs : List Loc) (ls : Array Slot), Dy clA D (mW a cs) s H locs u126 → lv_has ls 6 [(0, .ref (a 0)), (1, .int x1), (2, .int x2), (3, .int r119)] → W p l e rm_M_plain s m args below meth c H locs 0 0 Q (F0 m 376 ls []) := by
                            intro H locs ls I hl
                            refine lv_iload_n hx hb d_M_plain_376 rfl (lv_at hl 2 rfl) ?_
                            refine lv_sipush (v := 197) hx hb d_M_plain_377 (by decide) ?_
                            obtain ⟨u127, hj149, hk⟩ := cT_u hk
                            have Khj149 : ∀ (H : Heap) (locs : List Loc) (ls : Array Slot), Dy clA D (mW a cs) s H locs u127 → lv_has ls 6 [(0, .ref (a 0)), (1, .int x1), (2, .int x2)] → W p l e rm_M_plain s m args below meth c H locs 0 0 Q (F0 m 443 ls []) := by
                              intro H locs ls I hl
                              refine lv_iload_n hx hb d_M_plain_443 rfl (lv_at hl 2 rfl) ?_
                              refine lv_sipush (v := 188) hx hb d_M_plain_444 (by decide) ?_
                              obtain ⟨u128, hj129, hk⟩ := cT_u hk
                              have Khj129 : ∀ (H : Heap) (locs : List Loc) (ls : Array Slot), Dy clA D (mW a cs) s H locs u128 → lv_has ls 6 [] → W p l e rm_M_plain s m args below meth c H locs 0 0 Q (F0 m 509 ls []) := by
                                intro H locs ls I hl
                                exact hQ _ _ _ _ _ I hk d_M_plain_509
                              refine lv_icmp_ne (tgt := 509) hx hb d_M_plain_447 (by decide) (fun hc => ?_) (fun hc => ?_)
                              · replace hj129 := ie_u hc hj129
                                cases hj129
                                exact Khj129 _ _ _ I (lv_sub hl [] rfl)
                              · replace hj129 := it_u hc hj129
                                refine lv_aload_n hx hb d_M_plain_450 rfl (lv_at hl 0 rfl) ?_
                                refine lv_aload_n hx hb d_M_plain_451 rfl (lv_at hl 0 rfl) ?_
                                refine lv_iload_n hx hb d_M_plain_452 rfl (lv_at hl 1 rfl) ?_
                                refine lv_iconst (v := 1) hx hb d_M_plain_453 (by decide) ?_
                                refine lv_iadd hx hb d_M_plain_454 ?_
                                obtain ⟨r132, u130, h131, hj129⟩ := cI_u hj129
                                refine go_I I (call_runV (rest := [.ref (a 0)]) C I (c_M_byteOf C.2.2.2.1 C.2.2.2.2.1 l h131 _) wd_M_byteOf (q0 := 0) (ci := 7) rfl rfl k_985 ⟨rfl, rfl⟩ ⟨by decide, by decide⟩ rfl hl.1 rfl (Nat.le_of_ble_eq_true rfl) d_M_plain_455) (fun H locs I => ?_)
                                refine lv_iconst (v := 4) hx hb d_M_plain_458 (by decide) ?_
                                obtain ⟨⟨z133, u134⟩, hj138, hj129⟩ := cT_u hj129
                                have Khj138 : ∀ (H : Heap) (locs : List Loc) (ls : Array Slot), Dy clA D (mW a cs) s H locs u134 → lv_has ls 6 [(1, .int x1)] → W p l e rm_M_plain s m args below meth c H locs 0 0 Q (F0 m 502 ls [.int z133, .ref (a 0)]) := by
                                  intro H locs ls I hl
                                  refine lv_bipush (v := 24) hx hb d_M_plain_502 (by decide) ?_
                                  refine lv_iload_n hx hb d_M_plain_504 rfl (lv_at hl 0 rfl) ?_
                                  obtain ⟨r137, u135, h136, hj129⟩ := cI_u hj129
                                  refine go_I I (call_runV (rest := []) C I (c_M_must C.2.2.2.1 C.2.2.2.2.1 l h136 _) wd_M_must (q0 := 0) (ci := 7) rfl rfl k_843 ⟨rfl, rfl⟩ ⟨by decide, by decide⟩ rfl hl.1 rfl (Nat.le_of_ble_eq_true rfl) d_M_plain_505) (fun H locs I => ?_)
                                  refine lv_pop hx hb d_M_plain_508 rfl ?_
                                  cases hj129
                                  exact Khj129 _ _ _ I (lv_sub hl [] rfl)
                                refine lv_icmp_eq (tgt := 497) hx hb d_M_plain_459 (by decide) (fun hc => ?_) (fun hc => ?_)
                                · replace hj138 := it_u hc hj138
                                  refine lv_iconst (v := 1) hx hb d_M_plain_497 (by decide) ?_
                                  refine lv_goto (tgt := 502) hx hb d_M_plain_498 (by decide) ?_
                                  cases hj138
                                  exact Khj138 _ _ _ I (lv_sub hl [1] rfl)
                                · replace hj138 := ie_u hc hj138
                                  refine lv_aload_n hx hb d_M_plain_462 rfl (lv_at hl 0 rfl) ?_
                                  refine lv_iload_n hx hb d_M_plain_463 rfl (lv_at hl 1 rfl) ?_
                                  refine lv_iconst (v := 1) hx hb d_M_plain_464 (by decide) ?_
                                  refine lv_iadd hx hb d_M_plain_465 ?_
                                  obtain ⟨r141, u139, h140, hj138⟩ := cI_u hj138
                                  refine go_I I (call_runV (rest := [.ref (a 0)]) C I (c_M_byteOf C.2.2.2.1 C.2.2.2.2.1 l h140 _) wd_M_byteOf (q0 := 0) (ci := 7) rfl rfl k_985 ⟨rfl, rfl⟩ ⟨by decide, by decide⟩ rfl hl.1 rfl (Nat.le_of_ble_eq_true rfl) d_M_plain_466) (fun H locs I => ?_)
                                  refine lv_iconst (v := 5) hx hb d_M_plain_469 (by decide) ?_
                                  refine lv_icmp_eq (tgt := 497) hx hb d_M_plain_470 (by decide) (fun hc => ?_) (fun hc => ?_)
                                  · replace hj138 := it_u hc hj138
                                    refine lv_iconst (v := 1) hx hb d_M_plain_497 (by decide) ?_
                                    refine lv_goto (tgt := 502) hx hb d_M_plain_498 (by decide) ?_
                                    cases hj138
                                    exact Khj138 _ _ _ I (lv_sub hl [1] rfl)
                                  · replace hj138 := ie_u hc hj138
                                    refine lv_aload_n hx hb d_M_plain_473 rfl (lv_at hl 0 rfl) ?_
                                    refine lv_iload_n hx hb d_M_plain_474 rfl (lv_at hl 1 rfl) ?_
                                    refine lv_iconst (v := 1) hx hb d_M_plain_475 (by decide) ?_
                                    refine lv_iadd hx hb d_M_plain_476 ?_
                                    obtain ⟨r144, u142, h143, hj138⟩ := cI_u hj138
                                    refine go_I I (call_runV (rest := [.ref (a 0)]) C I (c_M_byteOf C.2.2.2.1 C.2.2.2.2.1 l h143 _) wd_M_byteOf (q0 := 0) (ci := 7) rfl rfl k_985 ⟨rfl, rfl⟩ ⟨by decide, by decide⟩ rfl hl.1 rfl (Nat.le_of_ble_eq_true rfl) d_M_plain_477) (fun H locs I => ?_)
                                    refine lv_bipush (v := 8) hx hb d_M_plain_480 (by decide) ?_
                                    refine lv_icmp_lt (tgt := 501) hx hb d_M_plain_482 (by decide) (fun hc => ?_) (fun hc => ?_)
                                    · replace hj138 := it_u hc hj138
                                      refine lv_iconst (v := 0) hx hb d_M_plain_501 (by decide) ?_
                                      cases hj138
                                      exact Khj138 _ _ _ I (lv_sub hl [1] rfl)
                                    · replace hj138 := ie_u hc hj138
                                      refine lv_aload_n hx hb d_M_plain_485 rfl (lv_at hl 0 rfl) ?_
                                      refine lv_iload_n hx hb d_M_plain_486 rfl (lv_at hl 1 rfl) ?_
                                      refine lv_iconst (v := 1) hx hb d_M_plain_487 (by decide) ?_
                                      refine lv_iadd hx hb d_M_plain_488 ?_
                                      obtain ⟨r147, u145, h146, hj138⟩ := cI_u hj138
                                      refine go_I I (call_runV (rest := [.ref (a 0)]) C I (c_M_byteOf C.2.2.2.1 C.2.2.2.2.1 l h146 _) wd_M_byteOf (q0 := 0) (ci := 7) rfl rfl k_985 ⟨rfl, rfl⟩ ⟨by decide, by decide⟩ rfl hl.1 rfl (Nat.le_of_ble_eq_true rfl) d_M_plain_489) (fun H locs I => ?_)
                                      refine lv_bipush (v := 11) hx hb d_M_plain_492 (by decide) ?_
                                      refine lv_icmp_gt (tgt := 501) hx hb d_M_plain_494 (by decide) (fun hc => ?_) (fun hc => ?_)
                                      · replace hj138 := it_u hc hj138
                                        refine lv_iconst (v := 0) hx hb d_M_plain_501 (by decide) ?_
                                        cases hj138
                                        exact Khj138 _ _ _ I (lv_sub hl [1] rfl)
                                      · replace hj138 := ie_u hc hj138
                                        refine lv_iconst (v := 1) hx hb d_M_plain_497 (by decide) ?_
                                        refine lv_goto (tgt := 502) hx hb d_M_plain_498 (by decide) ?_
                                        cases hj138
                                        exact Khj138 _ _ _ I (lv_sub hl [1] rfl)
                            refine lv_icmp_ne (tgt := 443) hx hb d_M_plain_380 (by decide) (fun hc => ?_) (fun hc => ?_)
                            · replace hj149 := ie_u hc hj149
                              cases hj149
                              exact Khj149 _ _ _ I (lv_sub hl [0, 1, 2] rfl)
                            · replace hj149 := it_u hc hj149
                              refine lv_aload_n hx hb d_M_plain_383 rfl (lv_at hl 0 rfl) ?_
                              refine lv_iload_n hx hb d_M_plain_384 rfl (lv_at hl 1 rfl) ?_
                              refine lv_iconst (v := 3) hx hb d_M_plain_385 (by decide) ?_
                              refine lv_iadd hx hb d_M_plain_386 ?_
                              obtain ⟨r152, u150, h151, hj149⟩ := cI_u hj149
                              refine go_I I (call_runV (rest := []) C I (c_M_byteOf C.2.2.2.1 C.2.2.2.2.1 l h151 _) wd_M_byteOf (q0 := 0) (ci := 7) rfl rfl k_985 ⟨rfl, rfl⟩ ⟨by decide, by decide⟩ rfl hl.1 rfl (Nat.le_of_ble_eq_true rfl) d_M_plain_387) (fun H locs I => ?_)
                              refine lv_istore (lv' := [(4, .int r152), (0, .ref (a 0)), (1, .int x1), (2, .int x2), (3, .int r119)]) hx hb d_M_plain_390 hl (by decide) rfl (fun ls hl => ?_)
                              refine lv_iconst (v := 0) hx hb d_M_plain_392 (by decide) ?_
                              refine lv_istore (lv' := [(5, .int 0), (4, .int r152), (0, .ref (a 0)), (1, .int x1), (2, .int x2), (3, .int r119)]) hx hb d_M_plain_393 hl (by decide) rfl (fun ls hl => ?_)
                              obtain ⟨⟨u153, z154⟩, hj160, hj149⟩ := cT_u hj149
                              refine w_M_plain_L395 C (fun H locs ls I hl => ?_) FU u150 0 _ _ _ hj160 I (lv_sub hl [2, 3, 4, 5, 1, 0] rfl)
                              refine lv_aload_n hx hb d_M_plain_417 rfl (lv_at hl 0 rfl) ?_
                              refine lv_iload hx hb d_M_plain_418 (lv_at hl 3 rfl) ?_
                              refine lv_iconst (v := 1) hx hb d_M_plain_420 (by decide) ?_
                              obtain ⟨z155, hj159, hj149⟩ := bnd_u hj149
                              have Khj159 : ∀ (H : Heap) (locs : List Loc) (ls : Array Slot), Dy clA D (mW a cs) s H locs u153 → lv_has ls 6 [(0, .ref (a 0)), (1, .int x1), (2, .int x2)] → W p l e rm_M_plain s m args below meth c H locs 0 0 Q (F0 m 436 ls [.int z155, .ref (a 0)]) := by
                                intro H locs ls I hl
                                refine lv_bipush (v := 24) hx hb d_M_plain_436 (by decide) ?_
                                refine lv_iload_n hx hb d_M_plain_438 rfl (lv_at hl 1 rfl) ?_
                                obtain ⟨r158, u156, h157, hj149⟩ := cI_u hj149
                                refine go_I I (call_runV (rest := []) C I (c_M_must C.2.2.2.1 C.2.2.2.2.1 l h157 _) wd_M_must (q0 := 0) (ci := 7) rfl rfl k_843 ⟨rfl, rfl⟩ ⟨by decide, by decide⟩ rfl hl.1 rfl (Nat.le_of_ble_eq_true rfl) d_M_plain_439) (fun H locs I => ?_)
                                refine lv_pop hx hb d_M_plain_442 rfl ?_
                                cases hj149
                                exact Khj149 _ _ _ I (lv_sub hl [0, 1, 2] rfl)
                              refine lv_icmp_lt (tgt := 435) hx hb d_M_plain_421 (by decide) (fun hc => ?_) (fun hc => ?_)
                              · replace hj159 := it_u hc hj159
                                refine lv_iconst (v := 0) hx hb d_M_plain_435 (by decide) ?_
                                cases hj159
                                exact Khj159 _ _ _ I (lv_sub hl [0, 1, 2] rfl)
                              · replace hj159 := ie_u hc hj159
                                refine lv_iload hx hb d_M_plain_424 (lv_at hl 3 rfl) ?_
                                refine lv_iload hx hb d_M_plain_426 (lv_at hl 4 rfl) ?_
                                refine lv_icmp_gt (tgt := 435) hx hb d_M_plain_428 (by decide) (fun hc => ?_) (fun hc => ?_)
                                · replace hj159 := it_u hc hj159
                                  refine lv_iconst (v := 0) hx hb d_M_plain_435 (by decide) ?_
                                  cases hj159
                                  exact Khj159 _ _ _ I (lv_sub hl [0, 1, 2] rfl)
                                · replace hj159 := ie_u hc hj159
                                  refine lv_iconst (v := 1) hx hb d_M_plain_431 (by decide) ?_
                                  refine lv_goto (tgt := 436) hx hb d_M_plain_432 (by decide) ?_
                                  cases hj159
                                  exact Khj159 _ _ _ I (lv_sub hl [0, 1, 2] rfl)
                          refine lv_icmp_ne (tgt := 376) hx hb d_M_plain_352 (by decide) (fun hc => ?_) (fun hc => ?_)
                          · replace hj162 := ie_u hc hj162
                            cases hj162
                            exact Khj162 _ _ _ I (lv_sub hl [1, 2, 3, 0] rfl)
                          · replace hj162 := it_u hc hj162
                            refine lv_aload_n hx hb d_M_plain_355 rfl (lv_at hl 1 rfl) ?_
                            refine lv_aload_n hx hb d_M_plain_356 rfl (lv_at hl 1 rfl) ?_
                            refine lv_iload_n hx hb d_M_plain_357 rfl (lv_at hl 0 rfl) ?_
                            obtain ⟨r165, u163, h164, hj162⟩ := cI_u hj162
                            refine go_I I (call_runV (rest := [.ref (a 0)]) C I (c_M_isArray C.2.2.2.1 C.2.2.2.2.1 l h164 _) wd_M_isArray (q0 := 0) (ci := 7) rfl rfl k_933 ⟨rfl, rfl⟩ ⟨by decide, by decide⟩ rfl hl.1 rfl (Nat.le_of_ble_eq_true rfl) d_M_plain_358) (fun H locs I => ?_)
                            obtain ⟨z166, hj170, hj162⟩ := bnd_u hj162
                            have Khj170 : ∀ (H : Heap) (locs : List Loc) (ls : Array Slot), Dy clA D (mW a cs) s H locs u163 → lv_has ls 6 [(0, .ref (a 0)), (1, .int x1), (2, .int x2), (3, .int r119)] → W p l e rm_M_plain s m args below meth c H locs 0 0 Q (F0 m 369 ls [.int z166, .ref (a 0)]) := by
                              intro H locs ls I hl
                              refine lv_bipush (v := 24) hx hb d_M_plain_369 (by decide) ?_
                              refine lv_iload_n hx hb d_M_plain_371 rfl (lv_at hl 1 rfl) ?_
                              obtain ⟨r169, u167, h168, hj162⟩ := cI_u hj162
                              refine go_I I (call_runV (rest := []) C I (c_M_must C.2.2.2.1 C.2.2.2.2.1 l h168 _) wd_M_must (q0 := 0) (ci := 7) rfl rfl k_843 ⟨rfl, rfl⟩ ⟨by decide, by decide⟩ rfl hl.1 rfl (Nat.le_of_ble_eq_true rfl) d_M_plain_372) (fun H locs I => ?_)
                              refine lv_pop hx hb d_M_plain_375 rfl ?_
                              cases hj162
                              exact Khj162 _ _ _ I (lv_sub hl [0, 1, 2, 3] rfl)
                            refine lv_if_ne (tgt := 368) hx hb d_M_plain_361 (by decide) (fun hc => ?_) (fun hc => ?_)
                            · replace hj170 := ie_u hc hj170
                              refine lv_iconst (v := 0) hx hb d_M_plain_368 (by decide) ?_
                              cases hj170
                              exact Khj170 _ _ _ I (lv_sub hl [1, 2, 3, 0] rfl)
                            · replace hj170 := it_u hc hj170
                              refine lv_iconst (v := 1) hx hb d_M_plain_364 (by decide) ?_
                              refine lv_goto (tgt := 369) hx hb d_M_plain_365 (by decide) ?_
                              cases hj170
                              exact Khj170 _ _ _ I (lv_sub hl [1, 2, 3, 0] rfl)
                        · replace hk := it_u hc hk
                          exact hQ _ _ _ _ _ I hk d_M_plain_347
                      · replace hk := ie_u hc hk
                        refine lv_iload_n hx hb d_M_plain_308 rfl (lv_at hl 2 rfl) ?_
                        refine lv_sipush (v := 193) hx hb d_M_plain_309 (by decide) ?_
                        refine lv_icmp_eq (tgt := 322) hx hb d_M_plain_312 (by decide) (fun hc => ?_) (fun hc => ?_)
                        · replace hk := it_u hc hk
                          refine lv_aload_n hx hb d_M_plain_322 rfl (lv_at hl 0 rfl) ?_
                          refine lv_iload_n hx hb d_M_plain_323 rfl (lv_at hl 1 rfl) ?_
                          refine lv_iconst (v := 1) hx hb d_M_plain_324 (by decide) ?_
                          refine lv_iadd hx hb d_M_plain_325 ?_
                          obtain ⟨r173, u171, h172, hk⟩ := cI_u hk
                          refine go_I I (call_runV (rest := []) C I (c_M_two C.2.2.2.1 C.2.2.2.2.1 l h172 _) wd_M_two (q0 := 0) (ci := 7) rfl rfl k_859 ⟨rfl, rfl⟩ ⟨by decide, by decide⟩ rfl hl.1 rfl (Nat.le_of_ble_eq_true rfl) d_M_plain_326) (fun H locs I => ?_)
                          refine lv_istore_n (lv' := [(3, .int r173), (0, .ref (a 0)), (1, .int x1), (2, .int x2)]) hx hb d_M_plain_329 rfl hl (by decide) rfl (fun ls hl => ?_)
                          refine lv_aload_n hx hb d_M_plain_330 rfl (lv_at hl 1 rfl) ?_
                          refine lv_aload_n hx hb d_M_plain_331 rfl (lv_at hl 1 rfl) ?_
                          refine lv_iload_n hx hb d_M_plain_332 rfl (lv_at hl 0 rfl) ?_
                          refine lv_bipush (v := 7) hx hb d_M_plain_333 (by decide) ?_
                          obtain ⟨r176, u174, h175, hk⟩ := cI_u hk
                          refine go_I I (call_runV (rest := [.ref (a 0)]) C I (c_M_isKind C.2.2.2.1 C.2.2.2.2.1 l h175 _) wd_M_isKind (q0 := 0) (ci := 7) rfl rfl k_863 ⟨rfl, rfl⟩ ⟨by decide, by decide⟩ rfl hl.1 rfl (Nat.le_of_ble_eq_true rfl) d_M_plain_335) (fun H locs I => ?_)
                          refine lv_bipush (v := 8) hx hb d_M_plain_338 (by decide) ?_
                          refine lv_iload_n hx hb d_M_plain_340 rfl (lv_at hl 2 rfl) ?_
                          obtain ⟨r179, u177, h178, hk⟩ := cI_u hk
                          refine go_I I (call_runV (rest := []) C I (c_M_must C.2.2.2.1 C.2.2.2.2.1 l h178 _) wd_M_must (q0 := 0) (ci := 7) rfl rfl k_843 ⟨rfl, rfl⟩ ⟨by decide, by decide⟩ rfl hl.1 rfl (Nat.le_of_ble_eq_true rfl) d_M_plain_341) (fun H locs I => ?_)
                          refine lv_if_ne (tgt := 348) hx hb d_M_plain_344 (by decide) (fun hc => ?_) (fun hc => ?_)
                          · replace hk := ie_u hc hk
                            refine lv_iload_n hx hb d_M_plain_348 rfl (lv_at hl 3 rfl) ?_
                            refine lv_sipush (v := 187) hx hb d_M_plain_349 (by decide) ?_
                            obtain ⟨u180, hj216, hk⟩ := cT_u hk
                            have Khj216 : ∀ (H : Heap) (locs : List Loc) (ls : Array Slot), Dy clA D (mW a cs) s H locs u180 → lv_has ls 6 [(0, .ref (a 0)), (1, .int x1), (2, .int x2), (3, .int r173)] → W p l e rm_M_plain s m args below meth c H locs 0 0 Q (F0 m 376 ls []) := by
                              intro H locs ls I hl
                              refine lv_iload_n hx hb d_M_plain_376 rfl (lv_at hl 2 rfl) ?_
                              refine lv_sipush (v := 197) hx hb d_M_plain_377 (by decide) ?_
                              obtain ⟨u181, hj203, hk⟩ := cT_u hk
                              have Khj203 : ∀ (H : Heap) (locs : List Loc) (ls : Array Slot), Dy clA D (mW a cs) s H locs u181 → lv_has ls 6 [(0, .ref (a 0)), (1, .int x1), (2, .int x2)] → W p l e rm_M_plain s m args below meth c H locs 0 0 Q (F0 m 443 ls []) := by
                                intro H locs ls I hl
                                refine lv_iload_n hx hb d_M_plain_443 rfl (lv_at hl 2 rfl) ?_
                                refine lv_sipush (v := 188) hx hb d_M_plain_444 (by decide) ?_
                                obtain ⟨u182, hj183, hk⟩ := cT_u hk
                                have Khj183 : ∀ (H : Heap) (locs : List Loc) (ls : Array Slot), Dy clA D (mW a cs) s H locs u182 → lv_has ls 6 [] → W p l e rm_M_plain s m args below meth c H locs 0 0 Q (F0 m 509 ls []) := by
                                  intro H locs ls I hl
                                  exact hQ _ _ _ _ _ I hk d_M_plain_509
                                refine lv_icmp_ne (tgt := 509) hx hb d_M_plain_447 (by decide) (fun hc => ?_) (fun hc => ?_)
                                · replace hj183 := ie_u hc hj183
                                  cases hj183
                                  exact Khj183 _ _ _ I (lv_sub hl [] rfl)
                                · replace hj183 := it_u hc hj183
                                  refine lv_aload_n hx hb d_M_plain_450 rfl (lv_at hl 0 rfl) ?_
                                  refine lv_aload_n hx hb d_M_plain_451 rfl (lv_at hl 0 rfl) ?_
                                  refine lv_iload_n hx hb d_M_plain_452 rfl (lv_at hl 1 rfl) ?_
                                  refine lv_iconst (v := 1) hx hb d_M_plain_453 (by decide) ?_
                                  refine lv_iadd hx hb d_M_plain_454 ?_
                                  obtain ⟨r186, u184, h185, hj183⟩ := cI_u hj183
                                  refine go_I I (call_runV (rest := [.ref (a 0)]) C I (c_M_byteOf C.2.2.2.1 C.2.2.2.2.1 l h185 _) wd_M_byteOf (q0 := 0) (ci := 7) rfl rfl k_985 ⟨rfl, rfl⟩ ⟨by decide, by decide⟩ rfl hl.1 rfl (Nat.le_of_ble_eq_true rfl) d_M_plain_455) (fun H locs I => ?_)
                                  refine lv_iconst (v := 4) hx hb d_M_plain_458 (by decide) ?_
                                  obtain ⟨⟨z187, u188⟩, hj192, hj183⟩ := cT_u hj183
                                  have Khj192 : ∀ (H : Heap) (locs : List Loc) (ls : Array Slot), Dy clA D (mW a cs) s H locs u188 → lv_has ls 6 [(1, .int x1)] → W p l e rm_M_plain s m args below meth c H locs 0 0 Q (F0 m 502 ls [.int z187, .ref (a 0)]) := by
                                    intro H locs ls I hl
                                    refine lv_bipush (v := 24) hx hb d_M_plain_502 (by decide) ?_
                                    refine lv_iload_n hx hb d_M_plain_504 rfl (lv_at hl 0 rfl) ?_
                                    obtain ⟨r191, u189, h190, hj183⟩ := cI_u hj183
                                    refine go_I I (call_runV (rest := []) C I (c_M_must C.2.2.2.1 C.2.2.2.2.1 l h190 _) wd_M_must (q0 := 0) (ci := 7) rfl rfl k_843 ⟨rfl, rfl⟩ ⟨by decide, by decide⟩ rfl hl.1 rfl (Nat.le_of_ble_eq_true rfl) d_M_plain_505) (fun H locs I => ?_)
                                    refine lv_pop hx hb d_M_plain_508 rfl ?_
                                    cases hj183
                                    exact Khj183 _ _ _ I (lv_sub hl [] rfl)
                                  refine lv_icmp_eq (tgt := 497) hx hb d_M_plain_459 (by decide) (fun hc => ?_) (fun hc => ?_)
                                  · replace hj192 := it_u hc hj192
                                    refine lv_iconst (v := 1) hx hb d_M_plain_497 (by decide) ?_
                                    refine lv_goto (tgt := 502) hx hb d_M_plain_498 (by decide) ?_
                                    cases hj192
                                    exact Khj192 _ _ _ I (lv_sub hl [1] rfl)
                                  · replace hj192 := ie_u hc hj192
                                    refine lv_aload_n hx hb d_M_plain_462 rfl (lv_at hl 0 rfl) ?_
                                    refine lv_iload_n hx hb d_M_plain_463 rfl (lv_at hl 1 rfl) ?_
                                    refine lv_iconst (v := 1) hx hb d_M_plain_464 (by decide) ?_
                                    refine lv_iadd hx hb d_M_plain_465 ?_
                                    obtain ⟨r195, u193, h194, hj192⟩ := cI_u hj192
                                    refine go_I I (call_runV (rest := [.ref (a 0)]) C I (c_M_byteOf C.2.2.2.1 C.2.2.2.2.1 l h194 _) wd_M_byteOf (q0 := 0) (ci := 7) rfl rfl k_985 ⟨rfl, rfl⟩ ⟨by decide, by decide⟩ rfl hl.1 rfl (Nat.le_of_ble_eq_true rfl) d_M_plain_466) (fun H locs I => ?_)
                                    refine lv_iconst (v := 5) hx hb d_M_plain_469 (by decide) ?_
                                    refine lv_icmp_eq (tgt := 497) hx hb d_M_plain_470 (by decide) (fun hc => ?_) (fun hc => ?_)
                                    · replace hj192 := it_u hc hj192
                                      refine lv_iconst (v := 1) hx hb d_M_plain_497 (by decide) ?_
                                      refine lv_goto (tgt := 502) hx hb d_M_plain_498 (by decide) ?_
                                      cases hj192
                                      exact Khj192 _ _ _ I (lv_sub hl [1] rfl)
                                    · replace hj192 := ie_u hc hj192
                                      refine lv_aload_n hx hb d_M_plain_473 rfl (lv_at hl 0 rfl) ?_
                                      refine lv_iload_n hx hb d_M_plain_474 rfl (lv_at hl 1 rfl) ?_
                                      refine lv_iconst (v := 1) hx hb d_M_plain_475 (by decide) ?_
                                      refine lv_iadd hx hb d_M_plain_476 ?_
                                      obtain ⟨r198, u196, h197, hj192⟩ := cI_u hj192
                                      refine go_I I (call_runV (rest := [.ref (a 0)]) C I (c_M_byteOf C.2.2.2.1 C.2.2.2.2.1 l h197 _) wd_M_byteOf (q0 := 0) (ci := 7) rfl rfl k_985 ⟨rfl, rfl⟩ ⟨by decide, by decide⟩ rfl hl.1 rfl (Nat.le_of_ble_eq_true rfl) d_M_plain_477) (fun H locs I => ?_)
                                      refine lv_bipush (v := 8) hx hb d_M_plain_480 (by decide) ?_
                                      refine lv_icmp_lt (tgt := 501) hx hb d_M_plain_482 (by decide) (fun hc => ?_) (fun hc => ?_)
                                      · replace hj192 := it_u hc hj192
                                        refine lv_iconst (v := 0) hx hb d_M_plain_501 (by decide) ?_
                                        cases hj192
                                        exact Khj192 _ _ _ I (lv_sub hl [1] rfl)
                                      · replace hj192 := ie_u hc hj192
                                        refine lv_aload_n hx hb d_M_plain_485 rfl (lv_at hl 0 rfl) ?_
                                        refine lv_iload_n hx hb d_M_plain_486 rfl (lv_at hl 1 rfl) ?_
                                        refine lv_iconst (v := 1) hx hb d_M_plain_487 (by decide) ?_
                                        refine lv_iadd hx hb d_M_plain_488 ?_
                                        obtain ⟨r201, u199, h200, hj192⟩ := cI_u hj192
                                        refine go_I I (call_runV (rest := [.ref (a 0)]) C I (c_M_byteOf C.2.2.2.1 C.2.2.2.2.1 l h200 _) wd_M_byteOf (q0 := 0) (ci := 7) rfl rfl k_985 ⟨rfl, rfl⟩ ⟨by decide, by decide⟩ rfl hl.1 rfl (Nat.le_of_ble_eq_true rfl) d_M_plain_489) (fun H locs I => ?_)
                                        refine lv_bipush (v := 11) hx hb d_M_plain_492 (by decide) ?_
                                        refine lv_icmp_gt (tgt := 501) hx hb d_M_plain_494 (by decide) (fun hc => ?_) (fun hc => ?_)
                                        · replace hj192 := it_u hc hj192
                                          refine lv_iconst (v := 0) hx hb d_M_plain_501 (by decide) ?_
                                          cases hj192
                                          exact Khj192 _ _ _ I (lv_sub hl [1] rfl)
                                        · replace hj192 := ie_u hc hj192
                                          refine lv_iconst (v := 1) hx hb d_M_plain_497 (by decide) ?_
                                          refine lv_goto (tgt := 502) hx hb d_M_plain_498 (by decide) ?_
                                          cases hj192
                                          exact Khj192 _ _ _ I (lv_sub hl [1] rfl)
                              refine lv_icmp_ne (tgt := 443) hx hb d_M_plain_380 (by decide) (fun hc => ?_) (fun hc => ?_)
                              · replace hj203 := ie_u hc hj203
                                cases hj203
                                exact Khj203 _ _ _ I (lv_sub hl [0, 1, 2] rfl)
                              · replace hj203 := it_u hc hj203
                                refine lv_aload_n hx hb d_M_plain_383 rfl (lv_at hl 0 rfl) ?_
                                refine lv_iload_n hx hb d_M_plain_384 rfl (lv_at hl 1 rfl) ?_
                                refine lv_iconst (v := 3) hx hb d_M_plain_385 (by decide) ?_
                                refine lv_iadd hx hb d_M_plain_386 ?_
                                obtain ⟨r206, u204, h205, hj203⟩ := cI_u hj203
                                refine go_I I (call_runV (rest := []) C I (c_M_byteOf C.2.2.2.1 C.2.2.2.2.1 l h205 _) wd_M_byteOf (q0 := 0) (ci := 7) rfl rfl k_985 ⟨rfl, rfl⟩ ⟨by decide, by decide⟩ rfl hl.1 rfl (Nat.le_of_ble_eq_true rfl) d_M_plain_387) (fun H locs I => ?_)
                                refine lv_istore (lv' := [(4, .int r206), (0, .ref (a 0)), (1, .int x1), (2, .int x2), (3, .int r173)]) hx hb d_M_plain_390 hl (by decide) rfl (fun ls hl => ?_)
                                refine lv_iconst (v := 0) hx hb d_M_plain_392 (by decide) ?_
                                refine lv_istore (lv' := [(5, .int 0), (4, .int r206), (0, .ref (a 0)), (1, .int x1), (2, .int x2), (3, .int r173)]) hx hb d_M_plain_393 hl (by decide) rfl (fun ls hl => ?_)
                                obtain ⟨⟨u207, z208⟩, hj214, hj203⟩ := cT_u hj203
                                refine w_M_plain_L395 C (fun H locs ls I hl => ?_) FU u204 0 _ _ _ hj214 I (lv_sub hl [2, 3, 4, 5, 1, 0] rfl)
                                refine lv_aload_n hx hb d_M_plain_417 rfl (lv_at hl 0 rfl) ?_
                                refine lv_iload hx hb d_M_plain_418 (lv_at hl 3 rfl) ?_
                                refine lv_iconst (v := 1) hx hb d_M_plain_420 (by decide) ?_
                                obtain ⟨z209, hj213, hj203⟩ := bnd_u hj203
                                have Khj213 : ∀ (H : Heap) (locs : List Loc) (ls : Array Slot), Dy clA D (mW a cs) s H locs u207 → lv_has ls 6 [(0, .ref (a 0)), (1, .int x1), (2, .int x2)] → W p l e rm_M_plain s m args below meth c H locs 0 0 Q (F0 m 436 ls [.int z209, .ref (a 0)]) := by
                                  intro H locs ls I hl
                                  refine lv_bipush (v := 24) hx hb d_M_plain_436 (by decide) ?_
                                  refine lv_iload_n hx hb d_M_plain_438 rfl (lv_at hl 1 rfl) ?_
                                  obtain ⟨r212, u210, h211, hj203⟩ := cI_u hj203
                                  refine go_I I (call_runV (rest := []) C I (c_M_must C.2.2.2.1 C.2.2.2.2.1 l h211 _) wd_M_must (q0 := 0) (ci := 7) rfl rfl k_843 ⟨rfl, rfl⟩ ⟨by decide, by decide⟩ rfl hl.1 rfl (Nat.le_of_ble_eq_true rfl) d_M_plain_439) (fun H locs I => ?_)
                                  refine lv_pop hx hb d_M_plain_442 rfl ?_
                                  cases hj203
                                  exact Khj203 _ _ _ I (lv_sub hl [0, 1, 2] rfl)
                                refine lv_icmp_lt (tgt := 435) hx hb d_M_plain_421 (by decide) (fun hc => ?_) (fun hc => ?_)
                                · replace hj213 := it_u hc hj213
                                  refine lv_iconst (v := 0) hx hb d_M_plain_435 (by decide) ?_
                                  cases hj213
                                  exact Khj213 _ _ _ I (lv_sub hl [0, 1, 2] rfl)
                                · replace hj213 := ie_u hc hj213
                                  refine lv_iload hx hb d_M_plain_424 (lv_at hl 3 rfl) ?_
                                  refine lv_iload hx hb d_M_plain_426 (lv_at hl 4 rfl) ?_
                                  refine lv_icmp_gt (tgt := 435) hx hb d_M_plain_428 (by decide) (fun hc => ?_) (fun hc => ?_)
                                  · replace hj213 := it_u hc hj213
                                    refine lv_iconst (v := 0) hx hb d_M_plain_435 (by decide) ?_
                                    cases hj213
                                    exact Khj213 _ _ _ I (lv_sub hl [0, 1, 2] rfl)
                                  · replace hj213 := ie_u hc hj213
                                    refine lv_iconst (v := 1) hx hb d_M_plain_431 (by decide) ?_
                                    refine lv_goto (tgt := 436) hx hb d_M_plain_432 (by decide) ?_
                                    cases hj213
                                    exact Khj213 _ _ _ I (lv_sub hl [0, 1, 2] rfl)
                            refine lv_icmp_ne (tgt := 376) hx hb d_M_plain_352 (by decide) (fun hc => ?_) (fun hc => ?_)
                            · replace hj216 := ie_u hc hj216
                              cases hj216
                              exact Khj216 _ _ _ I (lv_sub hl [1, 2, 3, 0] rfl)
                            · replace hj216 := it_u hc hj216
                              refine lv_aload_n hx hb d_M_plain_355 rfl (lv_at hl 1 rfl) ?_
                              refine lv_aload_n hx hb d_M_plain_356 rfl (lv_at hl 1 rfl) ?_
                              refine lv_iload_n hx hb d_M_plain_357 rfl (lv_at hl 0 rfl) ?_
                              obtain ⟨r219, u217, h218, hj216⟩ := cI_u hj216
                              refine go_I I (call_runV (rest := [.ref (a 0)]) C I (c_M_isArray C.2.2.2.1 C.2.2.2.2.1 l h218 _) wd_M_isArray (q0 := 0) (ci := 7) rfl rfl k_933 ⟨rfl, rfl⟩ ⟨by decide, by decide⟩ rfl hl.1 rfl (Nat.le_of_ble_eq_true rfl) d_M_plain_358) (fun H locs I => ?_)
                              obtain ⟨z220, hj224, hj216⟩ := bnd_u hj216
                              have Khj224 : ∀ (H : Heap) (locs : List Loc) (ls : Array Slot), Dy clA D (mW a cs) s H locs u217 → lv_has ls 6 [(0, .ref (a 0)), (1, .int x1), (2, .int x2), (3, .int r173)] → W p l e rm_M_plain s m args below meth c H locs 0 0 Q (F0 m 369 ls [.int z220, .ref (a 0)]) := by
                                intro H locs ls I hl
                                refine lv_bipush (v := 24) hx hb d_M_plain_369 (by decide) ?_
                                refine lv_iload_n hx hb d_M_plain_371 rfl (lv_at hl 1 rfl) ?_
                                obtain ⟨r223, u221, h222, hj216⟩ := cI_u hj216
                                refine go_I I (call_runV (rest := []) C I (c_M_must C.2.2.2.1 C.2.2.2.2.1 l h222 _) wd_M_must (q0 := 0) (ci := 7) rfl rfl k_843 ⟨rfl, rfl⟩ ⟨by decide, by decide⟩ rfl hl.1 rfl (Nat.le_of_ble_eq_true rfl) d_M_plain_372) (fun H locs I => ?_)
                                refine lv_pop hx hb d_M_plain_375 rfl ?_
                                cases hj216
                                exact Khj216 _ _ _ I (lv_sub hl [0, 1, 2, 3] rfl)
                              refine lv_if_ne (tgt := 368) hx hb d_M_plain_361 (by decide) (fun hc => ?_) (fun hc => ?_)
                              · replace hj224 := ie_u hc hj224
                                refine lv_iconst (v := 0) hx hb d_M_plain_368 (by decide) ?_
                                cases hj224
                                exact Khj224 _ _ _ I (lv_sub hl [1, 2, 3, 0] rfl)
                              · replace hj224 := it_u hc hj224
                                refine lv_iconst (v := 1) hx hb d_M_plain_364 (by decide) ?_
                                refine lv_goto (tgt := 369) hx hb d_M_plain_365 (by decide) ?_
                                cases hj224
                                exact Khj224 _ _ _ I (lv_sub hl [1, 2, 3, 0] rfl)
                          · replace hk := it_u hc hk
                            exact hQ _ _ _ _ _ I hk d_M_plain_347
                        · replace hk := ie_u hc hk
                          refine lv_iload_n hx hb d_M_plain_315 rfl (lv_at hl 2 rfl) ?_
                          refine lv_sipush (v := 197) hx hb d_M_plain_316 (by decide) ?_
                          refine lv_icmp_ne (tgt := 443) hx hb d_M_plain_319 (by decide) (fun hc => ?_) (fun hc => ?_)
                          · replace hk := ie_u hc hk
                            refine lv_iload_n hx hb d_M_plain_443 rfl (lv_at hl 2 rfl) ?_
                            refine lv_sipush (v := 188) hx hb d_M_plain_444 (by decide) ?_
                            obtain ⟨u225, hj226, hk⟩ := cT_u hk
                            have Khj226 : ∀ (H : Heap) (locs : List Loc) (ls : Array Slot), Dy clA D (mW a cs) s H locs u225 → lv_has ls 6 [] → W p l e rm_M_plain s m args below meth c H locs 0 0 Q (F0 m 509 ls []) := by
                              intro H locs ls I hl
                              exact hQ _ _ _ _ _ I hk d_M_plain_509
                            refine lv_icmp_ne (tgt := 509) hx hb d_M_plain_447 (by decide) (fun hc => ?_) (fun hc => ?_)
                            · replace hj226 := ie_u hc hj226
                              cases hj226
                              exact Khj226 _ _ _ I (lv_sub hl [] rfl)
                            · replace hj226 := it_u hc hj226
                              refine lv_aload_n hx hb d_M_plain_450 rfl (lv_at hl 0 rfl) ?_
                              refine lv_aload_n hx hb d_M_plain_451 rfl (lv_at hl 0 rfl) ?_
                              refine lv_iload_n hx hb d_M_plain_452 rfl (lv_at hl 1 rfl) ?_
                              refine lv_iconst (v := 1) hx hb d_M_plain_453 (by decide) ?_
                              refine lv_iadd hx hb d_M_plain_454 ?_
                              obtain ⟨r229, u227, h228, hj226⟩ := cI_u hj226
                              refine go_I I (call_runV (rest := [.ref (a 0)]) C I (c_M_byteOf C.2.2.2.1 C.2.2.2.2.1 l h228 _) wd_M_byteOf (q0 := 0) (ci := 7) rfl rfl k_985 ⟨rfl, rfl⟩ ⟨by decide, by decide⟩ rfl hl.1 rfl (Nat.le_of_ble_eq_true rfl) d_M_plain_455) (fun H locs I => ?_)
                              refine lv_iconst (v := 4) hx hb d_M_plain_458 (by decide) ?_
                              obtain ⟨⟨z230, u231⟩, hj235, hj226⟩ := cT_u hj226
                              have Khj235 : ∀ (H : Heap) (locs : List Loc) (ls : Array Slot), Dy clA D (mW a cs) s H locs u231 → lv_has ls 6 [(1, .int x1)] → W p l e rm_M_plain s m args below meth c H locs 0 0 Q (F0 m 502 ls [.int z230, .ref (a 0)]) := by
                                intro H locs ls I hl
                                refine lv_bipush (v := 24) hx hb d_M_plain_502 (by decide) ?_
                                refine lv_iload_n hx hb d_M_plain_504 rfl (lv_at hl 0 rfl) ?_
                                obtain ⟨r234, u232, h233, hj226⟩ := cI_u hj226
                                refine go_I I (call_runV (rest := []) C I (c_M_must C.2.2.2.1 C.2.2.2.2.1 l h233 _) wd_M_must (q0 := 0) (ci := 7) rfl rfl k_843 ⟨rfl, rfl⟩ ⟨by decide, by decide⟩ rfl hl.1 rfl (Nat.le_of_ble_eq_true rfl) d_M_plain_505) (fun H locs I => ?_)
                                refine lv_pop hx hb d_M_plain_508 rfl ?_
                                cases hj226
                                exact Khj226 _ _ _ I (lv_sub hl [] rfl)
                              refine lv_icmp_eq (tgt := 497) hx hb d_M_plain_459 (by decide) (fun hc => ?_) (fun hc => ?_)
                              · replace hj235 := it_u hc hj235
                                refine lv_iconst (v := 1) hx hb d_M_plain_497 (by decide) ?_
                                refine lv_goto (tgt := 502) hx hb d_M_plain_498 (by decide) ?_
                                cases hj235
                                exact Khj235 _ _ _ I (lv_sub hl [1] rfl)
                              · replace hj235 := ie_u hc hj235
                                refine lv_aload_n hx hb d_M_plain_462 rfl (lv_at hl 0 rfl) ?_
                                refine lv_iload_n hx hb d_M_plain_463 rfl (lv_at hl 1 rfl) ?_
                                refine lv_iconst (v := 1) hx hb d_M_plain_464 (by decide) ?_
                                refine lv_iadd hx hb d_M_plain_465 ?_
                                obtain ⟨r238, u236, h237, hj235⟩ := cI_u hj235
                                refine go_I I (call_runV (rest := [.ref (a 0)]) C I (c_M_byteOf C.2.2.2.1 C.2.2.2.2.1 l h237 _) wd_M_byteOf (q0 := 0) (ci := 7) rfl rfl k_985 ⟨rfl, rfl⟩ ⟨by decide, by decide⟩ rfl hl.1 rfl (Nat.le_of_ble_eq_true rfl) d_M_plain_466) (fun H locs I => ?_)
                                refine lv_iconst (v := 5) hx hb d_M_plain_469 (by decide) ?_
                                refine lv_icmp_eq (tgt := 497) hx hb d_M_plain_470 (by decide) (fun hc => ?_) (fun hc => ?_)
                                · replace hj235 := it_u hc hj235
                                  refine lv_iconst (v := 1) hx hb d_M_plain_497 (by decide) ?_
                                  refine lv_goto (tgt := 502) hx hb d_M_plain_498 (by decide) ?_
                                  cases hj235
                                  exact Khj235 _ _ _ I (lv_sub hl [1] rfl)
                                · replace hj235 := ie_u hc hj235
                                  refine lv_aload_n hx hb d_M_plain_473 rfl (lv_at hl 0 rfl) ?_
                                  refine lv_iload_n hx hb d_M_plain_474 rfl (lv_at hl 1 rfl) ?_
                                  refine lv_iconst (v := 1) hx hb d_M_plain_475 (by decide) ?_
                                  refine lv_iadd hx hb d_M_plain_476 ?_
                                  obtain ⟨r241, u239, h240, hj235⟩ := cI_u hj235
                                  refine go_I I (call_runV (rest := [.ref (a 0)]) C I (c_M_byteOf C.2.2.2.1 C.2.2.2.2.1 l h240 _) wd_M_byteOf (q0 := 0) (ci := 7) rfl rfl k_985 ⟨rfl, rfl⟩ ⟨by decide, by decide⟩ rfl hl.1 rfl (Nat.le_of_ble_eq_true rfl) d_M_plain_477) (fun H locs I => ?_)
                                  refine lv_bipush (v := 8) hx hb d_M_plain_480 (by decide) ?_
                                  refine lv_icmp_lt (tgt := 501) hx hb d_M_plain_482 (by decide) (fun hc => ?_) (fun hc => ?_)
                                  · replace hj235 := it_u hc hj235
                                    refine lv_iconst (v := 0) hx hb d_M_plain_501 (by decide) ?_
                                    cases hj235
                                    exact Khj235 _ _ _ I (lv_sub hl [1] rfl)
                                  · replace hj235 := ie_u hc hj235
                                    refine lv_aload_n hx hb d_M_plain_485 rfl (lv_at hl 0 rfl) ?_
                                    refine lv_iload_n hx hb d_M_plain_486 rfl (lv_at hl 1 rfl) ?_
                                    refine lv_iconst (v := 1) hx hb d_M_plain_487 (by decide) ?_
                                    refine lv_iadd hx hb d_M_plain_488 ?_
                                    obtain ⟨r244, u242, h243, hj235⟩ := cI_u hj235
                                    refine go_I I (call_runV (rest := [.ref (a 0)]) C I (c_M_byteOf C.2.2.2.1 C.2.2.2.2.1 l h243 _) wd_M_byteOf (q0 := 0) (ci := 7) rfl rfl k_985 ⟨rfl, rfl⟩ ⟨by decide, by decide⟩ rfl hl.1 rfl (Nat.le_of_ble_eq_true rfl) d_M_plain_489) (fun H locs I => ?_)
                                    refine lv_bipush (v := 11) hx hb d_M_plain_492 (by decide) ?_
                                    refine lv_icmp_gt (tgt := 501) hx hb d_M_plain_494 (by decide) (fun hc => ?_) (fun hc => ?_)
                                    · replace hj235 := it_u hc hj235
                                      refine lv_iconst (v := 0) hx hb d_M_plain_501 (by decide) ?_
                                      cases hj235
                                      exact Khj235 _ _ _ I (lv_sub hl [1] rfl)
                                    · replace hj235 := ie_u hc hj235
                                      refine lv_iconst (v := 1) hx hb d_M_plain_497 (by decide) ?_
                                      refine lv_goto (tgt := 502) hx hb d_M_plain_498 (by decide) ?_
                                      cases hj235
                                      exact Khj235 _ _ _ I (lv_sub hl [1] rfl)
                          · replace hk := it_u hc hk
                            refine lv_aload_n hx hb d_M_plain_322 rfl (lv_at hl 0 rfl) ?_
                            refine lv_iload_n hx hb d_M_plain_323 rfl (lv_at hl 1 rfl) ?_
                            refine lv_iconst (v := 1) hx hb d_M_plain_324 (by decide) ?_
                            refine lv_iadd hx hb d_M_plain_325 ?_
                            obtain ⟨r248, u246, h247, hk⟩ := cI_u hk
                            refine go_I I (call_runV (rest := []) C I (c_M_two C.2.2.2.1 C.2.2.2.2.1 l h247 _) wd_M_two (q0 := 0) (ci := 7) rfl rfl k_859 ⟨rfl, rfl⟩ ⟨by decide, by decide⟩ rfl hl.1 rfl (Nat.le_of_ble_eq_true rfl) d_M_plain_326) (fun H locs I => ?_)
                            refine lv_istore_n (lv' := [(3, .int r248), (0, .ref (a 0)), (1, .int x1), (2, .int x2)]) hx hb d_M_plain_329 rfl hl (by decide) rfl (fun ls hl => ?_)
                            refine lv_aload_n hx hb d_M_plain_330 rfl (lv_at hl 1 rfl) ?_
                            refine lv_aload_n hx hb d_M_plain_331 rfl (lv_at hl 1 rfl) ?_
                            refine lv_iload_n hx hb d_M_plain_332 rfl (lv_at hl 0 rfl) ?_
                            refine lv_bipush (v := 7) hx hb d_M_plain_333 (by decide) ?_
                            obtain ⟨r251, u249, h250, hk⟩ := cI_u hk
                            refine go_I I (call_runV (rest := [.ref (a 0)]) C I (c_M_isKind C.2.2.2.1 C.2.2.2.2.1 l h250 _) wd_M_isKind (q0 := 0) (ci := 7) rfl rfl k_863 ⟨rfl, rfl⟩ ⟨by decide, by decide⟩ rfl hl.1 rfl (Nat.le_of_ble_eq_true rfl) d_M_plain_335) (fun H locs I => ?_)
                            refine lv_bipush (v := 8) hx hb d_M_plain_338 (by decide) ?_
                            refine lv_iload_n hx hb d_M_plain_340 rfl (lv_at hl 2 rfl) ?_
                            obtain ⟨r254, u252, h253, hk⟩ := cI_u hk
                            refine go_I I (call_runV (rest := []) C I (c_M_must C.2.2.2.1 C.2.2.2.2.1 l h253 _) wd_M_must (q0 := 0) (ci := 7) rfl rfl k_843 ⟨rfl, rfl⟩ ⟨by decide, by decide⟩ rfl hl.1 rfl (Nat.le_of_ble_eq_true rfl) d_M_plain_341) (fun H locs I => ?_)
                            refine lv_if_ne (tgt := 348) hx hb d_M_plain_344 (by decide) (fun hc => ?_) (fun hc => ?_)
                            · replace hk := ie_u hc hk
                              refine lv_iload_n hx hb d_M_plain_348 rfl (lv_at hl 3 rfl) ?_
                              refine lv_sipush (v := 187) hx hb d_M_plain_349 (by decide) ?_
                              obtain ⟨u255, hj291, hk⟩ := cT_u hk
                              have Khj291 : ∀ (H : Heap) (locs : List Loc) (ls : Array Slot), Dy clA D (mW a cs) s H locs u255 → lv_has ls 6 [(0, .ref (a 0)), (1, .int x1), (2, .int x2), (3, .int r248)] → W p l e rm_M_plain s m args below meth c H locs 0 0 Q (F0 m 376 ls []) := by
                                intro H locs ls I hl
                                refine lv_iload_n hx hb d_M_plain_376 rfl (lv_at hl 2 rfl) ?_
                                refine lv_sipush (v := 197) hx hb d_M_plain_377 (by decide) ?_
                                obtain ⟨u256, hj278, hk⟩ := cT_u hk
                                have Khj278 : ∀ (H : Heap) (locs : List Loc) (ls : Array Slot), Dy clA D (mW a cs) s H locs u256 → lv_has ls 6 [(0, .ref (a 0)), (1, .int x1), (2, .int x2)] → W p l e rm_M_plain s m args below meth c H locs 0 0 Q (F0 m 443 ls []) := by
                                  intro H locs ls I hl
                                  refine lv_iload_n hx hb d_M_plain_443 rfl (lv_at hl 2 rfl) ?_
                                  refine lv_sipush (v := 188) hx hb d_M_plain_444 (by decide) ?_
                                  obtain ⟨u257, hj258, hk⟩ := cT_u hk
                                  have Khj258 : ∀ (H : Heap) (locs : List Loc) (ls : Array Slot), Dy clA D (mW a cs) s H locs u257 → lv_has ls 6 [] → W p l e rm_M_plain s m args below meth c H locs 0 0 Q (F0 m 509 ls []) := by
                                    intro H locs ls I hl
                                    exact hQ _ _ _ _ _ I hk d_M_plain_509
                                  refine lv_icmp_ne (tgt := 509) hx hb d_M_plain_447 (by decide) (fun hc => ?_) (fun hc => ?_)
                                  · replace hj258 := ie_u hc hj258
                                    cases hj258
                                    exact Khj258 _ _ _ I (lv_sub hl [] rfl)
                                  · replace hj258 := it_u hc hj258
                                    refine lv_aload_n hx hb d_M_plain_450 rfl (lv_at hl 0 rfl) ?_
                                    refine lv_aload_n hx hb d_M_plain_451 rfl (lv_at hl 0 rfl) ?_
                                    refine lv_iload_n hx hb d_M_plain_452 rfl (lv_at hl 1 rfl) ?_
                                    refine lv_iconst (v := 1) hx hb d_M_plain_453 (by decide) ?_
                                    refine lv_iadd hx hb d_M_plain_454 ?_
                                    obtain ⟨r261, u259, h260, hj258⟩ := cI_u hj258
                                    refine go_I I (call_runV (rest := [.ref (a 0)]) C I (c_M_byteOf C.2.2.2.1 C.2.2.2.2.1 l h260 _) wd_M_byteOf (q0 := 0) (ci := 7) rfl rfl k_985 ⟨rfl, rfl⟩ ⟨by decide, by decide⟩ rfl hl.1 rfl (Nat.le_of_ble_eq_true rfl) d_M_plain_455) (fun H locs I => ?_)
                                    refine lv_iconst (v := 4) hx hb d_M_plain_458 (by decide) ?_
                                    obtain ⟨⟨z262, u263⟩, hj267, hj258⟩ := cT_u hj258
                                    have Khj267 : ∀ (H : Heap) (locs : List Loc) (ls : Array Slot), Dy clA D (mW a cs) s H locs u263 → lv_has ls 6 [(1, .int x1)] → W p l e rm_M_plain s m args below meth c H locs 0 0 Q (F0 m 502 ls [.int z262, .ref (a 0)]) := by
                                      intro H locs ls I hl
                                      refine lv_bipush (v := 24) hx hb d_M_plain_502 (by decide) ?_
                                      refine lv_iload_n hx hb d_M_plain_504 rfl (lv_at hl 0 rfl) ?_
                                      obtain ⟨r266, u264, h265, hj258⟩ := cI_u hj258
                                      refine go_I I (call_runV (rest := []) C I (c_M_must C.2.2.2.1 C.2.2.2.2.1 l h265 _) wd_M_must (q0 := 0) (ci := 7) rfl rfl k_843 ⟨rfl, rfl⟩ ⟨by decide, by decide⟩ rfl hl.1 rfl (Nat.le_of_ble_eq_true rfl) d_M_plain_505) (fun H locs I => ?_)
                                      refine lv_pop hx hb d_M_plain_508 rfl ?_
                                      cases hj258
                                      exact Khj258 _ _ _ I (lv_sub hl [] rfl)
                                    refine lv_icmp_eq (tgt := 497) hx hb d_M_plain_459 (by decide) (fun hc => ?_) (fun hc => ?_)
                                    · replace hj267 := it_u hc hj267
                                      refine lv_iconst (v := 1) hx hb d_M_plain_497 (by decide) ?_
                                      refine lv_goto (tgt := 502) hx hb d_M_plain_498 (by decide) ?_
                                      cases hj267
                                      exact Khj267 _ _ _ I (lv_sub hl [1] rfl)
                                    · replace hj267 := ie_u hc hj267
                                      refine lv_aload_n hx hb d_M_plain_462 rfl (lv_at hl 0 rfl) ?_
                                      refine lv_iload_n hx hb d_M_plain_463 rfl (lv_at hl 1 rfl) ?_
                                      refine lv_iconst (v := 1) hx hb d_M_plain_464 (by decide) ?_
                                      refine lv_iadd hx hb d_M_plain_465 ?_
                                      obtain ⟨r270, u268, h269, hj267⟩ := cI_u hj267
                                      refine go_I I (call_runV (rest := [.ref (a 0)]) C I (c_M_byteOf C.2.2.2.1 C.2.2.2.2.1 l h269 _) wd_M_byteOf (q0 := 0) (ci := 7) rfl rfl k_985 ⟨rfl, rfl⟩ ⟨by decide, by decide⟩ rfl hl.1 rfl (Nat.le_of_ble_eq_true rfl) d_M_plain_466) (fun H locs I => ?_)
                                      refine lv_iconst (v := 5) hx hb d_M_plain_469 (by decide) ?_
                                      refine lv_icmp_eq (tgt := 497) hx hb d_M_plain_470 (by decide) (fun hc => ?_) (fun hc => ?_)
                                      · replace hj267 := it_u hc hj267
                                        refine lv_iconst (v := 1) hx hb d_M_plain_497 (by decide) ?_
                                        refine lv_goto (tgt := 502) hx hb d_M_plain_498 (by decide) ?_
                                        cases hj267
                                        exact Khj267 _ _ _ I (lv_sub hl [1] rfl)
                                      · replace hj267 := ie_u hc hj267
                                        refine lv_aload_n hx hb d_M_plain_473 rfl (lv_at hl 0 rfl) ?_
                                        refine lv_iload_n hx hb d_M_plain_474 rfl (lv_at hl 1 rfl) ?_
                                        refine lv_iconst (v := 1) hx hb d_M_plain_475 (by decide) ?_
                                        refine lv_iadd hx hb d_M_plain_476 ?_
                                        obtain ⟨r273, u271, h272, hj267⟩ := cI_u hj267
                                        refine go_I I (call_runV (rest := [.ref (a 0)]) C I (c_M_byteOf C.2.2.2.1 C.2.2.2.2.1 l h272 _) wd_M_byteOf (q0 := 0) (ci := 7) rfl rfl k_985 ⟨rfl, rfl⟩ ⟨by decide, by decide⟩ rfl hl.1 rfl (Nat.le_of_ble_eq_true rfl) d_M_plain_477) (fun H locs I => ?_)
                                        refine lv_bipush (v := 8) hx hb d_M_plain_480 (by decide) ?_
                                        refine lv_icmp_lt (tgt := 501) hx hb d_M_plain_482 (by decide) (fun hc => ?_) (fun hc => ?_)
                                        · replace hj267 := it_u hc hj267
                                          refine lv_iconst (v := 0) hx hb d_M_plain_501 (by decide) ?_
                                          cases hj267
                                          exact Khj267 _ _ _ I (lv_sub hl [1] rfl)
                                        · replace hj267 := ie_u hc hj267
                                          refine lv_aload_n hx hb d_M_plain_485 rfl (lv_at hl 0 rfl) ?_
                                          refine lv_iload_n hx hb d_M_plain_486 rfl (lv_at hl 1 rfl) ?_
                                          refine lv_iconst (v := 1) hx hb d_M_plain_487 (by decide) ?_
                                          refine lv_iadd hx hb d_M_plain_488 ?_
                                          obtain ⟨r276, u274, h275, hj267⟩ := cI_u hj267
                                          refine go_I I (call_runV (rest := [.ref (a 0)]) C I (c_M_byteOf C.2.2.2.1 C.2.2.2.2.1 l h275 _) wd_M_byteOf (q0 := 0) (ci := 7) rfl rfl k_985 ⟨rfl, rfl⟩ ⟨by decide, by decide⟩ rfl hl.1 rfl (Nat.le_of_ble_eq_true rfl) d_M_plain_489) (fun H locs I => ?_)
                                          refine lv_bipush (v := 11) hx hb d_M_plain_492 (by decide) ?_
                                          refine lv_icmp_gt (tgt := 501) hx hb d_M_plain_494 (by decide) (fun hc => ?_) (fun hc => ?_)
                                          · replace hj267 := it_u hc hj267
                                            refine lv_iconst (v := 0) hx hb d_M_plain_501 (by decide) ?_
                                            cases hj267
                                            exact Khj267 _ _ _ I (lv_sub hl [1] rfl)
                                          · replace hj267 := ie_u hc hj267
                                            refine lv_iconst (v := 1) hx hb d_M_plain_497 (by decide) ?_
                                            refine lv_goto (tgt := 502) hx hb d_M_plain_498 (by decide) ?_
                                            cases hj267
                                            exact Khj267 _ _ _ I (lv_sub hl [1] rfl)
                                refine lv_icmp_ne (tgt := 443) hx hb d_M_plain_380 (by decide) (fun hc => ?_) (fun hc => ?_)
                                · replace hj278 := ie_u hc hj278
                                  cases hj278
                                  exact Khj278 _ _ _ I (lv_sub hl [0, 1, 2] rfl)
                                · replace hj278 := it_u hc hj278
                                  refine lv_aload_n hx hb d_M_plain_383 rfl (lv_at hl 0 rfl) ?_
                                  refine lv_iload_n hx hb d_M_plain_384 rfl (lv_at hl 1 rfl) ?_
                                  refine lv_iconst (v := 3) hx hb d_M_plain_385 (by decide) ?_
                                  refine lv_iadd hx hb d_M_plain_386 ?_
                                  obtain ⟨r281, u279, h280, hj278⟩ := cI_u hj278
                                  refine go_I I (call_runV (rest := []) C I (c_M_byteOf C.2.2.2.1 C.2.2.2.2.1 l h280 _) wd_M_byteOf (q0 := 0) (ci := 7) rfl rfl k_985 ⟨rfl, rfl⟩ ⟨by decide, by decide⟩ rfl hl.1 rfl (Nat.le_of_ble_eq_true rfl) d_M_plain_387) (fun H locs I => ?_)
                                  refine lv_istore (lv' := [(4, .int r281), (0, .ref (a 0)), (1, .int x1), (2, .int x2), (3, .int r248)]) hx hb d_M_plain_390 hl (by decide) rfl (fun ls hl => ?_)
                                  refine lv_iconst (v := 0) hx hb d_M_plain_392 (by decide) ?_
                                  refine lv_istore (lv' := [(5, .int 0), (4, .int r281), (0, .ref (a 0)), (1, .int x1), (2, .int x2), (3, .int r248)]) hx hb d_M_plain_393 hl (by decide) rfl (fun ls hl => ?_)
                                  obtain ⟨⟨u282, z283⟩, hj289, hj278⟩ := cT_u hj278
                                  refine w_M_plain_L395 C (fun H locs ls I hl => ?_) FU u279 0 _ _ _ hj289 I (lv_sub hl [2, 3, 4, 5, 1, 0] rfl)
                                  refine lv_aload_n hx hb d_M_plain_417 rfl (lv_at hl 0 rfl) ?_
                                  refine lv_iload hx hb d_M_plain_418 (lv_at hl 3 rfl) ?_
                                  refine lv_iconst (v := 1) hx hb d_M_plain_420 (by decide) ?_
                                  obtain ⟨z284, hj288, hj278⟩ := bnd_u hj278
                                  have Khj288 : ∀ (H : Heap) (locs : List Loc) (ls : Array Slot), Dy clA D (mW a cs) s H locs u282 → lv_has ls 6 [(0, .ref (a 0)), (1, .int x1), (2, .int x2)] → W p l e rm_M_plain s m args below meth c H locs 0 0 Q (F0 m 436 ls [.int z284, .ref (a 0)]) := by
                                    intro H locs ls I hl
                                    refine lv_bipush (v := 24) hx hb d_M_plain_436 (by decide) ?_
                                    refine lv_iload_n hx hb d_M_plain_438 rfl (lv_at hl 1 rfl) ?_
                                    obtain ⟨r287, u285, h286, hj278⟩ := cI_u hj278
                                    refine go_I I (call_runV (rest := []) C I (c_M_must C.2.2.2.1 C.2.2.2.2.1 l h286 _) wd_M_must (q0 := 0) (ci := 7) rfl rfl k_843 ⟨rfl, rfl⟩ ⟨by decide, by decide⟩ rfl hl.1 rfl (Nat.le_of_ble_eq_true rfl) d_M_plain_439) (fun H locs I => ?_)
                                    refine lv_pop hx hb d_M_plain_442 rfl ?_
                                    cases hj278
                                    exact Khj278 _ _ _ I (lv_sub hl [0, 1, 2] rfl)
                                  refine lv_icmp_lt (tgt := 435) hx hb d_M_plain_421 (by decide) (fun hc => ?_) (fun hc => ?_)
                                  · replace hj288 := it_u hc hj288
                                    refine lv_iconst (v := 0) hx hb d_M_plain_435 (by decide) ?_
                                    cases hj288
                                    exact Khj288 _ _ _ I (lv_sub hl [0, 1, 2] rfl)
                                  · replace hj288 := ie_u hc hj288
                                    refine lv_iload hx hb d_M_plain_424 (lv_at hl 3 rfl) ?_
                                    refine lv_iload hx hb d_M_plain_426 (lv_at hl 4 rfl) ?_
                                    refine lv_icmp_gt (tgt := 435) hx hb d_M_plain_428 (by decide) (fun hc => ?_) (fun hc => ?_)
                                    · replace hj288 := it_u hc hj288
                                      refine lv_iconst (v := 0) hx hb d_M_plain_435 (by decide) ?_
                                      cases hj288
                                      exact Khj288 _ _ _ I (lv_sub hl [0, 1, 2] rfl)
                                    · replace hj288 := ie_u hc hj288
                                      refine lv_iconst (v := 1) hx hb d_M_plain_431 (by decide) ?_
                                      refine lv_goto (tgt := 436) hx hb d_M_plain_432 (by decide) ?_
                                      cases hj288
                                      exact Khj288 _ _ _ I (lv_sub hl [0, 1, 2] rfl)
                              refine lv_icmp_ne (tgt := 376) hx hb d_M_plain_352 (by decide) (fun hc => ?_) (fun hc => ?_)
                              · replace hj291 := ie_u hc hj291
                                cases hj291
                                exact Khj291 _ _ _ I (lv_sub hl [1, 2, 3, 0] rfl)
                              · replace hj291 := it_u hc hj291
                                refine lv_aload_n hx hb d_M_plain_355 rfl (lv_at hl 1 rfl) ?_
                                refine lv_aload_n hx hb d_M_plain_356 rfl (lv_at hl 1 rfl) ?_
                                refine lv_iload_n hx hb d_M_plain_357 rfl (lv_at hl 0 rfl) ?_
                                obtain ⟨r294, u292, h293, hj291⟩ := cI_u hj291
                                refine go_I I (call_runV (rest := [.ref (a 0)]) C I (c_M_isArray C.2.2.2.1 C.2.2.2.2.1 l h293 _) wd_M_isArray (q0 := 0) (ci := 7) rfl rfl k_933 ⟨rfl, rfl⟩ ⟨by decide, by decide⟩ rfl hl.1 rfl (Nat.le_of_ble_eq_true rfl) d_M_plain_358) (fun H locs I => ?_)
                                obtain ⟨z295, hj299, hj291⟩ := bnd_u hj291
                                have Khj299 : ∀ (H : Heap) (locs : List Loc) (ls : Array Slot), Dy clA D (mW a cs) s H locs u292 → lv_has ls 6 [(0, .ref (a 0)), (1, .int x1), (2, .int x2), (3, .int r248)] → W p l e rm_M_plain s m args below meth c H locs 0 0 Q (F0 m 369 ls [.int z295, .ref (a 0)]) := by
                                  intro H locs ls I hl
                                  refine lv_bipush (v := 24) hx hb d_M_plain_369 (by decide) ?_
                                  refine lv_iload_n hx hb d_M_plain_371 rfl (lv_at hl 1 rfl) ?_
                                  obtain ⟨r298, u296, h297, hj291⟩ := cI_u hj291
                                  refine go_I I (call_runV (rest := []) C I (c_M_must C.2.2.2.1 C.2.2.2.2.1 l h297 _) wd_M_must (q0 := 0) (ci := 7) rfl rfl k_843 ⟨rfl, rfl⟩ ⟨by decide, by decide⟩ rfl hl.1 rfl (Nat.le_of_ble_eq_true rfl) d_M_plain_372) (fun H locs I => ?_)
                                  refine lv_pop hx hb d_M_plain_375 rfl ?_
                                  cases hj291
                                  exact Khj291 _ _ _ I (lv_sub hl [0, 1, 2, 3] rfl)
                                refine lv_if_ne (tgt := 368) hx hb d_M_plain_361 (by decide) (fun hc => ?_) (fun hc => ?_)
                                · replace hj299 := ie_u hc hj299
                                  refine lv_iconst (v := 0) hx hb d_M_plain_368 (by decide) ?_
                                  cases hj299
                                  exact Khj299 _ _ _ I (lv_sub hl [1, 2, 3, 0] rfl)
                                · replace hj299 := it_u hc hj299
                                  refine lv_iconst (v := 1) hx hb d_M_plain_364 (by decide) ?_
                                  refine lv_goto (tgt := 369) hx hb d_M_plain_365 (by decide) ?_
                                  cases hj299
                                  exact Khj299 _ _ _ I (lv_sub hl [1, 2, 3, 0] rfl)
                            · replace hk := it_u hc hk
                              exact hQ _ _ _ _ _ I hk d_M_plain_347
                refine lv_icmp_lt (tgt := 287) hx hb d_M_plain_264 (by decide) (fun hc => ?_) (fun hc => ?_)
                · replace hj300 := it_u hc hj300
                  cases hj300
                  exact Khj300 _ _ _ I (lv_sub hl [0, 1, 2] rfl)
                · replace hj300 := ie_u hc hj300
                  refine lv_iload_n hx hb d_M_plain_267 rfl (lv_at hl 2 rfl) ?_
                  refine lv_sipush (v := 185) hx hb d_M_plain_268 (by decide) ?_
                  refine lv_icmp_gt (tgt := 287) hx hb d_M_plain_271 (by decide) (fun hc => ?_) (fun hc => ?_)
                  · replace hj300 := it_u hc hj300
                    cases hj300
                    exact Khj300 _ _ _ I (lv_sub hl [0, 1, 2] rfl)
                  · replace hj300 := ie_u hc hj300
                    refine lv_aload_n hx hb d_M_plain_274 rfl (lv_at hl 0 rfl) ?_
                    refine lv_iload_n hx hb d_M_plain_275 rfl (lv_at hl 1 rfl) ?_
                    refine lv_iload_n hx hb d_M_plain_276 rfl (lv_at hl 2 rfl) ?_
                    refine lv_aload_n hx hb d_M_plain_277 rfl (lv_at hl 0 rfl) ?_
                    refine lv_iload_n hx hb d_M_plain_278 rfl (lv_at hl 1 rfl) ?_
                    refine lv_iconst (v := 1) hx hb d_M_plain_279 (by decide) ?_
                    refine lv_iadd hx hb d_M_plain_280 ?_
                    obtain ⟨r303, u301, h302, hj300⟩ := cI_u hj300
                    refine go_I I (call_runV (rest := [.int x2, .int x1, .ref (a 0)]) C I (c_M_two C.2.2.2.1 C.2.2.2.2.1 l h302 _) wd_M_two (q0 := 0) (ci := 7) rfl rfl k_859 ⟨rfl, rfl⟩ ⟨by decide, by decide⟩ rfl hl.1 rfl (Nat.le_of_ble_eq_true rfl) d_M_plain_281) (fun H locs I => ?_)
                    obtain ⟨u304, h305, hj300⟩ := cV_u hj300
                    refine go_V I (call_runV (rest := []) C I (c_M_invoke C.2.2.2.1 C.2.2.2.2.1 l h305 _) wd_M_invoke (q0 := 0) (ci := 7) rfl rfl k_1020 ⟨rfl, rfl⟩ ⟨by decide, by decide⟩ rfl hl.1 rfl (Nat.le_of_ble_eq_true rfl) d_M_plain_284) (fun H locs I => ?_)
                    cases hj300
                    exact Khj300 _ _ _ I (lv_sub hl [0, 1, 2] rfl)
              refine lv_icmp_lt (tgt := 260) hx hb d_M_plain_229 (by decide) (fun hc => ?_) (fun hc => ?_)
              · replace hj306 := it_u hc hj306
                cases hj306
                exact Khj306 _ _ _ I (lv_sub hl [0, 1, 2] rfl)
              · replace hj306 := ie_u hc hj306
                refine lv_iload_n hx hb d_M_plain_232 rfl (lv_at hl 2 rfl) ?_
                refine lv_sipush (v := 181) hx hb d_M_plain_233 (by decide) ?_
                refine lv_icmp_gt (tgt := 260) hx hb d_M_plain_236 (by decide) (fun hc => ?_) (fun hc => ?_)
                · replace hj306 := it_u hc hj306
                  cases hj306
                  exact Khj306 _ _ _ I (lv_sub hl [0, 1, 2] rfl)
                · replace hj306 := ie_u hc hj306
                  refine lv_aload_n hx hb d_M_plain_239 rfl (lv_at hl 0 rfl) ?_
                  refine lv_aload_n hx hb d_M_plain_240 rfl (lv_at hl 0 rfl) ?_
                  refine lv_aload_n hx hb d_M_plain_241 rfl (lv_at hl 0 rfl) ?_
                  refine lv_iload_n hx hb d_M_plain_242 rfl (lv_at hl 1 rfl) ?_
                  refine lv_iconst (v := 1) hx hb d_M_plain_243 (by decide) ?_
                  refine lv_iadd hx hb d_M_plain_244 ?_
                  obtain ⟨r309, u307, h308, hj306⟩ := cI_u hj306
                  refine go_I I (call_runV (rest := [.ref (a 0), .ref (a 0)]) C I (c_M_two C.2.2.2.1 C.2.2.2.2.1 l h308 _) wd_M_two (q0 := 0) (ci := 7) rfl rfl k_859 ⟨rfl, rfl⟩ ⟨by decide, by decide⟩ rfl hl.1 rfl (Nat.le_of_ble_eq_true rfl) d_M_plain_245) (fun H locs I => ?_)
                  refine lv_bipush (v := 9) hx hb d_M_plain_248 (by decide) ?_
                  obtain ⟨r312, u310, h311, hj306⟩ := cI_u hj306
                  refine go_I I (call_runV (rest := [.ref (a 0)]) C I (c_M_isKind C.2.2.2.1 C.2.2.2.2.1 l h311 _) wd_M_isKind (q0 := 0) (ci := 7) rfl rfl k_863 ⟨rfl, rfl⟩ ⟨by decide, by decide⟩ rfl hl.1 rfl (Nat.le_of_ble_eq_true rfl) d_M_plain_250) (fun H locs I => ?_)
                  refine lv_bipush (v := 8) hx hb d_M_plain_253 (by decide) ?_
                  refine lv_iload_n hx hb d_M_plain_255 rfl (lv_at hl 1 rfl) ?_
                  obtain ⟨r315, u313, h314, hj306⟩ := cI_u hj306
                  refine go_I I (call_runV (rest := []) C I (c_M_must C.2.2.2.1 C.2.2.2.2.1 l h314 _) wd_M_must (q0 := 0) (ci := 7) rfl rfl k_843 ⟨rfl, rfl⟩ ⟨by decide, by decide⟩ rfl hl.1 rfl (Nat.le_of_ble_eq_true rfl) d_M_plain_256) (fun H locs I => ?_)
                  refine lv_pop hx hb d_M_plain_259 rfl ?_
                  cases hj306
                  exact Khj306 _ _ _ I (lv_sub hl [0, 1, 2] rfl)
            refine lv_icmp_ne (tgt := 225) hx hb d_M_plain_202 (by decide) (fun hc => ?_) (fun hc => ?_)
            · replace hj316 := ie_u hc hj316
              cases hj316
              exact Khj316 _ _ _ I (lv_sub hl [0, 1, 2] rfl)
            · replace hj316 := it_u hc hj316
              refine lv_aload_n hx hb d_M_plain_205 rfl (lv_at hl 0 rfl) ?_
              refine lv_aload_n hx hb d_M_plain_206 rfl (lv_at hl 0 rfl) ?_
              refine lv_aload_n hx hb d_M_plain_207 rfl (lv_at hl 0 rfl) ?_
              refine lv_iload_n hx hb d_M_plain_208 rfl (lv_at hl 1 rfl) ?_
              refine lv_iconst (v := 1) hx hb d_M_plain_209 (by decide) ?_
              refine lv_iadd hx hb d_M_plain_210 ?_
              obtain ⟨r319, u317, h318, hj316⟩ := cI_u hj316
              refine go_I I (call_runV (rest := [.ref (a 0), .ref (a 0)]) C I (c_M_two C.2.2.2.1 C.2.2.2.2.1 l h318 _) wd_M_two (q0 := 0) (ci := 7) rfl rfl k_859 ⟨rfl, rfl⟩ ⟨by decide, by decide⟩ rfl hl.1 rfl (Nat.le_of_ble_eq_true rfl) d_M_plain_211) (fun H locs I => ?_)
              refine lv_iconst (v := 5) hx hb d_M_plain_214 (by decide) ?_
              obtain ⟨r322, u320, h321, hj316⟩ := cI_u hj316
              refine go_I I (call_runV (rest := [.ref (a 0)]) C I (c_M_isKind C.2.2.2.1 C.2.2.2.2.1 l h321 _) wd_M_isKind (q0 := 0) (ci := 7) rfl rfl k_863 ⟨rfl, rfl⟩ ⟨by decide, by decide⟩ rfl hl.1 rfl (Nat.le_of_ble_eq_true rfl) d_M_plain_215) (fun H locs I => ?_)
              refine lv_bipush (v := 8) hx hb d_M_plain_218 (by decide) ?_
              refine lv_iload_n hx hb d_M_plain_220 rfl (lv_at hl 1 rfl) ?_
              obtain ⟨r325, u323, h324, hj316⟩ := cI_u hj316
              refine go_I I (call_runV (rest := []) C I (c_M_must C.2.2.2.1 C.2.2.2.2.1 l h324 _) wd_M_must (q0 := 0) (ci := 7) rfl rfl k_843 ⟨rfl, rfl⟩ ⟨by decide, by decide⟩ rfl hl.1 rfl (Nat.le_of_ble_eq_true rfl) d_M_plain_221) (fun H locs I => ?_)
              refine lv_pop hx hb d_M_plain_224 rfl ?_
              cases hj316
              exact Khj316 _ _ _ I (lv_sub hl [0, 1, 2] rfl)
          refine lv_icmp_eq (tgt := 133) hx hb d_M_plain_124 (by decide) (fun hc => ?_) (fun hc => ?_)
          · replace hj326 := it_u hc hj326
            refine lv_iload_n hx hb d_M_plain_133 rfl (lv_at hl 2 rfl) ?_
            refine lv_bipush (v := 18) hx hb d_M_plain_134 (by decide) ?_
            obtain ⟨⟨z327, u328⟩, hj345, hj326⟩ := cT_u hj326
            have Khj345 : ∀ (H : Heap) (locs : List Loc) (ls : Array Slot), Dy clA D (mW a cs) s H locs u328 → lv_has ls 6 [(0, .ref (a 0)), (1, .int x1), (2, .int x2)] → W p l e rm_M_plain s m args below meth c H locs 0 0 Q (F0 m 156 ls [.int z327]) := by
              intro H locs ls I hl
              refine lv_istore_n (lv' := [(3, .int z327), (0, .ref (a 0)), (1, .int x1), (2, .int x2)]) hx hb d_M_plain_156 rfl hl (by decide) rfl (fun ls hl => ?_)
              refine lv_aload_n hx hb d_M_plain_157 rfl (lv_at hl 1 rfl) ?_
              refine lv_aload_n hx hb d_M_plain_158 rfl (lv_at hl 1 rfl) ?_
              refine lv_iload_n hx hb d_M_plain_159 rfl (lv_at hl 0 rfl) ?_
              refine lv_iconst (v := 3) hx hb d_M_plain_160 (by decide) ?_
              obtain ⟨r331, u329, h330, hj326⟩ := cI_u hj326
              refine go_I I (call_runV (rest := [.ref (a 0)]) C I (c_M_isKind C.2.2.2.1 C.2.2.2.2.1 l h330 _) wd_M_isKind (q0 := 0) (ci := 7) rfl rfl k_863 ⟨rfl, rfl⟩ ⟨by decide, by decide⟩ rfl hl.1 rfl (Nat.le_of_ble_eq_true rfl) d_M_plain_161) (fun H locs I => ?_)
              obtain ⟨⟨z332, u333⟩, hj337, hj326⟩ := cT_u hj326
              have Khj337 : ∀ (H : Heap) (locs : List Loc) (ls : Array Slot), Dy clA D (mW a cs) s H locs u333 → lv_has ls 6 [(0, .ref (a 0)), (1, .int x1), (2, .int x2)] → W p l e rm_M_plain s m args below meth c H locs 0 0 Q (F0 m 192 ls [.int z332, .ref (a 0)]) := by
                intro H locs ls I hl
                refine lv_bipush (v := 8) hx hb d_M_plain_192 (by decide) ?_
                refine lv_iload_n hx hb d_M_plain_194 rfl (lv_at hl 1 rfl) ?_
                obtain ⟨r336, u334, h335, hj326⟩ := cI_u hj326
                refine go_I I (call_runV (rest := []) C I (c_M_must C.2.2.2.1 C.2.2.2.2.1 l h335 _) wd_M_must (q0 := 0) (ci := 7) rfl rfl k_843 ⟨rfl, rfl⟩ ⟨by decide, by decide⟩ rfl hl.1 rfl (Nat.le_of_ble_eq_true rfl) d_M_plain_195) (fun H locs I => ?_)
                refine lv_pop hx hb d_M_plain_198 rfl ?_
                cases hj326
                exact Khj326 _ _ _ I (lv_sub hl [0, 1, 2] rfl)
              refine lv_if_ne (tgt := 187) hx hb d_M_plain_164 (by decide) (fun hc => ?_) (fun hc => ?_)
              · replace hj337 := ie_u hc hj337
                refine lv_iconst (v := 1) hx hb d_M_plain_187 (by decide) ?_
                refine lv_goto (tgt := 192) hx hb d_M_plain_188 (by decide) ?_
                cases hj337
                exact Khj337 _ _ _ I (lv_sub hl [1, 2, 3] rfl)
              · replace hj337 := it_u hc hj337
                refine lv_aload_n hx hb d_M_plain_167 rfl (lv_at hl 1 rfl) ?_
                refine lv_iload_n hx hb d_M_plain_168 rfl (lv_at hl 0 rfl) ?_
                refine lv_bipush (v := 8) hx hb d_M_plain_169 (by decide) ?_
                obtain ⟨r340, u338, h339, hj337⟩ := cI_u hj337
                refine go_I I (call_runV (rest := [.ref (a 0)]) C I (c_M_isKind C.2.2.2.1 C.2.2.2.2.1 l h339 _) wd_M_isKind (q0 := 0) (ci := 7) rfl rfl k_863 ⟨rfl, rfl⟩ ⟨by decide, by decide⟩ rfl hl.1 rfl (Nat.le_of_ble_eq_true rfl) d_M_plain_171) (fun H locs I => ?_)
                refine lv_if_ne (tgt := 187) hx hb d_M_plain_174 (by decide) (fun hc => ?_) (fun hc => ?_)
                · replace hj337 := ie_u hc hj337
                  refine lv_iconst (v := 1) hx hb d_M_plain_187 (by decide) ?_
                  refine lv_goto (tgt := 192) hx hb d_M_plain_188 (by decide) ?_
                  cases hj337
                  exact Khj337 _ _ _ I (lv_sub hl [1, 2, 3] rfl)
                · replace hj337 := it_u hc hj337
                  refine lv_aload_n hx hb d_M_plain_177 rfl (lv_at hl 1 rfl) ?_
                  refine lv_iload_n hx hb d_M_plain_178 rfl (lv_at hl 0 rfl) ?_
                  refine lv_bipush (v := 7) hx hb d_M_plain_179 (by decide) ?_
                  obtain ⟨r343, u341, h342, hj337⟩ := cI_u hj337
                  refine go_I I (call_runV (rest := [.ref (a 0)]) C I (c_M_isKind C.2.2.2.1 C.2.2.2.2.1 l h342 _) wd_M_isKind (q0 := 0) (ci := 7) rfl rfl k_863 ⟨rfl, rfl⟩ ⟨by decide, by decide⟩ rfl hl.1 rfl (Nat.le_of_ble_eq_true rfl) d_M_plain_181) (fun H locs I => ?_)
                  refine lv_if_eq (tgt := 191) hx hb d_M_plain_184 (by decide) (fun hc => ?_) (fun hc => ?_)
                  · replace hj337 := it_u hc hj337
                    refine lv_iconst (v := 0) hx hb d_M_plain_191 (by decide) ?_
                    cases hj337
                    exact Khj337 _ _ _ I (lv_sub hl [1, 2, 3] rfl)
                  · replace hj337 := ie_u hc hj337
                    refine lv_iconst (v := 1) hx hb d_M_plain_187 (by decide) ?_
                    refine lv_goto (tgt := 192) hx hb d_M_plain_188 (by decide) ?_
                    cases hj337
                    exact Khj337 _ _ _ I (lv_sub hl [1, 2, 3] rfl)
            refine lv_icmp_ne (tgt := 149) hx hb d_M_plain_136 (by decide) (fun hc => ?_) (fun hc => ?_)
            · replace hj345 := ie_u hc hj345
              refine lv_aload_n hx hb d_M_plain_149 rfl (lv_at hl 0 rfl) ?_
              refine lv_iload_n hx hb d_M_plain_150 rfl (lv_at hl 1 rfl) ?_
              refine lv_iconst (v := 1) hx hb d_M_plain_151 (by decide) ?_
              refine lv_iadd hx hb d_M_plain_152 ?_
              obtain ⟨r348, u346, h347, hj345⟩ := cI_u hj345
              refine go_I I (call_runV (rest := []) C I (c_M_two C.2.2.2.1 C.2.2.2.2.1 l h347 _) wd_M_two (q0 := 0) (ci := 7) rfl rfl k_859 ⟨rfl, rfl⟩ ⟨by decide, by decide⟩ rfl hl.1 rfl (Nat.le_of_ble_eq_true rfl) d_M_plain_153) (fun H locs I => ?_)
              cases hj345
              exact Khj345 _ _ _ I (lv_sub hl [0, 1, 2] rfl)
            · replace hj345 := it_u hc hj345
              refine lv_aload_n hx hb d_M_plain_139 rfl (lv_at hl 0 rfl) ?_
              refine lv_iload_n hx hb d_M_plain_140 rfl (lv_at hl 1 rfl) ?_
              refine lv_iconst (v := 1) hx hb d_M_plain_141 (by decide) ?_
              refine lv_iadd hx hb d_M_plain_142 ?_
              obtain ⟨r351, u349, h350, hj345⟩ := cI_u hj345
              refine go_I I (call_runV (rest := []) C I (c_M_byteOf C.2.2.2.1 C.2.2.2.2.1 l h350 _) wd_M_byteOf (q0 := 0) (ci := 7) rfl rfl k_985 ⟨rfl, rfl⟩ ⟨by decide, by decide⟩ rfl hl.1 rfl (Nat.le_of_ble_eq_true rfl) d_M_plain_143) (fun H locs I => ?_)
              refine lv_goto (tgt := 156) hx hb d_M_plain_146 (by decide) ?_
              cases hj345
              exact Khj345 _ _ _ I (lv_sub hl [0, 1, 2] rfl)
          · replace hj326 := ie_u hc hj326
            refine lv_iload_n hx hb d_M_plain_127 rfl (lv_at hl 2 rfl) ?_
            refine lv_bipush (v := 19) hx hb d_M_plain_128 (by decide) ?_
            refine lv_icmp_ne (tgt := 199) hx hb d_M_plain_130 (by decide) (fun hc => ?_) (fun hc => ?_)
            · replace hj326 := ie_u hc hj326
              cases hj326
              exact Khj326 _ _ _ I (lv_sub hl [0, 1, 2] rfl)
            · replace hj326 := it_u hc hj326
              refine lv_iload_n hx hb d_M_plain_133 rfl (lv_at hl 2 rfl) ?_
              refine lv_bipush (v := 18) hx hb d_M_plain_134 (by decide) ?_
              obtain ⟨⟨z353, u354⟩, hj371, hj326⟩ := cT_u hj326
              have Khj371 : ∀ (H : Heap) (locs : List Loc) (ls : Array Slot), Dy clA D (mW a cs) s H locs u354 → lv_has ls 6 [(0, .ref (a 0)), (1, .int x1), (2, .int x2)] → W p l e rm_M_plain s m args below meth c H locs 0 0 Q (F0 m 156 ls [.int z353]) := by
                intro H locs ls I hl
                refine lv_istore_n (lv' := [(3, .int z353), (0, .ref (a 0)), (1, .int x1), (2, .int x2)]) hx hb d_M_plain_156 rfl hl (by decide) rfl (fun ls hl => ?_)
                refine lv_aload_n hx hb d_M_plain_157 rfl (lv_at hl 1 rfl) ?_
                refine lv_aload_n hx hb d_M_plain_158 rfl (lv_at hl 1 rfl) ?_
                refine lv_iload_n hx hb d_M_plain_159 rfl (lv_at hl 0 rfl) ?_
                refine lv_iconst (v := 3) hx hb d_M_plain_160 (by decide) ?_
                obtain ⟨r357, u355, h356, hj326⟩ := cI_u hj326
                refine go_I I (call_runV (rest := [.ref (a 0)]) C I (c_M_isKind C.2.2.2.1 C.2.2.2.2.1 l h356 _) wd_M_isKind (q0 := 0) (ci := 7) rfl rfl k_863 ⟨rfl, rfl⟩ ⟨by decide, by decide⟩ rfl hl.1 rfl (Nat.le_of_ble_eq_true rfl) d_M_plain_161) (fun H locs I => ?_)
                obtain ⟨⟨z358, u359⟩, hj363, hj326⟩ := cT_u hj326
                have Khj363 : ∀ (H : Heap) (locs : List Loc) (ls : Array Slot), Dy clA D (mW a cs) s H locs u359 → lv_has ls 6 [(0, .ref (a 0)), (1, .int x1), (2, .int x2)] → W p l e rm_M_plain s m args below meth c H locs 0 0 Q (F0 m 192 ls [.int z358, .ref (a 0)]) := by
                  intro H locs ls I hl
                  refine lv_bipush (v := 8) hx hb d_M_plain_192 (by decide) ?_
                  refine lv_iload_n hx hb d_M_plain_194 rfl (lv_at hl 1 rfl) ?_
                  obtain ⟨r362, u360, h361, hj326⟩ := cI_u hj326
                  refine go_I I (call_runV (rest := []) C I (c_M_must C.2.2.2.1 C.2.2.2.2.1 l h361 _) wd_M_must (q0 := 0) (ci := 7) rfl rfl k_843 ⟨rfl, rfl⟩ ⟨by decide, by decide⟩ rfl hl.1 rfl (Nat.le_of_ble_eq_true rfl) d_M_plain_195) (fun H locs I => ?_)
                  refine lv_pop hx hb d_M_plain_198 rfl ?_
                  cases hj326
                  exact Khj326 _ _ _ I (lv_sub hl [0, 1, 2] rfl)
                refine lv_if_ne (tgt := 187) hx hb d_M_plain_164 (by decide) (fun hc => ?_) (fun hc => ?_)
                · replace hj363 := ie_u hc hj363
                  refine lv_iconst (v := 1) hx hb d_M_plain_187 (by decide) ?_
                  refine lv_goto (tgt := 192) hx hb d_M_plain_188 (by decide) ?_
                  cases hj363
                  exact Khj363 _ _ _ I (lv_sub hl [1, 2, 3] rfl)
                · replace hj363 := it_u hc hj363
                  refine lv_aload_n hx hb d_M_plain_167 rfl (lv_at hl 1 rfl) ?_
                  refine lv_iload_n hx hb d_M_plain_168 rfl (lv_at hl 0 rfl) ?_
                  refine lv_bipush (v := 8) hx hb d_M_plain_169 (by decide) ?_
                  obtain ⟨r366, u364, h365, hj363⟩ := cI_u hj363
                  refine go_I I (call_runV (rest := [.ref (a 0)]) C I (c_M_isKind C.2.2.2.1 C.2.2.2.2.1 l h365 _) wd_M_isKind (q0 := 0) (ci := 7) rfl rfl k_863 ⟨rfl, rfl⟩ ⟨by decide, by decide⟩ rfl hl.1 rfl (Nat.le_of_ble_eq_true rfl) d_M_plain_171) (fun H locs I => ?_)
                  refine lv_if_ne (tgt := 187) hx hb d_M_plain_174 (by decide) (fun hc => ?_) (fun hc => ?_)
                  · replace hj363 := ie_u hc hj363
                    refine lv_iconst (v := 1) hx hb d_M_plain_187 (by decide) ?_
                    refine lv_goto (tgt := 192) hx hb d_M_plain_188 (by decide) ?_
                    cases hj363
                    exact Khj363 _ _ _ I (lv_sub hl [1, 2, 3] rfl)
                  · replace hj363 := it_u hc hj363
                    refine lv_aload_n hx hb d_M_plain_177 rfl (lv_at hl 1 rfl) ?_
                    refine lv_iload_n hx hb d_M_plain_178 rfl (lv_at hl 0 rfl) ?_
                    refine lv_bipush (v := 7) hx hb d_M_plain_179 (by decide) ?_
                    obtain ⟨r369, u367, h368, hj363⟩ := cI_u hj363
                    refine go_I I (call_runV (rest := [.ref (a 0)]) C I (c_M_isKind C.2.2.2.1 C.2.2.2.2.1 l h368 _) wd_M_isKind (q0 := 0) (ci := 7) rfl rfl k_863 ⟨rfl, rfl⟩ ⟨by decide, by decide⟩ rfl hl.1 rfl (Nat.le_of_ble_eq_true rfl) d_M_plain_181) (fun H locs I => ?_)
                    refine lv_if_eq (tgt := 191) hx hb d_M_plain_184 (by decide) (fun hc => ?_) (fun hc => ?_)
                    · replace hj363 := it_u hc hj363
                      refine lv_iconst (v := 0) hx hb d_M_plain_191 (by decide) ?_
                      cases hj363
                      exact Khj363 _ _ _ I (lv_sub hl [1, 2, 3] rfl)
                    · replace hj363 := ie_u hc hj363
                      refine lv_iconst (v := 1) hx hb d_M_plain_187 (by decide) ?_
                      refine lv_goto (tgt := 192) hx hb d_M_plain_188 (by decide) ?_
                      cases hj363
                      exact Khj363 _ _ _ I (lv_sub hl [1, 2, 3] rfl)
              refine lv_icmp_ne (tgt := 149) hx hb d_M_plain_136 (by decide) (fun hc => ?_) (fun hc => ?_)
              · replace hj371 := ie_u hc hj371
                refine lv_aload_n hx hb d_M_plain_149 rfl (lv_at hl 0 rfl) ?_
                refine lv_iload_n hx hb d_M_plain_150 rfl (lv_at hl 1 rfl) ?_
                refine lv_iconst (v := 1) hx hb d_M_plain_151 (by decide) ?_
                refine lv_iadd hx hb d_M_plain_152 ?_
                obtain ⟨r374, u372, h373, hj371⟩ := cI_u hj371
                refine go_I I (call_runV (rest := []) C I (c_M_two C.2.2.2.1 C.2.2.2.2.1 l h373 _) wd_M_two (q0 := 0) (ci := 7) rfl rfl k_859 ⟨rfl, rfl⟩ ⟨by decide, by decide⟩ rfl hl.1 rfl (Nat.le_of_ble_eq_true rfl) d_M_plain_153) (fun H locs I => ?_)
                cases hj371
                exact Khj371 _ _ _ I (lv_sub hl [0, 1, 2] rfl)
              · replace hj371 := it_u hc hj371
                refine lv_aload_n hx hb d_M_plain_139 rfl (lv_at hl 0 rfl) ?_
                refine lv_iload_n hx hb d_M_plain_140 rfl (lv_at hl 1 rfl) ?_
                refine lv_iconst (v := 1) hx hb d_M_plain_141 (by decide) ?_
                refine lv_iadd hx hb d_M_plain_142 ?_
                obtain ⟨r377, u375, h376, hj371⟩ := cI_u hj371
                refine go_I I (call_runV (rest := []) C I (c_M_byteOf C.2.2.2.1 C.2.2.2.2.1 l h376 _) wd_M_byteOf (q0 := 0) (ci := 7) rfl rfl k_985 ⟨rfl, rfl⟩ ⟨by decide, by decide⟩ rfl hl.1 rfl (Nat.le_of_ble_eq_true rfl) d_M_plain_143) (fun H locs I => ?_)
                refine lv_goto (tgt := 156) hx hb d_M_plain_146 (by decide) ?_
                cases hj371
                exact Khj371 _ _ _ I (lv_sub hl [0, 1, 2] rfl)
        refine lv_icmp_ne (tgt := 121) hx hb d_M_plain_105 (by decide) (fun hc => ?_) (fun hc => ?_)
        · replace hj379 := ie_u hc hj379
          cases hj379
          exact Khj379 _ _ _ I (lv_sub hl [0, 1, 2] rfl)
        · replace hj379 := it_u hc hj379
          refine lv_aload_n hx hb d_M_plain_108 rfl (lv_at hl 0 rfl) ?_
          refine lv_iload_n hx hb d_M_plain_109 rfl (lv_at hl 1 rfl) ?_
          refine lv_iload_n hx hb d_M_plain_110 rfl (lv_at hl 2 rfl) ?_
          refine lv_aload_n hx hb d_M_plain_111 rfl (lv_at hl 0 rfl) ?_
          refine lv_iload_n hx hb d_M_plain_112 rfl (lv_at hl 1 rfl) ?_
          refine lv_iconst (v := 1) hx hb d_M_plain_113 (by decide) ?_
          refine lv_iadd hx hb d_M_plain_114 ?_
          obtain ⟨r382, u380, h381, hj379⟩ := cI_u hj379
          refine go_I I (call_runV (rest := [.int x2, .int x1, .ref (a 0)]) C I (c_M_byteOf C.2.2.2.1 C.2.2.2.2.1 l h381 _) wd_M_byteOf (q0 := 0) (ci := 7) rfl rfl k_985 ⟨rfl, rfl⟩ ⟨by decide, by decide⟩ rfl hl.1 rfl (Nat.le_of_ble_eq_true rfl) d_M_plain_115) (fun H locs I => ?_)
          obtain ⟨u383, h384, hj379⟩ := cV_u hj379
          refine go_V I (call_runV (rest := []) C I (c_M_local C.2.2.2.1 C.2.2.2.2.1 l h384 _) wd_M_local (q0 := 0) (ci := 7) rfl rfl k_1009 ⟨rfl, rfl⟩ ⟨by decide, by decide⟩ rfl hl.1 rfl (Nat.le_of_ble_eq_true rfl) d_M_plain_118) (fun H locs I => ?_)
          cases hj379
          exact Khj379 _ _ _ I (lv_sub hl [0, 1, 2] rfl)
      refine lv_icmp_lt (tgt := 101) hx hb d_M_plain_72 (by decide) (fun hc => ?_) (fun hc => ?_)
      · replace hj385 := it_u hc hj385
        cases hj385
        exact Khj385 _ _ _ I (lv_sub hl [0, 1, 2] rfl)
      · replace hj385 := ie_u hc hj385
        refine lv_iload_n hx hb d_M_plain_75 rfl (lv_at hl 2 rfl) ?_
        refine lv_bipush (v := 78) hx hb d_M_plain_76 (by decide) ?_
        refine lv_icmp_gt (tgt := 101) hx hb d_M_plain_78 (by decide) (fun hc => ?_) (fun hc => ?_)
        · replace hj385 := it_u hc hj385
          cases hj385
          exact Khj385 _ _ _ I (lv_sub hl [0, 1, 2] rfl)
        · replace hj385 := ie_u hc hj385
          refine lv_aload_n hx hb d_M_plain_81 rfl (lv_at hl 0 rfl) ?_
          refine lv_iload_n hx hb d_M_plain_82 rfl (lv_at hl 1 rfl) ?_
          refine lv_bipush (v := 54) hx hb d_M_plain_83 (by decide) ?_
          refine lv_iload_n hx hb d_M_plain_85 rfl (lv_at hl 2 rfl) ?_
          refine lv_bipush (v := 59) hx hb d_M_plain_86 (by decide) ?_
          refine lv_isub hx hb d_M_plain_88 ?_
          refine lv_iconst (v := 4) hx hb d_M_plain_89 (by decide) ?_
          refine lv_idiv hx hb d_M_plain_90 (by decide) ?_
          refine lv_iadd hx hb d_M_plain_91 ?_
          refine lv_iload_n hx hb d_M_plain_92 rfl (lv_at hl 2 rfl) ?_
          refine lv_bipush (v := 59) hx hb d_M_plain_93 (by decide) ?_
          refine lv_isub hx hb d_M_plain_95 ?_
          refine lv_iconst (v := 4) hx hb d_M_plain_96 (by decide) ?_
          refine lv_irem hx hb d_M_plain_97 (by decide) ?_
          obtain ⟨u386, h387, hj385⟩ := cV_u hj385
          refine go_V I (call_runV (rest := []) C I (c_M_local C.2.2.2.1 C.2.2.2.2.1 l h387 _) wd_M_local (q0 := 0) (ci := 7) rfl rfl k_1009 ⟨rfl, rfl⟩ ⟨by decide, by decide⟩ rfl hl.1 rfl (Nat.le_of_ble_eq_true rfl) d_M_plain_98) (fun H locs I => ?_)
          cases hj385
          exact Khj385 _ _ _ I (lv_sub hl [0, 1, 2] rfl)
    refine lv_icmp_lt (tgt := 69) hx hb d_M_plain_40 (by decide) (fun hc => ?_) (fun hc => ?_)
    · replace hj388 := it_u hc hj388
      cases hj388
      exact Khj388 _ _ _ I (lv_sub hl [0, 1, 2] rfl)
    · replace hj388 := ie_u hc hj388
      refine lv_iload_n hx hb d_M_plain_43 rfl (lv_at hl 2 rfl) ?_
      refine lv_bipush (v := 45) hx hb d_M_plain_44 (by decide) ?_
      refine lv_icmp_gt (tgt := 69) hx hb d_M_plain_46 (by decide) (fun hc => ?_) (fun hc => ?_)
      · replace hj388 := it_u hc hj388
        cases hj388
        exact Khj388 _ _ _ I (lv_sub hl [0, 1, 2] rfl)
      · replace hj388 := ie_u hc hj388
        refine lv_aload_n hx hb d_M_plain_49 rfl (lv_at hl 0 rfl) ?_
        refine lv_iload_n hx hb d_M_plain_50 rfl (lv_at hl 1 rfl) ?_
        refine lv_bipush (v := 21) hx hb d_M_plain_51 (by decide) ?_
        refine lv_iload_n hx hb d_M_plain_53 rfl (lv_at hl 2 rfl) ?_
        refine lv_bipush (v := 26) hx hb d_M_plain_54 (by decide) ?_
        refine lv_isub hx hb d_M_plain_56 ?_
        refine lv_iconst (v := 4) hx hb d_M_plain_57 (by decide) ?_
        refine lv_idiv hx hb d_M_plain_58 (by decide) ?_
        refine lv_iadd hx hb d_M_plain_59 ?_
        refine lv_iload_n hx hb d_M_plain_60 rfl (lv_at hl 2 rfl) ?_
        refine lv_bipush (v := 26) hx hb d_M_plain_61 (by decide) ?_
        refine lv_isub hx hb d_M_plain_63 ?_
        refine lv_iconst (v := 4) hx hb d_M_plain_64 (by decide) ?_
        refine lv_irem hx hb d_M_plain_65 (by decide) ?_
        obtain ⟨u389, h390, hj388⟩ := cV_u hj388
        refine go_V I (call_runV (rest := []) C I (c_M_local C.2.2.2.1 C.2.2.2.2.1 l h390 _) wd_M_local (q0 := 0) (ci := 7) rfl rfl k_1009 ⟨rfl, rfl⟩ ⟨by decide, by decide⟩ rfl hl.1 rfl (Nat.le_of_ble_eq_true rfl) d_M_plain_66) (fun H locs I => ?_)
        cases hj388
        exact Khj388 _ _ _ I (lv_sub hl [0, 1, 2] rfl)
  refine lv_icmp_lt (tgt := 12) hx hb d_M_plain_3 (by decide) (fun hc => ?_) (fun hc => ?_)
  · replace hj391 := it_u hc hj391
    refine lv_iload_n hx hb d_M_plain_12 rfl (lv_at hl 2 rfl) ?_
    refine lv_bipush (v := 54) hx hb d_M_plain_13 (by decide) ?_
    refine lv_icmp_lt (tgt := 37) hx hb d_M_plain_15 (by decide) (fun hc => ?_) (fun hc => ?_)
    · replace hj391 := it_u hc hj391
      cases hj391
      exact Khj391 _ _ _ I (lv_sub hl [0, 1, 2] rfl)
    · replace hj391 := ie_u hc hj391
      refine lv_iload_n hx hb d_M_plain_18 rfl (lv_at hl 2 rfl) ?_
      refine lv_bipush (v := 58) hx hb d_M_plain_19 (by decide) ?_
      refine lv_icmp_gt (tgt := 37) hx hb d_M_plain_21 (by decide) (fun hc => ?_) (fun hc => ?_)
      · replace hj391 := it_u hc hj391
        cases hj391
        exact Khj391 _ _ _ I (lv_sub hl [0, 1, 2] rfl)
      · replace hj391 := ie_u hc hj391
        refine lv_aload_n hx hb d_M_plain_24 rfl (lv_at hl 0 rfl) ?_
        refine lv_iload_n hx hb d_M_plain_25 rfl (lv_at hl 1 rfl) ?_
        refine lv_iload_n hx hb d_M_plain_26 rfl (lv_at hl 2 rfl) ?_
        refine lv_aload_n hx hb d_M_plain_27 rfl (lv_at hl 0 rfl) ?_
        refine lv_iload_n hx hb d_M_plain_28 rfl (lv_at hl 1 rfl) ?_
        refine lv_iconst (v := 1) hx hb d_M_plain_29 (by decide) ?_
        refine lv_iadd hx hb d_M_plain_30 ?_
        obtain ⟨r394, u392, h393, hj391⟩ := cI_u hj391
        refine go_I I (call_runV (rest := [.int x2, .int x1, .ref (a 0)]) C I (c_M_byteOf C.2.2.2.1 C.2.2.2.2.1 l h393 _) wd_M_byteOf (q0 := 0) (ci := 7) rfl rfl k_985 ⟨rfl, rfl⟩ ⟨by decide, by decide⟩ rfl hl.1 rfl (Nat.le_of_ble_eq_true rfl) d_M_plain_31) (fun H locs I => ?_)
        obtain ⟨u395, h396, hj391⟩ := cV_u hj391
        refine go_V I (call_runV (rest := []) C I (c_M_local C.2.2.2.1 C.2.2.2.2.1 l h396 _) wd_M_local (q0 := 0) (ci := 7) rfl rfl k_1009 ⟨rfl, rfl⟩ ⟨by decide, by decide⟩ rfl hl.1 rfl (Nat.le_of_ble_eq_true rfl) d_M_plain_34) (fun H locs I => ?_)
        cases hj391
        exact Khj391 _ _ _ I (lv_sub hl [0, 1, 2] rfl)
  · replace hj391 := ie_u hc hj391
    refine lv_iload_n hx hb d_M_plain_6 rfl (lv_at hl 2 rfl) ?_
    refine lv_bipush (v := 25) hx hb d_M_plain_7 (by decide) ?_
    refine lv_icmp_le (tgt := 24) hx hb d_M_plain_9 (by decide) (fun hc => ?_) (fun hc => ?_)
    · replace hj391 := it_u hc hj391
      refine lv_aload_n hx hb d_M_plain_24 rfl (lv_at hl 0 rfl) ?_
      refine lv_iload_n hx hb d_M_plain_25 rfl (lv_at hl 1 rfl) ?_
      refine lv_iload_n hx hb d_M_plain_26 rfl (lv_at hl 2 rfl) ?_
      refine lv_aload_n hx hb d_M_plain_27 rfl (lv_at hl 0 rfl) ?_
      refine lv_iload_n hx hb d_M_plain_28 rfl (lv_at hl 1 rfl) ?_
      refine lv_iconst (v := 1) hx hb d_M_plain_29 (by decide) ?_
      refine lv_iadd hx hb d_M_plain_30 ?_
      obtain ⟨r399, u397, h398, hj391⟩ := cI_u hj391
      refine go_I I (call_runV (rest := [.int x2, .int x1, .ref (a 0)]) C I (c_M_byteOf C.2.2.2.1 C.2.2.2.2.1 l h398 _) wd_M_byteOf (q0 := 0) (ci := 7) rfl rfl k_985 ⟨rfl, rfl⟩ ⟨by decide, by decide⟩ rfl hl.1 rfl (Nat.le_of_ble_eq_true rfl) d_M_plain_31) (fun H locs I => ?_)
      obtain ⟨u400, h401, hj391⟩ := cV_u hj391
      refine go_V I (call_runV (rest := []) C I (c_M_local C.2.2.2.1 C.2.2.2.2.1 l h401 _) wd_M_local (q0 := 0) (ci := 7) rfl rfl k_1009 ⟨rfl, rfl⟩ ⟨by decide, by decide⟩ rfl hl.1 rfl (Nat.le_of_ble_eq_true rfl) d_M_plain_34) (fun H locs I => ?_)
      cases hj391
      exact Khj391 _ _ _ I (lv_sub hl [0, 1, 2] rfl)
    · replace hj391 := ie_u hc hj391
      refine lv_iload_n hx hb d_M_plain_12 rfl (lv_at hl 2 rfl) ?_
      refine lv_bipush (v := 54) hx hb d_M_plain_13 (by decide) ?_
      refine lv_icmp_lt (tgt := 37) hx hb d_M_plain_15 (by decide) (fun hc => ?_) (fun hc => ?_)
      · replace hj391 := it_u hc hj391
        cases hj391
        exact Khj391 _ _ _ I (lv_sub hl [0, 1, 2] rfl)
      · replace hj391 := ie_u hc hj391
        refine lv_iload_n hx hb d_M_plain_18 rfl (lv_at hl 2 rfl) ?_
        refine lv_bipush (v := 58) hx hb d_M_plain_19 (by decide) ?_
        refine lv_icmp_gt (tgt := 37) hx hb d_M_plain_21 (by decide) (fun hc => ?_) (fun hc => ?_)
        · replace hj391 := it_u hc hj391
          cases hj391
          exact Khj391 _ _ _ I (lv_sub hl [0, 1, 2] rfl)
        · replace hj391 := ie_u hc hj391
          refine lv_aload_n hx hb d_M_plain_24 rfl (lv_at hl 0 rfl) ?_
          refine lv_iload_n hx hb d_M_plain_25 rfl (lv_at hl 1 rfl) ?_
          refine lv_iload_n hx hb d_M_plain_26 rfl (lv_at hl 2 rfl) ?_
          refine lv_aload_n hx hb d_M_plain_27 rfl (lv_at hl 0 rfl) ?_
          refine lv_iload_n hx hb d_M_plain_28 rfl (lv_at hl 1 rfl) ?_
          refine lv_iconst (v := 1) hx hb d_M_plain_29 (by decide) ?_
          refine lv_iadd hx hb d_M_plain_30 ?_
          obtain ⟨r404, u402, h403, hj391⟩ := cI_u hj391
          refine go_I I (call_runV (rest := [.int x2, .int x1, .ref (a 0)]) C I (c_M_byteOf C.2.2.2.1 C.2.2.2.2.1 l h403 _) wd_M_byteOf (q0 := 0) (ci := 7) rfl rfl k_985 ⟨rfl, rfl⟩ ⟨by decide, by decide⟩ rfl hl.1 rfl (Nat.le_of_ble_eq_true rfl) d_M_plain_31) (fun H locs I => ?_)
          obtain ⟨u405, h406, hj391⟩ := cV_u hj391
          refine go_V I (call_runV (rest := []) C I (c_M_local C.2.2.2.1 C.2.2.2.2.1 l h406 _) wd_M_local (q0 := 0) (ci := 7) rfl rfl k_1009 ⟨rfl, rfl⟩ ⟨by decide, by decide⟩ rfl hl.1 rfl (Nat.le_of_ble_eq_true rfl) d_M_plain_34) (fun H locs I => ?_)
          cases hj391
          exact Khj391 _ _ _ I (lv_sub hl [0, 1, 2] rfl)
def rm_M_instruction : Room := { frames := 8, cells := 0, slots := 0, locals := 187 }
noncomputable def f_M_instruction (u : St) : Option (St) := cI (f_M_byteOf u (u.1 2)) fun r3 u1 => cI (f_M_isBarred u1 r3) fun r6 u4 => bnd (if r6 = 0 then (1) else (0)) fun (z7 : Int32) => cI (f_M_must u4 z7 22 (u.1 2)) fun r10 u8 => if r10 = 0 then (some u8) else (if r3 = 170 then (bnd (if r3 = 170 then (1) else (0)) fun (z11 : Int32) => cV (f_M_branches u8 (u.1 2) z11) fun u12 => cI (f_M_ok u12) fun r16 u14 => cT (if r16 = 0 then (some (u14)) else (cI (f_M_after u14 (u.1 2)) fun r21 u19 => bnd (sv u19 2 r21) fun u22 => some (u22))) fun (u17 : St) => some u17) else (if r3 = 171 then (bnd (if r3 = 170 then (1) else (0)) fun (z73 : Int32) => cV (f_M_branches u8 (u.1 2) z73) fun u74 => cI (f_M_ok u74) fun r78 u76 => cT (if r78 = 0 then (some (u76)) else (cI (f_M_after u76 (u.1 2)) fun r83 u81 => bnd (sv u81 2 r83) fun u84 => some (u84))) fun (u79 : St) => some u79) else (if r3 = 196 then (cI (f_M_isThere u8 (u.1 2) ((u.1 2) + 2)) fun r45 u43 => if r45 = 0 then (some u43) else (cI (f_M_byteOf u43 ((u.1 2) + 1)) fun r48 u46 => bnd (if r48 = 21 then (1) else (if r48 = 22 then (1) else (if r48 = 25 then (1) else (if r48 = 54 then (1) else (if r48 = 55 then (1) else (if r48 = 58 then (1) else (if r48 = 132 then (1) else (0)))))))) fun (z49 : Int32) => cI (f_M_must u46 z49 22 (u.1 2)) fun r52 u50 => if r52 = 0 then (some u50) else (bnd (if r48 = 132 then (6) else (4)) fun (z53 : Int32) => cI (f_M_isThere u50 (u.1 2) ((u.1 2) + z53)) fun r56 u54 => if r56 = 0 then (some u54) else (cI (f_M_two u54 ((u.1 2) + 2)) fun r59 u57 => cV (f_M_local u57 (u.1 2) r48 r59) fun u60 => cI (f_M_ok u60) fun r64 u62 => cT (if r64 = 0 then (some (u62)) else (cI (f_M_after u62 (u.1 2)) fun r69 u67 => bnd (sv u67 2 r69) fun u70 => some (u70))) fun (u65 : St) => some u65)))) else (cI (f_M_lengthOf u8 r3) fun r26 u24 => cI (f_M_isThere u24 (u.1 2) ((u.1 2) + r26)) fun r29 u27 => cT (if r29 = 0 then (some (u27)) else (cV (f_M_plain u27 (u.1 2) r3) fun u41 => some (u41))) fun (u30 : St) => cI (f_M_ok u30) fun r33 u31 => cT (if r33 = 0 then (some (u31)) else (cI (f_M_after u31 (u.1 2)) fun r38 u36 => bnd (sv u36 2 r38) fun u39 => some (u39))) fun (u34 : St) => some u34))))
set_option maxHeartbeats 4000000 in
set_option maxRecDepth 100000 in
theorem c_M_instruction {Z : zT} {D : va_G} {cs : Nat → ClassId} {a : Nat → Nat} (hw : wD (mW a cs)) (hz : zOK Z) (l : Launch) {u : St} {u' : St} (hk : f_M_instruction u = some u') : KV clA D cs (mW a cs) Z l y_M_instruction (.code y_M_instruction prog_9_method_53_code 5 (Option.none : Option Jvm.ClassFile.FieldType)) rm_M_instruction [.ref (a 0)] u u' := by
  unfold f_M_instruction at hk
  refine KV.of (by decide) (Nat.le_of_ble_eq_true rfl) hw hz ?_
  intro p e s m args below meth c Q C I hQ ls hl
  have hl : lv_has ls 5 [(0, .ref (a 0))] := hl
  have hx := C.1.1
  have hb := C.1.2.1
  refine lv_aload_n hx hb d_M_instruction_0 rfl (lv_at hl 0 rfl) ?_
  refine g_M_at C I k_697 d_M_instruction_1 ?_
  refine lv_istore_n (lv' := [(1, .int (u.1 2)), (0, .ref (a 0))]) hx hb d_M_instruction_4 rfl hl (by decide) rfl (fun ls hl => ?_)
  refine lv_aload_n hx hb d_M_instruction_5 rfl (lv_at hl 1 rfl) ?_
  refine lv_iload_n hx hb d_M_instruction_6 rfl (lv_at hl 0 rfl) ?_
  obtain ⟨r3, u1, h2, hk⟩ := cI_u hk
  refine go_I I (call_runV (rest := []) C I (c_M_byteOf C.2.2.2.1 C.2.2.2.2.1 l h2 _) wd_M_byteOf (q0 := 0) (ci := 7) rfl rfl k_985 ⟨rfl, rfl⟩ ⟨by decide, by decide⟩ rfl hl.1 rfl (Nat.le_of_ble_eq_true rfl) d_M_instruction_7) (fun H locs I => ?_)
  refine lv_istore_n (lv' := [(2, .int r3), (1, .int (u.1 2)), (0, .ref (a 0))]) hx hb d_M_instruction_10 rfl hl (by decide) rfl (fun ls hl => ?_)
  refine lv_aload_n hx hb d_M_instruction_11 rfl (lv_at hl 2 rfl) ?_
  refine lv_iload_n hx hb d_M_instruction_12 rfl (lv_at hl 0 rfl) ?_
  obtain ⟨r6, u4, h5, hk⟩ := cI_u hk
  refine go_I I (call_runS (rest := [.ref (a 0)]) C I (c_M_isBarred C.2.2.2.1 C.2.2.2.2.1 l h5 _) wd_M_isBarred k_989 ⟨rfl, rfl⟩ ⟨by decide, by decide⟩ rfl hl.1 rfl (Nat.le_of_ble_eq_true rfl) d_M_instruction_13) (fun H locs I => ?_)
  obtain ⟨z7, hj86, hk⟩ := bnd_u hk
  have Khj86 : ∀ (H : Heap) (locs : List Loc) (ls : Array Slot), Dy clA D (mW a cs) s H locs u4 → lv_has ls 5 [(0, .ref (a 0)), (1, .int (u.1 2)), (2, .int r3)] → W p l e rm_M_instruction s m args below meth c H locs 0 0 Q (F0 m 24 ls [.int z7, .ref (a 0)]) := by
    intro H locs ls I hl
    refine lv_bipush (v := 22) hx hb d_M_instruction_24 (by decide) ?_
    refine lv_iload_n hx hb d_M_instruction_26 rfl (lv_at hl 1 rfl) ?_
    obtain ⟨r10, u8, h9, hk⟩ := cI_u hk
    refine go_I I (call_runV (rest := []) C I (c_M_must C.2.2.2.1 C.2.2.2.2.1 l h9 _) wd_M_must (q0 := 0) (ci := 7) rfl rfl k_843 ⟨rfl, rfl⟩ ⟨by decide, by decide⟩ rfl hl.1 rfl (Nat.le_of_ble_eq_true rfl) d_M_instruction_27) (fun H locs I => ?_)
    refine lv_if_ne (tgt := 34) hx hb d_M_instruction_30 (by decide) (fun hc => ?_) (fun hc => ?_)
    · replace hk := ie_u hc hk
      refine lv_iload_n hx hb d_M_instruction_34 rfl (lv_at hl 2 rfl) ?_
      refine lv_sipush (v := 170) hx hb d_M_instruction_35 (by decide) ?_
      refine lv_icmp_eq (tgt := 48) hx hb d_M_instruction_38 (by decide) (fun hc => ?_) (fun hc => ?_)
      · replace hk := it_u hc hk
        refine lv_aload_n hx hb d_M_instruction_48 rfl (lv_at hl 0 rfl) ?_
        refine lv_iload_n hx hb d_M_instruction_49 rfl (lv_at hl 1 rfl) ?_
        refine lv_iload_n hx hb d_M_instruction_50 rfl (lv_at hl 2 rfl) ?_
        refine lv_sipush (v := 170) hx hb d_M_instruction_51 (by decide) ?_
        obtain ⟨z11, hj23, hk⟩ := bnd_u hk
        have Khj23 : ∀ (H : Heap) (locs : List Loc) (ls : Array Slot), Dy clA D (mW a cs) s H locs u8 → lv_has ls 5 [(0, .ref (a 0)), (1, .int (u.1 2))] → W p l e rm_M_instruction s m args below meth c H locs 0 0 Q (F0 m 62 ls [.int z11, .int (u.1 2), .ref (a 0)]) := by
          intro H locs ls I hl
          obtain ⟨u12, h13, hk⟩ := cV_u hk
          refine go_V I (call_runV (rest := []) C I (c_M_branches C.2.2.2.1 C.2.2.2.2.1 l h13 _) wd_M_branches (q0 := 0) (ci := 7) rfl rfl k_992 ⟨rfl, rfl⟩ ⟨by decide, by decide⟩ rfl hl.1 rfl (Nat.le_of_ble_eq_true rfl) d_M_instruction_62) (fun H locs I => ?_)
          refine lv_goto (tgt := 217) hx hb d_M_instruction_65 (by decide) ?_
          refine lv_aload_n hx hb d_M_instruction_217 rfl (lv_at hl 0 rfl) ?_
          obtain ⟨r16, u14, h15, hk⟩ := cI_u hk
          refine go_I I (call_runV (rest := []) C I (c_M_ok C.2.2.2.1 C.2.2.2.2.1 l h15 _) wd_M_ok (q0 := 0) (ci := 7) rfl rfl k_834 ⟨rfl, rfl⟩ ⟨by decide, by decide⟩ rfl hl.1 rfl (Nat.le_of_ble_eq_true rfl) d_M_instruction_218) (fun H locs I => ?_)
          obtain ⟨u17, hj18, hk⟩ := cT_u hk
          have Khj18 : ∀ (H : Heap) (locs : List Loc) (ls : Array Slot), Dy clA D (mW a cs) s H locs u17 → lv_has ls 5 [] → W p l e rm_M_instruction s m args below meth c H locs 0 0 Q (F0 m 233 ls []) := by
            intro H locs ls I hl
            exact hQ _ _ _ _ _ I hk d_M_instruction_233
          refine lv_if_eq (tgt := 233) hx hb d_M_instruction_221 (by decide) (fun hc => ?_) (fun hc => ?_)
          · replace hj18 := it_u hc hj18
            cases hj18
            exact Khj18 _ _ _ I (lv_sub hl [] rfl)
          · replace hj18 := ie_u hc hj18
            refine lv_aload_n hx hb d_M_instruction_224 rfl (lv_at hl 0 rfl) ?_
            refine lv_aload_n hx hb d_M_instruction_225 rfl (lv_at hl 0 rfl) ?_
            refine lv_iload_n hx hb d_M_instruction_226 rfl (lv_at hl 1 rfl) ?_
            obtain ⟨r21, u19, h20, hj18⟩ := cI_u hj18
            refine go_I I (call_runV (rest := [.ref (a 0)]) C I (c_M_after C.2.2.2.1 C.2.2.2.2.1 l h20 _) wd_M_after (q0 := 0) (ci := 7) rfl rfl k_1024 ⟨rfl, rfl⟩ ⟨by decide, by decide⟩ rfl hl.1 rfl (Nat.le_of_ble_eq_true rfl) d_M_instruction_227) (fun H locs I => ?_)
            refine p_M_at C I k_697 d_M_instruction_230 (fun H locs I => ?_)
            obtain ⟨u22, hu, hj18⟩ := bnd_u hj18
            rw [hu] at I
            clear hu
            cases hj18
            exact Khj18 _ _ _ I (lv_sub hl [] rfl)
        refine lv_icmp_ne (tgt := 61) hx hb d_M_instruction_54 (by decide) (fun hc => ?_) (fun hc => ?_)
        · replace hj23 := ie_u hc hj23
          refine lv_iconst (v := 0) hx hb d_M_instruction_61 (by decide) ?_
          cases hj23
          exact Khj23 _ _ _ I (lv_sub hl [0, 1] rfl)
        · replace hj23 := it_u hc hj23
          refine lv_iconst (v := 1) hx hb d_M_instruction_57 (by decide) ?_
          refine lv_goto (tgt := 62) hx hb d_M_instruction_58 (by decide) ?_
          cases hj23
          exact Khj23 _ _ _ I (lv_sub hl [0, 1] rfl)
      · replace hk := ie_u hc hk
        refine lv_iload_n hx hb d_M_instruction_41 rfl (lv_at hl 2 rfl) ?_
        refine lv_sipush (v := 171) hx hb d_M_instruction_42 (by decide) ?_
        refine lv_icmp_ne (tgt := 68) hx hb d_M_instruction_45 (by decide) (fun hc => ?_) (fun hc => ?_)
        · replace hk := ie_u hc hk
          refine lv_iload_n hx hb d_M_instruction_68 rfl (lv_at hl 2 rfl) ?_
          refine lv_sipush (v := 196) hx hb d_M_instruction_69 (by decide) ?_
          refine lv_icmp_ne (tgt := 197) hx hb d_M_instruction_72 (by decide) (fun hc => ?_) (fun hc => ?_)
          · replace hk := ie_u hc hk
            refine lv_aload_n hx hb d_M_instruction_197 rfl (lv_at hl 0 rfl) ?_
            refine lv_iload_n hx hb d_M_instruction_198 rfl (lv_at hl 1 rfl) ?_
            refine lv_iload_n hx hb d_M_instruction_199 rfl (lv_at hl 1 rfl) ?_
            refine lv_iload_n hx hb d_M_instruction_200 rfl (lv_at hl 2 rfl) ?_
            obtain ⟨r26, u24, h25, hk⟩ := cI_u hk
            refine go_I I (call_runS (rest := [.int (u.1 2), .int (u.1 2), .ref (a 0)]) C I (c_M_lengthOf C.2.2.2.1 C.2.2.2.2.1 l h25 _) wd_M_lengthOf k_1013 ⟨rfl, rfl⟩ ⟨by decide, by decide⟩ rfl hl.1 rfl (Nat.le_of_ble_eq_true rfl) d_M_instruction_201) (fun H locs I => ?_)
            refine lv_iadd hx hb d_M_instruction_204 ?_
            obtain ⟨r29, u27, h28, hk⟩ := cI_u hk
            refine go_I I (call_runV (rest := []) C I (c_M_isThere C.2.2.2.1 C.2.2.2.2.1 l h28 _) wd_M_isThere (q0 := 0) (ci := 7) rfl rfl k_1000 ⟨rfl, rfl⟩ ⟨by decide, by decide⟩ rfl hl.1 rfl (Nat.le_of_ble_eq_true rfl) d_M_instruction_205) (fun H locs I => ?_)
            obtain ⟨u30, hj40, hk⟩ := cT_u hk
            have Khj40 : ∀ (H : Heap) (locs : List Loc) (ls : Array Slot), Dy clA D (mW a cs) s H locs u30 → lv_has ls 5 [(0, .ref (a 0)), (1, .int (u.1 2))] → W p l e rm_M_instruction s m args below meth c H locs 0 0 Q (F0 m 217 ls []) := by
              intro H locs ls I hl
              refine lv_aload_n hx hb d_M_instruction_217 rfl (lv_at hl 0 rfl) ?_
              obtain ⟨r33, u31, h32, hk⟩ := cI_u hk
              refine go_I I (call_runV (rest := []) C I (c_M_ok C.2.2.2.1 C.2.2.2.2.1 l h32 _) wd_M_ok (q0 := 0) (ci := 7) rfl rfl k_834 ⟨rfl, rfl⟩ ⟨by decide, by decide⟩ rfl hl.1 rfl (Nat.le_of_ble_eq_true rfl) d_M_instruction_218) (fun H locs I => ?_)
              obtain ⟨u34, hj35, hk⟩ := cT_u hk
              have Khj35 : ∀ (H : Heap) (locs : List Loc) (ls : Array Slot), Dy clA D (mW a cs) s H locs u34 → lv_has ls 5 [] → W p l e rm_M_instruction s m args below meth c H locs 0 0 Q (F0 m 233 ls []) := by
                intro H locs ls I hl
                exact hQ _ _ _ _ _ I hk d_M_instruction_233
              refine lv_if_eq (tgt := 233) hx hb d_M_instruction_221 (by decide) (fun hc => ?_) (fun hc => ?_)
              · replace hj35 := it_u hc hj35
                cases hj35
                exact Khj35 _ _ _ I (lv_sub hl [] rfl)
              · replace hj35 := ie_u hc hj35
                refine lv_aload_n hx hb d_M_instruction_224 rfl (lv_at hl 0 rfl) ?_
                refine lv_aload_n hx hb d_M_instruction_225 rfl (lv_at hl 0 rfl) ?_
                refine lv_iload_n hx hb d_M_instruction_226 rfl (lv_at hl 1 rfl) ?_
                obtain ⟨r38, u36, h37, hj35⟩ := cI_u hj35
                refine go_I I (call_runV (rest := [.ref (a 0)]) C I (c_M_after C.2.2.2.1 C.2.2.2.2.1 l h37 _) wd_M_after (q0 := 0) (ci := 7) rfl rfl k_1024 ⟨rfl, rfl⟩ ⟨by decide, by decide⟩ rfl hl.1 rfl (Nat.le_of_ble_eq_true rfl) d_M_instruction_227) (fun H locs I => ?_)
                refine p_M_at C I k_697 d_M_instruction_230 (fun H locs I => ?_)
                obtain ⟨u39, hu, hj35⟩ := bnd_u hj35
                rw [hu] at I
                clear hu
                cases hj35
                exact Khj35 _ _ _ I (lv_sub hl [] rfl)
            refine lv_if_eq (tgt := 217) hx hb d_M_instruction_208 (by decide) (fun hc => ?_) (fun hc => ?_)
            · replace hj40 := it_u hc hj40
              cases hj40
              exact Khj40 _ _ _ I (lv_sub hl [0, 1] rfl)
            · replace hj40 := ie_u hc hj40
              refine lv_aload_n hx hb d_M_instruction_211 rfl (lv_at hl 0 rfl) ?_
              refine lv_iload_n hx hb d_M_instruction_212 rfl (lv_at hl 1 rfl) ?_
              refine lv_iload_n hx hb d_M_instruction_213 rfl (lv_at hl 2 rfl) ?_
              obtain ⟨u41, h42, hj40⟩ := cV_u hj40
              refine go_V I (call_runV (rest := []) C I (c_M_plain C.2.2.2.1 C.2.2.2.2.1 l h42 _) wd_M_plain (q0 := 0) (ci := 7) rfl rfl k_1016 ⟨rfl, rfl⟩ ⟨by decide, by decide⟩ rfl hl.1 rfl (Nat.le_of_ble_eq_true rfl) d_M_instruction_214) (fun H locs I => ?_)
              cases hj40
              exact Khj40 _ _ _ I (lv_sub hl [0, 1] rfl)
          · replace hk := it_u hc hk
            refine lv_aload_n hx hb d_M_instruction_75 rfl (lv_at hl 0 rfl) ?_
            refine lv_iload_n hx hb d_M_instruction_76 rfl (lv_at hl 1 rfl) ?_
            refine lv_iload_n hx hb d_M_instruction_77 rfl (lv_at hl 1 rfl) ?_
            refine lv_iconst (v := 2) hx hb d_M_instruction_78 (by decide) ?_
            refine lv_iadd hx hb d_M_instruction_79 ?_
            obtain ⟨r45, u43, h44, hk⟩ := cI_u hk
            refine go_I I (call_runV (rest := []) C I (c_M_isThere C.2.2.2.1 C.2.2.2.2.1 l h44 _) wd_M_isThere (q0 := 0) (ci := 7) rfl rfl k_1000 ⟨rfl, rfl⟩ ⟨by decide, by decide⟩ rfl hl.1 rfl (Nat.le_of_ble_eq_true rfl) d_M_instruction_80) (fun H locs I => ?_)
            refine lv_if_ne (tgt := 87) hx hb d_M_instruction_83 (by decide) (fun hc => ?_) (fun hc => ?_)
            · replace hk := ie_u hc hk
              refine lv_aload_n hx hb d_M_instruction_87 rfl (lv_at hl 0 rfl) ?_
              refine lv_iload_n hx hb d_M_instruction_88 rfl (lv_at hl 1 rfl) ?_
              refine lv_iconst (v := 1) hx hb d_M_instruction_89 (by decide) ?_
              refine lv_iadd hx hb d_M_instruction_90 ?_
              obtain ⟨r48, u46, h47, hk⟩ := cI_u hk
              refine go_I I (call_runV (rest := []) C I (c_M_byteOf C.2.2.2.1 C.2.2.2.2.1 l h47 _) wd_M_byteOf (q0 := 0) (ci := 7) rfl rfl k_985 ⟨rfl, rfl⟩ ⟨by decide, by decide⟩ rfl hl.1 rfl (Nat.le_of_ble_eq_true rfl) d_M_instruction_91) (fun H locs I => ?_)
              refine lv_istore_n (lv' := [(3, .int r48), (0, .ref (a 0)), (1, .int (u.1 2)), (2, .int r3)]) hx hb d_M_instruction_94 rfl hl (by decide) rfl (fun ls hl => ?_)
              refine lv_iload_n hx hb d_M_instruction_95 rfl (lv_at hl 0 rfl) ?_
              refine lv_bipush (v := 21) hx hb d_M_instruction_96 (by decide) ?_
              obtain ⟨z49, hj72, hk⟩ := bnd_u hk
              have Khj72 : ∀ (H : Heap) (locs : List Loc) (ls : Array Slot), Dy clA D (mW a cs) s H locs u46 → lv_has ls 5 [(0, .ref (a 0)), (1, .int (u.1 2)), (3, .int r48)] → W p l e rm_M_instruction s m args below meth c H locs 0 0 Q (F0 m 143 ls [.int z49]) := by
                intro H locs ls I hl
                refine lv_istore (lv' := [(4, .int z49), (0, .ref (a 0)), (1, .int (u.1 2)), (3, .int r48)]) hx hb d_M_instruction_143 hl (by decide) rfl (fun ls hl => ?_)
                refine lv_aload_n hx hb d_M_instruction_145 rfl (lv_at hl 1 rfl) ?_
                refine lv_iload hx hb d_M_instruction_146 (lv_at hl 0 rfl) ?_
                refine lv_bipush (v := 22) hx hb d_M_instruction_148 (by decide) ?_
                refine lv_iload_n hx hb d_M_instruction_150 rfl (lv_at hl 2 rfl) ?_
                obtain ⟨r52, u50, h51, hk⟩ := cI_u hk
                refine go_I I (call_runV (rest := []) C I (c_M_must C.2.2.2.1 C.2.2.2.2.1 l h51 _) wd_M_must (q0 := 0) (ci := 7) rfl rfl k_843 ⟨rfl, rfl⟩ ⟨by decide, by decide⟩ rfl hl.1 rfl (Nat.le_of_ble_eq_true rfl) d_M_instruction_151) (fun H locs I => ?_)
                refine lv_if_eq (tgt := 180) hx hb d_M_instruction_154 (by decide) (fun hc => ?_) (fun hc => ?_)
                · replace hk := it_u hc hk
                  exact hQ _ _ _ _ _ I hk d_M_instruction_180
                · replace hk := ie_u hc hk
                  refine lv_aload_n hx hb d_M_instruction_157 rfl (lv_at hl 1 rfl) ?_
                  refine lv_iload_n hx hb d_M_instruction_158 rfl (lv_at hl 2 rfl) ?_
                  refine lv_iload_n hx hb d_M_instruction_159 rfl (lv_at hl 2 rfl) ?_
                  refine lv_iload_n hx hb d_M_instruction_160 rfl (lv_at hl 3 rfl) ?_
                  refine lv_sipush (v := 132) hx hb d_M_instruction_161 (by decide) ?_
                  obtain ⟨z53, hj71, hk⟩ := bnd_u hk
                  have Khj71 : ∀ (H : Heap) (locs : List Loc) (ls : Array Slot), Dy clA D (mW a cs) s H locs u50 → lv_has ls 5 [(0, .ref (a 0)), (1, .int (u.1 2)), (3, .int r48)] → W p l e rm_M_instruction s m args below meth c H locs 0 0 Q (F0 m 173 ls [.int z53, .int (u.1 2), .int (u.1 2), .ref (a 0)]) := by
                    intro H locs ls I hl
                    refine lv_iadd hx hb d_M_instruction_173 ?_
                    obtain ⟨r56, u54, h55, hk⟩ := cI_u hk
                    refine go_I I (call_runV (rest := []) C I (c_M_isThere C.2.2.2.1 C.2.2.2.2.1 l h55 _) wd_M_isThere (q0 := 0) (ci := 7) rfl rfl k_1000 ⟨rfl, rfl⟩ ⟨by decide, by decide⟩ rfl hl.1 rfl (Nat.le_of_ble_eq_true rfl) d_M_instruction_174) (fun H locs I => ?_)
                    refine lv_if_ne (tgt := 181) hx hb d_M_instruction_177 (by decide) (fun hc => ?_) (fun hc => ?_)
                    · replace hk := ie_u hc hk
                      refine lv_aload_n hx hb d_M_instruction_181 rfl (lv_at hl 0 rfl) ?_
                      refine lv_iload_n hx hb d_M_instruction_182 rfl (lv_at hl 1 rfl) ?_
                      refine lv_iload_n hx hb d_M_instruction_183 rfl (lv_at hl 2 rfl) ?_
                      refine lv_aload_n hx hb d_M_instruction_184 rfl (lv_at hl 0 rfl) ?_
                      refine lv_iload_n hx hb d_M_instruction_185 rfl (lv_at hl 1 rfl) ?_
                      refine lv_iconst (v := 2) hx hb d_M_instruction_186 (by decide) ?_
                      refine lv_iadd hx hb d_M_instruction_187 ?_
                      obtain ⟨r59, u57, h58, hk⟩ := cI_u hk
                      refine go_I I (call_runV (rest := [.int r48, .int (u.1 2), .ref (a 0)]) C I (c_M_two C.2.2.2.1 C.2.2.2.2.1 l h58 _) wd_M_two (q0 := 0) (ci := 7) rfl rfl k_859 ⟨rfl, rfl⟩ ⟨by decide, by decide⟩ rfl hl.1 rfl (Nat.le_of_ble_eq_true rfl) d_M_instruction_188) (fun H locs I => ?_)
                      obtain ⟨u60, h61, hk⟩ := cV_u hk
                      refine go_V I (call_runV (rest := []) C I (c_M_local C.2.2.2.1 C.2.2.2.2.1 l h61 _) wd_M_local (q0 := 0) (ci := 7) rfl rfl k_1009 ⟨rfl, rfl⟩ ⟨by decide, by decide⟩ rfl hl.1 rfl (Nat.le_of_ble_eq_true rfl) d_M_instruction_191) (fun H locs I => ?_)
                      refine lv_goto (tgt := 217) hx hb d_M_instruction_194 (by decide) ?_
                      refine lv_aload_n hx hb d_M_instruction_217 rfl (lv_at hl 0 rfl) ?_
                      obtain ⟨r64, u62, h63, hk⟩ := cI_u hk
                      refine go_I I (call_runV (rest := []) C I (c_M_ok C.2.2.2.1 C.2.2.2.2.1 l h63 _) wd_M_ok (q0 := 0) (ci := 7) rfl rfl k_834 ⟨rfl, rfl⟩ ⟨by decide, by decide⟩ rfl hl.1 rfl (Nat.le_of_ble_eq_true rfl) d_M_instruction_218) (fun H locs I => ?_)
                      obtain ⟨u65, hj66, hk⟩ := cT_u hk
                      have Khj66 : ∀ (H : Heap) (locs : List Loc) (ls : Array Slot), Dy clA D (mW a cs) s H locs u65 → lv_has ls 5 [] → W p l e rm_M_instruction s m args below meth c H locs 0 0 Q (F0 m 233 ls []) := by
                        intro H locs ls I hl
                        exact hQ _ _ _ _ _ I hk d_M_instruction_233
                      refine lv_if_eq (tgt := 233) hx hb d_M_instruction_221 (by decide) (fun hc => ?_) (fun hc => ?_)
                      · replace hj66 := it_u hc hj66
                        cases hj66
                        exact Khj66 _ _ _ I (lv_sub hl [] rfl)
                      · replace hj66 := ie_u hc hj66
                        refine lv_aload_n hx hb d_M_instruction_224 rfl (lv_at hl 0 rfl) ?_
                        refine lv_aload_n hx hb d_M_instruction_225 rfl (lv_at hl 0 rfl) ?_
                        refine lv_iload_n hx hb d_M_instruction_226 rfl (lv_at hl 1 rfl) ?_
                        obtain ⟨r69, u67, h68, hj66⟩ := cI_u hj66
                        refine go_I I (call_runV (rest := [.ref (a 0)]) C I (c_M_after C.2.2.2.1 C.2.2.2.2.1 l h68 _) wd_M_after (q0 := 0) (ci := 7) rfl rfl k_1024 ⟨rfl, rfl⟩ ⟨by decide, by decide⟩ rfl hl.1 rfl (Nat.le_of_ble_eq_true rfl) d_M_instruction_227) (fun H locs I => ?_)
                        refine p_M_at C I k_697 d_M_instruction_230 (fun H locs I => ?_)
                        obtain ⟨u70, hu, hj66⟩ := bnd_u hj66
                        rw [hu] at I
                        clear hu
                        cases hj66
                        exact Khj66 _ _ _ I (lv_sub hl [] rfl)
                    · replace hk := it_u hc hk
                      exact hQ _ _ _ _ _ I hk d_M_instruction_180
                  refine lv_icmp_ne (tgt := 172) hx hb d_M_instruction_164 (by decide) (fun hc => ?_) (fun hc => ?_)
                  · replace hj71 := ie_u hc hj71
                    refine lv_iconst (v := 4) hx hb d_M_instruction_172 (by decide) ?_
                    cases hj71
                    exact Khj71 _ _ _ I (lv_sub hl [1, 2, 3] rfl)
                  · replace hj71 := it_u hc hj71
                    refine lv_bipush (v := 6) hx hb d_M_instruction_167 (by decide) ?_
                    refine lv_goto (tgt := 173) hx hb d_M_instruction_169 (by decide) ?_
                    cases hj71
                    exact Khj71 _ _ _ I (lv_sub hl [1, 2, 3] rfl)
              refine lv_icmp_eq (tgt := 138) hx hb d_M_instruction_98 (by decide) (fun hc => ?_) (fun hc => ?_)
              · replace hj72 := it_u hc hj72
                refine lv_iconst (v := 1) hx hb d_M_instruction_138 (by decide) ?_
                refine lv_goto (tgt := 143) hx hb d_M_instruction_139 (by decide) ?_
                cases hj72
                exact Khj72 _ _ _ I (lv_sub hl [1, 2, 0] rfl)
              · replace hj72 := ie_u hc hj72
                refine lv_iload_n hx hb d_M_instruction_101 rfl (lv_at hl 0 rfl) ?_
                refine lv_bipush (v := 22) hx hb d_M_instruction_102 (by decide) ?_
                refine lv_icmp_eq (tgt := 138) hx hb d_M_instruction_104 (by decide) (fun hc => ?_) (fun hc => ?_)
                · replace hj72 := it_u hc hj72
                  refine lv_iconst (v := 1) hx hb d_M_instruction_138 (by decide) ?_
                  refine lv_goto (tgt := 143) hx hb d_M_instruction_139 (by decide) ?_
                  cases hj72
                  exact Khj72 _ _ _ I (lv_sub hl [1, 2, 0] rfl)
                · replace hj72 := ie_u hc hj72
                  refine lv_iload_n hx hb d_M_instruction_107 rfl (lv_at hl 0 rfl) ?_
                  refine lv_bipush (v := 25) hx hb d_M_instruction_108 (by decide) ?_
                  refine lv_icmp_eq (tgt := 138) hx hb d_M_instruction_110 (by decide) (fun hc => ?_) (fun hc => ?_)
                  · replace hj72 := it_u hc hj72
                    refine lv_iconst (v := 1) hx hb d_M_instruction_138 (by decide) ?_
                    refine lv_goto (tgt := 143) hx hb d_M_instruction_139 (by decide) ?_
                    cases hj72
                    exact Khj72 _ _ _ I (lv_sub hl [1, 2, 0] rfl)
                  · replace hj72 := ie_u hc hj72
                    refine lv_iload_n hx hb d_M_instruction_113 rfl (lv_at hl 0 rfl) ?_
                    refine lv_bipush (v := 54) hx hb d_M_instruction_114 (by decide) ?_
                    refine lv_icmp_eq (tgt := 138) hx hb d_M_instruction_116 (by decide) (fun hc => ?_) (fun hc => ?_)
                    · replace hj72 := it_u hc hj72
                      refine lv_iconst (v := 1) hx hb d_M_instruction_138 (by decide) ?_
                      refine lv_goto (tgt := 143) hx hb d_M_instruction_139 (by decide) ?_
                      cases hj72
                      exact Khj72 _ _ _ I (lv_sub hl [1, 2, 0] rfl)
                    · replace hj72 := ie_u hc hj72
                      refine lv_iload_n hx hb d_M_instruction_119 rfl (lv_at hl 0 rfl) ?_
                      refine lv_bipush (v := 55) hx hb d_M_instruction_120 (by decide) ?_
                      refine lv_icmp_eq (tgt := 138) hx hb d_M_instruction_122 (by decide) (fun hc => ?_) (fun hc => ?_)
                      · replace hj72 := it_u hc hj72
                        refine lv_iconst (v := 1) hx hb d_M_instruction_138 (by decide) ?_
                        refine lv_goto (tgt := 143) hx hb d_M_instruction_139 (by decide) ?_
                        cases hj72
                        exact Khj72 _ _ _ I (lv_sub hl [1, 2, 0] rfl)
                      · replace hj72 := ie_u hc hj72
                        refine lv_iload_n hx hb d_M_instruction_125 rfl (lv_at hl 0 rfl) ?_
                        refine lv_bipush (v := 58) hx hb d_M_instruction_126 (by decide) ?_
                        refine lv_icmp_eq (tgt := 138) hx hb d_M_instruction_128 (by decide) (fun hc => ?_) (fun hc => ?_)
                        · replace hj72 := it_u hc hj72
                          refine lv_iconst (v := 1) hx hb d_M_instruction_138 (by decide) ?_
                          refine lv_goto (tgt := 143) hx hb d_M_instruction_139 (by decide) ?_
                          cases hj72
                          exact Khj72 _ _ _ I (lv_sub hl [1, 2, 0] rfl)
                        · replace hj72 := ie_u hc hj72
                          refine lv_iload_n hx hb d_M_instruction_131 rfl (lv_at hl 0 rfl) ?_
                          refine lv_sipush (v := 132) hx hb d_M_instruction_132 (by decide) ?_
                          refine lv_icmp_ne (tgt := 142) hx hb d_M_instruction_135 (by decide) (fun hc => ?_) (fun hc => ?_)
                          · replace hj72 := ie_u hc hj72
                            refine lv_iconst (v := 0) hx hb d_M_instruction_142 (by decide) ?_
                            cases hj72
                            exact Khj72 _ _ _ I (lv_sub hl [1, 2, 0] rfl)
                          · replace hj72 := it_u hc hj72
                            refine lv_iconst (v := 1) hx hb d_M_instruction_138 (by decide) ?_
                            refine lv_goto (tgt := 143) hx hb d_M_instruction_139 (by decide) ?_
                            cases hj72
                            exact Khj72 _ _ _ I (lv_sub hl [1, 2, 0] rfl)
            · replace hk := it_u hc hk
              exact hQ _ _ _ _ _ I hk d_M_instruction_86
        · replace hk := it_u hc hk
          refine lv_aload_n hx hb d_M_instruction_48 rfl (lv_at hl 0 rfl) ?_
          refine lv_iload_n hx hb d_M_instruction_49 rfl (lv_at hl 1 rfl) ?_
          refine lv_iload_n hx hb d_M_instruction_50 rfl (lv_at hl 2 rfl) ?_
          refine lv_sipush (v := 170) hx hb d_M_instruction_51 (by decide) ?_
          obtain ⟨z73, hj85, hk⟩ := bnd_u hk
          have Khj85 : ∀ (H : Heap) (locs : List Loc) (ls : Array Slot), Dy clA D (mW a cs) s H locs u8 → lv_has ls 5 [(0, .ref (a 0)), (1, .int (u.1 2))] → W p l e rm_M_instruction s m args below meth c H locs 0 0 Q (F0 m 62 ls [.int z73, .int (u.1 2), .ref (a 0)]) := by
            intro H locs ls I hl
            obtain ⟨u74, h75, hk⟩ := cV_u hk
            refine go_V I (call_runV (rest := []) C I (c_M_branches C.2.2.2.1 C.2.2.2.2.1 l h75 _) wd_M_branches (q0 := 0) (ci := 7) rfl rfl k_992 ⟨rfl, rfl⟩ ⟨by decide, by decide⟩ rfl hl.1 rfl (Nat.le_of_ble_eq_true rfl) d_M_instruction_62) (fun H locs I => ?_)
            refine lv_goto (tgt := 217) hx hb d_M_instruction_65 (by decide) ?_
            refine lv_aload_n hx hb d_M_instruction_217 rfl (lv_at hl 0 rfl) ?_
            obtain ⟨r78, u76, h77, hk⟩ := cI_u hk
            refine go_I I (call_runV (rest := []) C I (c_M_ok C.2.2.2.1 C.2.2.2.2.1 l h77 _) wd_M_ok (q0 := 0) (ci := 7) rfl rfl k_834 ⟨rfl, rfl⟩ ⟨by decide, by decide⟩ rfl hl.1 rfl (Nat.le_of_ble_eq_true rfl) d_M_instruction_218) (fun H locs I => ?_)
            obtain ⟨u79, hj80, hk⟩ := cT_u hk
            have Khj80 : ∀ (H : Heap) (locs : List Loc) (ls : Array Slot), Dy clA D (mW a cs) s H locs u79 → lv_has ls 5 [] → W p l e rm_M_instruction s m args below meth c H locs 0 0 Q (F0 m 233 ls []) := by
              intro H locs ls I hl
              exact hQ _ _ _ _ _ I hk d_M_instruction_233
            refine lv_if_eq (tgt := 233) hx hb d_M_instruction_221 (by decide) (fun hc => ?_) (fun hc => ?_)
            · replace hj80 := it_u hc hj80
              cases hj80
              exact Khj80 _ _ _ I (lv_sub hl [] rfl)
            · replace hj80 := ie_u hc hj80
              refine lv_aload_n hx hb d_M_instruction_224 rfl (lv_at hl 0 rfl) ?_
              refine lv_aload_n hx hb d_M_instruction_225 rfl (lv_at hl 0 rfl) ?_
              refine lv_iload_n hx hb d_M_instruction_226 rfl (lv_at hl 1 rfl) ?_
              obtain ⟨r83, u81, h82, hj80⟩ := cI_u hj80
              refine go_I I (call_runV (rest := [.ref (a 0)]) C I (c_M_after C.2.2.2.1 C.2.2.2.2.1 l h82 _) wd_M_after (q0 := 0) (ci := 7) rfl rfl k_1024 ⟨rfl, rfl⟩ ⟨by decide, by decide⟩ rfl hl.1 rfl (Nat.le_of_ble_eq_true rfl) d_M_instruction_227) (fun H locs I => ?_)
              refine p_M_at C I k_697 d_M_instruction_230 (fun H locs I => ?_)
              obtain ⟨u84, hu, hj80⟩ := bnd_u hj80
              rw [hu] at I
              clear hu
              cases hj80
              exact Khj80 _ _ _ I (lv_sub hl [] rfl)
          refine lv_icmp_ne (tgt := 61) hx hb d_M_instruction_54 (by decide) (fun hc => ?_) (fun hc => ?_)
          · replace hj85 := ie_u hc hj85
            refine lv_iconst (v := 0) hx hb d_M_instruction_61 (by decide) ?_
            cases hj85
            exact Khj85 _ _ _ I (lv_sub hl [0, 1] rfl)
          · replace hj85 := it_u hc hj85
            refine lv_iconst (v := 1) hx hb d_M_instruction_57 (by decide) ?_
            refine lv_goto (tgt := 62) hx hb d_M_instruction_58 (by decide) ?_
            cases hj85
            exact Khj85 _ _ _ I (lv_sub hl [0, 1] rfl)
    · replace hk := it_u hc hk
      exact hQ _ _ _ _ _ I hk d_M_instruction_33
  refine lv_if_ne (tgt := 23) hx hb d_M_instruction_16 (by decide) (fun hc => ?_) (fun hc => ?_)
  · replace hj86 := ie_u hc hj86
    refine lv_iconst (v := 0) hx hb d_M_instruction_23 (by decide) ?_
    cases hj86
    exact Khj86 _ _ _ I (lv_sub hl [2, 1, 0] rfl)
  · replace hj86 := it_u hc hj86
    refine lv_iconst (v := 1) hx hb d_M_instruction_19 (by decide) ?_
    refine lv_goto (tgt := 24) hx hb d_M_instruction_20 (by decide) ?_
    cases hj86
    exact Khj86 _ _ _ I (lv_sub hl [2, 1, 0] rfl)
def rm_M_target : Room := { frames := 2, cells := 0, slots := 0, locals := 45 }
noncomputable def f_M_target (u : St) (x1 : Int32) (x2 : Int64) : Option (St) := bnd (sv u 14 ((u.1 14) + 1)) fun u1 => cT (if (lg_cmp x2 0) < 0 then (some (0)) else (if 0 ≤ (lg_cmp x2 ((u1.1 21) - (u1.1 20)).toInt64) then (some (0)) else (gd (x2).toInt32 2001 (if (u1.2 7 (x2).toInt32.toNatClampNeg) = 0 then (some (0)) else (some (1)))))) fun (z2 : Int32) => cI (f_M_must u1 z2 26 x1) fun r5 u3 => some u3
set_option maxHeartbeats 4000000 in
set_option maxRecDepth 100000 in
theorem c_M_target {Z : zT} {D : va_G} {cs : Nat → ClassId} {a : Nat → Nat} (hw : wD (mW a cs)) (hz : zOK Z) (l : Launch) {u : St} {x1 : Int32} {x2 : Int64} {u' : St} (hk : f_M_target u x1 x2 = some u') : KV clA D cs (mW a cs) Z l y_M_target (.code y_M_target prog_9_method_58_code 4 (Option.none : Option Jvm.ClassFile.FieldType)) rm_M_target [.ref (a 0), .int x1, .long x2] u u' := by
  unfold f_M_target at hk
  refine KV.of (by decide) (Nat.le_of_ble_eq_true rfl) hw hz ?_
  intro p e s m args below meth c Q C I hQ ls hl
  have hl : lv_has ls 4 [(0, .ref (a 0)), (1, .int x1), (2, .long x2)] := hl
  have hx := C.1.1
  have hb := C.1.2.1
  refine lv_aload_n hx hb d_M_target_0 rfl (lv_at hl 0 rfl) ?_
  refine lv_dup hx hb d_M_target_1 rfl ?_
  refine g_M_jumps C I k_711 d_M_target_2 ?_
  refine lv_iconst (v := 1) hx hb d_M_target_5 (by decide) ?_
  refine lv_iadd hx hb d_M_target_6 ?_
  refine p_M_jumps C I k_711 d_M_target_7 (fun H locs I => ?_)
  obtain ⟨u1, hu, hk⟩ := bnd_u hk
  rw [hu] at I
  clear hu
  refine lv_aload_n hx hb d_M_target_10 rfl (lv_at hl 0 rfl) ?_
  refine lv_lload_n hx hb d_M_target_11 rfl (lv_at hl 2 rfl) ?_
  refine lv_lconst (v := 0) hx hb d_M_target_12 (by decide) ?_
  refine W.lcmp hx hb d_M_target_13 ?_
  obtain ⟨z2, hj6, hk⟩ := cT_u hk
  have Khj6 : ∀ (H : Heap) (locs : List Loc) (ls : Array Slot), Dy clA D (mW a cs) s H locs u1 → lv_has ls 4 [(1, .int x1)] → W p l e rm_M_target s m args below meth c H locs 0 0 Q (F0 m 47 ls [.int z2, .ref (a 0)]) := by
    intro H locs ls I hl
    refine lv_bipush (v := 26) hx hb d_M_target_47 (by decide) ?_
    refine lv_iload_n hx hb d_M_target_49 rfl (lv_at hl 0 rfl) ?_
    obtain ⟨r5, u3, h4, hk⟩ := cI_u hk
    refine go_I I (call_runV (rest := []) C I (c_M_must C.2.2.2.1 C.2.2.2.2.1 l h4 _) wd_M_must (q0 := 0) (ci := 7) rfl rfl k_843 ⟨rfl, rfl⟩ ⟨by decide, by decide⟩ rfl hl.1 rfl (Nat.le_of_ble_eq_true rfl) d_M_target_50) (fun H locs I => ?_)
    refine lv_pop hx hb d_M_target_53 rfl ?_
    exact hQ _ _ _ _ _ I hk d_M_target_54
  refine lv_if_lt (tgt := 46) hx hb d_M_target_14 (by decide) (fun hc => ?_) (fun hc => ?_)
  · replace hj6 := it_u hc hj6
    refine lv_iconst (v := 0) hx hb d_M_target_46 (by decide) ?_
    cases hj6
    exact Khj6 _ _ _ I (lv_sub hl [1] rfl)
  · replace hj6 := ie_u hc hj6
    refine lv_lload_n hx hb d_M_target_17 rfl (lv_at hl 2 rfl) ?_
    refine lv_aload_n hx hb d_M_target_18 rfl (lv_at hl 0 rfl) ?_
    refine g_M_end C I k_726 d_M_target_19 ?_
    refine lv_aload_n hx hb d_M_target_22 rfl (lv_at hl 0 rfl) ?_
    refine g_M_begin C I k_725 d_M_target_23 ?_
    refine lv_isub hx hb d_M_target_26 ?_
    refine lv_i2l (v := ((u1.1 21) - (u1.1 20)).toInt64) hx hb d_M_target_27 rfl ?_
    refine W.lcmp hx hb d_M_target_28 ?_
    refine lv_if_ge (tgt := 46) hx hb d_M_target_29 (by decide) (fun hc => ?_) (fun hc => ?_)
    · replace hj6 := it_u hc hj6
      refine lv_iconst (v := 0) hx hb d_M_target_46 (by decide) ?_
      cases hj6
      exact Khj6 _ _ _ I (lv_sub hl [1] rfl)
    · replace hj6 := ie_u hc hj6
      refine lv_aload_n hx hb d_M_target_32 rfl (lv_at hl 0 rfl) ?_
      refine g_M_starts C I k_717 d_M_target_33 ?_
      refine lv_lload_n hx hb d_M_target_36 rfl (lv_at hl 2 rfl) ?_
      refine lv_l2i (v := (x2).toInt32) hx hb d_M_target_37 rfl ?_
      obtain ⟨hi, hj6⟩ := gd_u hj6
      refine l_M_starts C I hi d_M_target_38 ?_
      refine lv_if_eq (tgt := 46) hx hb d_M_target_39 (by decide) (fun hc => ?_) (fun hc => ?_)
      · replace hj6 := it_u hc hj6
        refine lv_iconst (v := 0) hx hb d_M_target_46 (by decide) ?_
        cases hj6
        exact Khj6 _ _ _ I (lv_sub hl [1] rfl)
      · replace hj6 := ie_u hc hj6
        refine lv_iconst (v := 1) hx hb d_M_target_42 (by decide) ?_
        refine lv_goto (tgt := 47) hx hb d_M_target_43 (by decide) ?_
        cases hj6
        exact Khj6 _ _ _ I (lv_sub hl [1] rfl)
def rm_M_targets : Room := { frames := 3, cells := 0, slots := 0, locals := 68 }
noncomputable def f_M_targets_L159 (x1 : Int32) (x2 : Int32) (x3 : Int64) (x5 : Int32) (x6 : Int32) : Nat → St → Int32 → Option (St)
  | 0, _, _ => none
  | n + 1, u, x7 => if x6 ≤ x7 then (some (u)) else (cI (f_M_ok u) fun r18 u16 => if r18 = 0 then (some (u16)) else (bnd (if x2 = 170 then (((x5 + 12) + (4 * x7))) else (((x5 + 12) + (8 * x7)))) fun (z19 : Int32) => cI (f_M_four u16 z19) fun r22 u20 => cV (f_M_target u20 x1 (x3 + (r22).toInt64)) fun u23 => f_M_targets_L159 x1 x2 x3 x5 x6 n u23 (x7 + 1)))
noncomputable def f_M_targets (u : St) (x1 : Int32) : Option (St) := cI (f_M_byteOf u x1) fun r3 u1 => cT (if r3 < 153 then (if r3 = 198 then (cI (f_M_two u1 (x1 + 1)) fun r71 u69 => cV (f_M_target u69 x1 ((x1 - (u1.1 20)).toInt64 + (r71).toInt16.toInt32.toInt64)) fun u72 => some (u72)) else (if r3 = 199 then (cI (f_M_two u1 (x1 + 1)) fun r76 u74 => cV (f_M_target u74 x1 ((x1 - (u1.1 20)).toInt64 + (r76).toInt16.toInt32.toInt64)) fun u77 => some (u77)) else (some (u1)))) else (if r3 ≤ 167 then (cI (f_M_two u1 (x1 + 1)) fun r81 u79 => cV (f_M_target u79 x1 ((x1 - (u1.1 20)).toInt64 + (r81).toInt16.toInt32.toInt64)) fun u82 => some (u82)) else (if r3 = 198 then (cI (f_M_two u1 (x1 + 1)) fun r86 u84 => cV (f_M_target u84 x1 ((x1 - (u1.1 20)).toInt64 + (r86).toInt16.toInt32.toInt64)) fun u87 => some (u87)) else (if r3 = 199 then (cI (f_M_two u1 (x1 + 1)) fun r91 u89 => cV (f_M_target u89 x1 ((x1 - (u1.1 20)).toInt64 + (r91).toInt16.toInt32.toInt64)) fun u92 => some (u92)) else (some (u1)))))) fun (u4 : St) => cT (if r3 = 200 then (cI (f_M_four u4 (x1 + 1)) fun r65 u63 => cV (f_M_target u63 x1 ((x1 - (u1.1 20)).toInt64 + (r65).toInt64)) fun u66 => some (u66)) else (some (u4))) fun (u5 : St) => if r3 = 170 then (cI (f_M_numbersOf u5 x1) fun r8 u6 => cI (f_M_four u6 r8) fun r11 u9 => cV (f_M_target u9 x1 ((x1 - (u1.1 20)).toInt64 + (r11).toInt64)) fun u12 => cT (if r3 = 170 then (cI (f_M_four u12 (r8 + 8)) fun r34 u32 => cI (f_M_four u32 (r8 + 4)) fun r37 u35 => some (((r34 - r37) + 1), u35)) else (cI (f_M_four u12 (r8 + 4)) fun r31 u29 => some (r31, u29))) fun (p38 : Int32 × St) => cT (f_M_targets_L159 x1 r3 (x1 - (u1.1 20)).toInt64 r8 p38.1 FU p38.2 0) fun (u26 : St) => some u26) else (if r3 = 171 then (cI (f_M_numbersOf u5 x1) fun r41 u39 => cI (f_M_four u39 r41) fun r44 u42 => cV (f_M_target u42 x1 ((x1 - (u1.1 20)).toInt64 + (r44).toInt64)) fun u45 => cT (if r3 = 170 then (cI (f_M_four u45 (r41 + 8)) fun r57 u55 => cI (f_M_four u55 (r41 + 4)) fun r60 u58 => some (((r57 - r60) + 1), u58)) else (cI (f_M_four u45 (r41 + 4)) fun r54 u52 => some (r54, u52))) fun (p61 : Int32 × St) => cT (f_M_targets_L159 x1 r3 (x1 - (u1.1 20)).toInt64 r41 p61.1 FU p61.2 0) fun (u49 : St) => some u49) else (some u5))
set_option maxHeartbeats 4000000 in
set_option maxRecDepth 100000 in
theorem w_M_targets_L159 {Z : zT} {D : va_G} {cs : Nat → ClassId} {a : Nat → Nat} {p : Program} {l : Launch} {e : Env} {s : State} {m : MethodId} {args : Array Value} {below : List Frame} {meth : Method} {c : Code} {Q : State → Prop}  {u2 : St} {x1 : Int32} {x2 : Int32} {x3 : Int64} {x5 : Int32} {x6 : Int32} (C : Cx clA R_M prog_9_method_59_code 8 D cs (mW a cs) Z p s m args c) (hE : ∀ (H : Heap) (locs : List Loc) (ls : Array Slot), Dy clA D (mW a cs) s H locs u2 → lv_has ls 8 [] → W p l e rm_M_targets s m args below meth c H locs 0 0 Q (F0 m 222 ls [])) : ∀ (n : Nat) (u : St) (x7 : Int32) (H : Heap) (locs : List Loc) (ls : Array Slot), f_M_targets_L159 x1 x2 x3 x5 x6 n u x7 = some u2 → Dy clA D (mW a cs) s H locs u → lv_has ls 8 [(0, .ref (a 0)), (1, .int x1), (2, .int x2), (3, .long x3), (5, .int x5), (6, .int x6), (7, .int x7)] → W p l e rm_M_targets s m args below meth c H locs 0 0 Q (F0 m 159 ls []) := by
  have hx := C.1.1
  have hb := C.1.2.1
  intro n
  induction n with
  | zero =>
    intro u x7 H locs ls hk I hl
    rw [f_M_targets_L159] at hk
    cases hk
  | succ n ih =>
    intro u x7 H locs ls hk I hl
    rw [f_M_targets_L159] at hk
    refine lv_iload hx hb d_M_targets_159 (lv_at hl 6 rfl) ?_
    refine lv_iload hx hb d_M_targets_161 (lv_at hl 5 rfl) ?_
    refine lv_icmp_ge (tgt := 222) hx hb d_M_targets_163 (by decide) (fun hc => ?_) (fun hc => ?_)
    · replace hk := it_u hc hk
      cases hk
      exact hE _ _ _ I (lv_sub hl [] rfl)
    · replace hk := ie_u hc hk
      refine lv_aload_n hx hb d_M_targets_166 rfl (lv_at hl 0 rfl) ?_
      obtain ⟨r18, u16, h17, hk⟩ := cI_u hk
      refine go_I I (call_runV (rest := []) C I (c_M_ok C.2.2.2.1 C.2.2.2.2.1 l h17 _) wd_M_ok (q0 := 0) (ci := 7) rfl rfl k_834 ⟨rfl, rfl⟩ ⟨by decide, by decide⟩ rfl hl.1 rfl (Nat.le_of_ble_eq_true rfl) d_M_targets_167) (fun H locs I => ?_)
      refine lv_if_eq (tgt := 222) hx hb d_M_targets_170 (by decide) (fun hc => ?_) (fun hc => ?_)
      · replace hk := it_u hc hk
        cases hk
        exact hE _ _ _ I (lv_sub hl [] rfl)
      · replace hk := ie_u hc hk
        refine lv_aload_n hx hb d_M_targets_173 rfl (lv_at hl 0 rfl) ?_
        refine lv_iload_n hx hb d_M_targets_174 rfl (lv_at hl 1 rfl) ?_
        refine lv_lload_n hx hb d_M_targets_175 rfl (lv_at hl 3 rfl) ?_
        refine lv_aload_n hx hb d_M_targets_176 rfl (lv_at hl 0 rfl) ?_
        refine lv_iload_n hx hb d_M_targets_177 rfl (lv_at hl 2 rfl) ?_
        refine lv_sipush (v := 170) hx hb d_M_targets_178 (by decide) ?_
        obtain ⟨z19, hj25, hk⟩ := bnd_u hk
        have Khj25 : ∀ (H : Heap) (locs : List Loc) (ls : Array Slot), Dy clA D (mW a cs) s H locs u16 → lv_has ls 8 [(0, .ref (a 0)), (1, .int x1), (2, .int x2), (3, .long x3), (5, .int x5), (6, .int x6), (7, .int x7)] → W p l e rm_M_targets s m args below meth c H locs 0 0 Q (F0 m 208 ls [.int z19, .ref (a 0), .long x3, .int x1, .ref (a 0)]) := by
          intro H locs ls I hl
          obtain ⟨r22, u20, h21, hk⟩ := cI_u hk
          refine go_I I (call_runV (rest := [.long x3, .int x1, .ref (a 0)]) C I (c_M_four C.2.2.2.1 C.2.2.2.2.1 l h21 _) wd_M_four (q0 := 0) (ci := 7) rfl rfl k_1004 ⟨rfl, rfl⟩ ⟨by decide, by decide⟩ rfl hl.1 rfl (Nat.le_of_ble_eq_true rfl) d_M_targets_208) (fun H locs I => ?_)
          refine lv_i2l (v := (r22).toInt64) hx hb d_M_targets_211 rfl ?_
          refine lv_ladd hx hb d_M_targets_212 ?_
          obtain ⟨u23, h24, hk⟩ := cV_u hk
          refine go_V I (call_runV (rest := []) C I (c_M_target C.2.2.2.1 C.2.2.2.2.1 l h24 _) wd_M_target (q0 := 0) (ci := 7) rfl rfl k_1032 ⟨rfl, rfl⟩ ⟨by decide, by decide⟩ rfl hl.1 rfl (Nat.le_of_ble_eq_true rfl) d_M_targets_213) (fun H locs I => ?_)
          refine lv_iinc (v := (x7 + 1)) (lv' := [(7, .int (x7 + 1)), (0, .ref (a 0)), (1, .int x1), (2, .int x2), (3, .long x3), (5, .int x5), (6, .int x6)]) hx hb d_M_targets_216 hl (k := 6) rfl rfl (by decide) rfl (fun ls hl => ?_)
          refine lv_goto (tgt := 159) hx hb d_M_targets_219 (by decide) ?_
          exact ih u23 (x7 + 1) _ _ _ hk I (lv_sub hl [1, 2, 3, 4, 5, 6, 0] rfl)
        refine lv_icmp_ne (tgt := 197) hx hb d_M_targets_181 (by decide) (fun hc => ?_) (fun hc => ?_)
        · replace hj25 := ie_u hc hj25
          refine lv_iload hx hb d_M_targets_197 (lv_at hl 4 rfl) ?_
          refine lv_bipush (v := 12) hx hb d_M_targets_199 (by decide) ?_
          refine lv_iadd hx hb d_M_targets_201 ?_
          refine lv_bipush (v := 8) hx hb d_M_targets_202 (by decide) ?_
          refine lv_iload hx hb d_M_targets_204 (lv_at hl 6 rfl) ?_
          refine lv_imul hx hb d_M_targets_206 ?_
          refine lv_iadd hx hb d_M_targets_207 ?_
          cases hj25
          exact Khj25 _ _ _ I (lv_sub hl [0, 1, 2, 3, 4, 5, 6] rfl)
        · replace hj25 := it_u hc hj25
          refine lv_iload hx hb d_M_targets_184 (lv_at hl 4 rfl) ?_
          refine lv_bipush (v := 12) hx hb d_M_targets_186 (by decide) ?_
          refine lv_iadd hx hb d_M_targets_188 ?_
          refine lv_iconst (v := 4) hx hb d_M_targets_189 (by decide) ?_
          refine lv_iload hx hb d_M_targets_190 (lv_at hl 6 rfl) ?_
          refine lv_imul hx hb d_M_targets_192 ?_
          refine lv_iadd hx hb d_M_targets_193 ?_
          refine lv_goto (tgt := 208) hx hb d_M_targets_194 (by decide) ?_
          cases hj25
          exact Khj25 _ _ _ I (lv_sub hl [0, 1, 2, 3, 4, 5, 6] rfl)
set_option maxHeartbeats 4000000 in
set_option maxRecDepth 100000 in
theorem c_M_targets {Z : zT} {D : va_G} {cs : Nat → ClassId} {a : Nat → Nat} (hw : wD (mW a cs)) (hz : zOK Z) (l : Launch) {u : St} {x1 : Int32} {u' : St} (hk : f_M_targets u x1 = some u') : KV clA D cs (mW a cs) Z l y_M_targets (.code y_M_targets prog_9_method_59_code 8 (Option.none : Option Jvm.ClassFile.FieldType)) rm_M_targets [.ref (a 0), .int x1] u u' := by
  unfold f_M_targets at hk
  refine KV.of (by decide) (Nat.le_of_ble_eq_true rfl) hw hz ?_
  intro p e s m args below meth c Q C I hQ ls hl
  have hl : lv_has ls 8 [(0, .ref (a 0)), (1, .int x1)] := hl
  have hx := C.1.1
  have hb := C.1.2.1
  refine lv_aload_n hx hb d_M_targets_0 rfl (lv_at hl 0 rfl) ?_
  refine lv_iload_n hx hb d_M_targets_1 rfl (lv_at hl 1 rfl) ?_
  obtain ⟨r3, u1, h2, hk⟩ := cI_u hk
  refine go_I I (call_runV (rest := []) C I (c_M_byteOf C.2.2.2.1 C.2.2.2.2.1 l h2 _) wd_M_byteOf (q0 := 0) (ci := 7) rfl rfl k_985 ⟨rfl, rfl⟩ ⟨by decide, by decide⟩ rfl hl.1 rfl (Nat.le_of_ble_eq_true rfl) d_M_targets_2) (fun H locs I => ?_)
  refine lv_istore_n (lv' := [(2, .int r3), (0, .ref (a 0)), (1, .int x1)]) hx hb d_M_targets_5 rfl hl (by decide) rfl (fun ls hl => ?_)
  refine lv_iload_n hx hb d_M_targets_6 rfl (lv_at hl 2 rfl) ?_
  refine lv_aload_n hx hb d_M_targets_7 rfl (lv_at hl 1 rfl) ?_
  refine g_M_begin C I k_725 d_M_targets_8 ?_
  refine lv_isub hx hb d_M_targets_11 ?_
  refine lv_i2l (v := (x1 - (u1.1 20)).toInt64) hx hb d_M_targets_12 rfl ?_
  refine lv_lstore_n (lv' := [(3, .long (x1 - (u1.1 20)).toInt64), (2, .int r3), (0, .ref (a 0)), (1, .int x1)]) hx hb d_M_targets_13 rfl hl (by decide) rfl (fun ls hl => ?_)
  refine lv_iload_n hx hb d_M_targets_14 rfl (lv_at hl 1 rfl) ?_
  refine lv_sipush (v := 153) hx hb d_M_targets_15 (by decide) ?_
  obtain ⟨u4, hj68, hk⟩ := cT_u hk
  have Khj68 : ∀ (H : Heap) (locs : List Loc) (ls : Array Slot), Dy clA D (mW a cs) s H locs u4 → lv_has ls 8 [(0, .ref (a 0)), (1, .int x1), (2, .int r3), (3, .long (x1 - (u1.1 20)).toInt64)] → W p l e rm_M_targets s m args below meth c H locs 0 0 Q (F0 m 58 ls []) := by
    intro H locs ls I hl
    refine lv_iload_n hx hb d_M_targets_58 rfl (lv_at hl 2 rfl) ?_
    refine lv_sipush (v := 200) hx hb d_M_targets_59 (by decide) ?_
    obtain ⟨u5, hj62, hk⟩ := cT_u hk
    have Khj62 : ∀ (H : Heap) (locs : List Loc) (ls : Array Slot), Dy clA D (mW a cs) s H locs u5 → lv_has ls 8 [(0, .ref (a 0)), (1, .int x1), (2, .int r3), (3, .long (x1 - (u1.1 20)).toInt64)] → W p l e rm_M_targets s m args below meth c H locs 0 0 Q (F0 m 80 ls []) := by
      intro H locs ls I hl
      refine lv_iload_n hx hb d_M_targets_80 rfl (lv_at hl 2 rfl) ?_
      refine lv_sipush (v := 170) hx hb d_M_targets_81 (by decide) ?_
      refine lv_icmp_eq (tgt := 95) hx hb d_M_targets_84 (by decide) (fun hc => ?_) (fun hc => ?_)
      · replace hk := it_u hc hk
        refine lv_aload_n hx hb d_M_targets_95 rfl (lv_at hl 0 rfl) ?_
        refine lv_iload_n hx hb d_M_targets_96 rfl (lv_at hl 1 rfl) ?_
        obtain ⟨r8, u6, h7, hk⟩ := cI_u hk
        refine go_I I (call_runV (rest := []) C I (c_M_numbersOf C.2.2.2.1 C.2.2.2.2.1 l h7 _) wd_M_numbersOf (q0 := 0) (ci := 7) rfl rfl k_996 ⟨rfl, rfl⟩ ⟨by decide, by decide⟩ rfl hl.1 rfl (Nat.le_of_ble_eq_true rfl) d_M_targets_97) (fun H locs I => ?_)
        refine lv_istore (lv' := [(5, .int r8), (0, .ref (a 0)), (1, .int x1), (2, .int r3), (3, .long (x1 - (u1.1 20)).toInt64)]) hx hb d_M_targets_100 hl (by decide) rfl (fun ls hl => ?_)
        refine lv_aload_n hx hb d_M_targets_102 rfl (lv_at hl 1 rfl) ?_
        refine lv_iload_n hx hb d_M_targets_103 rfl (lv_at hl 2 rfl) ?_
        refine lv_lload_n hx hb d_M_targets_104 rfl (lv_at hl 4 rfl) ?_
        refine lv_aload_n hx hb d_M_targets_105 rfl (lv_at hl 1 rfl) ?_
        refine lv_iload hx hb d_M_targets_106 (lv_at hl 0 rfl) ?_
        obtain ⟨r11, u9, h10, hk⟩ := cI_u hk
        refine go_I I (call_runV (rest := [.long (x1 - (u1.1 20)).toInt64, .int x1, .ref (a 0)]) C I (c_M_four C.2.2.2.1 C.2.2.2.2.1 l h10 _) wd_M_four (q0 := 0) (ci := 7) rfl rfl k_1004 ⟨rfl, rfl⟩ ⟨by decide, by decide⟩ rfl hl.1 rfl (Nat.le_of_ble_eq_true rfl) d_M_targets_108) (fun H locs I => ?_)
        refine lv_i2l (v := (r11).toInt64) hx hb d_M_targets_111 rfl ?_
        refine lv_ladd hx hb d_M_targets_112 ?_
        obtain ⟨u12, h13, hk⟩ := cV_u hk
        refine go_V I (call_runV (rest := []) C I (c_M_target C.2.2.2.1 C.2.2.2.2.1 l h13 _) wd_M_target (q0 := 0) (ci := 7) rfl rfl k_1032 ⟨rfl, rfl⟩ ⟨by decide, by decide⟩ rfl hl.1 rfl (Nat.le_of_ble_eq_true rfl) d_M_targets_113) (fun H locs I => ?_)
        refine lv_iload_n hx hb d_M_targets_116 rfl (lv_at hl 3 rfl) ?_
        refine lv_sipush (v := 170) hx hb d_M_targets_117 (by decide) ?_
        obtain ⟨⟨z14, u15⟩, hj28, hk⟩ := cT_u hk
        have Khj28 : ∀ (H : Heap) (locs : List Loc) (ls : Array Slot), Dy clA D (mW a cs) s H locs u15 → lv_has ls 8 [(0, .ref (a 0)), (1, .int x1), (2, .int r3), (3, .long (x1 - (u1.1 20)).toInt64), (5, .int r8)] → W p l e rm_M_targets s m args below meth c H locs 0 0 Q (F0 m 154 ls [.int z14]) := by
          intro H locs ls I hl
          refine lv_istore (lv' := [(6, .int z14), (0, .ref (a 0)), (1, .int x1), (2, .int r3), (3, .long (x1 - (u1.1 20)).toInt64), (5, .int r8)]) hx hb d_M_targets_154 hl (by decide) rfl (fun ls hl => ?_)
          refine lv_iconst (v := 0) hx hb d_M_targets_156 (by decide) ?_
          refine lv_istore (lv' := [(7, .int 0), (6, .int z14), (0, .ref (a 0)), (1, .int x1), (2, .int r3), (3, .long (x1 - (u1.1 20)).toInt64), (5, .int r8)]) hx hb d_M_targets_157 hl (by decide) rfl (fun ls hl => ?_)
          obtain ⟨u26, hj27, hk⟩ := cT_u hk
          refine w_M_targets_L159 C (fun H locs ls I hl => ?_) FU u15 0 _ _ _ hj27 I (lv_sub hl [2, 3, 4, 5, 6, 1, 0] rfl)
          exact hQ _ _ _ _ _ I hk d_M_targets_222
        refine lv_icmp_ne (tgt := 146) hx hb d_M_targets_120 (by decide) (fun hc => ?_) (fun hc => ?_)
        · replace hj28 := ie_u hc hj28
          refine lv_aload_n hx hb d_M_targets_146 rfl (lv_at hl 1 rfl) ?_
          refine lv_iload hx hb d_M_targets_147 (lv_at hl 0 rfl) ?_
          refine lv_iconst (v := 4) hx hb d_M_targets_149 (by decide) ?_
          refine lv_iadd hx hb d_M_targets_150 ?_
          obtain ⟨r31, u29, h30, hj28⟩ := cI_u hj28
          refine go_I I (call_runV (rest := []) C I (c_M_four C.2.2.2.1 C.2.2.2.2.1 l h30 _) wd_M_four (q0 := 0) (ci := 7) rfl rfl k_1004 ⟨rfl, rfl⟩ ⟨by decide, by decide⟩ rfl hl.1 rfl (Nat.le_of_ble_eq_true rfl) d_M_targets_151) (fun H locs I => ?_)
          cases hj28
          exact Khj28 _ _ _ I (lv_sub hl [1, 2, 3, 4, 0] rfl)
        · replace hj28 := it_u hc hj28
          refine lv_aload_n hx hb d_M_targets_123 rfl (lv_at hl 1 rfl) ?_
          refine lv_iload hx hb d_M_targets_124 (lv_at hl 0 rfl) ?_
          refine lv_bipush (v := 8) hx hb d_M_targets_126 (by decide) ?_
          refine lv_iadd hx hb d_M_targets_128 ?_
          obtain ⟨r34, u32, h33, hj28⟩ := cI_u hj28
          refine go_I I (call_runV (rest := []) C I (c_M_four C.2.2.2.1 C.2.2.2.2.1 l h33 _) wd_M_four (q0 := 0) (ci := 7) rfl rfl k_1004 ⟨rfl, rfl⟩ ⟨by decide, by decide⟩ rfl hl.1 rfl (Nat.le_of_ble_eq_true rfl) d_M_targets_129) (fun H locs I => ?_)
          refine lv_aload_n hx hb d_M_targets_132 rfl (lv_at hl 1 rfl) ?_
          refine lv_iload hx hb d_M_targets_133 (lv_at hl 0 rfl) ?_
          refine lv_iconst (v := 4) hx hb d_M_targets_135 (by decide) ?_
          refine lv_iadd hx hb d_M_targets_136 ?_
          obtain ⟨r37, u35, h36, hj28⟩ := cI_u hj28
          refine go_I I (call_runV (rest := [.int r34]) C I (c_M_four C.2.2.2.1 C.2.2.2.2.1 l h36 _) wd_M_four (q0 := 0) (ci := 7) rfl rfl k_1004 ⟨rfl, rfl⟩ ⟨by decide, by decide⟩ rfl hl.1 rfl (Nat.le_of_ble_eq_true rfl) d_M_targets_137) (fun H locs I => ?_)
          refine lv_isub hx hb d_M_targets_140 ?_
          refine lv_iconst (v := 1) hx hb d_M_targets_141 (by decide) ?_
          refine lv_iadd hx hb d_M_targets_142 ?_
          refine lv_goto (tgt := 154) hx hb d_M_targets_143 (by decide) ?_
          cases hj28
          exact Khj28 _ _ _ I (lv_sub hl [1, 2, 3, 4, 0] rfl)
      · replace hk := ie_u hc hk
        refine lv_iload_n hx hb d_M_targets_87 rfl (lv_at hl 2 rfl) ?_
        refine lv_sipush (v := 171) hx hb d_M_targets_88 (by decide) ?_
        refine lv_icmp_eq (tgt := 95) hx hb d_M_targets_91 (by decide) (fun hc => ?_) (fun hc => ?_)
        · replace hk := it_u hc hk
          refine lv_aload_n hx hb d_M_targets_95 rfl (lv_at hl 0 rfl) ?_
          refine lv_iload_n hx hb d_M_targets_96 rfl (lv_at hl 1 rfl) ?_
          obtain ⟨r41, u39, h40, hk⟩ := cI_u hk
          refine go_I I (call_runV (rest := []) C I (c_M_numbersOf C.2.2.2.1 C.2.2.2.2.1 l h40 _) wd_M_numbersOf (q0 := 0) (ci := 7) rfl rfl k_996 ⟨rfl, rfl⟩ ⟨by decide, by decide⟩ rfl hl.1 rfl (Nat.le_of_ble_eq_true rfl) d_M_targets_97) (fun H locs I => ?_)
          refine lv_istore (lv' := [(5, .int r41), (0, .ref (a 0)), (1, .int x1), (2, .int r3), (3, .long (x1 - (u1.1 20)).toInt64)]) hx hb d_M_targets_100 hl (by decide) rfl (fun ls hl => ?_)
          refine lv_aload_n hx hb d_M_targets_102 rfl (lv_at hl 1 rfl) ?_
          refine lv_iload_n hx hb d_M_targets_103 rfl (lv_at hl 2 rfl) ?_
          refine lv_lload_n hx hb d_M_targets_104 rfl (lv_at hl 4 rfl) ?_
          refine lv_aload_n hx hb d_M_targets_105 rfl (lv_at hl 1 rfl) ?_
          refine lv_iload hx hb d_M_targets_106 (lv_at hl 0 rfl) ?_
          obtain ⟨r44, u42, h43, hk⟩ := cI_u hk
          refine go_I I (call_runV (rest := [.long (x1 - (u1.1 20)).toInt64, .int x1, .ref (a 0)]) C I (c_M_four C.2.2.2.1 C.2.2.2.2.1 l h43 _) wd_M_four (q0 := 0) (ci := 7) rfl rfl k_1004 ⟨rfl, rfl⟩ ⟨by decide, by decide⟩ rfl hl.1 rfl (Nat.le_of_ble_eq_true rfl) d_M_targets_108) (fun H locs I => ?_)
          refine lv_i2l (v := (r44).toInt64) hx hb d_M_targets_111 rfl ?_
          refine lv_ladd hx hb d_M_targets_112 ?_
          obtain ⟨u45, h46, hk⟩ := cV_u hk
          refine go_V I (call_runV (rest := []) C I (c_M_target C.2.2.2.1 C.2.2.2.2.1 l h46 _) wd_M_target (q0 := 0) (ci := 7) rfl rfl k_1032 ⟨rfl, rfl⟩ ⟨by decide, by decide⟩ rfl hl.1 rfl (Nat.le_of_ble_eq_true rfl) d_M_targets_113) (fun H locs I => ?_)
          refine lv_iload_n hx hb d_M_targets_116 rfl (lv_at hl 3 rfl) ?_
          refine lv_sipush (v := 170) hx hb d_M_targets_117 (by decide) ?_
          obtain ⟨⟨z47, u48⟩, hj51, hk⟩ := cT_u hk
          have Khj51 : ∀ (H : Heap) (locs : List Loc) (ls : Array Slot), Dy clA D (mW a cs) s H locs u48 → lv_has ls 8 [(0, .ref (a 0)), (1, .int x1), (2, .int r3), (3, .long (x1 - (u1.1 20)).toInt64), (5, .int r41)] → W p l e rm_M_targets s m args below meth c H locs 0 0 Q (F0 m 154 ls [.int z47]) := by
            intro H locs ls I hl
            refine lv_istore (lv' := [(6, .int z47), (0, .ref (a 0)), (1, .int x1), (2, .int r3), (3, .long (x1 - (u1.1 20)).toInt64), (5, .int r41)]) hx hb d_M_targets_154 hl (by decide) rfl (fun ls hl => ?_)
            refine lv_iconst (v := 0) hx hb d_M_targets_156 (by decide) ?_
            refine lv_istore (lv' := [(7, .int 0), (6, .int z47), (0, .ref (a 0)), (1, .int x1), (2, .int r3), (3, .long (x1 - (u1.1 20)).toInt64), (5, .int r41)]) hx hb d_M_targets_157 hl (by decide) rfl (fun ls hl => ?_)
            obtain ⟨u49, hj50, hk⟩ := cT_u hk
            refine w_M_targets_L159 C (fun H locs ls I hl => ?_) FU u48 0 _ _ _ hj50 I (lv_sub hl [2, 3, 4, 5, 6, 1, 0] rfl)
            exact hQ _ _ _ _ _ I hk d_M_targets_222
          refine lv_icmp_ne (tgt := 146) hx hb d_M_targets_120 (by decide) (fun hc => ?_) (fun hc => ?_)
          · replace hj51 := ie_u hc hj51
            refine lv_aload_n hx hb d_M_targets_146 rfl (lv_at hl 1 rfl) ?_
            refine lv_iload hx hb d_M_targets_147 (lv_at hl 0 rfl) ?_
            refine lv_iconst (v := 4) hx hb d_M_targets_149 (by decide) ?_
            refine lv_iadd hx hb d_M_targets_150 ?_
            obtain ⟨r54, u52, h53, hj51⟩ := cI_u hj51
            refine go_I I (call_runV (rest := []) C I (c_M_four C.2.2.2.1 C.2.2.2.2.1 l h53 _) wd_M_four (q0 := 0) (ci := 7) rfl rfl k_1004 ⟨rfl, rfl⟩ ⟨by decide, by decide⟩ rfl hl.1 rfl (Nat.le_of_ble_eq_true rfl) d_M_targets_151) (fun H locs I => ?_)
            cases hj51
            exact Khj51 _ _ _ I (lv_sub hl [1, 2, 3, 4, 0] rfl)
          · replace hj51 := it_u hc hj51
            refine lv_aload_n hx hb d_M_targets_123 rfl (lv_at hl 1 rfl) ?_
            refine lv_iload hx hb d_M_targets_124 (lv_at hl 0 rfl) ?_
            refine lv_bipush (v := 8) hx hb d_M_targets_126 (by decide) ?_
            refine lv_iadd hx hb d_M_targets_128 ?_
            obtain ⟨r57, u55, h56, hj51⟩ := cI_u hj51
            refine go_I I (call_runV (rest := []) C I (c_M_four C.2.2.2.1 C.2.2.2.2.1 l h56 _) wd_M_four (q0 := 0) (ci := 7) rfl rfl k_1004 ⟨rfl, rfl⟩ ⟨by decide, by decide⟩ rfl hl.1 rfl (Nat.le_of_ble_eq_true rfl) d_M_targets_129) (fun H locs I => ?_)
            refine lv_aload_n hx hb d_M_targets_132 rfl (lv_at hl 1 rfl) ?_
            refine lv_iload hx hb d_M_targets_133 (lv_at hl 0 rfl) ?_
            refine lv_iconst (v := 4) hx hb d_M_targets_135 (by decide) ?_
            refine lv_iadd hx hb d_M_targets_136 ?_
            obtain ⟨r60, u58, h59, hj51⟩ := cI_u hj51
            refine go_I I (call_runV (rest := [.int r57]) C I (c_M_four C.2.2.2.1 C.2.2.2.2.1 l h59 _) wd_M_four (q0 := 0) (ci := 7) rfl rfl k_1004 ⟨rfl, rfl⟩ ⟨by decide, by decide⟩ rfl hl.1 rfl (Nat.le_of_ble_eq_true rfl) d_M_targets_137) (fun H locs I => ?_)
            refine lv_isub hx hb d_M_targets_140 ?_
            refine lv_iconst (v := 1) hx hb d_M_targets_141 (by decide) ?_
            refine lv_iadd hx hb d_M_targets_142 ?_
            refine lv_goto (tgt := 154) hx hb d_M_targets_143 (by decide) ?_
            cases hj51
            exact Khj51 _ _ _ I (lv_sub hl [1, 2, 3, 4, 0] rfl)
        · replace hk := ie_u hc hk
          exact hQ _ _ _ _ _ I hk d_M_targets_94
    refine lv_icmp_ne (tgt := 80) hx hb d_M_targets_62 (by decide) (fun hc => ?_) (fun hc => ?_)
    · replace hj62 := ie_u hc hj62
      cases hj62
      exact Khj62 _ _ _ I (lv_sub hl [0, 1, 2, 3] rfl)
    · replace hj62 := it_u hc hj62
      refine lv_aload_n hx hb d_M_targets_65 rfl (lv_at hl 0 rfl) ?_
      refine lv_iload_n hx hb d_M_targets_66 rfl (lv_at hl 1 rfl) ?_
      refine lv_lload_n hx hb d_M_targets_67 rfl (lv_at hl 3 rfl) ?_
      refine lv_aload_n hx hb d_M_targets_68 rfl (lv_at hl 0 rfl) ?_
      refine lv_iload_n hx hb d_M_targets_69 rfl (lv_at hl 1 rfl) ?_
      refine lv_iconst (v := 1) hx hb d_M_targets_70 (by decide) ?_
      refine lv_iadd hx hb d_M_targets_71 ?_
      obtain ⟨r65, u63, h64, hj62⟩ := cI_u hj62
      refine go_I I (call_runV (rest := [.long (x1 - (u1.1 20)).toInt64, .int x1, .ref (a 0)]) C I (c_M_four C.2.2.2.1 C.2.2.2.2.1 l h64 _) wd_M_four (q0 := 0) (ci := 7) rfl rfl k_1004 ⟨rfl, rfl⟩ ⟨by decide, by decide⟩ rfl hl.1 rfl (Nat.le_of_ble_eq_true rfl) d_M_targets_72) (fun H locs I => ?_)
      refine lv_i2l (v := (r65).toInt64) hx hb d_M_targets_75 rfl ?_
      refine lv_ladd hx hb d_M_targets_76 ?_
      obtain ⟨u66, h67, hj62⟩ := cV_u hj62
      refine go_V I (call_runV (rest := []) C I (c_M_target C.2.2.2.1 C.2.2.2.2.1 l h67 _) wd_M_target (q0 := 0) (ci := 7) rfl rfl k_1032 ⟨rfl, rfl⟩ ⟨by decide, by decide⟩ rfl hl.1 rfl (Nat.le_of_ble_eq_true rfl) d_M_targets_77) (fun H locs I => ?_)
      cases hj62
      exact Khj62 _ _ _ I (lv_sub hl [0, 1, 2, 3] rfl)
  refine lv_icmp_lt (tgt := 28) hx hb d_M_targets_18 (by decide) (fun hc => ?_) (fun hc => ?_)
  · replace hj68 := it_u hc hj68
    refine lv_iload_n hx hb d_M_targets_28 rfl (lv_at hl 1 rfl) ?_
    refine lv_sipush (v := 198) hx hb d_M_targets_29 (by decide) ?_
    refine lv_icmp_eq (tgt := 42) hx hb d_M_targets_32 (by decide) (fun hc => ?_) (fun hc => ?_)
    · replace hj68 := it_u hc hj68
      refine lv_aload_n hx hb d_M_targets_42 rfl (lv_at hl 2 rfl) ?_
      refine lv_iload_n hx hb d_M_targets_43 rfl (lv_at hl 3 rfl) ?_
      refine lv_lload_n hx hb d_M_targets_44 rfl (lv_at hl 0 rfl) ?_
      refine lv_aload_n hx hb d_M_targets_45 rfl (lv_at hl 2 rfl) ?_
      refine lv_iload_n hx hb d_M_targets_46 rfl (lv_at hl 3 rfl) ?_
      refine lv_iconst (v := 1) hx hb d_M_targets_47 (by decide) ?_
      refine lv_iadd hx hb d_M_targets_48 ?_
      obtain ⟨r71, u69, h70, hj68⟩ := cI_u hj68
      refine go_I I (call_runV (rest := [.long (x1 - (u1.1 20)).toInt64, .int x1, .ref (a 0)]) C I (c_M_two C.2.2.2.1 C.2.2.2.2.1 l h70 _) wd_M_two (q0 := 0) (ci := 7) rfl rfl k_859 ⟨rfl, rfl⟩ ⟨by decide, by decide⟩ rfl hl.1 rfl (Nat.le_of_ble_eq_true rfl) d_M_targets_49) (fun H locs I => ?_)
      refine lv_i2s (v := (r71).toInt16.toInt32) hx hb d_M_targets_52 rfl ?_
      refine lv_i2l (v := (r71).toInt16.toInt32.toInt64) hx hb d_M_targets_53 rfl ?_
      refine lv_ladd hx hb d_M_targets_54 ?_
      obtain ⟨u72, h73, hj68⟩ := cV_u hj68
      refine go_V I (call_runV (rest := []) C I (c_M_target C.2.2.2.1 C.2.2.2.2.1 l h73 _) wd_M_target (q0 := 0) (ci := 7) rfl rfl k_1032 ⟨rfl, rfl⟩ ⟨by decide, by decide⟩ rfl hl.1 rfl (Nat.le_of_ble_eq_true rfl) d_M_targets_55) (fun H locs I => ?_)
      cases hj68
      exact Khj68 _ _ _ I (lv_sub hl [2, 3, 1, 0] rfl)
    · replace hj68 := ie_u hc hj68
      refine lv_iload_n hx hb d_M_targets_35 rfl (lv_at hl 1 rfl) ?_
      refine lv_sipush (v := 199) hx hb d_M_targets_36 (by decide) ?_
      refine lv_icmp_ne (tgt := 58) hx hb d_M_targets_39 (by decide) (fun hc => ?_) (fun hc => ?_)
      · replace hj68 := ie_u hc hj68
        cases hj68
        exact Khj68 _ _ _ I (lv_sub hl [2, 3, 1, 0] rfl)
      · replace hj68 := it_u hc hj68
        refine lv_aload_n hx hb d_M_targets_42 rfl (lv_at hl 2 rfl) ?_
        refine lv_iload_n hx hb d_M_targets_43 rfl (lv_at hl 3 rfl) ?_
        refine lv_lload_n hx hb d_M_targets_44 rfl (lv_at hl 0 rfl) ?_
        refine lv_aload_n hx hb d_M_targets_45 rfl (lv_at hl 2 rfl) ?_
        refine lv_iload_n hx hb d_M_targets_46 rfl (lv_at hl 3 rfl) ?_
        refine lv_iconst (v := 1) hx hb d_M_targets_47 (by decide) ?_
        refine lv_iadd hx hb d_M_targets_48 ?_
        obtain ⟨r76, u74, h75, hj68⟩ := cI_u hj68
        refine go_I I (call_runV (rest := [.long (x1 - (u1.1 20)).toInt64, .int x1, .ref (a 0)]) C I (c_M_two C.2.2.2.1 C.2.2.2.2.1 l h75 _) wd_M_two (q0 := 0) (ci := 7) rfl rfl k_859 ⟨rfl, rfl⟩ ⟨by decide, by decide⟩ rfl hl.1 rfl (Nat.le_of_ble_eq_true rfl) d_M_targets_49) (fun H locs I => ?_)
        refine lv_i2s (v := (r76).toInt16.toInt32) hx hb d_M_targets_52 rfl ?_
        refine lv_i2l (v := (r76).toInt16.toInt32.toInt64) hx hb d_M_targets_53 rfl ?_
        refine lv_ladd hx hb d_M_targets_54 ?_
        obtain ⟨u77, h78, hj68⟩ := cV_u hj68
        refine go_V I (call_runV (rest := []) C I (c_M_target C.2.2.2.1 C.2.2.2.2.1 l h78 _) wd_M_target (q0 := 0) (ci := 7) rfl rfl k_1032 ⟨rfl, rfl⟩ ⟨by decide, by decide⟩ rfl hl.1 rfl (Nat.le_of_ble_eq_true rfl) d_M_targets_55) (fun H locs I => ?_)
        cases hj68
        exact Khj68 _ _ _ I (lv_sub hl [2, 3, 1, 0] rfl)
  · replace hj68 := ie_u hc hj68
    refine lv_iload_n hx hb d_M_targets_21 rfl (lv_at hl 1 rfl) ?_
    refine lv_sipush (v := 167) hx hb d_M_targets_22 (by decide) ?_
    refine lv_icmp_le (tgt := 42) hx hb d_M_targets_25 (by decide) (fun hc => ?_) (fun hc => ?_)
    · replace hj68 := it_u hc hj68
      refine lv_aload_n hx hb d_M_targets_42 rfl (lv_at hl 2 rfl) ?_
      refine lv_iload_n hx hb d_M_targets_43 rfl (lv_at hl 3 rfl) ?_
      refine lv_lload_n hx hb d_M_targets_44 rfl (lv_at hl 0 rfl) ?_
      refine lv_aload_n hx hb d_M_targets_45 rfl (lv_at hl 2 rfl) ?_
      refine lv_iload_n hx hb d_M_targets_46 rfl (lv_at hl 3 rfl) ?_
      refine lv_iconst (v := 1) hx hb d_M_targets_47 (by decide) ?_
      refine lv_iadd hx hb d_M_targets_48 ?_
      obtain ⟨r81, u79, h80, hj68⟩ := cI_u hj68
      refine go_I I (call_runV (rest := [.long (x1 - (u1.1 20)).toInt64, .int x1, .ref (a 0)]) C I (c_M_two C.2.2.2.1 C.2.2.2.2.1 l h80 _) wd_M_two (q0 := 0) (ci := 7) rfl rfl k_859 ⟨rfl, rfl⟩ ⟨by decide, by decide⟩ rfl hl.1 rfl (Nat.le_of_ble_eq_true rfl) d_M_targets_49) (fun H locs I => ?_)
      refine lv_i2s (v := (r81).toInt16.toInt32) hx hb d_M_targets_52 rfl ?_
      refine lv_i2l (v := (r81).toInt16.toInt32.toInt64) hx hb d_M_targets_53 rfl ?_
      refine lv_ladd hx hb d_M_targets_54 ?_
      obtain ⟨u82, h83, hj68⟩ := cV_u hj68
      refine go_V I (call_runV (rest := []) C I (c_M_target C.2.2.2.1 C.2.2.2.2.1 l h83 _) wd_M_target (q0 := 0) (ci := 7) rfl rfl k_1032 ⟨rfl, rfl⟩ ⟨by decide, by decide⟩ rfl hl.1 rfl (Nat.le_of_ble_eq_true rfl) d_M_targets_55) (fun H locs I => ?_)
      cases hj68
      exact Khj68 _ _ _ I (lv_sub hl [2, 3, 1, 0] rfl)
    · replace hj68 := ie_u hc hj68
      refine lv_iload_n hx hb d_M_targets_28 rfl (lv_at hl 1 rfl) ?_
      refine lv_sipush (v := 198) hx hb d_M_targets_29 (by decide) ?_
      refine lv_icmp_eq (tgt := 42) hx hb d_M_targets_32 (by decide) (fun hc => ?_) (fun hc => ?_)
      · replace hj68 := it_u hc hj68
        refine lv_aload_n hx hb d_M_targets_42 rfl (lv_at hl 2 rfl) ?_
        refine lv_iload_n hx hb d_M_targets_43 rfl (lv_at hl 3 rfl) ?_
        refine lv_lload_n hx hb d_M_targets_44 rfl (lv_at hl 0 rfl) ?_
        refine lv_aload_n hx hb d_M_targets_45 rfl (lv_at hl 2 rfl) ?_
        refine lv_iload_n hx hb d_M_targets_46 rfl (lv_at hl 3 rfl) ?_
        refine lv_iconst (v := 1) hx hb d_M_targets_47 (by decide) ?_
        refine lv_iadd hx hb d_M_targets_48 ?_
        obtain ⟨r86, u84, h85, hj68⟩ := cI_u hj68
        refine go_I I (call_runV (rest := [.long (x1 - (u1.1 20)).toInt64, .int x1, .ref (a 0)]) C I (c_M_two C.2.2.2.1 C.2.2.2.2.1 l h85 _) wd_M_two (q0 := 0) (ci := 7) rfl rfl k_859 ⟨rfl, rfl⟩ ⟨by decide, by decide⟩ rfl hl.1 rfl (Nat.le_of_ble_eq_true rfl) d_M_targets_49) (fun H locs I => ?_)
        refine lv_i2s (v := (r86).toInt16.toInt32) hx hb d_M_targets_52 rfl ?_
        refine lv_i2l (v := (r86).toInt16.toInt32.toInt64) hx hb d_M_targets_53 rfl ?_
        refine lv_ladd hx hb d_M_targets_54 ?_
        obtain ⟨u87, h88, hj68⟩ := cV_u hj68
        refine go_V I (call_runV (rest := []) C I (c_M_target C.2.2.2.1 C.2.2.2.2.1 l h88 _) wd_M_target (q0 := 0) (ci := 7) rfl rfl k_1032 ⟨rfl, rfl⟩ ⟨by decide, by decide⟩ rfl hl.1 rfl (Nat.le_of_ble_eq_true rfl) d_M_targets_55) (fun H locs I => ?_)
        cases hj68
        exact Khj68 _ _ _ I (lv_sub hl [2, 3, 1, 0] rfl)
      · replace hj68 := ie_u hc hj68
        refine lv_iload_n hx hb d_M_targets_35 rfl (lv_at hl 1 rfl) ?_
        refine lv_sipush (v := 199) hx hb d_M_targets_36 (by decide) ?_
        refine lv_icmp_ne (tgt := 58) hx hb d_M_targets_39 (by decide) (fun hc => ?_) (fun hc => ?_)
        · replace hj68 := ie_u hc hj68
          cases hj68
          exact Khj68 _ _ _ I (lv_sub hl [2, 3, 1, 0] rfl)
        · replace hj68 := it_u hc hj68
          refine lv_aload_n hx hb d_M_targets_42 rfl (lv_at hl 2 rfl) ?_
          refine lv_iload_n hx hb d_M_targets_43 rfl (lv_at hl 3 rfl) ?_
          refine lv_lload_n hx hb d_M_targets_44 rfl (lv_at hl 0 rfl) ?_
          refine lv_aload_n hx hb d_M_targets_45 rfl (lv_at hl 2 rfl) ?_
          refine lv_iload_n hx hb d_M_targets_46 rfl (lv_at hl 3 rfl) ?_
          refine lv_iconst (v := 1) hx hb d_M_targets_47 (by decide) ?_
          refine lv_iadd hx hb d_M_targets_48 ?_
          obtain ⟨r91, u89, h90, hj68⟩ := cI_u hj68
          refine go_I I (call_runV (rest := [.long (x1 - (u1.1 20)).toInt64, .int x1, .ref (a 0)]) C I (c_M_two C.2.2.2.1 C.2.2.2.2.1 l h90 _) wd_M_two (q0 := 0) (ci := 7) rfl rfl k_859 ⟨rfl, rfl⟩ ⟨by decide, by decide⟩ rfl hl.1 rfl (Nat.le_of_ble_eq_true rfl) d_M_targets_49) (fun H locs I => ?_)
          refine lv_i2s (v := (r91).toInt16.toInt32) hx hb d_M_targets_52 rfl ?_
          refine lv_i2l (v := (r91).toInt16.toInt32.toInt64) hx hb d_M_targets_53 rfl ?_
          refine lv_ladd hx hb d_M_targets_54 ?_
          obtain ⟨u92, h93, hj68⟩ := cV_u hj68
          refine go_V I (call_runV (rest := []) C I (c_M_target C.2.2.2.1 C.2.2.2.2.1 l h93 _) wd_M_target (q0 := 0) (ci := 7) rfl rfl k_1032 ⟨rfl, rfl⟩ ⟨by decide, by decide⟩ rfl hl.1 rfl (Nat.le_of_ble_eq_true rfl) d_M_targets_55) (fun H locs I => ?_)
          cases hj68
          exact Khj68 _ _ _ I (lv_sub hl [2, 3, 1, 0] rfl)
def rm_M_code : Room := { frames := 9, cells := 0, slots := 0, locals := 211 }
noncomputable def f_M_code_L212 (x2 : Int32) (x4 : Int32) (x5 : Int64) : Nat → St → Int32 → Option (St)
  | 0, _, _ => none
  | n + 1, u, x7 => if 0 < (lg_cmp (x7).toInt64 x5) then (some (u)) else (gd x7 2001 (bnd (sa u 7 x7.toNatClampNeg (vp_nar .boolean 0)) fun u37 => f_M_code_L212 x2 x4 x5 n u37 (x7 + 1)))
noncomputable def f_M_code_L244 (x2 : Int32) (x4 : Int32) (x5 : Int64) : Nat → St → Int32 → Int32 → Option (St × Int32 × Int32)
  | 0, _, _, _ => none
  | n + 1, u, x7, x8 => if (u.1 21) ≤ (u.1 2) then (some (u, x7, x8)) else (cI (f_M_ok u) fun r41 u39 => if r41 = 0 then (some (u39, x7, x8)) else (gd ((u39.1 2) - (u39.1 20)) 2001 (bnd (sa u39 7 ((u39.1 2) - (u39.1 20)).toNatClampNeg (vp_nar .boolean 1)) fun u42 => cV (f_M_instruction u42) fun u43 => f_M_code_L244 x2 x4 x5 n u43 (u39.1 2) (x8 + 1))))
noncomputable def f_M_code_L307 (x2 : Int32) (x4 : Int32) (x5 : Int64) (x7 : Int32) (x8 : Int32) : Nat → St → Int32 → Option (St)
  | 0, _, _ => none
  | n + 1, u, x9 => if (u.1 21) ≤ x9 then (some (u)) else (cI (f_M_ok u) fun r53 u51 => if r53 = 0 then (some (u51)) else (cV (f_M_targets u51 x9) fun u54 => cI (f_M_after u54 x9) fun r58 u56 => f_M_code_L307 x2 x4 x5 x7 x8 n u56 r58))
noncomputable def f_M_code (u : St) (x1 : Int32) (x2 : Int32) : Option (St) := cI (f_M_u2 u) fun r3 u1 => bnd (if 255 < r3 then (0) else (1)) fun (z4 : Int32) => cI (f_M_must u1 z4 15 (u.1 2)) fun r7 u5 => cI (f_M_u2 u5) fun r10 u8 => bnd (sv u8 22 r10) fun u11 => bnd (if 255 < (u11.1 22) then (0) else (1)) fun (z12 : Int32) => cI (f_M_must u11 z12 15 (u5.1 2)) fun r15 u13 => gd ((6 * x2) + 1) 360 (bnd (if (x1 &&& 8) = 0 then (1) else (0)) fun (z16 : Int32) => bnd (if (u13.1 22) < ((u13.2 3 ((6 * x2) + 1).toNatClampNeg) + z16) then (0) else (1)) fun (z17 : Int32) => cI (f_M_must u13 z17 21 (u5.1 2)) fun r20 u18 => cJ (f_M_u4 u18) fun r23 u21 => bnd (if (lg_cmp r23 1) < 0 then (0) else (if 0 < (lg_cmp r23 2000) then (0) else (1))) fun (z24 : Int32) => cI (f_M_must u21 z24 15 (u18.1 2)) fun r27 u25 => cI (f_M_ok u25) fun r30 u28 => if r30 = 0 then (some u28) else (bnd (sv u28 20 (u28.1 2)) fun u31 => bnd (sv u31 21 ((u31.1 20) + (r23).toInt32)) fun u32 => bnd (if (u32.1 1) < (u32.1 21) then (0) else (1)) fun (z33 : Int32) => cI (f_M_must u32 z33 1 (u32.1 1)) fun r36 u34 => if r36 = 0 then (some u34) else (cT (f_M_code_L212 x2 r3 r23 FU u34 0) fun (u38 : St) => cT (f_M_code_L244 x2 r3 r23 FU u38 (u38.1 20) 0) fun (p82 : St × Int32 × Int32) => cI (f_M_ok p82.1) fun r50 u48 => if r50 = 0 then (some u48) else (cT (f_M_code_L307 x2 r3 r23 p82.2.1 p82.2.2 FU u48 (u48.1 20)) fun (u59 : St) => gd p82.2.1 4000 (bnd (if ((u59.2 0 p82.2.1.toNatClampNeg) &&& 255) = 167 then (1) else (if ((u59.2 0 p82.2.1.toNatClampNeg) &&& 255) = 200 then (1) else (if ((u59.2 0 p82.2.1.toNatClampNeg) &&& 255) = 170 then (1) else (if ((u59.2 0 p82.2.1.toNatClampNeg) &&& 255) = 171 then (1) else (if ((u59.2 0 p82.2.1.toNatClampNeg) &&& 255) = 172 then (1) else (if ((u59.2 0 p82.2.1.toNatClampNeg) &&& 255) = 173 then (1) else (if ((u59.2 0 p82.2.1.toNatClampNeg) &&& 255) = 176 then (1) else (if ((u59.2 0 p82.2.1.toNatClampNeg) &&& 255) = 177 then (1) else (if ((u59.2 0 p82.2.1.toNatClampNeg) &&& 255) = 191 then (1) else (0)))))))))) fun (z60 : Int32) => cI (f_M_must u59 z60 27 p82.2.1) fun r63 u61 => cV (f_M_handlers u61) fun u64 => cI (f_M_u2 u64) fun r68 u66 => bnd (if r68 = 0 then (1) else (0)) fun (z69 : Int32) => cI (f_M_must u66 z69 19 (u64.1 2)) fun r72 u70 => gd ((6 * x2) + 2) 360 (bnd (sa u70 3 ((6 * x2) + 2).toNatClampNeg r3) fun u73 => gd ((6 * x2) + 3) 360 (bnd (sa u73 3 ((6 * x2) + 3).toNatClampNeg (u73.1 22)) fun u74 => gd ((6 * x2) + 4) 360 (bnd (sa u74 3 ((6 * x2) + 4).toNatClampNeg p82.2.2) fun u75 => bnd (sv u75 12 ((u75.1 12) + p82.2.2)) fun u76 => bnd (sv u76 13 ((u76.1 13) + (r23).toInt32)) fun u77 => some u77))))))))
set_option maxHeartbeats 4000000 in
set_option maxRecDepth 100000 in
theorem w_M_code_L212 {Z : zT} {D : va_G} {cs : Nat → ClassId} {a : Nat → Nat} {p : Program} {l : Launch} {e : Env} {s : State} {m : MethodId} {args : Array Value} {below : List Frame} {meth : Method} {c : Code} {Q : State → Prop}  {u2 : St} {x2 : Int32} {x4 : Int32} {x5 : Int64} (C : Cx clA R_M prog_9_method_44_code 10 D cs (mW a cs) Z p s m args c) (hE : ∀ (H : Heap) (locs : List Loc) (ls : Array Slot), Dy clA D (mW a cs) s H locs u2 → lv_has ls 10 [(0, .ref (a 0)), (2, .int x2), (4, .int x4), (5, .long x5)] → W p l e rm_M_code s m args below meth c H locs 0 0 Q (F0 m 235 ls [])) : ∀ (n : Nat) (u : St) (x7 : Int32) (H : Heap) (locs : List Loc) (ls : Array Slot), f_M_code_L212 x2 x4 x5 n u x7 = some u2 → Dy clA D (mW a cs) s H locs u → lv_has ls 10 [(0, .ref (a 0)), (2, .int x2), (4, .int x4), (5, .long x5), (7, .int x7)] → W p l e rm_M_code s m args below meth c H locs 0 0 Q (F0 m 212 ls []) := by
  have hx := C.1.1
  have hb := C.1.2.1
  intro n
  induction n with
  | zero =>
    intro u x7 H locs ls hk I hl
    rw [f_M_code_L212] at hk
    cases hk
  | succ n ih =>
    intro u x7 H locs ls hk I hl
    rw [f_M_code_L212] at hk
    refine lv_iload hx hb d_M_code_212 (lv_at hl 4 rfl) ?_
    refine lv_i2l (v := (x7).toInt64) hx hb d_M_code_214 rfl ?_
    refine lv_lload hx hb d_M_code_215 (lv_at hl 3 rfl) ?_
    refine W.lcmp hx hb d_M_code_217 ?_
    refine lv_if_gt (tgt := 235) hx hb d_M_code_218 (by decide) (fun hc => ?_) (fun hc => ?_)
    · replace hk := it_u hc hk
      cases hk
      exact hE _ _ _ I (lv_sub hl [0, 1, 2, 3] rfl)
    · replace hk := ie_u hc hk
      refine lv_aload_n hx hb d_M_code_221 rfl (lv_at hl 0 rfl) ?_
      refine g_M_starts C I k_717 d_M_code_222 ?_
      refine lv_iload hx hb d_M_code_225 (lv_at hl 4 rfl) ?_
      refine lv_iconst (v := 0) hx hb d_M_code_227 (by decide) ?_
      obtain ⟨hi, hk⟩ := gd_u hk
      refine s_M_starts C I hi d_M_code_228 (fun H locs I => ?_)
      obtain ⟨u37, hu, hk⟩ := bnd_u hk
      rw [hu] at I
      clear hu
      refine lv_iinc (v := (x7 + 1)) (lv' := [(7, .int (x7 + 1)), (0, .ref (a 0)), (2, .int x2), (4, .int x4), (5, .long x5)]) hx hb d_M_code_229 hl (k := 4) rfl rfl (by decide) rfl (fun ls hl => ?_)
      refine lv_goto (tgt := 212) hx hb d_M_code_232 (by decide) ?_
      exact ih u37 (x7 + 1) _ _ _ hk I (lv_sub hl [1, 2, 3, 4, 0] rfl)
set_option maxHeartbeats 4000000 in
set_option maxRecDepth 100000 in
theorem w_M_code_L244 {Z : zT} {D : va_G} {cs : Nat → ClassId} {a : Nat → Nat} {p : Program} {l : Launch} {e : Env} {s : State} {m : MethodId} {args : Array Value} {below : List Frame} {meth : Method} {c : Code} {Q : State → Prop}  {u2 : St} {o7 : Int32} {o8 : Int32} {x2 : Int32} {x4 : Int32} {x5 : Int64} (C : Cx clA R_M prog_9_method_44_code 10 D cs (mW a cs) Z p s m args c) (hE : ∀ (H : Heap) (locs : List Loc) (ls : Array Slot), Dy clA D (mW a cs) s H locs u2 → lv_has ls 10 [(0, .ref (a 0)), (2, .int x2), (4, .int x4), (5, .long x5), (7, .int o7), (8, .int o8)] → W p l e rm_M_code s m args below meth c H locs 0 0 Q (F0 m 293 ls [])) : ∀ (n : Nat) (u : St) (x7 : Int32) (x8 : Int32) (H : Heap) (locs : List Loc) (ls : Array Slot), f_M_code_L244 x2 x4 x5 n u x7 x8 = some (u2, o7, o8) → Dy clA D (mW a cs) s H locs u → lv_has ls 10 [(0, .ref (a 0)), (2, .int x2), (4, .int x4), (5, .long x5), (7, .int x7), (8, .int x8)] → W p l e rm_M_code s m args below meth c H locs 0 0 Q (F0 m 244 ls []) := by
  have hx := C.1.1
  have hb := C.1.2.1
  intro n
  induction n with
  | zero =>
    intro u x7 x8 H locs ls hk I hl
    rw [f_M_code_L244] at hk
    cases hk
  | succ n ih =>
    intro u x7 x8 H locs ls hk I hl
    rw [f_M_code_L244] at hk
    refine lv_aload_n hx hb d_M_code_244 rfl (lv_at hl 0 rfl) ?_
    refine g_M_at C I k_697 d_M_code_245 ?_
    refine lv_aload_n hx hb d_M_code_248 rfl (lv_at hl 0 rfl) ?_
    refine g_M_end C I k_726 d_M_code_249 ?_
    refine lv_icmp_ge (tgt := 293) hx hb d_M_code_252 (by decide) (fun hc => ?_) (fun hc => ?_)
    · replace hk := it_u hc hk
      cases hk
      exact hE _ _ _ I (lv_sub hl [0, 1, 2, 3, 4, 5] rfl)
    · replace hk := ie_u hc hk
      refine lv_aload_n hx hb d_M_code_255 rfl (lv_at hl 0 rfl) ?_
      obtain ⟨r41, u39, h40, hk⟩ := cI_u hk
      refine go_I I (call_runV (rest := []) C I (c_M_ok C.2.2.2.1 C.2.2.2.2.1 l h40 _) wd_M_ok (q0 := 0) (ci := 7) rfl rfl k_834 ⟨rfl, rfl⟩ ⟨by decide, by decide⟩ rfl hl.1 rfl (Nat.le_of_ble_eq_true rfl) d_M_code_256) (fun H locs I => ?_)
      refine lv_if_eq (tgt := 293) hx hb d_M_code_259 (by decide) (fun hc => ?_) (fun hc => ?_)
      · replace hk := it_u hc hk
        cases hk
        exact hE _ _ _ I (lv_sub hl [0, 1, 2, 3, 4, 5] rfl)
      · replace hk := ie_u hc hk
        refine lv_aload_n hx hb d_M_code_262 rfl (lv_at hl 0 rfl) ?_
        refine g_M_at C I k_697 d_M_code_263 ?_
        refine lv_istore (lv' := [(7, .int (u39.1 2)), (0, .ref (a 0)), (2, .int x2), (4, .int x4), (5, .long x5), (8, .int x8)]) hx hb d_M_code_266 hl (by decide) rfl (fun ls hl => ?_)
        refine lv_aload_n hx hb d_M_code_268 rfl (lv_at hl 1 rfl) ?_
        refine g_M_starts C I k_717 d_M_code_269 ?_
        refine lv_aload_n hx hb d_M_code_272 rfl (lv_at hl 1 rfl) ?_
        refine g_M_at C I k_697 d_M_code_273 ?_
        refine lv_aload_n hx hb d_M_code_276 rfl (lv_at hl 1 rfl) ?_
        refine g_M_begin C I k_725 d_M_code_277 ?_
        refine lv_isub hx hb d_M_code_280 ?_
        refine lv_iconst (v := 1) hx hb d_M_code_281 (by decide) ?_
        obtain ⟨hi, hk⟩ := gd_u hk
        refine s_M_starts C I hi d_M_code_282 (fun H locs I => ?_)
        obtain ⟨u42, hu, hk⟩ := bnd_u hk
        rw [hu] at I
        clear hu
        refine lv_iinc (v := (x8 + 1)) (lv' := [(8, .int (x8 + 1)), (7, .int (u39.1 2)), (0, .ref (a 0)), (2, .int x2), (4, .int x4), (5, .long x5)]) hx hb d_M_code_283 hl (k := 5) rfl rfl (by decide) rfl (fun ls hl => ?_)
        refine lv_aload_n hx hb d_M_code_286 rfl (lv_at hl 2 rfl) ?_
        obtain ⟨u43, h44, hk⟩ := cV_u hk
        refine go_V I (call_runV (rest := []) C I (c_M_instruction C.2.2.2.1 C.2.2.2.2.1 l h44 _) wd_M_instruction (q0 := 0) (ci := 7) rfl rfl k_981 ⟨rfl, rfl⟩ ⟨by decide, by decide⟩ rfl hl.1 rfl (Nat.le_of_ble_eq_true rfl) d_M_code_287) (fun H locs I => ?_)
        refine lv_goto (tgt := 244) hx hb d_M_code_290 (by decide) ?_
        exact ih u43 (u39.1 2) (x8 + 1) _ _ _ hk I (lv_sub hl [2, 3, 4, 5, 1, 0] rfl)
set_option maxHeartbeats 4000000 in
set_option maxRecDepth 100000 in
theorem w_M_code_L307 {Z : zT} {D : va_G} {cs : Nat → ClassId} {a : Nat → Nat} {p : Program} {l : Launch} {e : Env} {s : State} {m : MethodId} {args : Array Value} {below : List Frame} {meth : Method} {c : Code} {Q : State → Prop}  {u2 : St} {x2 : Int32} {x4 : Int32} {x5 : Int64} {x7 : Int32} {x8 : Int32} (C : Cx clA R_M prog_9_method_44_code 10 D cs (mW a cs) Z p s m args c) (hE : ∀ (H : Heap) (locs : List Loc) (ls : Array Slot), Dy clA D (mW a cs) s H locs u2 → lv_has ls 10 [(0, .ref (a 0)), (2, .int x2), (4, .int x4), (5, .long x5), (7, .int x7), (8, .int x8)] → W p l e rm_M_code s m args below meth c H locs 0 0 Q (F0 m 340 ls [])) : ∀ (n : Nat) (u : St) (x9 : Int32) (H : Heap) (locs : List Loc) (ls : Array Slot), f_M_code_L307 x2 x4 x5 x7 x8 n u x9 = some u2 → Dy clA D (mW a cs) s H locs u → lv_has ls 10 [(0, .ref (a 0)), (2, .int x2), (4, .int x4), (5, .long x5), (7, .int x7), (8, .int x8), (9, .int x9)] → W p l e rm_M_code s m args below meth c H locs 0 0 Q (F0 m 307 ls []) := by
  have hx := C.1.1
  have hb := C.1.2.1
  intro n
  induction n with
  | zero =>
    intro u x9 H locs ls hk I hl
    rw [f_M_code_L307] at hk
    cases hk
  | succ n ih =>
    intro u x9 H locs ls hk I hl
    rw [f_M_code_L307] at hk
    refine lv_iload hx hb d_M_code_307 (lv_at hl 6 rfl) ?_
    refine lv_aload_n hx hb d_M_code_309 rfl (lv_at hl 0 rfl) ?_
    refine g_M_end C I k_726 d_M_code_310 ?_
    refine lv_icmp_ge (tgt := 340) hx hb d_M_code_313 (by decide) (fun hc => ?_) (fun hc => ?_)
    · replace hk := it_u hc hk
      cases hk
      exact hE _ _ _ I (lv_sub hl [0, 1, 2, 3, 4, 5] rfl)
    · replace hk := ie_u hc hk
      refine lv_aload_n hx hb d_M_code_316 rfl (lv_at hl 0 rfl) ?_
      obtain ⟨r53, u51, h52, hk⟩ := cI_u hk
      refine go_I I (call_runV (rest := []) C I (c_M_ok C.2.2.2.1 C.2.2.2.2.1 l h52 _) wd_M_ok (q0 := 0) (ci := 7) rfl rfl k_834 ⟨rfl, rfl⟩ ⟨by decide, by decide⟩ rfl hl.1 rfl (Nat.le_of_ble_eq_true rfl) d_M_code_317) (fun H locs I => ?_)
      refine lv_if_eq (tgt := 340) hx hb d_M_code_320 (by decide) (fun hc => ?_) (fun hc => ?_)
      · replace hk := it_u hc hk
        cases hk
        exact hE _ _ _ I (lv_sub hl [0, 1, 2, 3, 4, 5] rfl)
      · replace hk := ie_u hc hk
        refine lv_aload_n hx hb d_M_code_323 rfl (lv_at hl 0 rfl) ?_
        refine lv_iload hx hb d_M_code_324 (lv_at hl 6 rfl) ?_
        obtain ⟨u54, h55, hk⟩ := cV_u hk
        refine go_V I (call_runV (rest := []) C I (c_M_targets C.2.2.2.1 C.2.2.2.2.1 l h55 _) wd_M_targets (q0 := 0) (ci := 7) rfl rfl k_1028 ⟨rfl, rfl⟩ ⟨by decide, by decide⟩ rfl hl.1 rfl (Nat.le_of_ble_eq_true rfl) d_M_code_326) (fun H locs I => ?_)
        refine lv_aload_n hx hb d_M_code_329 rfl (lv_at hl 0 rfl) ?_
        refine lv_iload hx hb d_M_code_330 (lv_at hl 6 rfl) ?_
        obtain ⟨r58, u56, h57, hk⟩ := cI_u hk
        refine go_I I (call_runV (rest := []) C I (c_M_after C.2.2.2.1 C.2.2.2.2.1 l h57 _) wd_M_after (q0 := 0) (ci := 7) rfl rfl k_1024 ⟨rfl, rfl⟩ ⟨by decide, by decide⟩ rfl hl.1 rfl (Nat.le_of_ble_eq_true rfl) d_M_code_332) (fun H locs I => ?_)
        refine lv_istore (lv' := [(9, .int r58), (0, .ref (a 0)), (2, .int x2), (4, .int x4), (5, .long x5), (7, .int x7), (8, .int x8)]) hx hb d_M_code_335 hl (by decide) rfl (fun ls hl => ?_)
        refine lv_goto (tgt := 307) hx hb d_M_code_337 (by decide) ?_
        exact ih u56 r58 _ _ _ hk I (lv_sub hl [1, 2, 3, 4, 5, 6, 0] rfl)
set_option maxHeartbeats 4000000 in
set_option maxRecDepth 100000 in
theorem c_M_code {Z : zT} {D : va_G} {cs : Nat → ClassId} {a : Nat → Nat} (hw : wD (mW a cs)) (hz : zOK Z) (l : Launch) {u : St} {x1 : Int32} {x2 : Int32} {u' : St} (hk : f_M_code u x1 x2 = some u') : KV clA D cs (mW a cs) Z l y_M_code (.code y_M_code prog_9_method_44_code 10 (Option.none : Option Jvm.ClassFile.FieldType)) rm_M_code [.ref (a 0), .int x1, .int x2] u u' := by
  unfold f_M_code at hk
  refine KV.of (by decide) (Nat.le_of_ble_eq_true rfl) hw hz ?_
  intro p e s m args below meth c Q C I hQ ls hl
  have hl : lv_has ls 10 [(0, .ref (a 0)), (1, .int x1), (2, .int x2)] := hl
  have hx := C.1.1
  have hb := C.1.2.1
  refine lv_aload_n hx hb d_M_code_0 rfl (lv_at hl 0 rfl) ?_
  refine g_M_at C I k_697 d_M_code_1 ?_
  refine lv_istore_n (lv' := [(3, .int (u.1 2)), (0, .ref (a 0)), (1, .int x1), (2, .int x2)]) hx hb d_M_code_4 rfl hl (by decide) rfl (fun ls hl => ?_)
  refine lv_aload_n hx hb d_M_code_5 rfl (lv_at hl 1 rfl) ?_
  obtain ⟨r3, u1, h2, hk⟩ := cI_u hk
  refine go_I I (call_runV (rest := []) C I (c_M_u2 C.2.2.2.1 C.2.2.2.2.1 l h2 _) wd_M_u2 (q0 := 0) (ci := 7) rfl rfl k_826 ⟨rfl, rfl⟩ ⟨by decide, by decide⟩ rfl hl.1 rfl (Nat.le_of_ble_eq_true rfl) d_M_code_6) (fun H locs I => ?_)
  refine lv_istore (lv' := [(4, .int r3), (3, .int (u.1 2)), (0, .ref (a 0)), (1, .int x1), (2, .int x2)]) hx hb d_M_code_9 hl (by decide) rfl (fun ls hl => ?_)
  refine lv_aload_n hx hb d_M_code_11 rfl (lv_at hl 2 rfl) ?_
  refine lv_iload hx hb d_M_code_12 (lv_at hl 0 rfl) ?_
  refine lv_sipush (v := 255) hx hb d_M_code_14 (by decide) ?_
  obtain ⟨z4, hj89, hk⟩ := bnd_u hk
  have Khj89 : ∀ (H : Heap) (locs : List Loc) (ls : Array Slot), Dy clA D (mW a cs) s H locs u1 → lv_has ls 10 [(0, .ref (a 0)), (1, .int x1), (2, .int x2), (3, .int (u.1 2)), (4, .int r3)] → W p l e rm_M_code s m args below meth c H locs 0 0 Q (F0 m 25 ls [.int z4, .ref (a 0)]) := by
    intro H locs ls I hl
    refine lv_bipush (v := 15) hx hb d_M_code_25 (by decide) ?_
    refine lv_iload_n hx hb d_M_code_27 rfl (lv_at hl 3 rfl) ?_
    obtain ⟨r7, u5, h6, hk⟩ := cI_u hk
    refine go_I I (call_runV (rest := []) C I (c_M_must C.2.2.2.1 C.2.2.2.2.1 l h6 _) wd_M_must (q0 := 0) (ci := 7) rfl rfl k_843 ⟨rfl, rfl⟩ ⟨by decide, by decide⟩ rfl hl.1 rfl (Nat.le_of_ble_eq_true rfl) d_M_code_28) (fun H locs I => ?_)
    refine lv_pop hx hb d_M_code_31 rfl ?_
    refine lv_aload_n hx hb d_M_code_32 rfl (lv_at hl 0 rfl) ?_
    refine g_M_at C I k_697 d_M_code_33 ?_
    refine lv_istore_n (lv' := [(3, .int (u5.1 2)), (0, .ref (a 0)), (1, .int x1), (2, .int x2), (4, .int r3)]) hx hb d_M_code_36 rfl hl (by decide) rfl (fun ls hl => ?_)
    refine lv_aload_n hx hb d_M_code_37 rfl (lv_at hl 1 rfl) ?_
    refine lv_aload_n hx hb d_M_code_38 rfl (lv_at hl 1 rfl) ?_
    obtain ⟨r10, u8, h9, hk⟩ := cI_u hk
    refine go_I I (call_runV (rest := [.ref (a 0)]) C I (c_M_u2 C.2.2.2.1 C.2.2.2.2.1 l h9 _) wd_M_u2 (q0 := 0) (ci := 7) rfl rfl k_826 ⟨rfl, rfl⟩ ⟨by decide, by decide⟩ rfl hl.1 rfl (Nat.le_of_ble_eq_true rfl) d_M_code_39) (fun H locs I => ?_)
    refine p_M_locals C I k_727 d_M_code_42 (fun H locs I => ?_)
    obtain ⟨u11, hu, hk⟩ := bnd_u hk
    rw [hu] at I
    clear hu
    refine lv_aload_n hx hb d_M_code_45 rfl (lv_at hl 1 rfl) ?_
    refine lv_aload_n hx hb d_M_code_46 rfl (lv_at hl 1 rfl) ?_
    refine g_M_locals C I k_727 d_M_code_47 ?_
    refine lv_sipush (v := 255) hx hb d_M_code_50 (by decide) ?_
    obtain ⟨z12, hj88, hk⟩ := bnd_u hk
    have Khj88 : ∀ (H : Heap) (locs : List Loc) (ls : Array Slot), Dy clA D (mW a cs) s H locs u11 → lv_has ls 10 [(0, .ref (a 0)), (1, .int x1), (2, .int x2), (3, .int (u5.1 2)), (4, .int r3)] → W p l e rm_M_code s m args below meth c H locs 0 0 Q (F0 m 61 ls [.int z12, .ref (a 0)]) := by
      intro H locs ls I hl
      refine lv_bipush (v := 15) hx hb d_M_code_61 (by decide) ?_
      refine lv_iload_n hx hb d_M_code_63 rfl (lv_at hl 3 rfl) ?_
      obtain ⟨r15, u13, h14, hk⟩ := cI_u hk
      refine go_I I (call_runV (rest := []) C I (c_M_must C.2.2.2.1 C.2.2.2.2.1 l h14 _) wd_M_must (q0 := 0) (ci := 7) rfl rfl k_843 ⟨rfl, rfl⟩ ⟨by decide, by decide⟩ rfl hl.1 rfl (Nat.le_of_ble_eq_true rfl) d_M_code_64) (fun H locs I => ?_)
      refine lv_pop hx hb d_M_code_67 rfl ?_
      refine lv_aload_n hx hb d_M_code_68 rfl (lv_at hl 0 rfl) ?_
      refine lv_aload_n hx hb d_M_code_69 rfl (lv_at hl 0 rfl) ?_
      refine g_M_locals C I k_727 d_M_code_70 ?_
      refine lv_aload_n hx hb d_M_code_73 rfl (lv_at hl 0 rfl) ?_
      refine g_M_facts C I k_713 d_M_code_74 ?_
      refine lv_bipush (v := 6) hx hb d_M_code_77 (by decide) ?_
      refine lv_iload_n hx hb d_M_code_79 rfl (lv_at hl 2 rfl) ?_
      refine lv_imul hx hb d_M_code_80 ?_
      refine lv_iconst (v := 1) hx hb d_M_code_81 (by decide) ?_
      refine lv_iadd hx hb d_M_code_82 ?_
      obtain ⟨hi, hk⟩ := gd_u hk
      refine l_M_facts C I hi d_M_code_83 ?_
      refine lv_iload_n hx hb d_M_code_84 rfl (lv_at hl 1 rfl) ?_
      refine lv_bipush (v := 8) hx hb d_M_code_85 (by decide) ?_
      refine lv_iand hx hb d_M_code_87 ?_
      obtain ⟨z16, hj87, hk⟩ := bnd_u hk
      have Khj87 : ∀ (H : Heap) (locs : List Loc) (ls : Array Slot), Dy clA D (mW a cs) s H locs u13 → lv_has ls 10 [(0, .ref (a 0)), (2, .int x2), (3, .int (u5.1 2)), (4, .int r3)] → W p l e rm_M_code s m args below meth c H locs 0 0 Q (F0 m 96 ls [.int z16, .int (u13.2 3 ((6 * x2) + 1).toNatClampNeg), .int (u13.1 22), .ref (a 0)]) := by
        intro H locs ls I hl
        refine lv_iadd hx hb d_M_code_96 ?_
        obtain ⟨z17, hj86, hk⟩ := bnd_u hk
        have Khj86 : ∀ (H : Heap) (locs : List Loc) (ls : Array Slot), Dy clA D (mW a cs) s H locs u13 → lv_has ls 10 [(0, .ref (a 0)), (2, .int x2), (3, .int (u5.1 2)), (4, .int r3)] → W p l e rm_M_code s m args below meth c H locs 0 0 Q (F0 m 105 ls [.int z17, .ref (a 0)]) := by
          intro H locs ls I hl
          refine lv_bipush (v := 21) hx hb d_M_code_105 (by decide) ?_
          refine lv_iload_n hx hb d_M_code_107 rfl (lv_at hl 2 rfl) ?_
          obtain ⟨r20, u18, h19, hk⟩ := cI_u hk
          refine go_I I (call_runV (rest := []) C I (c_M_must C.2.2.2.1 C.2.2.2.2.1 l h19 _) wd_M_must (q0 := 0) (ci := 7) rfl rfl k_843 ⟨rfl, rfl⟩ ⟨by decide, by decide⟩ rfl hl.1 rfl (Nat.le_of_ble_eq_true rfl) d_M_code_108) (fun H locs I => ?_)
          refine lv_pop hx hb d_M_code_111 rfl ?_
          refine lv_aload_n hx hb d_M_code_112 rfl (lv_at hl 0 rfl) ?_
          refine g_M_at C I k_697 d_M_code_113 ?_
          refine lv_istore_n (lv' := [(3, .int (u18.1 2)), (0, .ref (a 0)), (2, .int x2), (4, .int r3)]) hx hb d_M_code_116 rfl hl (by decide) rfl (fun ls hl => ?_)
          refine lv_aload_n hx hb d_M_code_117 rfl (lv_at hl 1 rfl) ?_
          obtain ⟨r23, u21, h22, hk⟩ := cJ_u hk
          refine go_J I (call_runV (rest := []) C I (c_M_u4 C.2.2.2.1 C.2.2.2.2.1 l h22 _) wd_M_u4 (q0 := 0) (ci := 7) rfl rfl k_822 ⟨rfl, rfl⟩ ⟨by decide, by decide⟩ rfl hl.1 rfl (Nat.le_of_ble_eq_true rfl) d_M_code_118) (fun H locs I => ?_)
          refine lv_lstore (lv' := [(5, .long r23), (3, .int (u18.1 2)), (0, .ref (a 0)), (2, .int x2), (4, .int r3)]) hx hb d_M_code_121 hl (by decide) rfl (fun ls hl => ?_)
          refine lv_aload_n hx hb d_M_code_123 rfl (lv_at hl 2 rfl) ?_
          refine lv_lload hx hb d_M_code_124 (lv_at hl 0 rfl) ?_
          refine lv_lconst (v := 1) hx hb d_M_code_126 (by decide) ?_
          refine W.lcmp hx hb d_M_code_127 ?_
          obtain ⟨z24, hj85, hk⟩ := bnd_u hk
          have Khj85 : ∀ (H : Heap) (locs : List Loc) (ls : Array Slot), Dy clA D (mW a cs) s H locs u21 → lv_has ls 10 [(0, .ref (a 0)), (2, .int x2), (3, .int (u18.1 2)), (4, .int r3), (5, .long r23)] → W p l e rm_M_code s m args below meth c H locs 0 0 Q (F0 m 145 ls [.int z24, .ref (a 0)]) := by
            intro H locs ls I hl
            refine lv_bipush (v := 15) hx hb d_M_code_145 (by decide) ?_
            refine lv_iload_n hx hb d_M_code_147 rfl (lv_at hl 2 rfl) ?_
            obtain ⟨r27, u25, h26, hk⟩ := cI_u hk
            refine go_I I (call_runV (rest := []) C I (c_M_must C.2.2.2.1 C.2.2.2.2.1 l h26 _) wd_M_must (q0 := 0) (ci := 7) rfl rfl k_843 ⟨rfl, rfl⟩ ⟨by decide, by decide⟩ rfl hl.1 rfl (Nat.le_of_ble_eq_true rfl) d_M_code_148) (fun H locs I => ?_)
            refine lv_pop hx hb d_M_code_151 rfl ?_
            refine lv_aload_n hx hb d_M_code_152 rfl (lv_at hl 0 rfl) ?_
            obtain ⟨r30, u28, h29, hk⟩ := cI_u hk
            refine go_I I (call_runV (rest := []) C I (c_M_ok C.2.2.2.1 C.2.2.2.2.1 l h29 _) wd_M_ok (q0 := 0) (ci := 7) rfl rfl k_834 ⟨rfl, rfl⟩ ⟨by decide, by decide⟩ rfl hl.1 rfl (Nat.le_of_ble_eq_true rfl) d_M_code_153) (fun H locs I => ?_)
            refine lv_if_ne (tgt := 160) hx hb d_M_code_156 (by decide) (fun hc => ?_) (fun hc => ?_)
            · replace hk := ie_u hc hk
              refine lv_aload_n hx hb d_M_code_160 rfl (lv_at hl 0 rfl) ?_
              refine lv_aload_n hx hb d_M_code_161 rfl (lv_at hl 0 rfl) ?_
              refine g_M_at C I k_697 d_M_code_162 ?_
              refine p_M_begin C I k_725 d_M_code_165 (fun H locs I => ?_)
              obtain ⟨u31, hu, hk⟩ := bnd_u hk
              rw [hu] at I
              clear hu
              refine lv_aload_n hx hb d_M_code_168 rfl (lv_at hl 0 rfl) ?_
              refine lv_aload_n hx hb d_M_code_169 rfl (lv_at hl 0 rfl) ?_
              refine g_M_begin C I k_725 d_M_code_170 ?_
              refine lv_lload hx hb d_M_code_173 (lv_at hl 4 rfl) ?_
              refine lv_l2i (v := (r23).toInt32) hx hb d_M_code_175 rfl ?_
              refine lv_iadd hx hb d_M_code_176 ?_
              refine p_M_end C I k_726 d_M_code_177 (fun H locs I => ?_)
              obtain ⟨u32, hu, hk⟩ := bnd_u hk
              rw [hu] at I
              clear hu
              refine lv_aload_n hx hb d_M_code_180 rfl (lv_at hl 0 rfl) ?_
              refine lv_aload_n hx hb d_M_code_181 rfl (lv_at hl 0 rfl) ?_
              refine g_M_end C I k_726 d_M_code_182 ?_
              refine lv_aload_n hx hb d_M_code_185 rfl (lv_at hl 0 rfl) ?_
              refine g_M_limit C I k_696 d_M_code_186 ?_
              obtain ⟨z33, hj84, hk⟩ := bnd_u hk
              have Khj84 : ∀ (H : Heap) (locs : List Loc) (ls : Array Slot), Dy clA D (mW a cs) s H locs u32 → lv_has ls 10 [(0, .ref (a 0)), (2, .int x2), (4, .int r3), (5, .long r23)] → W p l e rm_M_code s m args below meth c H locs 0 0 Q (F0 m 197 ls [.int z33, .ref (a 0)]) := by
                intro H locs ls I hl
                refine lv_iconst (v := 1) hx hb d_M_code_197 (by decide) ?_
                refine lv_aload_n hx hb d_M_code_198 rfl (lv_at hl 0 rfl) ?_
                refine g_M_limit C I k_696 d_M_code_199 ?_
                obtain ⟨r36, u34, h35, hk⟩ := cI_u hk
                refine go_I I (call_runV (rest := []) C I (c_M_must C.2.2.2.1 C.2.2.2.2.1 l h35 _) wd_M_must (q0 := 0) (ci := 7) rfl rfl k_843 ⟨rfl, rfl⟩ ⟨by decide, by decide⟩ rfl hl.1 rfl (Nat.le_of_ble_eq_true rfl) d_M_code_202) (fun H locs I => ?_)
                refine lv_if_ne (tgt := 209) hx hb d_M_code_205 (by decide) (fun hc => ?_) (fun hc => ?_)
                · replace hk := ie_u hc hk
                  refine lv_iconst (v := 0) hx hb d_M_code_209 (by decide) ?_
                  refine lv_istore (lv' := [(7, .int 0), (0, .ref (a 0)), (2, .int x2), (4, .int r3), (5, .long r23)]) hx hb d_M_code_210 hl (by decide) rfl (fun ls hl => ?_)
                  obtain ⟨u38, hj83, hk⟩ := cT_u hk
                  refine w_M_code_L212 C (fun H locs ls I hl => ?_) FU u34 0 _ _ _ hj83 I (lv_sub hl [1, 2, 3, 4, 0] rfl)
                  refine lv_aload_n hx hb d_M_code_235 rfl (lv_at hl 0 rfl) ?_
                  refine g_M_begin C I k_725 d_M_code_236 ?_
                  refine lv_istore (lv' := [(7, .int (u38.1 20)), (0, .ref (a 0)), (2, .int x2), (4, .int r3), (5, .long r23)]) hx hb d_M_code_239 hl (by decide) rfl (fun ls hl => ?_)
                  refine lv_iconst (v := 0) hx hb d_M_code_241 (by decide) ?_
                  refine lv_istore (lv' := [(8, .int 0), (7, .int (u38.1 20)), (0, .ref (a 0)), (2, .int x2), (4, .int r3), (5, .long r23)]) hx hb d_M_code_242 hl (by decide) rfl (fun ls hl => ?_)
                  obtain ⟨⟨u45, z46, z47⟩, hj81, hk⟩ := cT_u hk
                  refine w_M_code_L244 C (fun H locs ls I hl => ?_) FU u38 (u38.1 20) 0 _ _ _ hj81 I (lv_sub hl [2, 3, 4, 5, 1, 0] rfl)
                  refine lv_aload_n hx hb d_M_code_293 rfl (lv_at hl 0 rfl) ?_
                  obtain ⟨r50, u48, h49, hk⟩ := cI_u hk
                  refine go_I I (call_runV (rest := []) C I (c_M_ok C.2.2.2.1 C.2.2.2.2.1 l h49 _) wd_M_ok (q0 := 0) (ci := 7) rfl rfl k_834 ⟨rfl, rfl⟩ ⟨by decide, by decide⟩ rfl hl.1 rfl (Nat.le_of_ble_eq_true rfl) d_M_code_294) (fun H locs I => ?_)
                  refine lv_if_ne (tgt := 301) hx hb d_M_code_297 (by decide) (fun hc => ?_) (fun hc => ?_)
                  · replace hk := ie_u hc hk
                    refine lv_aload_n hx hb d_M_code_301 rfl (lv_at hl 0 rfl) ?_
                    refine g_M_begin C I k_725 d_M_code_302 ?_
                    refine lv_istore (lv' := [(9, .int (u48.1 20)), (0, .ref (a 0)), (2, .int x2), (4, .int r3), (5, .long r23), (7, .int z46), (8, .int z47)]) hx hb d_M_code_305 hl (by decide) rfl (fun ls hl => ?_)
                    obtain ⟨u59, hj80, hk⟩ := cT_u hk
                    refine w_M_code_L307 C (fun H locs ls I hl => ?_) FU u48 (u48.1 20) _ _ _ hj80 I (lv_sub hl [1, 2, 3, 4, 5, 6, 0] rfl)
                    refine lv_aload_n hx hb d_M_code_340 rfl (lv_at hl 0 rfl) ?_
                    refine g_M_file C I k_694 d_M_code_341 ?_
                    refine lv_iload hx hb d_M_code_344 (lv_at hl 4 rfl) ?_
                    obtain ⟨hi, hk⟩ := gd_u hk
                    refine l_M_file C I hi d_M_code_346 ?_
                    refine lv_sipush (v := 255) hx hb d_M_code_347 (by decide) ?_
                    refine lv_iand hx hb d_M_code_350 ?_
                    refine lv_istore (lv' := [(9, .int ((u59.2 0 z46.toNatClampNeg) &&& 255)), (0, .ref (a 0)), (2, .int x2), (4, .int r3), (5, .long r23), (7, .int z46), (8, .int z47)]) hx hb d_M_code_351 hl (by decide) rfl (fun ls hl => ?_)
                    refine lv_aload_n hx hb d_M_code_353 rfl (lv_at hl 1 rfl) ?_
                    refine lv_iload hx hb d_M_code_354 (lv_at hl 0 rfl) ?_
                    refine lv_sipush (v := 167) hx hb d_M_code_356 (by decide) ?_
                    obtain ⟨z60, hj79, hk⟩ := bnd_u hk
                    have Khj79 : ∀ (H : Heap) (locs : List Loc) (ls : Array Slot), Dy clA D (mW a cs) s H locs u59 → lv_has ls 10 [(0, .ref (a 0)), (2, .int x2), (4, .int r3), (5, .long r23), (7, .int z46), (8, .int z47)] → W p l e rm_M_code s m args below meth c H locs 0 0 Q (F0 m 431 ls [.int z60, .ref (a 0)]) := by
                      intro H locs ls I hl
                      refine lv_bipush (v := 27) hx hb d_M_code_431 (by decide) ?_
                      refine lv_iload hx hb d_M_code_433 (lv_at hl 4 rfl) ?_
                      obtain ⟨r63, u61, h62, hk⟩ := cI_u hk
                      refine go_I I (call_runV (rest := []) C I (c_M_must C.2.2.2.1 C.2.2.2.2.1 l h62 _) wd_M_must (q0 := 0) (ci := 7) rfl rfl k_843 ⟨rfl, rfl⟩ ⟨by decide, by decide⟩ rfl hl.1 rfl (Nat.le_of_ble_eq_true rfl) d_M_code_435) (fun H locs I => ?_)
                      refine lv_pop hx hb d_M_code_438 rfl ?_
                      refine lv_aload_n hx hb d_M_code_439 rfl (lv_at hl 0 rfl) ?_
                      obtain ⟨u64, h65, hk⟩ := cV_u hk
                      refine go_V I (call_runV (rest := []) C I (c_M_handlers C.2.2.2.1 C.2.2.2.2.1 l h65 _) wd_M_handlers (q0 := 0) (ci := 7) rfl rfl k_1036 ⟨rfl, rfl⟩ ⟨by decide, by decide⟩ rfl hl.1 rfl (Nat.le_of_ble_eq_true rfl) d_M_code_440) (fun H locs I => ?_)
                      refine lv_aload_n hx hb d_M_code_443 rfl (lv_at hl 0 rfl) ?_
                      refine g_M_at C I k_697 d_M_code_444 ?_
                      refine lv_istore_n (lv' := [(3, .int (u64.1 2)), (0, .ref (a 0)), (2, .int x2), (4, .int r3), (5, .long r23), (7, .int z46), (8, .int z47)]) hx hb d_M_code_447 rfl hl (by decide) rfl (fun ls hl => ?_)
                      refine lv_aload_n hx hb d_M_code_448 rfl (lv_at hl 1 rfl) ?_
                      refine lv_aload_n hx hb d_M_code_449 rfl (lv_at hl 1 rfl) ?_
                      obtain ⟨r68, u66, h67, hk⟩ := cI_u hk
                      refine go_I I (call_runV (rest := [.ref (a 0)]) C I (c_M_u2 C.2.2.2.1 C.2.2.2.2.1 l h67 _) wd_M_u2 (q0 := 0) (ci := 7) rfl rfl k_826 ⟨rfl, rfl⟩ ⟨by decide, by decide⟩ rfl hl.1 rfl (Nat.le_of_ble_eq_true rfl) d_M_code_450) (fun H locs I => ?_)
                      obtain ⟨z69, hj78, hk⟩ := bnd_u hk
                      have Khj78 : ∀ (H : Heap) (locs : List Loc) (ls : Array Slot), Dy clA D (mW a cs) s H locs u66 → lv_has ls 10 [(0, .ref (a 0)), (2, .int x2), (3, .int (u64.1 2)), (4, .int r3), (5, .long r23), (8, .int z47)] → W p l e rm_M_code s m args below meth c H locs 0 0 Q (F0 m 461 ls [.int z69, .ref (a 0)]) := by
                        intro H locs ls I hl
                        refine lv_bipush (v := 19) hx hb d_M_code_461 (by decide) ?_
                        refine lv_iload_n hx hb d_M_code_463 rfl (lv_at hl 2 rfl) ?_
                        obtain ⟨r72, u70, h71, hk⟩ := cI_u hk
                        refine go_I I (call_runV (rest := []) C I (c_M_must C.2.2.2.1 C.2.2.2.2.1 l h71 _) wd_M_must (q0 := 0) (ci := 7) rfl rfl k_843 ⟨rfl, rfl⟩ ⟨by decide, by decide⟩ rfl hl.1 rfl (Nat.le_of_ble_eq_true rfl) d_M_code_464) (fun H locs I => ?_)
                        refine lv_pop hx hb d_M_code_467 rfl ?_
                        refine lv_aload_n hx hb d_M_code_468 rfl (lv_at hl 0 rfl) ?_
                        refine g_M_facts C I k_713 d_M_code_469 ?_
                        refine lv_bipush (v := 6) hx hb d_M_code_472 (by decide) ?_
                        refine lv_iload_n hx hb d_M_code_474 rfl (lv_at hl 1 rfl) ?_
                        refine lv_imul hx hb d_M_code_475 ?_
                        refine lv_iconst (v := 2) hx hb d_M_code_476 (by decide) ?_
                        refine lv_iadd hx hb d_M_code_477 ?_
                        refine lv_iload hx hb d_M_code_478 (lv_at hl 3 rfl) ?_
                        obtain ⟨hi, hk⟩ := gd_u hk
                        refine s_M_facts C I hi d_M_code_480 (fun H locs I => ?_)
                        obtain ⟨u73, hu, hk⟩ := bnd_u hk
                        rw [hu] at I
                        clear hu
                        refine lv_aload_n hx hb d_M_code_481 rfl (lv_at hl 0 rfl) ?_
                        refine g_M_facts C I k_713 d_M_code_482 ?_
                        refine lv_bipush (v := 6) hx hb d_M_code_485 (by decide) ?_
                        refine lv_iload_n hx hb d_M_code_487 rfl (lv_at hl 1 rfl) ?_
                        refine lv_imul hx hb d_M_code_488 ?_
                        refine lv_iconst (v := 3) hx hb d_M_code_489 (by decide) ?_
                        refine lv_iadd hx hb d_M_code_490 ?_
                        refine lv_aload_n hx hb d_M_code_491 rfl (lv_at hl 0 rfl) ?_
                        refine g_M_locals C I k_727 d_M_code_492 ?_
                        obtain ⟨hi, hk⟩ := gd_u hk
                        refine s_M_facts C I hi d_M_code_495 (fun H locs I => ?_)
                        obtain ⟨u74, hu, hk⟩ := bnd_u hk
                        rw [hu] at I
                        clear hu
                        refine lv_aload_n hx hb d_M_code_496 rfl (lv_at hl 0 rfl) ?_
                        refine g_M_facts C I k_713 d_M_code_497 ?_
                        refine lv_bipush (v := 6) hx hb d_M_code_500 (by decide) ?_
                        refine lv_iload_n hx hb d_M_code_502 rfl (lv_at hl 1 rfl) ?_
                        refine lv_imul hx hb d_M_code_503 ?_
                        refine lv_iconst (v := 4) hx hb d_M_code_504 (by decide) ?_
                        refine lv_iadd hx hb d_M_code_505 ?_
                        refine lv_iload hx hb d_M_code_506 (lv_at hl 5 rfl) ?_
                        obtain ⟨hi, hk⟩ := gd_u hk
                        refine s_M_facts C I hi d_M_code_508 (fun H locs I => ?_)
                        obtain ⟨u75, hu, hk⟩ := bnd_u hk
                        rw [hu] at I
                        clear hu
                        refine lv_aload_n hx hb d_M_code_509 rfl (lv_at hl 0 rfl) ?_
                        refine lv_dup hx hb d_M_code_510 rfl ?_
                        refine g_M_instructions C I k_709 d_M_code_511 ?_
                        refine lv_iload hx hb d_M_code_514 (lv_at hl 5 rfl) ?_
                        refine lv_iadd hx hb d_M_code_516 ?_
                        refine p_M_instructions C I k_709 d_M_code_517 (fun H locs I => ?_)
                        obtain ⟨u76, hu, hk⟩ := bnd_u hk
                        rw [hu] at I
                        clear hu
                        refine lv_aload_n hx hb d_M_code_520 rfl (lv_at hl 0 rfl) ?_
                        refine lv_dup hx hb d_M_code_521 rfl ?_
                        refine g_M_bytes C I k_710 d_M_code_522 ?_
                        refine lv_lload hx hb d_M_code_525 (lv_at hl 4 rfl) ?_
                        refine lv_l2i (v := (r23).toInt32) hx hb d_M_code_527 rfl ?_
                        refine lv_iadd hx hb d_M_code_528 ?_
                        refine p_M_bytes C I k_710 d_M_code_529 (fun H locs I => ?_)
                        obtain ⟨u77, hu, hk⟩ := bnd_u hk
                        rw [hu] at I
                        clear hu
                        exact hQ _ _ _ _ _ I hk d_M_code_532
                      refine lv_if_ne (tgt := 460) hx hb d_M_code_453 (by decide) (fun hc => ?_) (fun hc => ?_)
                      · replace hj78 := ie_u hc hj78
                        refine lv_iconst (v := 0) hx hb d_M_code_460 (by decide) ?_
                        cases hj78
                        exact Khj78 _ _ _ I (lv_sub hl [1, 2, 0, 3, 4, 6] rfl)
                      · replace hj78 := it_u hc hj78
                        refine lv_iconst (v := 1) hx hb d_M_code_456 (by decide) ?_
                        refine lv_goto (tgt := 461) hx hb d_M_code_457 (by decide) ?_
                        cases hj78
                        exact Khj78 _ _ _ I (lv_sub hl [1, 2, 0, 3, 4, 6] rfl)
                    refine lv_icmp_eq (tgt := 426) hx hb d_M_code_359 (by decide) (fun hc => ?_) (fun hc => ?_)
                    · replace hj79 := it_u hc hj79
                      refine lv_iconst (v := 1) hx hb d_M_code_426 (by decide) ?_
                      refine lv_goto (tgt := 431) hx hb d_M_code_427 (by decide) ?_
                      cases hj79
                      exact Khj79 _ _ _ I (lv_sub hl [1, 2, 3, 4, 5, 6] rfl)
                    · replace hj79 := ie_u hc hj79
                      refine lv_iload hx hb d_M_code_362 (lv_at hl 0 rfl) ?_
                      refine lv_sipush (v := 200) hx hb d_M_code_364 (by decide) ?_
                      refine lv_icmp_eq (tgt := 426) hx hb d_M_code_367 (by decide) (fun hc => ?_) (fun hc => ?_)
                      · replace hj79 := it_u hc hj79
                        refine lv_iconst (v := 1) hx hb d_M_code_426 (by decide) ?_
                        refine lv_goto (tgt := 431) hx hb d_M_code_427 (by decide) ?_
                        cases hj79
                        exact Khj79 _ _ _ I (lv_sub hl [1, 2, 3, 4, 5, 6] rfl)
                      · replace hj79 := ie_u hc hj79
                        refine lv_iload hx hb d_M_code_370 (lv_at hl 0 rfl) ?_
                        refine lv_sipush (v := 170) hx hb d_M_code_372 (by decide) ?_
                        refine lv_icmp_eq (tgt := 426) hx hb d_M_code_375 (by decide) (fun hc => ?_) (fun hc => ?_)
                        · replace hj79 := it_u hc hj79
                          refine lv_iconst (v := 1) hx hb d_M_code_426 (by decide) ?_
                          refine lv_goto (tgt := 431) hx hb d_M_code_427 (by decide) ?_
                          cases hj79
                          exact Khj79 _ _ _ I (lv_sub hl [1, 2, 3, 4, 5, 6] rfl)
                        · replace hj79 := ie_u hc hj79
                          refine lv_iload hx hb d_M_code_378 (lv_at hl 0 rfl) ?_
                          refine lv_sipush (v := 171) hx hb d_M_code_380 (by decide) ?_
                          refine lv_icmp_eq (tgt := 426) hx hb d_M_code_383 (by decide) (fun hc => ?_) (fun hc => ?_)
                          · replace hj79 := it_u hc hj79
                            refine lv_iconst (v := 1) hx hb d_M_code_426 (by decide) ?_
                            refine lv_goto (tgt := 431) hx hb d_M_code_427 (by decide) ?_
                            cases hj79
                            exact Khj79 _ _ _ I (lv_sub hl [1, 2, 3, 4, 5, 6] rfl)
                          · replace hj79 := ie_u hc hj79
                            refine lv_iload hx hb d_M_code_386 (lv_at hl 0 rfl) ?_
                            refine lv_sipush (v := 172) hx hb d_M_code_388 (by decide) ?_
                            refine lv_icmp_eq (tgt := 426) hx hb d_M_code_391 (by decide) (fun hc => ?_) (fun hc => ?_)
                            · replace hj79 := it_u hc hj79
                              refine lv_iconst (v := 1) hx hb d_M_code_426 (by decide) ?_
                              refine lv_goto (tgt := 431) hx hb d_M_code_427 (by decide) ?_
                              cases hj79
                              exact Khj79 _ _ _ I (lv_sub hl [1, 2, 3, 4, 5, 6] rfl)
                            · replace hj79 := ie_u hc hj79
                              refine lv_iload hx hb d_M_code_394 (lv_at hl 0 rfl) ?_
                              refine lv_sipush (v := 173) hx hb d_M_code_396 (by decide) ?_
                              refine lv_icmp_eq (tgt := 426) hx hb d_M_code_399 (by decide) (fun hc => ?_) (fun hc => ?_)
                              · replace hj79 := it_u hc hj79
                                refine lv_iconst (v := 1) hx hb d_M_code_426 (by decide) ?_
                                refine lv_goto (tgt := 431) hx hb d_M_code_427 (by decide) ?_
                                cases hj79
                                exact Khj79 _ _ _ I (lv_sub hl [1, 2, 3, 4, 5, 6] rfl)
                              · replace hj79 := ie_u hc hj79
                                refine lv_iload hx hb d_M_code_402 (lv_at hl 0 rfl) ?_
                                refine lv_sipush (v := 176) hx hb d_M_code_404 (by decide) ?_
                                refine lv_icmp_eq (tgt := 426) hx hb d_M_code_407 (by decide) (fun hc => ?_) (fun hc => ?_)
                                · replace hj79 := it_u hc hj79
                                  refine lv_iconst (v := 1) hx hb d_M_code_426 (by decide) ?_
                                  refine lv_goto (tgt := 431) hx hb d_M_code_427 (by decide) ?_
                                  cases hj79
                                  exact Khj79 _ _ _ I (lv_sub hl [1, 2, 3, 4, 5, 6] rfl)
                                · replace hj79 := ie_u hc hj79
                                  refine lv_iload hx hb d_M_code_410 (lv_at hl 0 rfl) ?_
                                  refine lv_sipush (v := 177) hx hb d_M_code_412 (by decide) ?_
                                  refine lv_icmp_eq (tgt := 426) hx hb d_M_code_415 (by decide) (fun hc => ?_) (fun hc => ?_)
                                  · replace hj79 := it_u hc hj79
                                    refine lv_iconst (v := 1) hx hb d_M_code_426 (by decide) ?_
                                    refine lv_goto (tgt := 431) hx hb d_M_code_427 (by decide) ?_
                                    cases hj79
                                    exact Khj79 _ _ _ I (lv_sub hl [1, 2, 3, 4, 5, 6] rfl)
                                  · replace hj79 := ie_u hc hj79
                                    refine lv_iload hx hb d_M_code_418 (lv_at hl 0 rfl) ?_
                                    refine lv_sipush (v := 191) hx hb d_M_code_420 (by decide) ?_
                                    refine lv_icmp_ne (tgt := 430) hx hb d_M_code_423 (by decide) (fun hc => ?_) (fun hc => ?_)
                                    · replace hj79 := ie_u hc hj79
                                      refine lv_iconst (v := 0) hx hb d_M_code_430 (by decide) ?_
                                      cases hj79
                                      exact Khj79 _ _ _ I (lv_sub hl [1, 2, 3, 4, 5, 6] rfl)
                                    · replace hj79 := it_u hc hj79
                                      refine lv_iconst (v := 1) hx hb d_M_code_426 (by decide) ?_
                                      refine lv_goto (tgt := 431) hx hb d_M_code_427 (by decide) ?_
                                      cases hj79
                                      exact Khj79 _ _ _ I (lv_sub hl [1, 2, 3, 4, 5, 6] rfl)
                  · replace hk := it_u hc hk
                    exact hQ _ _ _ _ _ I hk d_M_code_300
                · replace hk := it_u hc hk
                  exact hQ _ _ _ _ _ I hk d_M_code_208
              refine lv_icmp_gt (tgt := 196) hx hb d_M_code_189 (by decide) (fun hc => ?_) (fun hc => ?_)
              · replace hj84 := it_u hc hj84
                refine lv_iconst (v := 0) hx hb d_M_code_196 (by decide) ?_
                cases hj84
                exact Khj84 _ _ _ I (lv_sub hl [0, 1, 3, 4] rfl)
              · replace hj84 := ie_u hc hj84
                refine lv_iconst (v := 1) hx hb d_M_code_192 (by decide) ?_
                refine lv_goto (tgt := 197) hx hb d_M_code_193 (by decide) ?_
                cases hj84
                exact Khj84 _ _ _ I (lv_sub hl [0, 1, 3, 4] rfl)
            · replace hk := it_u hc hk
              exact hQ _ _ _ _ _ I hk d_M_code_159
          refine lv_if_lt (tgt := 144) hx hb d_M_code_128 (by decide) (fun hc => ?_) (fun hc => ?_)
          · replace hj85 := it_u hc hj85
            refine lv_iconst (v := 0) hx hb d_M_code_144 (by decide) ?_
            cases hj85
            exact Khj85 _ _ _ I (lv_sub hl [2, 3, 1, 4, 0] rfl)
          · replace hj85 := ie_u hc hj85
            refine lv_lload hx hb d_M_code_131 (lv_at hl 0 rfl) ?_
            refine lv_ldc2 hx hb C.1.2.2.2 (C.2.1 _ k_980) d_M_code_133 ?_
            refine W.lcmp hx hb d_M_code_136 ?_
            refine lv_if_gt (tgt := 144) hx hb d_M_code_137 (by decide) (fun hc => ?_) (fun hc => ?_)
            · replace hj85 := it_u hc hj85
              refine lv_iconst (v := 0) hx hb d_M_code_144 (by decide) ?_
              cases hj85
              exact Khj85 _ _ _ I (lv_sub hl [2, 3, 1, 4, 0] rfl)
            · replace hj85 := ie_u hc hj85
              refine lv_iconst (v := 1) hx hb d_M_code_140 (by decide) ?_
              refine lv_goto (tgt := 145) hx hb d_M_code_141 (by decide) ?_
              cases hj85
              exact Khj85 _ _ _ I (lv_sub hl [2, 3, 1, 4, 0] rfl)
        refine lv_icmp_lt (tgt := 104) hx hb d_M_code_97 (by decide) (fun hc => ?_) (fun hc => ?_)
        · replace hj86 := it_u hc hj86
          refine lv_iconst (v := 0) hx hb d_M_code_104 (by decide) ?_
          cases hj86
          exact Khj86 _ _ _ I (lv_sub hl [0, 1, 2, 3] rfl)
        · replace hj86 := ie_u hc hj86
          refine lv_iconst (v := 1) hx hb d_M_code_100 (by decide) ?_
          refine lv_goto (tgt := 105) hx hb d_M_code_101 (by decide) ?_
          cases hj86
          exact Khj86 _ _ _ I (lv_sub hl [0, 1, 2, 3] rfl)
      refine lv_if_ne (tgt := 95) hx hb d_M_code_88 (by decide) (fun hc => ?_) (fun hc => ?_)
      · replace hj87 := ie_u hc hj87
        refine lv_iconst (v := 0) hx hb d_M_code_95 (by decide) ?_
        cases hj87
        exact Khj87 _ _ _ I (lv_sub hl [0, 2, 3, 4] rfl)
      · replace hj87 := it_u hc hj87
        refine lv_iconst (v := 1) hx hb d_M_code_91 (by decide) ?_
        refine lv_goto (tgt := 96) hx hb d_M_code_92 (by decide) ?_
        cases hj87
        exact Khj87 _ _ _ I (lv_sub hl [0, 2, 3, 4] rfl)
    refine lv_icmp_gt (tgt := 60) hx hb d_M_code_53 (by decide) (fun hc => ?_) (fun hc => ?_)
    · replace hj88 := it_u hc hj88
      refine lv_iconst (v := 0) hx hb d_M_code_60 (by decide) ?_
      cases hj88
      exact Khj88 _ _ _ I (lv_sub hl [1, 2, 3, 0, 4] rfl)
    · replace hj88 := ie_u hc hj88
      refine lv_iconst (v := 1) hx hb d_M_code_56 (by decide) ?_
      refine lv_goto (tgt := 61) hx hb d_M_code_57 (by decide) ?_
      cases hj88
      exact Khj88 _ _ _ I (lv_sub hl [1, 2, 3, 0, 4] rfl)
  refine lv_icmp_gt (tgt := 24) hx hb d_M_code_17 (by decide) (fun hc => ?_) (fun hc => ?_)
  · replace hj89 := it_u hc hj89
    refine lv_iconst (v := 0) hx hb d_M_code_24 (by decide) ?_
    cases hj89
    exact Khj89 _ _ _ I (lv_sub hl [2, 3, 4, 1, 0] rfl)
  · replace hj89 := ie_u hc hj89
    refine lv_iconst (v := 1) hx hb d_M_code_20 (by decide) ?_
    refine lv_goto (tgt := 25) hx hb d_M_code_21 (by decide) ?_
    cases hj89
    exact Khj89 _ _ _ I (lv_sub hl [2, 3, 4, 1, 0] rfl)
