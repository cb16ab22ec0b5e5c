theorem d_C_isFirst_0 : decode prog_2_method_15_code 0 = .ok (.iload_n 1, 1) := by decide +kernel
theorem d_C_isFirst_1 : decode prog_2_method_15_code 1 = .ok (.ifCond .lt 32, 3) := by decide +kernel
theorem d_C_isFirst_4 : decode prog_2_method_15_code 4 = .ok (.iload_n 1, 1) := by decide +kernel
theorem d_C_isFirst_5 : decode prog_2_method_15_code 5 = .ok (.aload_n 0, 1) := by decide +kernel
theorem d_C_isFirst_6 : decode prog_2_method_15_code 6 = .ok (.getfield 36, 3) := by decide +kernel
theorem d_C_isFirst_9 : decode prog_2_method_15_code 9 = .ok (.if_icmp .ge 24, 3) := by decide +kernel
theorem d_C_isFirst_12 : decode prog_2_method_15_code 12 = .ok (.iload_n 1, 1) := by decide +kernel
theorem d_C_isFirst_13 : decode prog_2_method_15_code 13 = .ok (.sipush 2000, 3) := by decide +kernel
theorem d_C_isFirst_16 : decode prog_2_method_15_code 16 = .ok (.if_icmp .ge 17, 3) := by decide +kernel
theorem d_C_isFirst_19 : decode prog_2_method_15_code 19 = .ok (.aload_n 0, 1) := by decide +kernel
theorem d_C_isFirst_20 : decode prog_2_method_15_code 20 = .ok (.getfield 9, 3) := by decide +kernel
theorem d_C_isFirst_23 : decode prog_2_method_15_code 23 = .ok (.iload_n 1, 1) := by decide +kernel
theorem d_C_isFirst_24 : decode prog_2_method_15_code 24 = .ok (.baload, 1) := by decide +kernel
theorem d_C_isFirst_25 : decode prog_2_method_15_code 25 = .ok (.iconst 1, 1) := by decide +kernel
theorem d_C_isFirst_26 : decode prog_2_method_15_code 26 = .ok (.if_icmp .ne 7, 3) := by decide +kernel
theorem d_C_isFirst_29 : decode prog_2_method_15_code 29 = .ok (.iconst 1, 1) := by decide +kernel
theorem d_C_isFirst_30 : decode prog_2_method_15_code 30 = .ok (.goto 4, 3) := by decide +kernel
theorem d_C_isFirst_33 : decode prog_2_method_15_code 33 = .ok (.iconst 0, 1) := by decide +kernel
theorem d_C_isFirst_34 : decode prog_2_method_15_code 34 = .ok (.ireturn, 1) := by decide +kernel
theorem d_C_mayBeLast_0 : decode prog_2_method_16_code 0 = .ok (.iload_n 0, 1) := by decide +kernel
theorem d_C_mayBeLast_1 : decode prog_2_method_16_code 1 = .ok (.tableswitch 153 167 200 #[151, 153, 153, 151, 151, 151, 151, 153, 153, 151, 151, 153, 153, 153, 153, 153, 153, 153, 153, 153, 153, 153, 153, 153, 151, 153, 153, 153, 153, 153, 153, 153, 153, 151], 151) := by decide +kernel
theorem d_C_mayBeLast_152 : decode prog_2_method_16_code 152 = .ok (.iconst 1, 1) := by decide +kernel
theorem d_C_mayBeLast_153 : decode prog_2_method_16_code 153 = .ok (.ireturn, 1) := by decide +kernel
theorem d_C_mayBeLast_154 : decode prog_2_method_16_code 154 = .ok (.iconst 0, 1) := by decide +kernel
theorem d_C_mayBeLast_155 : decode prog_2_method_16_code 155 = .ok (.ireturn, 1) := by decide +kernel
theorem d_C_readRows_0 : decode prog_2_method_17_code 0 = .ok (.aload_n 0, 1) := by decide +kernel
theorem d_C_readRows_1 : decode prog_2_method_17_code 1 = .ok (.getfield 20, 3) := by decide +kernel
theorem d_C_readRows_4 : decode prog_2_method_17_code 4 = .ok (.getfield 78, 3) := by decide +kernel
theorem d_C_readRows_7 : decode prog_2_method_17_code 7 = .ok (.istore_n 1, 1) := by decide +kernel
theorem d_C_readRows_8 : decode prog_2_method_17_code 8 = .ok (.aload_n 0, 1) := by decide +kernel
theorem d_C_readRows_9 : decode prog_2_method_17_code 9 = .ok (.aload_n 0, 1) := by decide +kernel
theorem d_C_readRows_10 : decode prog_2_method_17_code 10 = .ok (.getfield 20, 3) := by decide +kernel
theorem d_C_readRows_13 : decode prog_2_method_17_code 13 = .ok (.iconst 2, 1) := by decide +kernel
theorem d_C_readRows_14 : decode prog_2_method_17_code 14 = .ok (.invokevirtual 84, 3) := by decide +kernel
theorem d_C_readRows_17 : decode prog_2_method_17_code 17 = .ok (.putfield 96, 3) := by decide +kernel
theorem d_C_readRows_20 : decode prog_2_method_17_code 20 = .ok (.aload_n 0, 1) := by decide +kernel
theorem d_C_readRows_21 : decode prog_2_method_17_code 21 = .ok (.getfield 20, 3) := by decide +kernel
theorem d_C_readRows_24 : decode prog_2_method_17_code 24 = .ok (.aload_n 0, 1) := by decide +kernel
theorem d_C_readRows_25 : decode prog_2_method_17_code 25 = .ok (.getfield 96, 3) := by decide +kernel
theorem d_C_readRows_28 : decode prog_2_method_17_code 28 = .ok (.bipush 30, 2) := by decide +kernel
theorem d_C_readRows_30 : decode prog_2_method_17_code 30 = .ok (.if_icmp .gt 7, 3) := by decide +kernel
theorem d_C_readRows_33 : decode prog_2_method_17_code 33 = .ok (.iconst 1, 1) := by decide +kernel
theorem d_C_readRows_34 : decode prog_2_method_17_code 34 = .ok (.goto 4, 3) := by decide +kernel
theorem d_C_readRows_37 : decode prog_2_method_17_code 37 = .ok (.iconst 0, 1) := by decide +kernel
theorem d_C_readRows_38 : decode prog_2_method_17_code 38 = .ok (.bipush 15, 2) := by decide +kernel
theorem d_C_readRows_40 : decode prog_2_method_17_code 40 = .ok (.iload_n 1, 1) := by decide +kernel
theorem d_C_readRows_41 : decode prog_2_method_17_code 41 = .ok (.invokevirtual 68, 3) := by decide +kernel
theorem d_C_readRows_44 : decode prog_2_method_17_code 44 = .ok (.iconst 0, 1) := by decide +kernel
theorem d_C_readRows_45 : decode prog_2_method_17_code 45 = .ok (.istore_n 2, 1) := by decide +kernel
theorem d_C_readRows_46 : decode prog_2_method_17_code 46 = .ok (.iload_n 2, 1) := by decide +kernel
theorem d_C_readRows_47 : decode prog_2_method_17_code 47 = .ok (.aload_n 0, 1) := by decide +kernel
theorem d_C_readRows_48 : decode prog_2_method_17_code 48 = .ok (.getfield 96, 3) := by decide +kernel
theorem d_C_readRows_51 : decode prog_2_method_17_code 51 = .ok (.if_icmp .ge 171, 3) := by decide +kernel
theorem d_C_readRows_54 : decode prog_2_method_17_code 54 = .ok (.aload_n 0, 1) := by decide +kernel
theorem d_C_readRows_55 : decode prog_2_method_17_code 55 = .ok (.getfield 20, 3) := by decide +kernel
theorem d_C_readRows_58 : decode prog_2_method_17_code 58 = .ok (.invokevirtual 39, 3) := by decide +kernel
theorem d_C_readRows_61 : decode prog_2_method_17_code 61 = .ok (.ifCond .eq 161, 3) := by decide +kernel
theorem d_C_readRows_64 : decode prog_2_method_17_code 64 = .ok (.aload_n 0, 1) := by decide +kernel
theorem d_C_readRows_65 : decode prog_2_method_17_code 65 = .ok (.getfield 20, 3) := by decide +kernel
theorem d_C_readRows_68 : decode prog_2_method_17_code 68 = .ok (.getfield 78, 3) := by decide +kernel
theorem d_C_readRows_71 : decode prog_2_method_17_code 71 = .ok (.istore_n 1, 1) := by decide +kernel
theorem d_C_readRows_72 : decode prog_2_method_17_code 72 = .ok (.aload_n 0, 1) := by decide +kernel
theorem d_C_readRows_73 : decode prog_2_method_17_code 73 = .ok (.getfield 20, 3) := by decide +kernel
theorem d_C_readRows_76 : decode prog_2_method_17_code 76 = .ok (.iconst 2, 1) := by decide +kernel
theorem d_C_readRows_77 : decode prog_2_method_17_code 77 = .ok (.invokevirtual 84, 3) := by decide +kernel
theorem d_C_readRows_80 : decode prog_2_method_17_code 80 = .ok (.istore_n 3, 1) := by decide +kernel
theorem d_C_readRows_81 : decode prog_2_method_17_code 81 = .ok (.aload_n 0, 1) := by decide +kernel
theorem d_C_readRows_82 : decode prog_2_method_17_code 82 = .ok (.getfield 20, 3) := by decide +kernel
theorem d_C_readRows_85 : decode prog_2_method_17_code 85 = .ok (.iconst 2, 1) := by decide +kernel
theorem d_C_readRows_86 : decode prog_2_method_17_code 86 = .ok (.invokevirtual 84, 3) := by decide +kernel
theorem d_C_readRows_89 : decode prog_2_method_17_code 89 = .ok (.istore 4, 2) := by decide +kernel
theorem d_C_readRows_91 : decode prog_2_method_17_code 91 = .ok (.aload_n 0, 1) := by decide +kernel
theorem d_C_readRows_92 : decode prog_2_method_17_code 92 = .ok (.getfield 20, 3) := by decide +kernel
theorem d_C_readRows_95 : decode prog_2_method_17_code 95 = .ok (.iconst 2, 1) := by decide +kernel
theorem d_C_readRows_96 : decode prog_2_method_17_code 96 = .ok (.invokevirtual 84, 3) := by decide +kernel
theorem d_C_readRows_99 : decode prog_2_method_17_code 99 = .ok (.istore 5, 2) := by decide +kernel
theorem d_C_readRows_101 : decode prog_2_method_17_code 101 = .ok (.aload_n 0, 1) := by decide +kernel
theorem d_C_readRows_102 : decode prog_2_method_17_code 102 = .ok (.getfield 20, 3) := by decide +kernel
theorem d_C_readRows_105 : decode prog_2_method_17_code 105 = .ok (.iconst 2, 1) := by decide +kernel
theorem d_C_readRows_106 : decode prog_2_method_17_code 106 = .ok (.invokevirtual 84, 3) := by decide +kernel
theorem d_C_readRows_109 : decode prog_2_method_17_code 109 = .ok (.istore 6, 2) := by decide +kernel
theorem d_C_readRows_111 : decode prog_2_method_17_code 111 = .ok (.iload_n 3, 1) := by decide +kernel
theorem d_C_readRows_112 : decode prog_2_method_17_code 112 = .ok (.iload 4, 2) := by decide +kernel
theorem d_C_readRows_114 : decode prog_2_method_17_code 114 = .ok (.if_icmp .ge 25, 3) := by decide +kernel
theorem d_C_readRows_117 : decode prog_2_method_17_code 117 = .ok (.iload 4, 2) := by decide +kernel
theorem d_C_readRows_119 : decode prog_2_method_17_code 119 = .ok (.aload_n 0, 1) := by decide +kernel
theorem d_C_readRows_120 : decode prog_2_method_17_code 120 = .ok (.getfield 36, 3) := by decide +kernel
theorem d_C_readRows_123 : decode prog_2_method_17_code 123 = .ok (.if_icmp .eq 12, 3) := by decide +kernel
theorem d_C_readRows_126 : decode prog_2_method_17_code 126 = .ok (.aload_n 0, 1) := by decide +kernel
theorem d_C_readRows_127 : decode prog_2_method_17_code 127 = .ok (.iload 4, 2) := by decide +kernel
theorem d_C_readRows_129 : decode prog_2_method_17_code 129 = .ok (.invokevirtual 61, 3) := by decide +kernel
theorem d_C_readRows_132 : decode prog_2_method_17_code 132 = .ok (.ifCond .eq 7, 3) := by decide +kernel
theorem d_C_readRows_135 : decode prog_2_method_17_code 135 = .ok (.iconst 1, 1) := by decide +kernel
theorem d_C_readRows_136 : decode prog_2_method_17_code 136 = .ok (.goto 4, 3) := by decide +kernel
theorem d_C_readRows_139 : decode prog_2_method_17_code 139 = .ok (.iconst 0, 1) := by decide +kernel
theorem d_C_readRows_140 : decode prog_2_method_17_code 140 = .ok (.istore 7, 2) := by decide +kernel
theorem d_C_readRows_142 : decode prog_2_method_17_code 142 = .ok (.aload_n 0, 1) := by decide +kernel
theorem d_C_readRows_143 : decode prog_2_method_17_code 143 = .ok (.getfield 20, 3) := by decide +kernel
theorem d_C_readRows_146 : decode prog_2_method_17_code 146 = .ok (.iload 7, 2) := by decide +kernel
theorem d_C_readRows_148 : decode prog_2_method_17_code 148 = .ok (.ifCond .eq 24, 3) := by decide +kernel
theorem d_C_readRows_151 : decode prog_2_method_17_code 151 = .ok (.aload_n 0, 1) := by decide +kernel
theorem d_C_readRows_152 : decode prog_2_method_17_code 152 = .ok (.iload_n 3, 1) := by decide +kernel
theorem d_C_readRows_153 : decode prog_2_method_17_code 153 = .ok (.invokevirtual 61, 3) := by decide +kernel
theorem d_C_readRows_156 : decode prog_2_method_17_code 156 = .ok (.ifCond .eq 16, 3) := by decide +kernel
theorem d_C_readRows_159 : decode prog_2_method_17_code 159 = .ok (.aload_n 0, 1) := by decide +kernel
theorem d_C_readRows_160 : decode prog_2_method_17_code 160 = .ok (.iload 5, 2) := by decide +kernel
theorem d_C_readRows_162 : decode prog_2_method_17_code 162 = .ok (.invokevirtual 61, 3) := by decide +kernel
theorem d_C_readRows_165 : decode prog_2_method_17_code 165 = .ok (.ifCond .eq 7, 3) := by decide +kernel
theorem d_C_readRows_168 : decode prog_2_method_17_code 168 = .ok (.iconst 1, 1) := by decide +kernel
theorem d_C_readRows_169 : decode prog_2_method_17_code 169 = .ok (.goto 4, 3) := by decide +kernel
theorem d_C_readRows_172 : decode prog_2_method_17_code 172 = .ok (.iconst 0, 1) := by decide +kernel
theorem d_C_readRows_173 : decode prog_2_method_17_code 173 = .ok (.bipush 28, 2) := by decide +kernel
theorem d_C_readRows_175 : decode prog_2_method_17_code 175 = .ok (.iload_n 1, 1) := by decide +kernel
theorem d_C_readRows_176 : decode prog_2_method_17_code 176 = .ok (.invokevirtual 68, 3) := by decide +kernel
theorem d_C_readRows_179 : decode prog_2_method_17_code 179 = .ok (.aload_n 0, 1) := by decide +kernel
theorem d_C_readRows_180 : decode prog_2_method_17_code 180 = .ok (.getfield 20, 3) := by decide +kernel
theorem d_C_readRows_183 : decode prog_2_method_17_code 183 = .ok (.iload 6, 2) := by decide +kernel
theorem d_C_readRows_185 : decode prog_2_method_17_code 185 = .ok (.ifCond .eq 17, 3) := by decide +kernel
theorem d_C_readRows_188 : decode prog_2_method_17_code 188 = .ok (.aload_n 0, 1) := by decide +kernel
theorem d_C_readRows_189 : decode prog_2_method_17_code 189 = .ok (.getfield 24, 3) := by decide +kernel
theorem d_C_readRows_192 : decode prog_2_method_17_code 192 = .ok (.iload 6, 2) := by decide +kernel
theorem d_C_readRows_194 : decode prog_2_method_17_code 194 = .ok (.invokevirtual 128, 3) := by decide +kernel
theorem d_C_readRows_197 : decode prog_2_method_17_code 197 = .ok (.bipush 7, 2) := by decide +kernel
theorem d_C_readRows_199 : decode prog_2_method_17_code 199 = .ok (.if_icmp .ne 7, 3) := by decide +kernel
theorem d_C_readRows_202 : decode prog_2_method_17_code 202 = .ok (.iconst 1, 1) := by decide +kernel
theorem d_C_readRows_203 : decode prog_2_method_17_code 203 = .ok (.goto 4, 3) := by decide +kernel
theorem d_C_readRows_206 : decode prog_2_method_17_code 206 = .ok (.iconst 0, 1) := by decide +kernel
theorem d_C_readRows_207 : decode prog_2_method_17_code 207 = .ok (.bipush 8, 2) := by decide +kernel
theorem d_C_readRows_209 : decode prog_2_method_17_code 209 = .ok (.iload_n 1, 1) := by decide +kernel
theorem d_C_readRows_210 : decode prog_2_method_17_code 210 = .ok (.bipush 6, 2) := by decide +kernel
theorem d_C_readRows_212 : decode prog_2_method_17_code 212 = .ok (.iadd, 1) := by decide +kernel
theorem d_C_readRows_213 : decode prog_2_method_17_code 213 = .ok (.invokevirtual 68, 3) := by decide +kernel
theorem d_C_readRows_216 : decode prog_2_method_17_code 216 = .ok (.iinc 2 1, 3) := by decide +kernel
theorem d_C_readRows_219 : decode prog_2_method_17_code 219 = .ok (.goto (-173), 3) := by decide +kernel
theorem d_C_readRows_222 : decode prog_2_method_17_code 222 = .ok (.return_, 1) := by decide +kernel
theorem d_C_readSizes_0 : decode prog_2_method_3_code 0 = .ok (.aload_n 0, 1) := by decide +kernel
theorem d_C_readSizes_1 : decode prog_2_method_3_code 1 = .ok (.getfield 20, 3) := by decide +kernel
theorem d_C_readSizes_4 : decode prog_2_method_3_code 4 = .ok (.getfield 78, 3) := by decide +kernel
theorem d_C_readSizes_7 : decode prog_2_method_3_code 7 = .ok (.istore_n 2, 1) := by decide +kernel
theorem d_C_readSizes_8 : decode prog_2_method_3_code 8 = .ok (.aload_n 0, 1) := by decide +kernel
theorem d_C_readSizes_9 : decode prog_2_method_3_code 9 = .ok (.aload_n 0, 1) := by decide +kernel
theorem d_C_readSizes_10 : decode prog_2_method_3_code 10 = .ok (.getfield 20, 3) := by decide +kernel
theorem d_C_readSizes_13 : decode prog_2_method_3_code 13 = .ok (.iconst 2, 1) := by decide +kernel
theorem d_C_readSizes_14 : decode prog_2_method_3_code 14 = .ok (.invokevirtual 84, 3) := by decide +kernel
theorem d_C_readSizes_17 : decode prog_2_method_3_code 17 = .ok (.putfield 87, 3) := by decide +kernel
theorem d_C_readSizes_20 : decode prog_2_method_3_code 20 = .ok (.aload_n 0, 1) := by decide +kernel
theorem d_C_readSizes_21 : decode prog_2_method_3_code 21 = .ok (.getfield 20, 3) := by decide +kernel
theorem d_C_readSizes_24 : decode prog_2_method_3_code 24 = .ok (.aload_n 0, 1) := by decide +kernel
theorem d_C_readSizes_25 : decode prog_2_method_3_code 25 = .ok (.getfield 87, 3) := by decide +kernel
theorem d_C_readSizes_28 : decode prog_2_method_3_code 28 = .ok (.sipush 255, 3) := by decide +kernel
theorem d_C_readSizes_31 : decode prog_2_method_3_code 31 = .ok (.if_icmp .gt 7, 3) := by decide +kernel
theorem d_C_readSizes_34 : decode prog_2_method_3_code 34 = .ok (.iconst 1, 1) := by decide +kernel
theorem d_C_readSizes_35 : decode prog_2_method_3_code 35 = .ok (.goto 4, 3) := by decide +kernel
theorem d_C_readSizes_38 : decode prog_2_method_3_code 38 = .ok (.iconst 0, 1) := by decide +kernel
theorem d_C_readSizes_39 : decode prog_2_method_3_code 39 = .ok (.bipush 15, 2) := by decide +kernel
theorem d_C_readSizes_41 : decode prog_2_method_3_code 41 = .ok (.iload_n 2, 1) := by decide +kernel
theorem d_C_readSizes_42 : decode prog_2_method_3_code 42 = .ok (.invokevirtual 68, 3) := by decide +kernel
theorem d_C_readSizes_45 : decode prog_2_method_3_code 45 = .ok (.aload_n 0, 1) := by decide +kernel
theorem d_C_readSizes_46 : decode prog_2_method_3_code 46 = .ok (.getfield 20, 3) := by decide +kernel
theorem d_C_readSizes_49 : decode prog_2_method_3_code 49 = .ok (.getfield 78, 3) := by decide +kernel
theorem d_C_readSizes_52 : decode prog_2_method_3_code 52 = .ok (.istore_n 2, 1) := by decide +kernel
theorem d_C_readSizes_53 : decode prog_2_method_3_code 53 = .ok (.aload_n 0, 1) := by decide +kernel
theorem d_C_readSizes_54 : decode prog_2_method_3_code 54 = .ok (.aload_n 0, 1) := by decide +kernel
theorem d_C_readSizes_55 : decode prog_2_method_3_code 55 = .ok (.getfield 20, 3) := by decide +kernel
theorem d_C_readSizes_58 : decode prog_2_method_3_code 58 = .ok (.iconst 2, 1) := by decide +kernel
theorem d_C_readSizes_59 : decode prog_2_method_3_code 59 = .ok (.invokevirtual 84, 3) := by decide +kernel
theorem d_C_readSizes_62 : decode prog_2_method_3_code 62 = .ok (.putfield 90, 3) := by decide +kernel
theorem d_C_readSizes_65 : decode prog_2_method_3_code 65 = .ok (.aload_n 0, 1) := by decide +kernel
theorem d_C_readSizes_66 : decode prog_2_method_3_code 66 = .ok (.getfield 20, 3) := by decide +kernel
theorem d_C_readSizes_69 : decode prog_2_method_3_code 69 = .ok (.aload_n 0, 1) := by decide +kernel
theorem d_C_readSizes_70 : decode prog_2_method_3_code 70 = .ok (.getfield 90, 3) := by decide +kernel
theorem d_C_readSizes_73 : decode prog_2_method_3_code 73 = .ok (.sipush 255, 3) := by decide +kernel
theorem d_C_readSizes_76 : decode prog_2_method_3_code 76 = .ok (.if_icmp .gt 7, 3) := by decide +kernel
theorem d_C_readSizes_79 : decode prog_2_method_3_code 79 = .ok (.iconst 1, 1) := by decide +kernel
theorem d_C_readSizes_80 : decode prog_2_method_3_code 80 = .ok (.goto 4, 3) := by decide +kernel
theorem d_C_readSizes_83 : decode prog_2_method_3_code 83 = .ok (.iconst 0, 1) := by decide +kernel
theorem d_C_readSizes_84 : decode prog_2_method_3_code 84 = .ok (.bipush 15, 2) := by decide +kernel
theorem d_C_readSizes_86 : decode prog_2_method_3_code 86 = .ok (.iload_n 2, 1) := by decide +kernel
theorem d_C_readSizes_87 : decode prog_2_method_3_code 87 = .ok (.invokevirtual 68, 3) := by decide +kernel
theorem d_C_readSizes_90 : decode prog_2_method_3_code 90 = .ok (.aload_n 0, 1) := by decide +kernel
theorem d_C_readSizes_91 : decode prog_2_method_3_code 91 = .ok (.getfield 20, 3) := by decide +kernel
theorem d_C_readSizes_94 : decode prog_2_method_3_code 94 = .ok (.aload_n 0, 1) := by decide +kernel
theorem d_C_readSizes_95 : decode prog_2_method_3_code 95 = .ok (.getfield 90, 3) := by decide +kernel
theorem d_C_readSizes_98 : decode prog_2_method_3_code 98 = .ok (.iload_n 1, 1) := by decide +kernel
theorem d_C_readSizes_99 : decode prog_2_method_3_code 99 = .ok (.if_icmp .lt 7, 3) := by decide +kernel
theorem d_C_readSizes_102 : decode prog_2_method_3_code 102 = .ok (.iconst 1, 1) := by decide +kernel
theorem d_C_readSizes_103 : decode prog_2_method_3_code 103 = .ok (.goto 4, 3) := by decide +kernel
theorem d_C_readSizes_106 : decode prog_2_method_3_code 106 = .ok (.iconst 0, 1) := by decide +kernel
theorem d_C_readSizes_107 : decode prog_2_method_3_code 107 = .ok (.bipush 21, 2) := by decide +kernel
theorem d_C_readSizes_109 : decode prog_2_method_3_code 109 = .ok (.iload_n 2, 1) := by decide +kernel
theorem d_C_readSizes_110 : decode prog_2_method_3_code 110 = .ok (.invokevirtual 68, 3) := by decide +kernel
theorem d_C_readSizes_113 : decode prog_2_method_3_code 113 = .ok (.aload_n 0, 1) := by decide +kernel
theorem d_C_readSizes_114 : decode prog_2_method_3_code 114 = .ok (.getfield 20, 3) := by decide +kernel
theorem d_C_readSizes_117 : decode prog_2_method_3_code 117 = .ok (.getfield 78, 3) := by decide +kernel
theorem d_C_readSizes_120 : decode prog_2_method_3_code 120 = .ok (.istore_n 2, 1) := by decide +kernel
theorem d_C_readSizes_121 : decode prog_2_method_3_code 121 = .ok (.aload_n 0, 1) := by decide +kernel
theorem d_C_readSizes_122 : decode prog_2_method_3_code 122 = .ok (.aload_n 0, 1) := by decide +kernel
theorem d_C_readSizes_123 : decode prog_2_method_3_code 123 = .ok (.getfield 20, 3) := by decide +kernel
theorem d_C_readSizes_126 : decode prog_2_method_3_code 126 = .ok (.iconst 4, 1) := by decide +kernel
theorem d_C_readSizes_127 : decode prog_2_method_3_code 127 = .ok (.invokevirtual 84, 3) := by decide +kernel
theorem d_C_readSizes_130 : decode prog_2_method_3_code 130 = .ok (.putfield 36, 3) := by decide +kernel
theorem d_C_readSizes_133 : decode prog_2_method_3_code 133 = .ok (.aload_n 0, 1) := by decide +kernel
theorem d_C_readSizes_134 : decode prog_2_method_3_code 134 = .ok (.getfield 20, 3) := by decide +kernel
theorem d_C_readSizes_137 : decode prog_2_method_3_code 137 = .ok (.aload_n 0, 1) := by decide +kernel
theorem d_C_readSizes_138 : decode prog_2_method_3_code 138 = .ok (.getfield 36, 3) := by decide +kernel
theorem d_C_readSizes_141 : decode prog_2_method_3_code 141 = .ok (.iconst 1, 1) := by decide +kernel
theorem d_C_readSizes_142 : decode prog_2_method_3_code 142 = .ok (.if_icmp .lt 17, 3) := by decide +kernel
theorem d_C_readSizes_145 : decode prog_2_method_3_code 145 = .ok (.aload_n 0, 1) := by decide +kernel
theorem d_C_readSizes_146 : decode prog_2_method_3_code 146 = .ok (.getfield 36, 3) := by decide +kernel
theorem d_C_readSizes_149 : decode prog_2_method_3_code 149 = .ok (.sipush 2000, 3) := by decide +kernel
theorem d_C_readSizes_152 : decode prog_2_method_3_code 152 = .ok (.if_icmp .gt 7, 3) := by decide +kernel
theorem d_C_readSizes_155 : decode prog_2_method_3_code 155 = .ok (.iconst 1, 1) := by decide +kernel
theorem d_C_readSizes_156 : decode prog_2_method_3_code 156 = .ok (.goto 4, 3) := by decide +kernel
theorem d_C_readSizes_159 : decode prog_2_method_3_code 159 = .ok (.iconst 0, 1) := by decide +kernel
theorem d_C_readSizes_160 : decode prog_2_method_3_code 160 = .ok (.bipush 15, 2) := by decide +kernel
theorem d_C_readSizes_162 : decode prog_2_method_3_code 162 = .ok (.iload_n 2, 1) := by decide +kernel
theorem d_C_readSizes_163 : decode prog_2_method_3_code 163 = .ok (.invokevirtual 68, 3) := by decide +kernel
theorem d_C_readSizes_166 : decode prog_2_method_3_code 166 = .ok (.aload_n 0, 1) := by decide +kernel
theorem d_C_readSizes_167 : decode prog_2_method_3_code 167 = .ok (.aload_n 0, 1) := by decide +kernel
theorem d_C_readSizes_168 : decode prog_2_method_3_code 168 = .ok (.getfield 20, 3) := by decide +kernel
theorem d_C_readSizes_171 : decode prog_2_method_3_code 171 = .ok (.getfield 78, 3) := by decide +kernel
theorem d_C_readSizes_174 : decode prog_2_method_3_code 174 = .ok (.putfield 65, 3) := by decide +kernel
theorem d_C_readSizes_177 : decode prog_2_method_3_code 177 = .ok (.aload_n 0, 1) := by decide +kernel
theorem d_C_readSizes_178 : decode prog_2_method_3_code 178 = .ok (.getfield 20, 3) := by decide +kernel
theorem d_C_readSizes_181 : decode prog_2_method_3_code 181 = .ok (.aload_n 0, 1) := by decide +kernel
theorem d_C_readSizes_182 : decode prog_2_method_3_code 182 = .ok (.getfield 65, 3) := by decide +kernel
theorem d_C_readSizes_185 : decode prog_2_method_3_code 185 = .ok (.aload_n 0, 1) := by decide +kernel
theorem d_C_readSizes_186 : decode prog_2_method_3_code 186 = .ok (.getfield 36, 3) := by decide +kernel
theorem d_C_readSizes_189 : decode prog_2_method_3_code 189 = .ok (.iadd, 1) := by decide +kernel
theorem d_C_readSizes_190 : decode prog_2_method_3_code 190 = .ok (.aload_n 0, 1) := by decide +kernel
theorem d_C_readSizes_191 : decode prog_2_method_3_code 191 = .ok (.getfield 20, 3) := by decide +kernel
theorem d_C_readSizes_194 : decode prog_2_method_3_code 194 = .ok (.getfield 93, 3) := by decide +kernel
theorem d_C_readSizes_197 : decode prog_2_method_3_code 197 = .ok (.if_icmp .gt 7, 3) := by decide +kernel
theorem d_C_readSizes_200 : decode prog_2_method_3_code 200 = .ok (.iconst 1, 1) := by decide +kernel
theorem d_C_readSizes_201 : decode prog_2_method_3_code 201 = .ok (.goto 4, 3) := by decide +kernel
theorem d_C_readSizes_204 : decode prog_2_method_3_code 204 = .ok (.iconst 0, 1) := by decide +kernel
theorem d_C_readSizes_205 : decode prog_2_method_3_code 205 = .ok (.iconst 1, 1) := by decide +kernel
theorem d_C_readSizes_206 : decode prog_2_method_3_code 206 = .ok (.aload_n 0, 1) := by decide +kernel
theorem d_C_readSizes_207 : decode prog_2_method_3_code 207 = .ok (.getfield 20, 3) := by decide +kernel
theorem d_C_readSizes_210 : decode prog_2_method_3_code 210 = .ok (.getfield 93, 3) := by decide +kernel
theorem d_C_readSizes_213 : decode prog_2_method_3_code 213 = .ok (.invokevirtual 68, 3) := by decide +kernel
theorem d_C_readSizes_216 : decode prog_2_method_3_code 216 = .ok (.aload_n 0, 1) := by decide +kernel
theorem d_C_readSizes_217 : decode prog_2_method_3_code 217 = .ok (.iconst 0, 1) := by decide +kernel
theorem d_C_readSizes_218 : decode prog_2_method_3_code 218 = .ok (.putfield 45, 3) := by decide +kernel
theorem d_C_readSizes_221 : decode prog_2_method_3_code 221 = .ok (.aload_n 0, 1) := by decide +kernel
theorem d_C_readSizes_222 : decode prog_2_method_3_code 222 = .ok (.iconst 0, 1) := by decide +kernel
theorem d_C_readSizes_223 : decode prog_2_method_3_code 223 = .ok (.putfield 58, 3) := by decide +kernel
theorem d_C_readSizes_226 : decode prog_2_method_3_code 226 = .ok (.aload_n 0, 1) := by decide +kernel
theorem d_C_readSizes_227 : decode prog_2_method_3_code 227 = .ok (.iconst 0, 1) := by decide +kernel
theorem d_C_readSizes_228 : decode prog_2_method_3_code 228 = .ok (.putfield 96, 3) := by decide +kernel
theorem d_C_readSizes_231 : decode prog_2_method_3_code 231 = .ok (.iconst 0, 1) := by decide +kernel
theorem d_C_readSizes_232 : decode prog_2_method_3_code 232 = .ok (.istore_n 3, 1) := by decide +kernel
theorem d_C_readSizes_233 : decode prog_2_method_3_code 233 = .ok (.iload_n 3, 1) := by decide +kernel
theorem d_C_readSizes_234 : decode prog_2_method_3_code 234 = .ok (.aload_n 0, 1) := by decide +kernel
theorem d_C_readSizes_235 : decode prog_2_method_3_code 235 = .ok (.getfield 36, 3) := by decide +kernel
theorem d_C_readSizes_238 : decode prog_2_method_3_code 238 = .ok (.if_icmp .ge 33, 3) := by decide +kernel
theorem d_C_readSizes_241 : decode prog_2_method_3_code 241 = .ok (.iload_n 3, 1) := by decide +kernel
theorem d_C_readSizes_242 : decode prog_2_method_3_code 242 = .ok (.sipush 2000, 3) := by decide +kernel
theorem d_C_readSizes_245 : decode prog_2_method_3_code 245 = .ok (.if_icmp .ge 26, 3) := by decide +kernel
theorem d_C_readSizes_248 : decode prog_2_method_3_code 248 = .ok (.aload_n 0, 1) := by decide +kernel
theorem d_C_readSizes_249 : decode prog_2_method_3_code 249 = .ok (.getfield 20, 3) := by decide +kernel
theorem d_C_readSizes_252 : decode prog_2_method_3_code 252 = .ok (.invokevirtual 39, 3) := by decide +kernel
theorem d_C_readSizes_255 : decode prog_2_method_3_code 255 = .ok (.ifCond .eq 16, 3) := by decide +kernel
theorem d_C_readSizes_258 : decode prog_2_method_3_code 258 = .ok (.aload_n 0, 1) := by decide +kernel
theorem d_C_readSizes_259 : decode prog_2_method_3_code 259 = .ok (.getfield 9, 3) := by decide +kernel
theorem d_C_readSizes_262 : decode prog_2_method_3_code 262 = .ok (.iload_n 3, 1) := by decide +kernel
theorem d_C_readSizes_263 : decode prog_2_method_3_code 263 = .ok (.iconst 0, 1) := by decide +kernel
theorem d_C_readSizes_264 : decode prog_2_method_3_code 264 = .ok (.bastore, 1) := by decide +kernel
theorem d_C_readSizes_265 : decode prog_2_method_3_code 265 = .ok (.iinc 3 1, 3) := by decide +kernel
theorem d_C_readSizes_268 : decode prog_2_method_3_code 268 = .ok (.goto (-35), 3) := by decide +kernel
theorem d_C_readSizes_271 : decode prog_2_method_3_code 271 = .ok (.return_, 1) := by decide +kernel
theorem d_C_addJump_0 : decode prog_2_method_14_code 0 = .ok (.aload_n 0, 1) := by decide +kernel
theorem d_C_addJump_1 : decode prog_2_method_14_code 1 = .ok (.getfield 58, 3) := by decide +kernel
theorem d_C_addJump_4 : decode prog_2_method_14_code 4 = .ok (.sipush 667, 3) := by decide +kernel
theorem d_C_addJump_7 : decode prog_2_method_14_code 7 = .ok (.if_icmp .ge 35, 3) := by decide +kernel
theorem d_C_addJump_10 : decode prog_2_method_14_code 10 = .ok (.aload_n 0, 1) := by decide +kernel
theorem d_C_addJump_11 : decode prog_2_method_14_code 11 = .ok (.getfield 13, 3) := by decide +kernel
theorem d_C_addJump_14 : decode prog_2_method_14_code 14 = .ok (.aload_n 0, 1) := by decide +kernel
theorem d_C_addJump_15 : decode prog_2_method_14_code 15 = .ok (.getfield 58, 3) := by decide +kernel
theorem d_C_addJump_18 : decode prog_2_method_14_code 18 = .ok (.iload_n 1, 1) := by decide +kernel
theorem d_C_addJump_19 : decode prog_2_method_14_code 19 = .ok (.iastore, 1) := by decide +kernel
theorem d_C_addJump_20 : decode prog_2_method_14_code 20 = .ok (.aload_n 0, 1) := by decide +kernel
theorem d_C_addJump_21 : decode prog_2_method_14_code 21 = .ok (.getfield 17, 3) := by decide +kernel
theorem d_C_addJump_24 : decode prog_2_method_14_code 24 = .ok (.aload_n 0, 1) := by decide +kernel
theorem d_C_addJump_25 : decode prog_2_method_14_code 25 = .ok (.getfield 58, 3) := by decide +kernel
theorem d_C_addJump_28 : decode prog_2_method_14_code 28 = .ok (.iload_n 1, 1) := by decide +kernel
theorem d_C_addJump_29 : decode prog_2_method_14_code 29 = .ok (.iload_n 2, 1) := by decide +kernel
theorem d_C_addJump_30 : decode prog_2_method_14_code 30 = .ok (.iadd, 1) := by decide +kernel
theorem d_C_addJump_31 : decode prog_2_method_14_code 31 = .ok (.iastore, 1) := by decide +kernel
theorem d_C_addJump_32 : decode prog_2_method_14_code 32 = .ok (.aload_n 0, 1) := by decide +kernel
theorem d_C_addJump_33 : decode prog_2_method_14_code 33 = .ok (.dup, 1) := by decide +kernel
theorem d_C_addJump_34 : decode prog_2_method_14_code 34 = .ok (.getfield 58, 3) := by decide +kernel
theorem d_C_addJump_37 : decode prog_2_method_14_code 37 = .ok (.iconst 1, 1) := by decide +kernel
theorem d_C_addJump_38 : decode prog_2_method_14_code 38 = .ok (.iadd, 1) := by decide +kernel
theorem d_C_addJump_39 : decode prog_2_method_14_code 39 = .ok (.putfield 58, 3) := by decide +kernel
theorem d_C_addJump_42 : decode prog_2_method_14_code 42 = .ok (.return_, 1) := by decide +kernel
theorem d_C_kindFits_0 : decode prog_2_method_7_code 0 = .ok (.iload_n 1, 1) := by decide +kernel
theorem d_C_kindFits_1 : decode prog_2_method_7_code 1 = .ok (.tableswitch 179 4 18 #[75, 75, 98, 179, 179, 179, 179, 179, 179, 179, 179, 179, 109, 121, 167], 75) := by decide +kernel
theorem d_C_kindFits_76 : decode prog_2_method_7_code 76 = .ok (.iload_n 3, 1) := by decide +kernel
theorem d_C_kindFits_77 : decode prog_2_method_7_code 77 = .ok (.iconst 3, 1) := by decide +kernel
theorem d_C_kindFits_78 : decode prog_2_method_7_code 78 = .ok (.if_icmp .eq 15, 3) := by decide +kernel
theorem d_C_kindFits_81 : decode prog_2_method_7_code 81 = .ok (.iload_n 3, 1) := by decide +kernel
theorem d_C_kindFits_82 : decode prog_2_method_7_code 82 = .ok (.bipush 8, 2) := by decide +kernel
theorem d_C_kindFits_84 : decode prog_2_method_7_code 84 = .ok (.if_icmp .eq 9, 3) := by decide +kernel
theorem d_C_kindFits_87 : decode prog_2_method_7_code 87 = .ok (.iload_n 3, 1) := by decide +kernel
theorem d_C_kindFits_88 : decode prog_2_method_7_code 88 = .ok (.bipush 7, 2) := by decide +kernel
theorem d_C_kindFits_90 : decode prog_2_method_7_code 90 = .ok (.if_icmp .ne 7, 3) := by decide +kernel
theorem d_C_kindFits_93 : decode prog_2_method_7_code 93 = .ok (.iconst 1, 1) := by decide +kernel
theorem d_C_kindFits_94 : decode prog_2_method_7_code 94 = .ok (.goto 4, 3) := by decide +kernel
theorem d_C_kindFits_97 : decode prog_2_method_7_code 97 = .ok (.iconst 0, 1) := by decide +kernel
theorem d_C_kindFits_98 : decode prog_2_method_7_code 98 = .ok (.ireturn, 1) := by decide +kernel
theorem d_C_kindFits_99 : decode prog_2_method_7_code 99 = .ok (.iload_n 3, 1) := by decide +kernel
theorem d_C_kindFits_100 : decode prog_2_method_7_code 100 = .ok (.iconst 5, 1) := by decide +kernel
theorem d_C_kindFits_101 : decode prog_2_method_7_code 101 = .ok (.if_icmp .ne 7, 3) := by decide +kernel
theorem d_C_kindFits_104 : decode prog_2_method_7_code 104 = .ok (.iconst 1, 1) := by decide +kernel
theorem d_C_kindFits_105 : decode prog_2_method_7_code 105 = .ok (.goto 4, 3) := by decide +kernel
theorem d_C_kindFits_108 : decode prog_2_method_7_code 108 = .ok (.iconst 0, 1) := by decide +kernel
theorem d_C_kindFits_109 : decode prog_2_method_7_code 109 = .ok (.ireturn, 1) := by decide +kernel
theorem d_C_kindFits_110 : decode prog_2_method_7_code 110 = .ok (.iload_n 3, 1) := by decide +kernel
theorem d_C_kindFits_111 : decode prog_2_method_7_code 111 = .ok (.bipush 9, 2) := by decide +kernel
theorem d_C_kindFits_113 : decode prog_2_method_7_code 113 = .ok (.if_icmp .ne 7, 3) := by decide +kernel
theorem d_C_kindFits_116 : decode prog_2_method_7_code 116 = .ok (.iconst 1, 1) := by decide +kernel
theorem d_C_kindFits_117 : decode prog_2_method_7_code 117 = .ok (.goto 4, 3) := by decide +kernel
theorem d_C_kindFits_120 : decode prog_2_method_7_code 120 = .ok (.iconst 0, 1) := by decide +kernel
theorem d_C_kindFits_121 : decode prog_2_method_7_code 121 = .ok (.ireturn, 1) := by decide +kernel
theorem d_C_kindFits_122 : decode prog_2_method_7_code 122 = .ok (.iload_n 2, 1) := by decide +kernel
theorem d_C_kindFits_123 : decode prog_2_method_7_code 123 = .ok (.sipush 182, 3) := by decide +kernel
theorem d_C_kindFits_126 : decode prog_2_method_7_code 126 = .ok (.if_icmp .eq 16, 3) := by decide +kernel
theorem d_C_kindFits_129 : decode prog_2_method_7_code 129 = .ok (.aload_n 0, 1) := by decide +kernel
theorem d_C_kindFits_130 : decode prog_2_method_7_code 130 = .ok (.getfield 28, 3) := by decide +kernel
theorem d_C_kindFits_133 : decode prog_2_method_7_code 133 = .ok (.bipush 52, 2) := by decide +kernel
theorem d_C_kindFits_135 : decode prog_2_method_7_code 135 = .ok (.if_icmp .lt 7, 3) := by decide +kernel
theorem d_C_kindFits_138 : decode prog_2_method_7_code 138 = .ok (.iconst 1, 1) := by decide +kernel
theorem d_C_kindFits_139 : decode prog_2_method_7_code 139 = .ok (.goto 4, 3) := by decide +kernel
theorem d_C_kindFits_142 : decode prog_2_method_7_code 142 = .ok (.iconst 0, 1) := by decide +kernel
theorem d_C_kindFits_143 : decode prog_2_method_7_code 143 = .ok (.istore 4, 2) := by decide +kernel
theorem d_C_kindFits_145 : decode prog_2_method_7_code 145 = .ok (.iload_n 3, 1) := by decide +kernel
theorem d_C_kindFits_146 : decode prog_2_method_7_code 146 = .ok (.bipush 10, 2) := by decide +kernel
theorem d_C_kindFits_148 : decode prog_2_method_7_code 148 = .ok (.if_icmp .eq 14, 3) := by decide +kernel
theorem d_C_kindFits_151 : decode prog_2_method_7_code 151 = .ok (.iload 4, 2) := by decide +kernel
theorem d_C_kindFits_153 : decode prog_2_method_7_code 153 = .ok (.ifCond .eq 13, 3) := by decide +kernel
theorem d_C_kindFits_156 : decode prog_2_method_7_code 156 = .ok (.iload_n 3, 1) := by decide +kernel
theorem d_C_kindFits_157 : decode prog_2_method_7_code 157 = .ok (.bipush 11, 2) := by decide +kernel
theorem d_C_kindFits_159 : decode prog_2_method_7_code 159 = .ok (.if_icmp .ne 7, 3) := by decide +kernel
theorem d_C_kindFits_162 : decode prog_2_method_7_code 162 = .ok (.iconst 1, 1) := by decide +kernel
theorem d_C_kindFits_163 : decode prog_2_method_7_code 163 = .ok (.goto 4, 3) := by decide +kernel
theorem d_C_kindFits_166 : decode prog_2_method_7_code 166 = .ok (.iconst 0, 1) := by decide +kernel
theorem d_C_kindFits_167 : decode prog_2_method_7_code 167 = .ok (.ireturn, 1) := by decide +kernel
theorem d_C_kindFits_168 : decode prog_2_method_7_code 168 = .ok (.iload_n 3, 1) := by decide +kernel
theorem d_C_kindFits_169 : decode prog_2_method_7_code 169 = .ok (.bipush 11, 2) := by decide +kernel
theorem d_C_kindFits_171 : decode prog_2_method_7_code 171 = .ok (.if_icmp .ne 7, 3) := by decide +kernel
theorem d_C_kindFits_174 : decode prog_2_method_7_code 174 = .ok (.iconst 1, 1) := by decide +kernel
theorem d_C_kindFits_175 : decode prog_2_method_7_code 175 = .ok (.goto 4, 3) := by decide +kernel
theorem d_C_kindFits_178 : decode prog_2_method_7_code 178 = .ok (.iconst 0, 1) := by decide +kernel
theorem d_C_kindFits_179 : decode prog_2_method_7_code 179 = .ok (.ireturn, 1) := by decide +kernel
theorem d_C_kindFits_180 : decode prog_2_method_7_code 180 = .ok (.iload_n 3, 1) := by decide +kernel
theorem d_C_kindFits_181 : decode prog_2_method_7_code 181 = .ok (.bipush 7, 2) := by decide +kernel
theorem d_C_kindFits_183 : decode prog_2_method_7_code 183 = .ok (.if_icmp .ne 7, 3) := by decide +kernel
theorem d_C_kindFits_186 : decode prog_2_method_7_code 186 = .ok (.iconst 1, 1) := by decide +kernel
theorem d_C_kindFits_187 : decode prog_2_method_7_code 187 = .ok (.goto 4, 3) := by decide +kernel
theorem d_C_kindFits_190 : decode prog_2_method_7_code 190 = .ok (.iconst 0, 1) := by decide +kernel
theorem d_C_kindFits_191 : decode prog_2_method_7_code 191 = .ok (.ireturn, 1) := by decide +kernel
theorem d_C_localInCode_0 : decode prog_2_method_6_code 0 = .ok (.iload_n 0, 1) := by decide +kernel
theorem d_C_localInCode_1 : decode prog_2_method_6_code 1 = .ok (.bipush 54, 2) := by decide +kernel
theorem d_C_localInCode_3 : decode prog_2_method_6_code 3 = .ok (.if_icmp .ge 10, 3) := by decide +kernel
theorem d_C_localInCode_6 : decode prog_2_method_6_code 6 = .ok (.iload_n 0, 1) := by decide +kernel
theorem d_C_localInCode_7 : decode prog_2_method_6_code 7 = .ok (.bipush 26, 2) := by decide +kernel
theorem d_C_localInCode_9 : decode prog_2_method_6_code 9 = .ok (.isub, 1) := by decide +kernel
theorem d_C_localInCode_10 : decode prog_2_method_6_code 10 = .ok (.goto 7, 3) := by decide +kernel
theorem d_C_localInCode_13 : decode prog_2_method_6_code 13 = .ok (.iload_n 0, 1) := by decide +kernel
theorem d_C_localInCode_14 : decode prog_2_method_6_code 14 = .ok (.bipush 59, 2) := by decide +kernel
theorem d_C_localInCode_16 : decode prog_2_method_6_code 16 = .ok (.isub, 1) := by decide +kernel
theorem d_C_localInCode_17 : decode prog_2_method_6_code 17 = .ok (.iconst 3, 1) := by decide +kernel
theorem d_C_localInCode_18 : decode prog_2_method_6_code 18 = .ok (.iand, 1) := by decide +kernel
theorem d_C_localInCode_19 : decode prog_2_method_6_code 19 = .ok (.ireturn, 1) := by decide +kernel
theorem d_C_restFits_0 : decode prog_2_method_8_code 0 = .ok (.iload_n 1, 1) := by decide +kernel
theorem d_C_restFits_1 : decode prog_2_method_8_code 1 = .ok (.tableswitch 158 17 21 #[35, 61, 95, 158, 119], 35) := by decide +kernel
theorem d_C_restFits_36 : decode prog_2_method_8_code 36 = .ok (.iload_n 2, 1) := by decide +kernel
theorem d_C_restFits_37 : decode prog_2_method_8_code 37 = .ok (.sipush 183, 3) := by decide +kernel
theorem d_C_restFits_40 : decode prog_2_method_8_code 40 = .ok (.if_icmp .eq 16, 3) := by decide +kernel
theorem d_C_restFits_43 : decode prog_2_method_8_code 43 = .ok (.aload_n 0, 1) := by decide +kernel
theorem d_C_restFits_44 : decode prog_2_method_8_code 44 = .ok (.getfield 24, 3) := by decide +kernel
theorem d_C_restFits_47 : decode prog_2_method_8_code 47 = .ok (.iload_n 3, 1) := by decide +kernel
theorem d_C_restFits_48 : decode prog_2_method_8_code 48 = .ok (.invokevirtual 141, 3) := by decide +kernel
theorem d_C_restFits_51 : decode prog_2_method_8_code 51 = .ok (.iconst 4, 1) := by decide +kernel
theorem d_C_restFits_52 : decode prog_2_method_8_code 52 = .ok (.iand, 1) := by decide +kernel
theorem d_C_restFits_53 : decode prog_2_method_8_code 53 = .ok (.ifCond .ne 7, 3) := by decide +kernel
theorem d_C_restFits_56 : decode prog_2_method_8_code 56 = .ok (.iconst 1, 1) := by decide +kernel
theorem d_C_restFits_57 : decode prog_2_method_8_code 57 = .ok (.goto 4, 3) := by decide +kernel
theorem d_C_restFits_60 : decode prog_2_method_8_code 60 = .ok (.iconst 0, 1) := by decide +kernel
theorem d_C_restFits_61 : decode prog_2_method_8_code 61 = .ok (.ireturn, 1) := by decide +kernel
theorem d_C_restFits_62 : decode prog_2_method_8_code 62 = .ok (.aload_n 0, 1) := by decide +kernel
theorem d_C_restFits_63 : decode prog_2_method_8_code 63 = .ok (.getfield 20, 3) := by decide +kernel
theorem d_C_restFits_66 : decode prog_2_method_8_code 66 = .ok (.iload 4, 2) := by decide +kernel
theorem d_C_restFits_68 : decode prog_2_method_8_code 68 = .ok (.iconst 3, 1) := by decide +kernel
theorem d_C_restFits_69 : decode prog_2_method_8_code 69 = .ok (.iadd, 1) := by decide +kernel
theorem d_C_restFits_70 : decode prog_2_method_8_code 70 = .ok (.iconst 2, 1) := by decide +kernel
theorem d_C_restFits_71 : decode prog_2_method_8_code 71 = .ok (.invokevirtual 72, 3) := by decide +kernel
theorem d_C_restFits_74 : decode prog_2_method_8_code 74 = .ok (.aload_n 0, 1) := by decide +kernel
theorem d_C_restFits_75 : decode prog_2_method_8_code 75 = .ok (.getfield 24, 3) := by decide +kernel
theorem d_C_restFits_78 : decode prog_2_method_8_code 78 = .ok (.iload_n 3, 1) := by decide +kernel
theorem d_C_restFits_79 : decode prog_2_method_8_code 79 = .ok (.invokevirtual 146, 3) := by decide +kernel
theorem d_C_restFits_82 : decode prog_2_method_8_code 82 = .ok (.iconst 1, 1) := by decide +kernel
theorem d_C_restFits_83 : decode prog_2_method_8_code 83 = .ok (.iadd, 1) := by decide +kernel
theorem d_C_restFits_84 : decode prog_2_method_8_code 84 = .ok (.bipush 8, 2) := by decide +kernel
theorem d_C_restFits_86 : decode prog_2_method_8_code 86 = .ok (.ishl, 1) := by decide +kernel
theorem d_C_restFits_87 : decode prog_2_method_8_code 87 = .ok (.if_icmp .ne 7, 3) := by decide +kernel
theorem d_C_restFits_90 : decode prog_2_method_8_code 90 = .ok (.iconst 1, 1) := by decide +kernel
theorem d_C_restFits_91 : decode prog_2_method_8_code 91 = .ok (.goto 4, 3) := by decide +kernel
theorem d_C_restFits_94 : decode prog_2_method_8_code 94 = .ok (.iconst 0, 1) := by decide +kernel
theorem d_C_restFits_95 : decode prog_2_method_8_code 95 = .ok (.ireturn, 1) := by decide +kernel
theorem d_C_restFits_96 : decode prog_2_method_8_code 96 = .ok (.iload_n 2, 1) := by decide +kernel
theorem d_C_restFits_97 : decode prog_2_method_8_code 97 = .ok (.sipush 187, 3) := by decide +kernel
theorem d_C_restFits_100 : decode prog_2_method_8_code 100 = .ok (.if_icmp .ne 14, 3) := by decide +kernel
theorem d_C_restFits_103 : decode prog_2_method_8_code 103 = .ok (.aload_n 0, 1) := by decide +kernel
theorem d_C_restFits_104 : decode prog_2_method_8_code 104 = .ok (.getfield 24, 3) := by decide +kernel
theorem d_C_restFits_107 : decode prog_2_method_8_code 107 = .ok (.iload_n 3, 1) := by decide +kernel
theorem d_C_restFits_108 : decode prog_2_method_8_code 108 = .ok (.invokevirtual 146, 3) := by decide +kernel
theorem d_C_restFits_111 : decode prog_2_method_8_code 111 = .ok (.ifCond .ne 7, 3) := by decide +kernel
theorem d_C_restFits_114 : decode prog_2_method_8_code 114 = .ok (.iconst 1, 1) := by decide +kernel
theorem d_C_restFits_115 : decode prog_2_method_8_code 115 = .ok (.goto 4, 3) := by decide +kernel
theorem d_C_restFits_118 : decode prog_2_method_8_code 118 = .ok (.iconst 0, 1) := by decide +kernel
theorem d_C_restFits_119 : decode prog_2_method_8_code 119 = .ok (.ireturn, 1) := by decide +kernel
theorem d_C_restFits_120 : decode prog_2_method_8_code 120 = .ok (.aload_n 0, 1) := by decide +kernel
theorem d_C_restFits_121 : decode prog_2_method_8_code 121 = .ok (.getfield 20, 3) := by decide +kernel
theorem d_C_restFits_124 : decode prog_2_method_8_code 124 = .ok (.iload 4, 2) := by decide +kernel
theorem d_C_restFits_126 : decode prog_2_method_8_code 126 = .ok (.iconst 3, 1) := by decide +kernel
theorem d_C_restFits_127 : decode prog_2_method_8_code 127 = .ok (.iadd, 1) := by decide +kernel
theorem d_C_restFits_128 : decode prog_2_method_8_code 128 = .ok (.iconst 1, 1) := by decide +kernel
theorem d_C_restFits_129 : decode prog_2_method_8_code 129 = .ok (.invokevirtual 72, 3) := by decide +kernel
theorem d_C_restFits_132 : decode prog_2_method_8_code 132 = .ok (.istore 5, 2) := by decide +kernel
theorem d_C_restFits_134 : decode prog_2_method_8_code 134 = .ok (.iload 5, 2) := by decide +kernel
theorem d_C_restFits_136 : decode prog_2_method_8_code 136 = .ok (.iconst 1, 1) := by decide +kernel
theorem d_C_restFits_137 : decode prog_2_method_8_code 137 = .ok (.if_icmp .lt 20, 3) := by decide +kernel
theorem d_C_restFits_140 : decode prog_2_method_8_code 140 = .ok (.iload 5, 2) := by decide +kernel
theorem d_C_restFits_142 : decode prog_2_method_8_code 142 = .ok (.aload_n 0, 1) := by decide +kernel
theorem d_C_restFits_143 : decode prog_2_method_8_code 143 = .ok (.getfield 24, 3) := by decide +kernel
theorem d_C_restFits_146 : decode prog_2_method_8_code 146 = .ok (.iload_n 3, 1) := by decide +kernel
theorem d_C_restFits_147 : decode prog_2_method_8_code 147 = .ok (.invokevirtual 146, 3) := by decide +kernel
theorem d_C_restFits_150 : decode prog_2_method_8_code 150 = .ok (.if_icmp .gt 7, 3) := by decide +kernel
theorem d_C_restFits_153 : decode prog_2_method_8_code 153 = .ok (.iconst 1, 1) := by decide +kernel
theorem d_C_restFits_154 : decode prog_2_method_8_code 154 = .ok (.goto 4, 3) := by decide +kernel
theorem d_C_restFits_157 : decode prog_2_method_8_code 157 = .ok (.iconst 0, 1) := by decide +kernel
theorem d_C_restFits_158 : decode prog_2_method_8_code 158 = .ok (.ireturn, 1) := by decide +kernel
theorem d_C_restFits_159 : decode prog_2_method_8_code 159 = .ok (.iconst 1, 1) := by decide +kernel
theorem d_C_restFits_160 : decode prog_2_method_8_code 160 = .ok (.ireturn, 1) := by decide +kernel
theorem d_C_stepFixed_0 : decode prog_2_method_5_code 0 = .ok (.aload_n 0, 1) := by decide +kernel
theorem d_C_stepFixed_1 : decode prog_2_method_5_code 1 = .ok (.getfield 65, 3) := by decide +kernel
theorem d_C_stepFixed_4 : decode prog_2_method_5_code 4 = .ok (.iload_n 1, 1) := by decide +kernel
theorem d_C_stepFixed_5 : decode prog_2_method_5_code 5 = .ok (.iadd, 1) := by decide +kernel
theorem d_C_stepFixed_6 : decode prog_2_method_5_code 6 = .ok (.istore 4, 2) := by decide +kernel
theorem d_C_stepFixed_8 : decode prog_2_method_5_code 8 = .ok (.getstatic 115, 3) := by decide +kernel
theorem d_C_stepFixed_11 : decode prog_2_method_5_code 11 = .ok (.iload_n 3, 1) := by decide +kernel
theorem d_C_stepFixed_12 : decode prog_2_method_5_code 12 = .ok (.iaload, 1) := by decide +kernel
theorem d_C_stepFixed_13 : decode prog_2_method_5_code 13 = .ok (.istore 5, 2) := by decide +kernel
theorem d_C_stepFixed_15 : decode prog_2_method_5_code 15 = .ok (.aload_n 0, 1) := by decide +kernel
theorem d_C_stepFixed_16 : decode prog_2_method_5_code 16 = .ok (.getfield 20, 3) := by decide +kernel
theorem d_C_stepFixed_19 : decode prog_2_method_5_code 19 = .ok (.iload_n 1, 1) := by decide +kernel
theorem d_C_stepFixed_20 : decode prog_2_method_5_code 20 = .ok (.iload 5, 2) := by decide +kernel
theorem d_C_stepFixed_22 : decode prog_2_method_5_code 22 = .ok (.iadd, 1) := by decide +kernel
theorem d_C_stepFixed_23 : decode prog_2_method_5_code 23 = .ok (.aload_n 0, 1) := by decide +kernel
theorem d_C_stepFixed_24 : decode prog_2_method_5_code 24 = .ok (.getfield 36, 3) := by decide +kernel
theorem d_C_stepFixed_27 : decode prog_2_method_5_code 27 = .ok (.if_icmp .gt 7, 3) := by decide +kernel
theorem d_C_stepFixed_30 : decode prog_2_method_5_code 30 = .ok (.iconst 1, 1) := by decide +kernel
theorem d_C_stepFixed_31 : decode prog_2_method_5_code 31 = .ok (.goto 4, 3) := by decide +kernel
theorem d_C_stepFixed_34 : decode prog_2_method_5_code 34 = .ok (.iconst 0, 1) := by decide +kernel
theorem d_C_stepFixed_35 : decode prog_2_method_5_code 35 = .ok (.bipush 25, 2) := by decide +kernel
theorem d_C_stepFixed_37 : decode prog_2_method_5_code 37 = .ok (.iload 4, 2) := by decide +kernel
theorem d_C_stepFixed_39 : decode prog_2_method_5_code 39 = .ok (.invokevirtual 68, 3) := by decide +kernel
theorem d_C_stepFixed_42 : decode prog_2_method_5_code 42 = .ok (.aload_n 0, 1) := by decide +kernel
theorem d_C_stepFixed_43 : decode prog_2_method_5_code 43 = .ok (.getfield 20, 3) := by decide +kernel
theorem d_C_stepFixed_46 : decode prog_2_method_5_code 46 = .ok (.iload 4, 2) := by decide +kernel
theorem d_C_stepFixed_48 : decode prog_2_method_5_code 48 = .ok (.iconst 1, 1) := by decide +kernel
theorem d_C_stepFixed_49 : decode prog_2_method_5_code 49 = .ok (.iadd, 1) := by decide +kernel
theorem d_C_stepFixed_50 : decode prog_2_method_5_code 50 = .ok (.getstatic 118, 3) := by decide +kernel
theorem d_C_stepFixed_53 : decode prog_2_method_5_code 53 = .ok (.iload_n 3, 1) := by decide +kernel
theorem d_C_stepFixed_54 : decode prog_2_method_5_code 54 = .ok (.iaload, 1) := by decide +kernel
theorem d_C_stepFixed_55 : decode prog_2_method_5_code 55 = .ok (.invokevirtual 72, 3) := by decide +kernel
theorem d_C_stepFixed_58 : decode prog_2_method_5_code 58 = .ok (.istore 6, 2) := by decide +kernel
theorem d_C_stepFixed_60 : decode prog_2_method_5_code 60 = .ok (.iload_n 3, 1) := by decide +kernel
theorem d_C_stepFixed_61 : decode prog_2_method_5_code 61 = .ok (.tableswitch 242 2 20 #[91, 91, 242, 242, 242, 94, 94, 134, 134, 94, 176, 187, 242, 242, 242, 242, 242, 242, 197], 91) := by decide +kernel
theorem d_C_stepFixed_152 : decode prog_2_method_5_code 152 = .ok (.goto 198, 3) := by decide +kernel
theorem d_C_stepFixed_155 : decode prog_2_method_5_code 155 = .ok (.aload_n 0, 1) := by decide +kernel
theorem d_C_stepFixed_156 : decode prog_2_method_5_code 156 = .ok (.getfield 20, 3) := by decide +kernel
theorem d_C_stepFixed_159 : decode prog_2_method_5_code 159 = .ok (.iload 6, 2) := by decide +kernel
theorem d_C_stepFixed_161 : decode prog_2_method_5_code 161 = .ok (.iload_n 3, 1) := by decide +kernel
theorem d_C_stepFixed_162 : decode prog_2_method_5_code 162 = .ok (.bipush 8, 2) := by decide +kernel
theorem d_C_stepFixed_164 : decode prog_2_method_5_code 164 = .ok (.if_icmp .ne 7, 3) := by decide +kernel
theorem d_C_stepFixed_167 : decode prog_2_method_5_code 167 = .ok (.iconst 2, 1) := by decide +kernel
theorem d_C_stepFixed_168 : decode prog_2_method_5_code 168 = .ok (.goto 4, 3) := by decide +kernel
theorem d_C_stepFixed_171 : decode prog_2_method_5_code 171 = .ok (.iconst 1, 1) := by decide +kernel
theorem d_C_stepFixed_172 : decode prog_2_method_5_code 172 = .ok (.iadd, 1) := by decide +kernel
theorem d_C_stepFixed_173 : decode prog_2_method_5_code 173 = .ok (.aload_n 0, 1) := by decide +kernel
theorem d_C_stepFixed_174 : decode prog_2_method_5_code 174 = .ok (.getfield 90, 3) := by decide +kernel
theorem d_C_stepFixed_177 : decode prog_2_method_5_code 177 = .ok (.if_icmp .gt 7, 3) := by decide +kernel
theorem d_C_stepFixed_180 : decode prog_2_method_5_code 180 = .ok (.iconst 1, 1) := by decide +kernel
theorem d_C_stepFixed_181 : decode prog_2_method_5_code 181 = .ok (.goto 4, 3) := by decide +kernel
theorem d_C_stepFixed_184 : decode prog_2_method_5_code 184 = .ok (.iconst 0, 1) := by decide +kernel
theorem d_C_stepFixed_185 : decode prog_2_method_5_code 185 = .ok (.bipush 23, 2) := by decide +kernel
theorem d_C_stepFixed_187 : decode prog_2_method_5_code 187 = .ok (.iload 4, 2) := by decide +kernel
theorem d_C_stepFixed_189 : decode prog_2_method_5_code 189 = .ok (.invokevirtual 68, 3) := by decide +kernel
theorem d_C_stepFixed_192 : decode prog_2_method_5_code 192 = .ok (.goto 158, 3) := by decide +kernel
theorem d_C_stepFixed_195 : decode prog_2_method_5_code 195 = .ok (.aload_n 0, 1) := by decide +kernel
theorem d_C_stepFixed_196 : decode prog_2_method_5_code 196 = .ok (.getfield 20, 3) := by decide +kernel
theorem d_C_stepFixed_199 : decode prog_2_method_5_code 199 = .ok (.iload_n 2, 1) := by decide +kernel
theorem d_C_stepFixed_200 : decode prog_2_method_5_code 200 = .ok (.invokestatic 121, 3) := by decide +kernel
theorem d_C_stepFixed_203 : decode prog_2_method_5_code 203 = .ok (.iload_n 3, 1) := by decide +kernel
theorem d_C_stepFixed_204 : decode prog_2_method_5_code 204 = .ok (.bipush 10, 2) := by decide +kernel
theorem d_C_stepFixed_206 : decode prog_2_method_5_code 206 = .ok (.if_icmp .ne 7, 3) := by decide +kernel
theorem d_C_stepFixed_209 : decode prog_2_method_5_code 209 = .ok (.iconst 2, 1) := by decide +kernel
theorem d_C_stepFixed_210 : decode prog_2_method_5_code 210 = .ok (.goto 4, 3) := by decide +kernel
theorem d_C_stepFixed_213 : decode prog_2_method_5_code 213 = .ok (.iconst 1, 1) := by decide +kernel
theorem d_C_stepFixed_214 : decode prog_2_method_5_code 214 = .ok (.iadd, 1) := by decide +kernel
theorem d_C_stepFixed_215 : decode prog_2_method_5_code 215 = .ok (.aload_n 0, 1) := by decide +kernel
theorem d_C_stepFixed_216 : decode prog_2_method_5_code 216 = .ok (.getfield 90, 3) := by decide +kernel
theorem d_C_stepFixed_219 : decode prog_2_method_5_code 219 = .ok (.if_icmp .gt 7, 3) := by decide +kernel
theorem d_C_stepFixed_222 : decode prog_2_method_5_code 222 = .ok (.iconst 1, 1) := by decide +kernel
theorem d_C_stepFixed_223 : decode prog_2_method_5_code 223 = .ok (.goto 4, 3) := by decide +kernel
theorem d_C_stepFixed_226 : decode prog_2_method_5_code 226 = .ok (.iconst 0, 1) := by decide +kernel
theorem d_C_stepFixed_227 : decode prog_2_method_5_code 227 = .ok (.bipush 23, 2) := by decide +kernel
theorem d_C_stepFixed_229 : decode prog_2_method_5_code 229 = .ok (.iload 4, 2) := by decide +kernel
theorem d_C_stepFixed_231 : decode prog_2_method_5_code 231 = .ok (.invokevirtual 68, 3) := by decide +kernel
theorem d_C_stepFixed_234 : decode prog_2_method_5_code 234 = .ok (.goto 116, 3) := by decide +kernel
theorem d_C_stepFixed_237 : decode prog_2_method_5_code 237 = .ok (.aload_n 0, 1) := by decide +kernel
theorem d_C_stepFixed_238 : decode prog_2_method_5_code 238 = .ok (.iload_n 1, 1) := by decide +kernel
theorem d_C_stepFixed_239 : decode prog_2_method_5_code 239 = .ok (.iload 6, 2) := by decide +kernel
theorem d_C_stepFixed_241 : decode prog_2_method_5_code 241 = .ok (.i2s, 1) := by decide +kernel
theorem d_C_stepFixed_242 : decode prog_2_method_5_code 242 = .ok (.invokevirtual 124, 3) := by decide +kernel
theorem d_C_stepFixed_245 : decode prog_2_method_5_code 245 = .ok (.goto 105, 3) := by decide +kernel
theorem d_C_stepFixed_248 : decode prog_2_method_5_code 248 = .ok (.aload_n 0, 1) := by decide +kernel
theorem d_C_stepFixed_249 : decode prog_2_method_5_code 249 = .ok (.iload_n 1, 1) := by decide +kernel
theorem d_C_stepFixed_250 : decode prog_2_method_5_code 250 = .ok (.iload 6, 2) := by decide +kernel
theorem d_C_stepFixed_252 : decode prog_2_method_5_code 252 = .ok (.invokevirtual 124, 3) := by decide +kernel
theorem d_C_stepFixed_255 : decode prog_2_method_5_code 255 = .ok (.goto 95, 3) := by decide +kernel
theorem d_C_stepFixed_258 : decode prog_2_method_5_code 258 = .ok (.aload_n 0, 1) := by decide +kernel
theorem d_C_stepFixed_259 : decode prog_2_method_5_code 259 = .ok (.getfield 20, 3) := by decide +kernel
theorem d_C_stepFixed_262 : decode prog_2_method_5_code 262 = .ok (.iload 6, 2) := by decide +kernel
theorem d_C_stepFixed_264 : decode prog_2_method_5_code 264 = .ok (.iconst 4, 1) := by decide +kernel
theorem d_C_stepFixed_265 : decode prog_2_method_5_code 265 = .ok (.if_icmp .eq 23, 3) := by decide +kernel
theorem d_C_stepFixed_268 : decode prog_2_method_5_code 268 = .ok (.iload 6, 2) := by decide +kernel
theorem d_C_stepFixed_270 : decode prog_2_method_5_code 270 = .ok (.iconst 5, 1) := by decide +kernel
theorem d_C_stepFixed_271 : decode prog_2_method_5_code 271 = .ok (.if_icmp .eq 17, 3) := by decide +kernel
theorem d_C_stepFixed_274 : decode prog_2_method_5_code 274 = .ok (.iload 6, 2) := by decide +kernel
theorem d_C_stepFixed_276 : decode prog_2_method_5_code 276 = .ok (.bipush 8, 2) := by decide +kernel
theorem d_C_stepFixed_278 : decode prog_2_method_5_code 278 = .ok (.if_icmp .lt 14, 3) := by decide +kernel
theorem d_C_stepFixed_281 : decode prog_2_method_5_code 281 = .ok (.iload 6, 2) := by decide +kernel
theorem d_C_stepFixed_283 : decode prog_2_method_5_code 283 = .ok (.bipush 11, 2) := by decide +kernel
theorem d_C_stepFixed_285 : decode prog_2_method_5_code 285 = .ok (.if_icmp .gt 7, 3) := by decide +kernel
theorem d_C_stepFixed_288 : decode prog_2_method_5_code 288 = .ok (.iconst 1, 1) := by decide +kernel
theorem d_C_stepFixed_289 : decode prog_2_method_5_code 289 = .ok (.goto 4, 3) := by decide +kernel
theorem d_C_stepFixed_292 : decode prog_2_method_5_code 292 = .ok (.iconst 0, 1) := by decide +kernel
theorem d_C_stepFixed_293 : decode prog_2_method_5_code 293 = .ok (.bipush 24, 2) := by decide +kernel
theorem d_C_stepFixed_295 : decode prog_2_method_5_code 295 = .ok (.iload 4, 2) := by decide +kernel
theorem d_C_stepFixed_297 : decode prog_2_method_5_code 297 = .ok (.invokevirtual 68, 3) := by decide +kernel
theorem d_C_stepFixed_300 : decode prog_2_method_5_code 300 = .ok (.goto 50, 3) := by decide +kernel
theorem d_C_stepFixed_303 : decode prog_2_method_5_code 303 = .ok (.aload_n 0, 1) := by decide +kernel
theorem d_C_stepFixed_304 : decode prog_2_method_5_code 304 = .ok (.getfield 20, 3) := by decide +kernel
theorem d_C_stepFixed_307 : decode prog_2_method_5_code 307 = .ok (.aload_n 0, 1) := by decide +kernel
theorem d_C_stepFixed_308 : decode prog_2_method_5_code 308 = .ok (.iload_n 3, 1) := by decide +kernel
theorem d_C_stepFixed_309 : decode prog_2_method_5_code 309 = .ok (.iload_n 2, 1) := by decide +kernel
theorem d_C_stepFixed_310 : decode prog_2_method_5_code 310 = .ok (.aload_n 0, 1) := by decide +kernel
theorem d_C_stepFixed_311 : decode prog_2_method_5_code 311 = .ok (.getfield 24, 3) := by decide +kernel
theorem d_C_stepFixed_314 : decode prog_2_method_5_code 314 = .ok (.iload 6, 2) := by decide +kernel
theorem d_C_stepFixed_316 : decode prog_2_method_5_code 316 = .ok (.invokevirtual 128, 3) := by decide +kernel
theorem d_C_stepFixed_319 : decode prog_2_method_5_code 319 = .ok (.invokevirtual 133, 3) := by decide +kernel
theorem d_C_stepFixed_322 : decode prog_2_method_5_code 322 = .ok (.bipush 8, 2) := by decide +kernel
theorem d_C_stepFixed_324 : decode prog_2_method_5_code 324 = .ok (.iload 4, 2) := by decide +kernel
theorem d_C_stepFixed_326 : decode prog_2_method_5_code 326 = .ok (.invokevirtual 68, 3) := by decide +kernel
theorem d_C_stepFixed_329 : decode prog_2_method_5_code 329 = .ok (.aload_n 0, 1) := by decide +kernel
theorem d_C_stepFixed_330 : decode prog_2_method_5_code 330 = .ok (.getfield 20, 3) := by decide +kernel
theorem d_C_stepFixed_333 : decode prog_2_method_5_code 333 = .ok (.aload_n 0, 1) := by decide +kernel
theorem d_C_stepFixed_334 : decode prog_2_method_5_code 334 = .ok (.iload_n 3, 1) := by decide +kernel
theorem d_C_stepFixed_335 : decode prog_2_method_5_code 335 = .ok (.iload_n 2, 1) := by decide +kernel
theorem d_C_stepFixed_336 : decode prog_2_method_5_code 336 = .ok (.iload 6, 2) := by decide +kernel
theorem d_C_stepFixed_338 : decode prog_2_method_5_code 338 = .ok (.iload 4, 2) := by decide +kernel
theorem d_C_stepFixed_340 : decode prog_2_method_5_code 340 = .ok (.invokevirtual 137, 3) := by decide +kernel
theorem d_C_stepFixed_343 : decode prog_2_method_5_code 343 = .ok (.bipush 24, 2) := by decide +kernel
theorem d_C_stepFixed_345 : decode prog_2_method_5_code 345 = .ok (.iload 4, 2) := by decide +kernel
theorem d_C_stepFixed_347 : decode prog_2_method_5_code 347 = .ok (.invokevirtual 68, 3) := by decide +kernel
theorem d_C_stepFixed_350 : decode prog_2_method_5_code 350 = .ok (.iload 5, 2) := by decide +kernel
theorem d_C_stepFixed_352 : decode prog_2_method_5_code 352 = .ok (.ireturn, 1) := by decide +kernel
theorem d_C_pastPadding_0 : decode prog_2_method_12_code 0 = .ok (.iload_n 1, 1) := by decide +kernel
theorem d_C_pastPadding_1 : decode prog_2_method_12_code 1 = .ok (.iconst 4, 1) := by decide +kernel
theorem d_C_pastPadding_2 : decode prog_2_method_12_code 2 = .ok (.iadd, 1) := by decide +kernel
theorem d_C_pastPadding_3 : decode prog_2_method_12_code 3 = .ok (.iconst 4, 1) := by decide +kernel
theorem d_C_pastPadding_4 : decode prog_2_method_12_code 4 = .ok (.idiv, 1) := by decide +kernel
theorem d_C_pastPadding_5 : decode prog_2_method_12_code 5 = .ok (.iconst 4, 1) := by decide +kernel
theorem d_C_pastPadding_6 : decode prog_2_method_12_code 6 = .ok (.imul, 1) := by decide +kernel
theorem d_C_pastPadding_7 : decode prog_2_method_12_code 7 = .ok (.istore_n 2, 1) := by decide +kernel
theorem d_C_pastPadding_8 : decode prog_2_method_12_code 8 = .ok (.iload_n 1, 1) := by decide +kernel
theorem d_C_pastPadding_9 : decode prog_2_method_12_code 9 = .ok (.iconst 1, 1) := by decide +kernel
theorem d_C_pastPadding_10 : decode prog_2_method_12_code 10 = .ok (.iadd, 1) := by decide +kernel
theorem d_C_pastPadding_11 : decode prog_2_method_12_code 11 = .ok (.istore_n 3, 1) := by decide +kernel
theorem d_C_pastPadding_12 : decode prog_2_method_12_code 12 = .ok (.iload_n 3, 1) := by decide +kernel
theorem d_C_pastPadding_13 : decode prog_2_method_12_code 13 = .ok (.iload_n 2, 1) := by decide +kernel
theorem d_C_pastPadding_14 : decode prog_2_method_12_code 14 = .ok (.if_icmp .ge 74, 3) := by decide +kernel
theorem d_C_pastPadding_17 : decode prog_2_method_12_code 17 = .ok (.aload_n 0, 1) := by decide +kernel
theorem d_C_pastPadding_18 : decode prog_2_method_12_code 18 = .ok (.getfield 20, 3) := by decide +kernel
theorem d_C_pastPadding_21 : decode prog_2_method_12_code 21 = .ok (.iload_n 3, 1) := by decide +kernel
theorem d_C_pastPadding_22 : decode prog_2_method_12_code 22 = .ok (.aload_n 0, 1) := by decide +kernel
theorem d_C_pastPadding_23 : decode prog_2_method_12_code 23 = .ok (.getfield 36, 3) := by decide +kernel
theorem d_C_pastPadding_26 : decode prog_2_method_12_code 26 = .ok (.if_icmp .ge 7, 3) := by decide +kernel
theorem d_C_pastPadding_29 : decode prog_2_method_12_code 29 = .ok (.iconst 1, 1) := by decide +kernel
theorem d_C_pastPadding_30 : decode prog_2_method_12_code 30 = .ok (.goto 4, 3) := by decide +kernel
theorem d_C_pastPadding_33 : decode prog_2_method_12_code 33 = .ok (.iconst 0, 1) := by decide +kernel
theorem d_C_pastPadding_34 : decode prog_2_method_12_code 34 = .ok (.bipush 25, 2) := by decide +kernel
theorem d_C_pastPadding_36 : decode prog_2_method_12_code 36 = .ok (.aload_n 0, 1) := by decide +kernel
theorem d_C_pastPadding_37 : decode prog_2_method_12_code 37 = .ok (.getfield 65, 3) := by decide +kernel
theorem d_C_pastPadding_40 : decode prog_2_method_12_code 40 = .ok (.iload_n 1, 1) := by decide +kernel
theorem d_C_pastPadding_41 : decode prog_2_method_12_code 41 = .ok (.iadd, 1) := by decide +kernel
theorem d_C_pastPadding_42 : decode prog_2_method_12_code 42 = .ok (.invokevirtual 68, 3) := by decide +kernel
theorem d_C_pastPadding_45 : decode prog_2_method_12_code 45 = .ok (.aload_n 0, 1) := by decide +kernel
theorem d_C_pastPadding_46 : decode prog_2_method_12_code 46 = .ok (.getfield 20, 3) := by decide +kernel
theorem d_C_pastPadding_49 : decode prog_2_method_12_code 49 = .ok (.aload_n 0, 1) := by decide +kernel
theorem d_C_pastPadding_50 : decode prog_2_method_12_code 50 = .ok (.getfield 20, 3) := by decide +kernel
theorem d_C_pastPadding_53 : decode prog_2_method_12_code 53 = .ok (.aload_n 0, 1) := by decide +kernel
theorem d_C_pastPadding_54 : decode prog_2_method_12_code 54 = .ok (.getfield 65, 3) := by decide +kernel
theorem d_C_pastPadding_57 : decode prog_2_method_12_code 57 = .ok (.iload_n 3, 1) := by decide +kernel
theorem d_C_pastPadding_58 : decode prog_2_method_12_code 58 = .ok (.iadd, 1) := by decide +kernel
theorem d_C_pastPadding_59 : decode prog_2_method_12_code 59 = .ok (.iconst 1, 1) := by decide +kernel
theorem d_C_pastPadding_60 : decode prog_2_method_12_code 60 = .ok (.invokevirtual 72, 3) := by decide +kernel
theorem d_C_pastPadding_63 : decode prog_2_method_12_code 63 = .ok (.ifCond .ne 7, 3) := by decide +kernel
theorem d_C_pastPadding_66 : decode prog_2_method_12_code 66 = .ok (.iconst 1, 1) := by decide +kernel
theorem d_C_pastPadding_67 : decode prog_2_method_12_code 67 = .ok (.goto 4, 3) := by decide +kernel
theorem d_C_pastPadding_70 : decode prog_2_method_12_code 70 = .ok (.iconst 0, 1) := by decide +kernel
theorem d_C_pastPadding_71 : decode prog_2_method_12_code 71 = .ok (.bipush 24, 2) := by decide +kernel
theorem d_C_pastPadding_73 : decode prog_2_method_12_code 73 = .ok (.aload_n 0, 1) := by decide +kernel
theorem d_C_pastPadding_74 : decode prog_2_method_12_code 74 = .ok (.getfield 65, 3) := by decide +kernel
theorem d_C_pastPadding_77 : decode prog_2_method_12_code 77 = .ok (.iload_n 1, 1) := by decide +kernel
theorem d_C_pastPadding_78 : decode prog_2_method_12_code 78 = .ok (.iadd, 1) := by decide +kernel
theorem d_C_pastPadding_79 : decode prog_2_method_12_code 79 = .ok (.invokevirtual 68, 3) := by decide +kernel
theorem d_C_pastPadding_82 : decode prog_2_method_12_code 82 = .ok (.iinc 3 1, 3) := by decide +kernel
theorem d_C_pastPadding_85 : decode prog_2_method_12_code 85 = .ok (.goto (-73), 3) := by decide +kernel
theorem d_C_pastPadding_88 : decode prog_2_method_12_code 88 = .ok (.iload_n 2, 1) := by decide +kernel
theorem d_C_pastPadding_89 : decode prog_2_method_12_code 89 = .ok (.ireturn, 1) := by decide +kernel
theorem d_C_switchNumber_0 : decode prog_2_method_13_code 0 = .ok (.aload_n 0, 1) := by decide +kernel
theorem d_C_switchNumber_1 : decode prog_2_method_13_code 1 = .ok (.getfield 20, 3) := by decide +kernel
theorem d_C_switchNumber_4 : decode prog_2_method_13_code 4 = .ok (.iload_n 2, 1) := by decide +kernel
theorem d_C_switchNumber_5 : decode prog_2_method_13_code 5 = .ok (.iconst 4, 1) := by decide +kernel
theorem d_C_switchNumber_6 : decode prog_2_method_13_code 6 = .ok (.iadd, 1) := by decide +kernel
theorem d_C_switchNumber_7 : decode prog_2_method_13_code 7 = .ok (.aload_n 0, 1) := by decide +kernel
theorem d_C_switchNumber_8 : decode prog_2_method_13_code 8 = .ok (.getfield 36, 3) := by decide +kernel
theorem d_C_switchNumber_11 : decode prog_2_method_13_code 11 = .ok (.if_icmp .gt 7, 3) := by decide +kernel
theorem d_C_switchNumber_14 : decode prog_2_method_13_code 14 = .ok (.iconst 1, 1) := by decide +kernel
theorem d_C_switchNumber_15 : decode prog_2_method_13_code 15 = .ok (.goto 4, 3) := by decide +kernel
theorem d_C_switchNumber_18 : decode prog_2_method_13_code 18 = .ok (.iconst 0, 1) := by decide +kernel
theorem d_C_switchNumber_19 : decode prog_2_method_13_code 19 = .ok (.bipush 25, 2) := by decide +kernel
theorem d_C_switchNumber_21 : decode prog_2_method_13_code 21 = .ok (.aload_n 0, 1) := by decide +kernel
theorem d_C_switchNumber_22 : decode prog_2_method_13_code 22 = .ok (.getfield 65, 3) := by decide +kernel
theorem d_C_switchNumber_25 : decode prog_2_method_13_code 25 = .ok (.iload_n 1, 1) := by decide +kernel
theorem d_C_switchNumber_26 : decode prog_2_method_13_code 26 = .ok (.iadd, 1) := by decide +kernel
theorem d_C_switchNumber_27 : decode prog_2_method_13_code 27 = .ok (.invokevirtual 68, 3) := by decide +kernel
theorem d_C_switchNumber_30 : decode prog_2_method_13_code 30 = .ok (.aload_n 0, 1) := by decide +kernel
theorem d_C_switchNumber_31 : decode prog_2_method_13_code 31 = .ok (.getfield 20, 3) := by decide +kernel
theorem d_C_switchNumber_34 : decode prog_2_method_13_code 34 = .ok (.aload_n 0, 1) := by decide +kernel
theorem d_C_switchNumber_35 : decode prog_2_method_13_code 35 = .ok (.getfield 65, 3) := by decide +kernel
theorem d_C_switchNumber_38 : decode prog_2_method_13_code 38 = .ok (.iload_n 2, 1) := by decide +kernel
theorem d_C_switchNumber_39 : decode prog_2_method_13_code 39 = .ok (.iadd, 1) := by decide +kernel
theorem d_C_switchNumber_40 : decode prog_2_method_13_code 40 = .ok (.iconst 4, 1) := by decide +kernel
theorem d_C_switchNumber_41 : decode prog_2_method_13_code 41 = .ok (.invokevirtual 72, 3) := by decide +kernel
theorem d_C_switchNumber_44 : decode prog_2_method_13_code 44 = .ok (.ireturn, 1) := by decide +kernel
theorem d_C_stepPairs_0 : decode prog_2_method_11_code 0 = .ok (.aload_n 0, 1) := by decide +kernel
theorem d_C_stepPairs_1 : decode prog_2_method_11_code 1 = .ok (.iload_n 1, 1) := by decide +kernel
theorem d_C_stepPairs_2 : decode prog_2_method_11_code 2 = .ok (.invokevirtual 149, 3) := by decide +kernel
theorem d_C_stepPairs_5 : decode prog_2_method_11_code 5 = .ok (.istore_n 2, 1) := by decide +kernel
theorem d_C_stepPairs_6 : decode prog_2_method_11_code 6 = .ok (.aload_n 0, 1) := by decide +kernel
theorem d_C_stepPairs_7 : decode prog_2_method_11_code 7 = .ok (.iload_n 1, 1) := by decide +kernel
theorem d_C_stepPairs_8 : decode prog_2_method_11_code 8 = .ok (.aload_n 0, 1) := by decide +kernel
theorem d_C_stepPairs_9 : decode prog_2_method_11_code 9 = .ok (.iload_n 1, 1) := by decide +kernel
theorem d_C_stepPairs_10 : decode prog_2_method_11_code 10 = .ok (.iload_n 2, 1) := by decide +kernel
theorem d_C_stepPairs_11 : decode prog_2_method_11_code 11 = .ok (.invokevirtual 152, 3) := by decide +kernel
theorem d_C_stepPairs_14 : decode prog_2_method_11_code 14 = .ok (.invokevirtual 124, 3) := by decide +kernel
theorem d_C_stepPairs_17 : decode prog_2_method_11_code 17 = .ok (.aload_n 0, 1) := by decide +kernel
theorem d_C_stepPairs_18 : decode prog_2_method_11_code 18 = .ok (.iload_n 1, 1) := by decide +kernel
theorem d_C_stepPairs_19 : decode prog_2_method_11_code 19 = .ok (.iload_n 2, 1) := by decide +kernel
theorem d_C_stepPairs_20 : decode prog_2_method_11_code 20 = .ok (.iconst 4, 1) := by decide +kernel
theorem d_C_stepPairs_21 : decode prog_2_method_11_code 21 = .ok (.iadd, 1) := by decide +kernel
theorem d_C_stepPairs_22 : decode prog_2_method_11_code 22 = .ok (.invokevirtual 152, 3) := by decide +kernel
theorem d_C_stepPairs_25 : decode prog_2_method_11_code 25 = .ok (.istore_n 3, 1) := by decide +kernel
theorem d_C_stepPairs_26 : decode prog_2_method_11_code 26 = .ok (.aload_n 0, 1) := by decide +kernel
theorem d_C_stepPairs_27 : decode prog_2_method_11_code 27 = .ok (.getfield 20, 3) := by decide +kernel
theorem d_C_stepPairs_30 : decode prog_2_method_11_code 30 = .ok (.iload_n 3, 1) := by decide +kernel
theorem d_C_stepPairs_31 : decode prog_2_method_11_code 31 = .ok (.ifCond .lt 14, 3) := by decide +kernel
theorem d_C_stepPairs_34 : decode prog_2_method_11_code 34 = .ok (.iload_n 3, 1) := by decide +kernel
theorem d_C_stepPairs_35 : decode prog_2_method_11_code 35 = .ok (.sipush 250, 3) := by decide +kernel
theorem d_C_stepPairs_38 : decode prog_2_method_11_code 38 = .ok (.if_icmp .gt 7, 3) := by decide +kernel
theorem d_C_stepPairs_41 : decode prog_2_method_11_code 41 = .ok (.iconst 1, 1) := by decide +kernel
theorem d_C_stepPairs_42 : decode prog_2_method_11_code 42 = .ok (.goto 4, 3) := by decide +kernel
theorem d_C_stepPairs_45 : decode prog_2_method_11_code 45 = .ok (.iconst 0, 1) := by decide +kernel
theorem d_C_stepPairs_46 : decode prog_2_method_11_code 46 = .ok (.bipush 24, 2) := by decide +kernel
theorem d_C_stepPairs_48 : decode prog_2_method_11_code 48 = .ok (.aload_n 0, 1) := by decide +kernel
theorem d_C_stepPairs_49 : decode prog_2_method_11_code 49 = .ok (.getfield 65, 3) := by decide +kernel
theorem d_C_stepPairs_52 : decode prog_2_method_11_code 52 = .ok (.iload_n 1, 1) := by decide +kernel
theorem d_C_stepPairs_53 : decode prog_2_method_11_code 53 = .ok (.iadd, 1) := by decide +kernel
theorem d_C_stepPairs_54 : decode prog_2_method_11_code 54 = .ok (.invokevirtual 68, 3) := by decide +kernel
theorem d_C_stepPairs_57 : decode prog_2_method_11_code 57 = .ok (.iinc 2 8, 3) := by decide +kernel
theorem d_C_stepPairs_60 : decode prog_2_method_11_code 60 = .ok (.iconst 0, 1) := by decide +kernel
theorem d_C_stepPairs_61 : decode prog_2_method_11_code 61 = .ok (.istore 4, 2) := by decide +kernel
theorem d_C_stepPairs_63 : decode prog_2_method_11_code 63 = .ok (.iconst 0, 1) := by decide +kernel
theorem d_C_stepPairs_64 : decode prog_2_method_11_code 64 = .ok (.istore 5, 2) := by decide +kernel
theorem d_C_stepPairs_66 : decode prog_2_method_11_code 66 = .ok (.iload 5, 2) := by decide +kernel
theorem d_C_stepPairs_68 : decode prog_2_method_11_code 68 = .ok (.iload_n 3, 1) := by decide +kernel
theorem d_C_stepPairs_69 : decode prog_2_method_11_code 69 = .ok (.if_icmp .ge 79, 3) := by decide +kernel
theorem d_C_stepPairs_72 : decode prog_2_method_11_code 72 = .ok (.aload_n 0, 1) := by decide +kernel
theorem d_C_stepPairs_73 : decode prog_2_method_11_code 73 = .ok (.getfield 20, 3) := by decide +kernel
theorem d_C_stepPairs_76 : decode prog_2_method_11_code 76 = .ok (.invokevirtual 39, 3) := by decide +kernel
theorem d_C_stepPairs_79 : decode prog_2_method_11_code 79 = .ok (.ifCond .eq 69, 3) := by decide +kernel
theorem d_C_stepPairs_82 : decode prog_2_method_11_code 82 = .ok (.aload_n 0, 1) := by decide +kernel
theorem d_C_stepPairs_83 : decode prog_2_method_11_code 83 = .ok (.iload_n 1, 1) := by decide +kernel
theorem d_C_stepPairs_84 : decode prog_2_method_11_code 84 = .ok (.iload_n 2, 1) := by decide +kernel
theorem d_C_stepPairs_85 : decode prog_2_method_11_code 85 = .ok (.invokevirtual 152, 3) := by decide +kernel
theorem d_C_stepPairs_88 : decode prog_2_method_11_code 88 = .ok (.istore 6, 2) := by decide +kernel
theorem d_C_stepPairs_90 : decode prog_2_method_11_code 90 = .ok (.aload_n 0, 1) := by decide +kernel
theorem d_C_stepPairs_91 : decode prog_2_method_11_code 91 = .ok (.getfield 20, 3) := by decide +kernel
theorem d_C_stepPairs_94 : decode prog_2_method_11_code 94 = .ok (.iload 5, 2) := by decide +kernel
theorem d_C_stepPairs_96 : decode prog_2_method_11_code 96 = .ok (.ifCond .eq 10, 3) := by decide +kernel
theorem d_C_stepPairs_99 : decode prog_2_method_11_code 99 = .ok (.iload 6, 2) := by decide +kernel
theorem d_C_stepPairs_101 : decode prog_2_method_11_code 101 = .ok (.iload 4, 2) := by decide +kernel
theorem d_C_stepPairs_103 : decode prog_2_method_11_code 103 = .ok (.if_icmp .le 7, 3) := by decide +kernel
theorem d_C_stepPairs_106 : decode prog_2_method_11_code 106 = .ok (.iconst 1, 1) := by decide +kernel
theorem d_C_stepPairs_107 : decode prog_2_method_11_code 107 = .ok (.goto 4, 3) := by decide +kernel
theorem d_C_stepPairs_110 : decode prog_2_method_11_code 110 = .ok (.iconst 0, 1) := by decide +kernel
theorem d_C_stepPairs_111 : decode prog_2_method_11_code 111 = .ok (.bipush 24, 2) := by decide +kernel
theorem d_C_stepPairs_113 : decode prog_2_method_11_code 113 = .ok (.aload_n 0, 1) := by decide +kernel
theorem d_C_stepPairs_114 : decode prog_2_method_11_code 114 = .ok (.getfield 65, 3) := by decide +kernel
theorem d_C_stepPairs_117 : decode prog_2_method_11_code 117 = .ok (.iload_n 1, 1) := by decide +kernel
theorem d_C_stepPairs_118 : decode prog_2_method_11_code 118 = .ok (.iadd, 1) := by decide +kernel
theorem d_C_stepPairs_119 : decode prog_2_method_11_code 119 = .ok (.invokevirtual 68, 3) := by decide +kernel
theorem d_C_stepPairs_122 : decode prog_2_method_11_code 122 = .ok (.aload_n 0, 1) := by decide +kernel
theorem d_C_stepPairs_123 : decode prog_2_method_11_code 123 = .ok (.iload_n 1, 1) := by decide +kernel
theorem d_C_stepPairs_124 : decode prog_2_method_11_code 124 = .ok (.aload_n 0, 1) := by decide +kernel
theorem d_C_stepPairs_125 : decode prog_2_method_11_code 125 = .ok (.iload_n 1, 1) := by decide +kernel
theorem d_C_stepPairs_126 : decode prog_2_method_11_code 126 = .ok (.iload_n 2, 1) := by decide +kernel
theorem d_C_stepPairs_127 : decode prog_2_method_11_code 127 = .ok (.iconst 4, 1) := by decide +kernel
theorem d_C_stepPairs_128 : decode prog_2_method_11_code 128 = .ok (.iadd, 1) := by decide +kernel
theorem d_C_stepPairs_129 : decode prog_2_method_11_code 129 = .ok (.invokevirtual 152, 3) := by decide +kernel
theorem d_C_stepPairs_132 : decode prog_2_method_11_code 132 = .ok (.invokevirtual 124, 3) := by decide +kernel
theorem d_C_stepPairs_135 : decode prog_2_method_11_code 135 = .ok (.iload 6, 2) := by decide +kernel
theorem d_C_stepPairs_137 : decode prog_2_method_11_code 137 = .ok (.istore 4, 2) := by decide +kernel
theorem d_C_stepPairs_139 : decode prog_2_method_11_code 139 = .ok (.iinc 2 8, 3) := by decide +kernel
theorem d_C_stepPairs_142 : decode prog_2_method_11_code 142 = .ok (.iinc 5 1, 3) := by decide +kernel
theorem d_C_stepPairs_145 : decode prog_2_method_11_code 145 = .ok (.goto (-79), 3) := by decide +kernel
theorem d_C_stepPairs_148 : decode prog_2_method_11_code 148 = .ok (.iload_n 2, 1) := by decide +kernel
theorem d_C_stepPairs_149 : decode prog_2_method_11_code 149 = .ok (.iload_n 1, 1) := by decide +kernel
theorem d_C_stepPairs_150 : decode prog_2_method_11_code 150 = .ok (.isub, 1) := by decide +kernel
theorem d_C_stepPairs_151 : decode prog_2_method_11_code 151 = .ok (.ireturn, 1) := by decide +kernel
theorem d_C_stepTable_0 : decode prog_2_method_10_code 0 = .ok (.aload_n 0, 1) := by decide +kernel
theorem d_C_stepTable_1 : decode prog_2_method_10_code 1 = .ok (.iload_n 1, 1) := by decide +kernel
theorem d_C_stepTable_2 : decode prog_2_method_10_code 2 = .ok (.invokevirtual 149, 3) := by decide +kernel
theorem d_C_stepTable_5 : decode prog_2_method_10_code 5 = .ok (.istore_n 2, 1) := by decide +kernel
theorem d_C_stepTable_6 : decode prog_2_method_10_code 6 = .ok (.aload_n 0, 1) := by decide +kernel
theorem d_C_stepTable_7 : decode prog_2_method_10_code 7 = .ok (.iload_n 1, 1) := by decide +kernel
theorem d_C_stepTable_8 : decode prog_2_method_10_code 8 = .ok (.aload_n 0, 1) := by decide +kernel
theorem d_C_stepTable_9 : decode prog_2_method_10_code 9 = .ok (.iload_n 1, 1) := by decide +kernel
theorem d_C_stepTable_10 : decode prog_2_method_10_code 10 = .ok (.iload_n 2, 1) := by decide +kernel
theorem d_C_stepTable_11 : decode prog_2_method_10_code 11 = .ok (.invokevirtual 152, 3) := by decide +kernel
theorem d_C_stepTable_14 : decode prog_2_method_10_code 14 = .ok (.invokevirtual 124, 3) := by decide +kernel
theorem d_C_stepTable_17 : decode prog_2_method_10_code 17 = .ok (.aload_n 0, 1) := by decide +kernel
theorem d_C_stepTable_18 : decode prog_2_method_10_code 18 = .ok (.iload_n 1, 1) := by decide +kernel
theorem d_C_stepTable_19 : decode prog_2_method_10_code 19 = .ok (.iload_n 2, 1) := by decide +kernel
theorem d_C_stepTable_20 : decode prog_2_method_10_code 20 = .ok (.iconst 4, 1) := by decide +kernel
theorem d_C_stepTable_21 : decode prog_2_method_10_code 21 = .ok (.iadd, 1) := by decide +kernel
theorem d_C_stepTable_22 : decode prog_2_method_10_code 22 = .ok (.invokevirtual 152, 3) := by decide +kernel
theorem d_C_stepTable_25 : decode prog_2_method_10_code 25 = .ok (.istore_n 3, 1) := by decide +kernel
theorem d_C_stepTable_26 : decode prog_2_method_10_code 26 = .ok (.aload_n 0, 1) := by decide +kernel
theorem d_C_stepTable_27 : decode prog_2_method_10_code 27 = .ok (.iload_n 1, 1) := by decide +kernel
theorem d_C_stepTable_28 : decode prog_2_method_10_code 28 = .ok (.iload_n 2, 1) := by decide +kernel
theorem d_C_stepTable_29 : decode prog_2_method_10_code 29 = .ok (.bipush 8, 2) := by decide +kernel
theorem d_C_stepTable_31 : decode prog_2_method_10_code 31 = .ok (.iadd, 1) := by decide +kernel
theorem d_C_stepTable_32 : decode prog_2_method_10_code 32 = .ok (.invokevirtual 152, 3) := by decide +kernel
theorem d_C_stepTable_35 : decode prog_2_method_10_code 35 = .ok (.istore 4, 2) := by decide +kernel
theorem d_C_stepTable_37 : decode prog_2_method_10_code 37 = .ok (.iload 4, 2) := by decide +kernel
theorem d_C_stepTable_39 : decode prog_2_method_10_code 39 = .ok (.i2l, 1) := by decide +kernel
theorem d_C_stepTable_40 : decode prog_2_method_10_code 40 = .ok (.iload_n 3, 1) := by decide +kernel
theorem d_C_stepTable_41 : decode prog_2_method_10_code 41 = .ok (.i2l, 1) := by decide +kernel
theorem d_C_stepTable_42 : decode prog_2_method_10_code 42 = .ok (.lsub, 1) := by decide +kernel
theorem d_C_stepTable_43 : decode prog_2_method_10_code 43 = .ok (.lconst 1, 1) := by decide +kernel
theorem d_C_stepTable_44 : decode prog_2_method_10_code 44 = .ok (.ladd, 1) := by decide +kernel
theorem d_C_stepTable_45 : decode prog_2_method_10_code 45 = .ok (.lstore 5, 2) := by decide +kernel
theorem d_C_stepTable_47 : decode prog_2_method_10_code 47 = .ok (.aload_n 0, 1) := by decide +kernel
theorem d_C_stepTable_48 : decode prog_2_method_10_code 48 = .ok (.getfield 20, 3) := by decide +kernel
theorem d_C_stepTable_51 : decode prog_2_method_10_code 51 = .ok (.lload 5, 2) := by decide +kernel
theorem d_C_stepTable_53 : decode prog_2_method_10_code 53 = .ok (.lconst 1, 1) := by decide +kernel
theorem d_C_stepTable_54 : decode prog_2_method_10_code 54 = .ok (.lcmp, 1) := by decide +kernel
theorem d_C_stepTable_55 : decode prog_2_method_10_code 55 = .ok (.ifCond .lt 16, 3) := by decide +kernel
theorem d_C_stepTable_58 : decode prog_2_method_10_code 58 = .ok (.lload 5, 2) := by decide +kernel
theorem d_C_stepTable_60 : decode prog_2_method_10_code 60 = .ok (.ldc2_w 155, 3) := by decide +kernel
theorem d_C_stepTable_63 : decode prog_2_method_10_code 63 = .ok (.lcmp, 1) := by decide +kernel
theorem d_C_stepTable_64 : decode prog_2_method_10_code 64 = .ok (.ifCond .gt 7, 3) := by decide +kernel
theorem d_C_stepTable_67 : decode prog_2_method_10_code 67 = .ok (.iconst 1, 1) := by decide +kernel
theorem d_C_stepTable_68 : decode prog_2_method_10_code 68 = .ok (.goto 4, 3) := by decide +kernel
theorem d_C_stepTable_71 : decode prog_2_method_10_code 71 = .ok (.iconst 0, 1) := by decide +kernel
theorem d_C_stepTable_72 : decode prog_2_method_10_code 72 = .ok (.bipush 24, 2) := by decide +kernel
theorem d_C_stepTable_74 : decode prog_2_method_10_code 74 = .ok (.aload_n 0, 1) := by decide +kernel
theorem d_C_stepTable_75 : decode prog_2_method_10_code 75 = .ok (.getfield 65, 3) := by decide +kernel
theorem d_C_stepTable_78 : decode prog_2_method_10_code 78 = .ok (.iload_n 1, 1) := by decide +kernel
theorem d_C_stepTable_79 : decode prog_2_method_10_code 79 = .ok (.iadd, 1) := by decide +kernel
theorem d_C_stepTable_80 : decode prog_2_method_10_code 80 = .ok (.invokevirtual 68, 3) := by decide +kernel
theorem d_C_stepTable_83 : decode prog_2_method_10_code 83 = .ok (.iinc 2 12, 3) := by decide +kernel
theorem d_C_stepTable_86 : decode prog_2_method_10_code 86 = .ok (.iconst 0, 1) := by decide +kernel
theorem d_C_stepTable_87 : decode prog_2_method_10_code 87 = .ok (.istore 7, 2) := by decide +kernel
theorem d_C_stepTable_89 : decode prog_2_method_10_code 89 = .ok (.iload 7, 2) := by decide +kernel
theorem d_C_stepTable_91 : decode prog_2_method_10_code 91 = .ok (.i2l, 1) := by decide +kernel
theorem d_C_stepTable_92 : decode prog_2_method_10_code 92 = .ok (.lload 5, 2) := by decide +kernel
theorem d_C_stepTable_94 : decode prog_2_method_10_code 94 = .ok (.lcmp, 1) := by decide +kernel
theorem d_C_stepTable_95 : decode prog_2_method_10_code 95 = .ok (.ifCond .ge 41, 3) := by decide +kernel
theorem d_C_stepTable_98 : decode prog_2_method_10_code 98 = .ok (.iload 7, 2) := by decide +kernel
theorem d_C_stepTable_100 : decode prog_2_method_10_code 100 = .ok (.sipush 500, 3) := by decide +kernel
theorem d_C_stepTable_103 : decode prog_2_method_10_code 103 = .ok (.if_icmp .ge 33, 3) := by decide +kernel
theorem d_C_stepTable_106 : decode prog_2_method_10_code 106 = .ok (.aload_n 0, 1) := by decide +kernel
theorem d_C_stepTable_107 : decode prog_2_method_10_code 107 = .ok (.getfield 20, 3) := by decide +kernel
theorem d_C_stepTable_110 : decode prog_2_method_10_code 110 = .ok (.invokevirtual 39, 3) := by decide +kernel
theorem d_C_stepTable_113 : decode prog_2_method_10_code 113 = .ok (.ifCond .eq 23, 3) := by decide +kernel
theorem d_C_stepTable_116 : decode prog_2_method_10_code 116 = .ok (.aload_n 0, 1) := by decide +kernel
theorem d_C_stepTable_117 : decode prog_2_method_10_code 117 = .ok (.iload_n 1, 1) := by decide +kernel
theorem d_C_stepTable_118 : decode prog_2_method_10_code 118 = .ok (.aload_n 0, 1) := by decide +kernel
theorem d_C_stepTable_119 : decode prog_2_method_10_code 119 = .ok (.iload_n 1, 1) := by decide +kernel
theorem d_C_stepTable_120 : decode prog_2_method_10_code 120 = .ok (.iload_n 2, 1) := by decide +kernel
theorem d_C_stepTable_121 : decode prog_2_method_10_code 121 = .ok (.invokevirtual 152, 3) := by decide +kernel
theorem d_C_stepTable_124 : decode prog_2_method_10_code 124 = .ok (.invokevirtual 124, 3) := by decide +kernel
theorem d_C_stepTable_127 : decode prog_2_method_10_code 127 = .ok (.iinc 2 4, 3) := by decide +kernel
theorem d_C_stepTable_130 : decode prog_2_method_10_code 130 = .ok (.iinc 7 1, 3) := by decide +kernel
theorem d_C_stepTable_133 : decode prog_2_method_10_code 133 = .ok (.goto (-44), 3) := by decide +kernel
theorem d_C_stepTable_136 : decode prog_2_method_10_code 136 = .ok (.iload_n 2, 1) := by decide +kernel
theorem d_C_stepTable_137 : decode prog_2_method_10_code 137 = .ok (.iload_n 1, 1) := by decide +kernel
theorem d_C_stepTable_138 : decode prog_2_method_10_code 138 = .ok (.isub, 1) := by decide +kernel
theorem d_C_stepTable_139 : decode prog_2_method_10_code 139 = .ok (.ireturn, 1) := by decide +kernel
theorem d_C_stepWide_0 : decode prog_2_method_9_code 0 = .ok (.aload_n 0, 1) := by decide +kernel
theorem d_C_stepWide_1 : decode prog_2_method_9_code 1 = .ok (.getfield 65, 3) := by decide +kernel
theorem d_C_stepWide_4 : decode prog_2_method_9_code 4 = .ok (.iload_n 1, 1) := by decide +kernel
theorem d_C_stepWide_5 : decode prog_2_method_9_code 5 = .ok (.iadd, 1) := by decide +kernel
theorem d_C_stepWide_6 : decode prog_2_method_9_code 6 = .ok (.istore_n 2, 1) := by decide +kernel
theorem d_C_stepWide_7 : decode prog_2_method_9_code 7 = .ok (.aload_n 0, 1) := by decide +kernel
theorem d_C_stepWide_8 : decode prog_2_method_9_code 8 = .ok (.getfield 20, 3) := by decide +kernel
theorem d_C_stepWide_11 : decode prog_2_method_9_code 11 = .ok (.iload_n 1, 1) := by decide +kernel
theorem d_C_stepWide_12 : decode prog_2_method_9_code 12 = .ok (.iconst 1, 1) := by decide +kernel
theorem d_C_stepWide_13 : decode prog_2_method_9_code 13 = .ok (.iadd, 1) := by decide +kernel
theorem d_C_stepWide_14 : decode prog_2_method_9_code 14 = .ok (.aload_n 0, 1) := by decide +kernel
theorem d_C_stepWide_15 : decode prog_2_method_9_code 15 = .ok (.getfield 36, 3) := by decide +kernel
theorem d_C_stepWide_18 : decode prog_2_method_9_code 18 = .ok (.if_icmp .ge 7, 3) := by decide +kernel
theorem d_C_stepWide_21 : decode prog_2_method_9_code 21 = .ok (.iconst 1, 1) := by decide +kernel
theorem d_C_stepWide_22 : decode prog_2_method_9_code 22 = .ok (.goto 4, 3) := by decide +kernel
theorem d_C_stepWide_25 : decode prog_2_method_9_code 25 = .ok (.iconst 0, 1) := by decide +kernel
theorem d_C_stepWide_26 : decode prog_2_method_9_code 26 = .ok (.bipush 25, 2) := by decide +kernel
theorem d_C_stepWide_28 : decode prog_2_method_9_code 28 = .ok (.iload_n 2, 1) := by decide +kernel
theorem d_C_stepWide_29 : decode prog_2_method_9_code 29 = .ok (.invokevirtual 68, 3) := by decide +kernel
theorem d_C_stepWide_32 : decode prog_2_method_9_code 32 = .ok (.aload_n 0, 1) := by decide +kernel
theorem d_C_stepWide_33 : decode prog_2_method_9_code 33 = .ok (.getfield 20, 3) := by decide +kernel
theorem d_C_stepWide_36 : decode prog_2_method_9_code 36 = .ok (.iload_n 2, 1) := by decide +kernel
theorem d_C_stepWide_37 : decode prog_2_method_9_code 37 = .ok (.iconst 1, 1) := by decide +kernel
theorem d_C_stepWide_38 : decode prog_2_method_9_code 38 = .ok (.iadd, 1) := by decide +kernel
theorem d_C_stepWide_39 : decode prog_2_method_9_code 39 = .ok (.iconst 1, 1) := by decide +kernel
theorem d_C_stepWide_40 : decode prog_2_method_9_code 40 = .ok (.invokevirtual 72, 3) := by decide +kernel
theorem d_C_stepWide_43 : decode prog_2_method_9_code 43 = .ok (.istore_n 3, 1) := by decide +kernel
theorem d_C_stepWide_44 : decode prog_2_method_9_code 44 = .ok (.iload_n 3, 1) := by decide +kernel
theorem d_C_stepWide_45 : decode prog_2_method_9_code 45 = .ok (.getstatic 99, 3) := by decide +kernel
theorem d_C_stepWide_48 : decode prog_2_method_9_code 48 = .ok (.arraylength, 1) := by decide +kernel
theorem d_C_stepWide_49 : decode prog_2_method_9_code 49 = .ok (.if_icmp .ge 11, 3) := by decide +kernel
theorem d_C_stepWide_52 : decode prog_2_method_9_code 52 = .ok (.getstatic 99, 3) := by decide +kernel
theorem d_C_stepWide_55 : decode prog_2_method_9_code 55 = .ok (.iload_n 3, 1) := by decide +kernel
theorem d_C_stepWide_56 : decode prog_2_method_9_code 56 = .ok (.iaload, 1) := by decide +kernel
theorem d_C_stepWide_57 : decode prog_2_method_9_code 57 = .ok (.goto 4, 3) := by decide +kernel
theorem d_C_stepWide_60 : decode prog_2_method_9_code 60 = .ok (.iconst 0, 1) := by decide +kernel
theorem d_C_stepWide_61 : decode prog_2_method_9_code 61 = .ok (.istore 4, 2) := by decide +kernel
theorem d_C_stepWide_63 : decode prog_2_method_9_code 63 = .ok (.aload_n 0, 1) := by decide +kernel
theorem d_C_stepWide_64 : decode prog_2_method_9_code 64 = .ok (.getfield 20, 3) := by decide +kernel
theorem d_C_stepWide_67 : decode prog_2_method_9_code 67 = .ok (.iload 4, 2) := by decide +kernel
theorem d_C_stepWide_69 : decode prog_2_method_9_code 69 = .ok (.bipush 7, 2) := by decide +kernel
theorem d_C_stepWide_71 : decode prog_2_method_9_code 71 = .ok (.if_icmp .eq 17, 3) := by decide +kernel
theorem d_C_stepWide_74 : decode prog_2_method_9_code 74 = .ok (.iload 4, 2) := by decide +kernel
theorem d_C_stepWide_76 : decode prog_2_method_9_code 76 = .ok (.bipush 8, 2) := by decide +kernel
theorem d_C_stepWide_78 : decode prog_2_method_9_code 78 = .ok (.if_icmp .eq 10, 3) := by decide +kernel
theorem d_C_stepWide_81 : decode prog_2_method_9_code 81 = .ok (.iload 4, 2) := by decide +kernel
theorem d_C_stepWide_83 : decode prog_2_method_9_code 83 = .ok (.bipush 11, 2) := by decide +kernel
theorem d_C_stepWide_85 : decode prog_2_method_9_code 85 = .ok (.if_icmp .ne 7, 3) := by decide +kernel
theorem d_C_stepWide_88 : decode prog_2_method_9_code 88 = .ok (.iconst 1, 1) := by decide +kernel
theorem d_C_stepWide_89 : decode prog_2_method_9_code 89 = .ok (.goto 4, 3) := by decide +kernel
theorem d_C_stepWide_92 : decode prog_2_method_9_code 92 = .ok (.iconst 0, 1) := by decide +kernel
theorem d_C_stepWide_93 : decode prog_2_method_9_code 93 = .ok (.bipush 22, 2) := by decide +kernel
theorem d_C_stepWide_95 : decode prog_2_method_9_code 95 = .ok (.iload_n 2, 1) := by decide +kernel
theorem d_C_stepWide_96 : decode prog_2_method_9_code 96 = .ok (.invokevirtual 68, 3) := by decide +kernel
theorem d_C_stepWide_99 : decode prog_2_method_9_code 99 = .ok (.iload 4, 2) := by decide +kernel
theorem d_C_stepWide_101 : decode prog_2_method_9_code 101 = .ok (.bipush 11, 2) := by decide +kernel
theorem d_C_stepWide_103 : decode prog_2_method_9_code 103 = .ok (.if_icmp .ne 8, 3) := by decide +kernel
theorem d_C_stepWide_106 : decode prog_2_method_9_code 106 = .ok (.bipush 6, 2) := by decide +kernel
theorem d_C_stepWide_108 : decode prog_2_method_9_code 108 = .ok (.goto 4, 3) := by decide +kernel
theorem d_C_stepWide_111 : decode prog_2_method_9_code 111 = .ok (.iconst 4, 1) := by decide +kernel
theorem d_C_stepWide_112 : decode prog_2_method_9_code 112 = .ok (.istore 5, 2) := by decide +kernel
theorem d_C_stepWide_114 : decode prog_2_method_9_code 114 = .ok (.aload_n 0, 1) := by decide +kernel
theorem d_C_stepWide_115 : decode prog_2_method_9_code 115 = .ok (.getfield 20, 3) := by decide +kernel
theorem d_C_stepWide_118 : decode prog_2_method_9_code 118 = .ok (.iload_n 1, 1) := by decide +kernel
theorem d_C_stepWide_119 : decode prog_2_method_9_code 119 = .ok (.iload 5, 2) := by decide +kernel
theorem d_C_stepWide_121 : decode prog_2_method_9_code 121 = .ok (.iadd, 1) := by decide +kernel
theorem d_C_stepWide_122 : decode prog_2_method_9_code 122 = .ok (.aload_n 0, 1) := by decide +kernel
theorem d_C_stepWide_123 : decode prog_2_method_9_code 123 = .ok (.getfield 36, 3) := by decide +kernel
theorem d_C_stepWide_126 : decode prog_2_method_9_code 126 = .ok (.if_icmp .gt 7, 3) := by decide +kernel
theorem d_C_stepWide_129 : decode prog_2_method_9_code 129 = .ok (.iconst 1, 1) := by decide +kernel
theorem d_C_stepWide_130 : decode prog_2_method_9_code 130 = .ok (.goto 4, 3) := by decide +kernel
theorem d_C_stepWide_133 : decode prog_2_method_9_code 133 = .ok (.iconst 0, 1) := by decide +kernel
theorem d_C_stepWide_134 : decode prog_2_method_9_code 134 = .ok (.bipush 25, 2) := by decide +kernel
theorem d_C_stepWide_136 : decode prog_2_method_9_code 136 = .ok (.iload_n 2, 1) := by decide +kernel
theorem d_C_stepWide_137 : decode prog_2_method_9_code 137 = .ok (.invokevirtual 68, 3) := by decide +kernel
theorem d_C_stepWide_140 : decode prog_2_method_9_code 140 = .ok (.aload_n 0, 1) := by decide +kernel
theorem d_C_stepWide_141 : decode prog_2_method_9_code 141 = .ok (.getfield 20, 3) := by decide +kernel
theorem d_C_stepWide_144 : decode prog_2_method_9_code 144 = .ok (.iload_n 2, 1) := by decide +kernel
theorem d_C_stepWide_145 : decode prog_2_method_9_code 145 = .ok (.iconst 2, 1) := by decide +kernel
theorem d_C_stepWide_146 : decode prog_2_method_9_code 146 = .ok (.iadd, 1) := by decide +kernel
theorem d_C_stepWide_147 : decode prog_2_method_9_code 147 = .ok (.iconst 2, 1) := by decide +kernel
theorem d_C_stepWide_148 : decode prog_2_method_9_code 148 = .ok (.invokevirtual 72, 3) := by decide +kernel
theorem d_C_stepWide_151 : decode prog_2_method_9_code 151 = .ok (.istore 6, 2) := by decide +kernel
theorem d_C_stepWide_153 : decode prog_2_method_9_code 153 = .ok (.aload_n 0, 1) := by decide +kernel
theorem d_C_stepWide_154 : decode prog_2_method_9_code 154 = .ok (.getfield 20, 3) := by decide +kernel
theorem d_C_stepWide_157 : decode prog_2_method_9_code 157 = .ok (.iload 6, 2) := by decide +kernel
theorem d_C_stepWide_159 : decode prog_2_method_9_code 159 = .ok (.iload 4, 2) := by decide +kernel
theorem d_C_stepWide_161 : decode prog_2_method_9_code 161 = .ok (.bipush 8, 2) := by decide +kernel
theorem d_C_stepWide_163 : decode prog_2_method_9_code 163 = .ok (.if_icmp .ne 7, 3) := by decide +kernel
theorem d_C_stepWide_166 : decode prog_2_method_9_code 166 = .ok (.iconst 2, 1) := by decide +kernel
theorem d_C_stepWide_167 : decode prog_2_method_9_code 167 = .ok (.goto 4, 3) := by decide +kernel
theorem d_C_stepWide_170 : decode prog_2_method_9_code 170 = .ok (.iconst 1, 1) := by decide +kernel
theorem d_C_stepWide_171 : decode prog_2_method_9_code 171 = .ok (.iadd, 1) := by decide +kernel
theorem d_C_stepWide_172 : decode prog_2_method_9_code 172 = .ok (.aload_n 0, 1) := by decide +kernel
theorem d_C_stepWide_173 : decode prog_2_method_9_code 173 = .ok (.getfield 90, 3) := by decide +kernel
theorem d_C_stepWide_176 : decode prog_2_method_9_code 176 = .ok (.if_icmp .gt 7, 3) := by decide +kernel
theorem d_C_stepWide_179 : decode prog_2_method_9_code 179 = .ok (.iconst 1, 1) := by decide +kernel
theorem d_C_stepWide_180 : decode prog_2_method_9_code 180 = .ok (.goto 4, 3) := by decide +kernel
theorem d_C_stepWide_183 : decode prog_2_method_9_code 183 = .ok (.iconst 0, 1) := by decide +kernel
theorem d_C_stepWide_184 : decode prog_2_method_9_code 184 = .ok (.bipush 23, 2) := by decide +kernel
theorem d_C_stepWide_186 : decode prog_2_method_9_code 186 = .ok (.iload_n 2, 1) := by decide +kernel
theorem d_C_stepWide_187 : decode prog_2_method_9_code 187 = .ok (.invokevirtual 68, 3) := by decide +kernel
theorem d_C_stepWide_190 : decode prog_2_method_9_code 190 = .ok (.iload 5, 2) := by decide +kernel
theorem d_C_stepWide_192 : decode prog_2_method_9_code 192 = .ok (.ireturn, 1) := by decide +kernel
theorem d_C_step_0 : decode prog_2_method_4_code 0 = .ok (.aload_n 0, 1) := by decide +kernel
theorem d_C_step_1 : decode prog_2_method_4_code 1 = .ok (.getfield 20, 3) := by decide +kernel
theorem d_C_step_4 : decode prog_2_method_4_code 4 = .ok (.aload_n 0, 1) := by decide +kernel
theorem d_C_step_5 : decode prog_2_method_4_code 5 = .ok (.getfield 65, 3) := by decide +kernel
theorem d_C_step_8 : decode prog_2_method_4_code 8 = .ok (.iload_n 1, 1) := by decide +kernel
theorem d_C_step_9 : decode prog_2_method_4_code 9 = .ok (.iadd, 1) := by decide +kernel
theorem d_C_step_10 : decode prog_2_method_4_code 10 = .ok (.iconst 1, 1) := by decide +kernel
theorem d_C_step_11 : decode prog_2_method_4_code 11 = .ok (.invokevirtual 72, 3) := by decide +kernel
theorem d_C_step_14 : decode prog_2_method_4_code 14 = .ok (.istore_n 2, 1) := by decide +kernel
theorem d_C_step_15 : decode prog_2_method_4_code 15 = .ok (.iload_n 2, 1) := by decide +kernel
theorem d_C_step_16 : decode prog_2_method_4_code 16 = .ok (.getstatic 99, 3) := by decide +kernel
theorem d_C_step_19 : decode prog_2_method_4_code 19 = .ok (.arraylength, 1) := by decide +kernel
theorem d_C_step_20 : decode prog_2_method_4_code 20 = .ok (.if_icmp .ge 11, 3) := by decide +kernel
theorem d_C_step_23 : decode prog_2_method_4_code 23 = .ok (.getstatic 99, 3) := by decide +kernel
theorem d_C_step_26 : decode prog_2_method_4_code 26 = .ok (.iload_n 2, 1) := by decide +kernel
theorem d_C_step_27 : decode prog_2_method_4_code 27 = .ok (.iaload, 1) := by decide +kernel
theorem d_C_step_28 : decode prog_2_method_4_code 28 = .ok (.goto 4, 3) := by decide +kernel
theorem d_C_step_31 : decode prog_2_method_4_code 31 = .ok (.iconst 0, 1) := by decide +kernel
theorem d_C_step_32 : decode prog_2_method_4_code 32 = .ok (.istore_n 3, 1) := by decide +kernel
theorem d_C_step_33 : decode prog_2_method_4_code 33 = .ok (.iload_n 3, 1) := by decide +kernel
theorem d_C_step_34 : decode prog_2_method_4_code 34 = .ok (.lookupswitch 88 #[(0, 50), (1, 68), (14, 70), (15, 76), (22, 82)], 50) := by decide +kernel
theorem d_C_step_84 : decode prog_2_method_4_code 84 = .ok (.aload_n 0, 1) := by decide +kernel
theorem d_C_step_85 : decode prog_2_method_4_code 85 = .ok (.getfield 20, 3) := by decide +kernel
theorem d_C_step_88 : decode prog_2_method_4_code 88 = .ok (.iconst 0, 1) := by decide +kernel
theorem d_C_step_89 : decode prog_2_method_4_code 89 = .ok (.bipush 22, 2) := by decide +kernel
theorem d_C_step_91 : decode prog_2_method_4_code 91 = .ok (.aload_n 0, 1) := by decide +kernel
theorem d_C_step_92 : decode prog_2_method_4_code 92 = .ok (.getfield 65, 3) := by decide +kernel
theorem d_C_step_95 : decode prog_2_method_4_code 95 = .ok (.iload_n 1, 1) := by decide +kernel
theorem d_C_step_96 : decode prog_2_method_4_code 96 = .ok (.iadd, 1) := by decide +kernel
theorem d_C_step_97 : decode prog_2_method_4_code 97 = .ok (.invokevirtual 68, 3) := by decide +kernel
theorem d_C_step_100 : decode prog_2_method_4_code 100 = .ok (.iconst 1, 1) := by decide +kernel
theorem d_C_step_101 : decode prog_2_method_4_code 101 = .ok (.ireturn, 1) := by decide +kernel
theorem d_C_step_102 : decode prog_2_method_4_code 102 = .ok (.iconst 1, 1) := by decide +kernel
theorem d_C_step_103 : decode prog_2_method_4_code 103 = .ok (.ireturn, 1) := by decide +kernel
theorem d_C_step_104 : decode prog_2_method_4_code 104 = .ok (.aload_n 0, 1) := by decide +kernel
theorem d_C_step_105 : decode prog_2_method_4_code 105 = .ok (.iload_n 1, 1) := by decide +kernel
theorem d_C_step_106 : decode prog_2_method_4_code 106 = .ok (.invokevirtual 102, 3) := by decide +kernel
theorem d_C_step_109 : decode prog_2_method_4_code 109 = .ok (.ireturn, 1) := by decide +kernel
theorem d_C_step_110 : decode prog_2_method_4_code 110 = .ok (.aload_n 0, 1) := by decide +kernel
theorem d_C_step_111 : decode prog_2_method_4_code 111 = .ok (.iload_n 1, 1) := by decide +kernel
theorem d_C_step_112 : decode prog_2_method_4_code 112 = .ok (.invokevirtual 105, 3) := by decide +kernel
theorem d_C_step_115 : decode prog_2_method_4_code 115 = .ok (.ireturn, 1) := by decide +kernel
theorem d_C_step_116 : decode prog_2_method_4_code 116 = .ok (.aload_n 0, 1) := by decide +kernel
theorem d_C_step_117 : decode prog_2_method_4_code 117 = .ok (.iload_n 1, 1) := by decide +kernel
theorem d_C_step_118 : decode prog_2_method_4_code 118 = .ok (.invokevirtual 108, 3) := by decide +kernel
theorem d_C_step_121 : decode prog_2_method_4_code 121 = .ok (.ireturn, 1) := by decide +kernel
theorem d_C_step_122 : decode prog_2_method_4_code 122 = .ok (.aload_n 0, 1) := by decide +kernel
theorem d_C_step_123 : decode prog_2_method_4_code 123 = .ok (.iload_n 1, 1) := by decide +kernel
theorem d_C_step_124 : decode prog_2_method_4_code 124 = .ok (.iload_n 2, 1) := by decide +kernel
theorem d_C_step_125 : decode prog_2_method_4_code 125 = .ok (.iload_n 3, 1) := by decide +kernel
theorem d_C_step_126 : decode prog_2_method_4_code 126 = .ok (.invokevirtual 111, 3) := by decide +kernel
theorem d_C_step_129 : decode prog_2_method_4_code 129 = .ok (.ireturn, 1) := by decide +kernel
theorem d_C_readAll_0 : decode prog_2_method_2_code 0 = .ok (.aload_n 0, 1) := by decide +kernel
theorem d_C_readAll_1 : decode prog_2_method_2_code 1 = .ok (.iload_n 1, 1) := by decide +kernel
theorem d_C_readAll_2 : decode prog_2_method_2_code 2 = .ok (.putfield 28, 3) := by decide +kernel
theorem d_C_readAll_5 : decode prog_2_method_2_code 5 = .ok (.aload_n 0, 1) := by decide +kernel
theorem d_C_readAll_6 : decode prog_2_method_2_code 6 = .ok (.iload_n 2, 1) := by decide +kernel
theorem d_C_readAll_7 : decode prog_2_method_2_code 7 = .ok (.invokevirtual 32, 3) := by decide +kernel
theorem d_C_readAll_10 : decode prog_2_method_2_code 10 = .ok (.iconst 0, 1) := by decide +kernel
theorem d_C_readAll_11 : decode prog_2_method_2_code 11 = .ok (.istore_n 3, 1) := by decide +kernel
theorem d_C_readAll_12 : decode prog_2_method_2_code 12 = .ok (.iconst 0, 1) := by decide +kernel
theorem d_C_readAll_13 : decode prog_2_method_2_code 13 = .ok (.istore 4, 2) := by decide +kernel
theorem d_C_readAll_15 : decode prog_2_method_2_code 15 = .ok (.iload 4, 2) := by decide +kernel
theorem d_C_readAll_17 : decode prog_2_method_2_code 17 = .ok (.aload_n 0, 1) := by decide +kernel
theorem d_C_readAll_18 : decode prog_2_method_2_code 18 = .ok (.getfield 36, 3) := by decide +kernel
theorem d_C_readAll_21 : decode prog_2_method_2_code 21 = .ok (.if_icmp .ge 60, 3) := by decide +kernel
theorem d_C_readAll_24 : decode prog_2_method_2_code 24 = .ok (.iload 4, 2) := by decide +kernel
theorem d_C_readAll_26 : decode prog_2_method_2_code 26 = .ok (.sipush 2000, 3) := by decide +kernel
theorem d_C_readAll_29 : decode prog_2_method_2_code 29 = .ok (.if_icmp .ge 52, 3) := by decide +kernel
theorem d_C_readAll_32 : decode prog_2_method_2_code 32 = .ok (.aload_n 0, 1) := by decide +kernel
theorem d_C_readAll_33 : decode prog_2_method_2_code 33 = .ok (.getfield 20, 3) := by decide +kernel
theorem d_C_readAll_36 : decode prog_2_method_2_code 36 = .ok (.invokevirtual 39, 3) := by decide +kernel
theorem d_C_readAll_39 : decode prog_2_method_2_code 39 = .ok (.ifCond .eq 42, 3) := by decide +kernel
theorem d_C_readAll_42 : decode prog_2_method_2_code 42 = .ok (.aload_n 0, 1) := by decide +kernel
theorem d_C_readAll_43 : decode prog_2_method_2_code 43 = .ok (.getfield 9, 3) := by decide +kernel
theorem d_C_readAll_46 : decode prog_2_method_2_code 46 = .ok (.iload 4, 2) := by decide +kernel
theorem d_C_readAll_48 : decode prog_2_method_2_code 48 = .ok (.iconst 1, 1) := by decide +kernel
theorem d_C_readAll_49 : decode prog_2_method_2_code 49 = .ok (.bastore, 1) := by decide +kernel
theorem d_C_readAll_50 : decode prog_2_method_2_code 50 = .ok (.aload_n 0, 1) := by decide +kernel
theorem d_C_readAll_51 : decode prog_2_method_2_code 51 = .ok (.dup, 1) := by decide +kernel
theorem d_C_readAll_52 : decode prog_2_method_2_code 52 = .ok (.getfield 45, 3) := by decide +kernel
theorem d_C_readAll_55 : decode prog_2_method_2_code 55 = .ok (.iconst 1, 1) := by decide +kernel
theorem d_C_readAll_56 : decode prog_2_method_2_code 56 = .ok (.iadd, 1) := by decide +kernel
theorem d_C_readAll_57 : decode prog_2_method_2_code 57 = .ok (.putfield 45, 3) := by decide +kernel
theorem d_C_readAll_60 : decode prog_2_method_2_code 60 = .ok (.iload 4, 2) := by decide +kernel
theorem d_C_readAll_62 : decode prog_2_method_2_code 62 = .ok (.istore_n 3, 1) := by decide +kernel
theorem d_C_readAll_63 : decode prog_2_method_2_code 63 = .ok (.iload 4, 2) := by decide +kernel
theorem d_C_readAll_65 : decode prog_2_method_2_code 65 = .ok (.iconst 1, 1) := by decide +kernel
theorem d_C_readAll_66 : decode prog_2_method_2_code 66 = .ok (.aload_n 0, 1) := by decide +kernel
theorem d_C_readAll_67 : decode prog_2_method_2_code 67 = .ok (.iload 4, 2) := by decide +kernel
theorem d_C_readAll_69 : decode prog_2_method_2_code 69 = .ok (.invokevirtual 48, 3) := by decide +kernel
theorem d_C_readAll_72 : decode prog_2_method_2_code 72 = .ok (.invokestatic 52, 3) := by decide +kernel
theorem d_C_readAll_75 : decode prog_2_method_2_code 75 = .ok (.iadd, 1) := by decide +kernel
theorem d_C_readAll_76 : decode prog_2_method_2_code 76 = .ok (.istore 4, 2) := by decide +kernel
theorem d_C_readAll_78 : decode prog_2_method_2_code 78 = .ok (.goto (-63), 3) := by decide +kernel
theorem d_C_readAll_81 : decode prog_2_method_2_code 81 = .ok (.iconst 0, 1) := by decide +kernel
theorem d_C_readAll_82 : decode prog_2_method_2_code 82 = .ok (.istore 5, 2) := by decide +kernel
theorem d_C_readAll_84 : decode prog_2_method_2_code 84 = .ok (.iload 5, 2) := by decide +kernel
theorem d_C_readAll_86 : decode prog_2_method_2_code 86 = .ok (.aload_n 0, 1) := by decide +kernel
theorem d_C_readAll_87 : decode prog_2_method_2_code 87 = .ok (.getfield 58, 3) := by decide +kernel
theorem d_C_readAll_90 : decode prog_2_method_2_code 90 = .ok (.if_icmp .ge 51, 3) := by decide +kernel
theorem d_C_readAll_93 : decode prog_2_method_2_code 93 = .ok (.aload_n 0, 1) := by decide +kernel
theorem d_C_readAll_94 : decode prog_2_method_2_code 94 = .ok (.getfield 20, 3) := by decide +kernel
theorem d_C_readAll_97 : decode prog_2_method_2_code 97 = .ok (.invokevirtual 39, 3) := by decide +kernel
theorem d_C_readAll_100 : decode prog_2_method_2_code 100 = .ok (.ifCond .eq 41, 3) := by decide +kernel
theorem d_C_readAll_103 : decode prog_2_method_2_code 103 = .ok (.aload_n 0, 1) := by decide +kernel
theorem d_C_readAll_104 : decode prog_2_method_2_code 104 = .ok (.getfield 20, 3) := by decide +kernel
theorem d_C_readAll_107 : decode prog_2_method_2_code 107 = .ok (.aload_n 0, 1) := by decide +kernel
theorem d_C_readAll_108 : decode prog_2_method_2_code 108 = .ok (.aload_n 0, 1) := by decide +kernel
theorem d_C_readAll_109 : decode prog_2_method_2_code 109 = .ok (.getfield 17, 3) := by decide +kernel
theorem d_C_readAll_112 : decode prog_2_method_2_code 112 = .ok (.iload 5, 2) := by decide +kernel
theorem d_C_readAll_114 : decode prog_2_method_2_code 114 = .ok (.iaload, 1) := by decide +kernel
theorem d_C_readAll_115 : decode prog_2_method_2_code 115 = .ok (.invokevirtual 61, 3) := by decide +kernel
theorem d_C_readAll_118 : decode prog_2_method_2_code 118 = .ok (.bipush 26, 2) := by decide +kernel
theorem d_C_readAll_120 : decode prog_2_method_2_code 120 = .ok (.aload_n 0, 1) := by decide +kernel
theorem d_C_readAll_121 : decode prog_2_method_2_code 121 = .ok (.getfield 65, 3) := by decide +kernel
theorem d_C_readAll_124 : decode prog_2_method_2_code 124 = .ok (.aload_n 0, 1) := by decide +kernel
theorem d_C_readAll_125 : decode prog_2_method_2_code 125 = .ok (.getfield 13, 3) := by decide +kernel
theorem d_C_readAll_128 : decode prog_2_method_2_code 128 = .ok (.iload 5, 2) := by decide +kernel
theorem d_C_readAll_130 : decode prog_2_method_2_code 130 = .ok (.iaload, 1) := by decide +kernel
theorem d_C_readAll_131 : decode prog_2_method_2_code 131 = .ok (.iadd, 1) := by decide +kernel
theorem d_C_readAll_132 : decode prog_2_method_2_code 132 = .ok (.invokevirtual 68, 3) := by decide +kernel
theorem d_C_readAll_135 : decode prog_2_method_2_code 135 = .ok (.iinc 5 1, 3) := by decide +kernel
theorem d_C_readAll_138 : decode prog_2_method_2_code 138 = .ok (.goto (-54), 3) := by decide +kernel
theorem d_C_readAll_141 : decode prog_2_method_2_code 141 = .ok (.aload_n 0, 1) := by decide +kernel
theorem d_C_readAll_142 : decode prog_2_method_2_code 142 = .ok (.getfield 20, 3) := by decide +kernel
theorem d_C_readAll_145 : decode prog_2_method_2_code 145 = .ok (.aload_n 0, 1) := by decide +kernel
theorem d_C_readAll_146 : decode prog_2_method_2_code 146 = .ok (.getfield 20, 3) := by decide +kernel
theorem d_C_readAll_149 : decode prog_2_method_2_code 149 = .ok (.aload_n 0, 1) := by decide +kernel
theorem d_C_readAll_150 : decode prog_2_method_2_code 150 = .ok (.getfield 65, 3) := by decide +kernel
theorem d_C_readAll_153 : decode prog_2_method_2_code 153 = .ok (.iload_n 3, 1) := by decide +kernel
theorem d_C_readAll_154 : decode prog_2_method_2_code 154 = .ok (.iadd, 1) := by decide +kernel
theorem d_C_readAll_155 : decode prog_2_method_2_code 155 = .ok (.iconst 1, 1) := by decide +kernel
theorem d_C_readAll_156 : decode prog_2_method_2_code 156 = .ok (.invokevirtual 72, 3) := by decide +kernel
theorem d_C_readAll_159 : decode prog_2_method_2_code 159 = .ok (.invokestatic 75, 3) := by decide +kernel
theorem d_C_readAll_162 : decode prog_2_method_2_code 162 = .ok (.bipush 27, 2) := by decide +kernel
theorem d_C_readAll_164 : decode prog_2_method_2_code 164 = .ok (.aload_n 0, 1) := by decide +kernel
theorem d_C_readAll_165 : decode prog_2_method_2_code 165 = .ok (.getfield 65, 3) := by decide +kernel
theorem d_C_readAll_168 : decode prog_2_method_2_code 168 = .ok (.iload_n 3, 1) := by decide +kernel
theorem d_C_readAll_169 : decode prog_2_method_2_code 169 = .ok (.iadd, 1) := by decide +kernel
theorem d_C_readAll_170 : decode prog_2_method_2_code 170 = .ok (.invokevirtual 68, 3) := by decide +kernel
theorem d_C_readAll_173 : decode prog_2_method_2_code 173 = .ok (.aload_n 0, 1) := by decide +kernel
theorem d_C_readAll_174 : decode prog_2_method_2_code 174 = .ok (.getfield 20, 3) := by decide +kernel
theorem d_C_readAll_177 : decode prog_2_method_2_code 177 = .ok (.invokevirtual 39, 3) := by decide +kernel
theorem d_C_readAll_180 : decode prog_2_method_2_code 180 = .ok (.ifCond .eq 23, 3) := by decide +kernel
theorem d_C_readAll_183 : decode prog_2_method_2_code 183 = .ok (.aload_n 0, 1) := by decide +kernel
theorem d_C_readAll_184 : decode prog_2_method_2_code 184 = .ok (.getfield 20, 3) := by decide +kernel
theorem d_C_readAll_187 : decode prog_2_method_2_code 187 = .ok (.aload_n 0, 1) := by decide +kernel
theorem d_C_readAll_188 : decode prog_2_method_2_code 188 = .ok (.getfield 65, 3) := by decide +kernel
theorem d_C_readAll_191 : decode prog_2_method_2_code 191 = .ok (.aload_n 0, 1) := by decide +kernel
theorem d_C_readAll_192 : decode prog_2_method_2_code 192 = .ok (.getfield 36, 3) := by decide +kernel
theorem d_C_readAll_195 : decode prog_2_method_2_code 195 = .ok (.iadd, 1) := by decide +kernel
theorem d_C_readAll_196 : decode prog_2_method_2_code 196 = .ok (.putfield 78, 3) := by decide +kernel
theorem d_C_readAll_199 : decode prog_2_method_2_code 199 = .ok (.aload_n 0, 1) := by decide +kernel
theorem d_C_readAll_200 : decode prog_2_method_2_code 200 = .ok (.invokevirtual 81, 3) := by decide +kernel
theorem d_C_readAll_203 : decode prog_2_method_2_code 203 = .ok (.aload_n 0, 1) := by decide +kernel
theorem d_C_readAll_204 : decode prog_2_method_2_code 204 = .ok (.getfield 20, 3) := by decide +kernel
theorem d_C_readAll_207 : decode prog_2_method_2_code 207 = .ok (.getfield 78, 3) := by decide +kernel
theorem d_C_readAll_210 : decode prog_2_method_2_code 210 = .ok (.istore 5, 2) := by decide +kernel
theorem d_C_readAll_212 : decode prog_2_method_2_code 212 = .ok (.aload_n 0, 1) := by decide +kernel
theorem d_C_readAll_213 : decode prog_2_method_2_code 213 = .ok (.getfield 20, 3) := by decide +kernel
theorem d_C_readAll_216 : decode prog_2_method_2_code 216 = .ok (.aload_n 0, 1) := by decide +kernel
theorem d_C_readAll_217 : decode prog_2_method_2_code 217 = .ok (.getfield 20, 3) := by decide +kernel
theorem d_C_readAll_220 : decode prog_2_method_2_code 220 = .ok (.iconst 2, 1) := by decide +kernel
theorem d_C_readAll_221 : decode prog_2_method_2_code 221 = .ok (.invokevirtual 84, 3) := by decide +kernel
theorem d_C_readAll_224 : decode prog_2_method_2_code 224 = .ok (.ifCond .ne 7, 3) := by decide +kernel
theorem d_C_readAll_227 : decode prog_2_method_2_code 227 = .ok (.iconst 1, 1) := by decide +kernel
theorem d_C_readAll_228 : decode prog_2_method_2_code 228 = .ok (.goto 4, 3) := by decide +kernel
theorem d_C_readAll_231 : decode prog_2_method_2_code 231 = .ok (.iconst 0, 1) := by decide +kernel
theorem d_C_readAll_232 : decode prog_2_method_2_code 232 = .ok (.bipush 19, 2) := by decide +kernel
theorem d_C_readAll_234 : decode prog_2_method_2_code 234 = .ok (.iload 5, 2) := by decide +kernel
theorem d_C_readAll_236 : decode prog_2_method_2_code 236 = .ok (.invokevirtual 68, 3) := by decide +kernel
theorem d_C_readAll_239 : decode prog_2_method_2_code 239 = .ok (.return_, 1) := by decide +kernel
def rm_C_isFirst : Room := { frames := 0, cells := 0, slots := 0, locals := 0 }
noncomputable def f_C_isFirst (u : St) (x1 : Int32) : Option (Int32 × St) := cT (if x1 < 0 then (some (0)) else (if (u.1 9) ≤ x1 then (some (0)) else (if 2000 ≤ x1 then (some (0)) else (gd x1 2000 (if (u.2 9 x1.toNatClampNeg) = 1 then (some (1)) else (some (0))))))) fun (z1 : Int32) => gb z1 (some (z1, u))
set_option maxHeartbeats 4000000 in
set_option maxRecDepth 100000 in
theorem c_C_isFirst {Z : zT} {D : va_G} {cs : Nat → ClassId} {a : Nat → Nat} (hw : wD (xW a cs)) (hz : zOK Z) (l : Launch) {u : St} {x1 : Int32} {r : Int32} {u' : St} (hk : f_C_isFirst u x1 = some (r, u')) : KI clA D cs (xW a cs) Z l y_C_isFirst (.code y_C_isFirst prog_2_method_15_code 2 (Option.some Jvm.ClassFile.FieldType.boolean)) rm_C_isFirst [.ref (a 0), .int x1] u r u' := by
  unfold f_C_isFirst at hk
  refine KZ.of (by decide) (Nat.le_of_ble_eq_true rfl) hw hz ?_
  intro p e s m args below meth c Q C I hQ ls hl
  have hl : lv_has ls 2 [(0, .ref (a 0)), (1, .int x1)] := hl
  have hx := C.1.1
  have hb := C.1.2.1
  refine lv_iload_n hx hb d_C_isFirst_0 rfl (lv_at hl 1 rfl) ?_
  obtain ⟨z1, hj2, hk⟩ := cT_u hk
  have Khj2 : ∀ (H : Heap) (locs : List Loc) (ls : Array Slot), Dy clA D (xW a cs) s H locs u → lv_has ls 2 [] → W p l e rm_C_isFirst s m args below meth c H locs 0 0 Q (F0 m 34 ls [.int z1]) := by
    intro H locs ls I hl
    exact hQ _ _ _ _ _ _ I hk d_C_isFirst_34
  refine lv_if_lt (tgt := 33) hx hb d_C_isFirst_1 (by decide) (fun hc => ?_) (fun hc => ?_)
  · replace hj2 := it_u hc hj2
    refine lv_iconst (v := 0) hx hb d_C_isFirst_33 (by decide) ?_
    obtain rfl := eo1 hj2
    exact Khj2 _ _ _ I (lv_sub hl [] rfl)
  · replace hj2 := ie_u hc hj2
    refine lv_iload_n hx hb d_C_isFirst_4 rfl (lv_at hl 1 rfl) ?_
    refine lv_aload_n hx hb d_C_isFirst_5 rfl (lv_at hl 0 rfl) ?_
    refine g_C_size C I k_117 d_C_isFirst_6 ?_
    refine lv_icmp_ge (tgt := 33) hx hb d_C_isFirst_9 (by decide) (fun hc => ?_) (fun hc => ?_)
    · replace hj2 := it_u hc hj2
      refine lv_iconst (v := 0) hx hb d_C_isFirst_33 (by decide) ?_
      obtain rfl := eo1 hj2
      exact Khj2 _ _ _ I (lv_sub hl [] rfl)
    · replace hj2 := ie_u hc hj2
      refine lv_iload_n hx hb d_C_isFirst_12 rfl (lv_at hl 1 rfl) ?_
      refine lv_sipush (v := 2000) hx hb d_C_isFirst_13 (by decide) ?_
      refine lv_icmp_ge (tgt := 33) hx hb d_C_isFirst_16 (by decide) (fun hc => ?_) (fun hc => ?_)
      · replace hj2 := it_u hc hj2
        refine lv_iconst (v := 0) hx hb d_C_isFirst_33 (by decide) ?_
        obtain rfl := eo1 hj2
        exact Khj2 _ _ _ I (lv_sub hl [] rfl)
      · replace hj2 := ie_u hc hj2
        refine lv_aload_n hx hb d_C_isFirst_19 rfl (lv_at hl 0 rfl) ?_
        refine g_C_firsts C I k_127 d_C_isFirst_20 ?_
        refine lv_iload_n hx hb d_C_isFirst_23 rfl (lv_at hl 1 rfl) ?_
        obtain ⟨hi, hj2⟩ := gd_u hj2
        refine l_C_firsts C I hi d_C_isFirst_24 ?_
        refine lv_iconst (v := 1) hx hb d_C_isFirst_25 (by decide) ?_
        refine lv_icmp_ne (tgt := 33) hx hb d_C_isFirst_26 (by decide) (fun hc => ?_) (fun hc => ?_)
        · replace hj2 := ie_u hc hj2
          refine lv_iconst (v := 0) hx hb d_C_isFirst_33 (by decide) ?_
          obtain rfl := eo1 hj2
          exact Khj2 _ _ _ I (lv_sub hl [] rfl)
        · replace hj2 := it_u hc hj2
          refine lv_iconst (v := 1) hx hb d_C_isFirst_29 (by decide) ?_
          refine lv_goto (tgt := 34) hx hb d_C_isFirst_30 (by decide) ?_
          obtain rfl := eo1 hj2
          exact Khj2 _ _ _ I (lv_sub hl [] rfl)
def rm_C_mayBeLast : Room := { frames := 0, cells := 0, slots := 0, locals := 0 }
noncomputable def f_C_mayBeLast (u : St) (x0 : Int32) : Option (Int32 × St) := if x0 = 167 ∨ x0 = 170 ∨ x0 = 171 ∨ x0 = 172 ∨ x0 = 173 ∨ x0 = 176 ∨ x0 = 177 ∨ x0 = 191 ∨ x0 = 200 then (gb 1 (some (1, u))) else (gb 0 (some (0, u)))
set_option maxHeartbeats 4000000 in
set_option maxRecDepth 100000 in
theorem c_C_mayBeLast {Z : zT} {D : va_G} {cs : Nat → ClassId} {a : Nat → Nat} (hw : wD (xW a cs)) (hz : zOK Z) (l : Launch) {u : St} {x0 : Int32} {r : Int32} {u' : St} (hk : f_C_mayBeLast u x0 = some (r, u')) : KI clA D cs (xW a cs) Z l y_C_mayBeLast (.code y_C_mayBeLast prog_2_method_16_code 1 (Option.some Jvm.ClassFile.FieldType.boolean)) rm_C_mayBeLast [.int x0] u r u' := by
  unfold f_C_mayBeLast at hk
  refine KZ.of (by decide) (Nat.le_of_ble_eq_true rfl) hw hz ?_
  intro p e s m args below meth c Q C I hQ ls hl
  have hl : lv_has ls 1 [(0, .int x0)] := hl
  have hx := C.1.1
  have hb := C.1.2.1
  refine lv_iload_n hx hb d_C_mayBeLast_0 rfl (lv_at hl 0 rfl) ?_
  by_cases hs0 : x0 = 167 ∨ x0 = 170 ∨ x0 = 171 ∨ x0 = 172 ∨ x0 = 173 ∨ x0 = 176 ∨ x0 = 177 ∨ x0 = 191 ∨ x0 = 200
  · replace hk := it_u hs0 hk
    refine lv_tableIn (tgt := 152) (off := 151) hx hb d_C_mayBeLast_1 (by rcases hs0 with h | h | h | h | h | h | h | h | h <;> rw [h] <;> decide) (by rcases hs0 with h | h | h | h | h | h | h | h | h <;> rw [h] <;> decide) (by rcases hs0 with h | h | h | h | h | h | h | h | h <;> rw [h] <;> decide) (by decide) ?_
    refine lv_iconst (v := 1) hx hb d_C_mayBeLast_152 (by decide) ?_
    exact hQ _ _ _ _ _ _ I hk d_C_mayBeLast_153
  replace hk := ie_u hs0 hk
  have n167 : ¬ x0 = 167 := fun h => hs0 (Or.inl h)
  have n170 : ¬ x0 = 170 := fun h => hs0 (Or.inr (Or.inl h))
  have n171 : ¬ x0 = 171 := fun h => hs0 (Or.inr (Or.inr (Or.inl h)))
  have n172 : ¬ x0 = 172 := fun h => hs0 (Or.inr (Or.inr (Or.inr (Or.inl h))))
  have n173 : ¬ x0 = 173 := fun h => hs0 (Or.inr (Or.inr (Or.inr (Or.inr (Or.inl h)))))
  have n176 : ¬ x0 = 176 := fun h => hs0 (Or.inr (Or.inr (Or.inr (Or.inr (Or.inr (Or.inl h))))))
  have n177 : ¬ x0 = 177 := fun h => hs0 (Or.inr (Or.inr (Or.inr (Or.inr (Or.inr (Or.inr (Or.inl h)))))))
  have n191 : ¬ x0 = 191 := fun h => hs0 (Or.inr (Or.inr (Or.inr (Or.inr (Or.inr (Or.inr (Or.inr (Or.inl h))))))))
  have n200 : ¬ x0 = 200 := fun h => hs0 (Or.inr (Or.inr (Or.inr (Or.inr (Or.inr (Or.inr (Or.inr (Or.inr (h)))))))))
  have wn167 := lv_neT (a := 167) n167 (by decide)
  have wn170 := lv_neT (a := 170) n170 (by decide)
  have wn171 := lv_neT (a := 171) n171 (by decide)
  have wn172 := lv_neT (a := 172) n172 (by decide)
  have wn173 := lv_neT (a := 173) n173 (by decide)
  have wn176 := lv_neT (a := 176) n176 (by decide)
  have wn177 := lv_neT (a := 177) n177 (by decide)
  have wn191 := lv_neT (a := 191) n191 (by decide)
  have wn200 := lv_neT (a := 200) n200 (by decide)
  have Kd1 : ∀ (H : Heap) (locs : List Loc), Dy clA D (xW a cs) s H locs u → W p l e rm_C_mayBeLast s m args below meth c H locs 0 0 Q (F0 m 154 ls []) := by
    intro H locs I
    refine lv_iconst (v := 0) hx hb d_C_mayBeLast_154 (by decide) ?_
    exact hQ _ _ _ _ _ _ I hk d_C_mayBeLast_155
  by_cases hlo : (x0 : Int32).toInt < 167
  · exact lv_tableOut (tgt := 154) hx hb d_C_mayBeLast_1 (Or.inl hlo) (by decide) (Kd1 _ _ I)
  by_cases hhi : 200 < (x0 : Int32).toInt
  · exact lv_tableOut (tgt := 154) hx hb d_C_mayBeLast_1 (Or.inr hhi) (by decide) (Kd1 _ _ I)
  have hg : (x0 : Int32).toInt = 168 ∨ (x0 : Int32).toInt = 169 ∨ (x0 : Int32).toInt = 174 ∨ (x0 : Int32).toInt = 175 ∨ (x0 : Int32).toInt = 178 ∨ (x0 : Int32).toInt = 179 ∨ (x0 : Int32).toInt = 180 ∨ (x0 : Int32).toInt = 181 ∨ (x0 : Int32).toInt = 182 ∨ (x0 : Int32).toInt = 183 ∨ (x0 : Int32).toInt = 184 ∨ (x0 : Int32).toInt = 185 ∨ (x0 : Int32).toInt = 186 ∨ (x0 : Int32).toInt = 187 ∨ (x0 : Int32).toInt = 188 ∨ (x0 : Int32).toInt = 189 ∨ (x0 : Int32).toInt = 190 ∨ (x0 : Int32).toInt = 192 ∨ (x0 : Int32).toInt = 193 ∨ (x0 : Int32).toInt = 194 ∨ (x0 : Int32).toInt = 195 ∨ (x0 : Int32).toInt = 196 ∨ (x0 : Int32).toInt = 197 ∨ (x0 : Int32).toInt = 198 ∨ (x0 : Int32).toInt = 199 := by omega
  exact lv_tableIn (tgt := 154) (off := 153) hx hb d_C_mayBeLast_1 hlo hhi (by rcases hg with h | h | h | h | h | h | h | h | h | h | h | h | h | h | h | h | h | h | h | h | h | h | h | h | h <;> rw [h] <;> decide) (by decide) (Kd1 _ _ I)
def rm_C_readRows : Room := { frames := 2, cells := 0, slots := 0, locals := 46 }
noncomputable def f_C_readRows_L46 : Nat → St → Int32 → Option (St)
  | 0, _, _ => none
  | n + 1, u, x2 => if (u.1 12) ≤ x2 then (some (u)) else (cI (f_W_sound u) fun r10 u8 => if r10 = 0 then (some (u8)) else (cI (f_W_next u8 2) fun r13 u11 => cI (f_W_next u11 2) fun r16 u14 => cI (f_W_next u14 2) fun r19 u17 => cI (f_W_next u17 2) fun r22 u20 => cT (if r16 ≤ r13 then (some (0, u20)) else (if r16 = (u20.1 9) then (some (1, u20)) else (cI (f_C_isFirst u20 r16) fun r49 u47 => if r49 = 0 then (some (0, u47)) else (some (1, u47))))) fun (p50 : Int32 × St) => cT (if p50.1 = 0 then (some (0, p50.2)) else (cI (f_C_isFirst p50.2 r13) fun r41 u39 => if r41 = 0 then (some (0, u39)) else (cI (f_C_isFirst u39 r19) fun r44 u42 => if r44 = 0 then (some (0, u42)) else (some (1, u42))))) fun (p45 : Int32 × St) => cV (f_W_need p45.2 p45.1 28 (u8.1 1)) fun u27 => cT (if r22 = 0 then (some (1, u27)) else (cI (f_P_kindOf u27 r22) fun r36 u34 => if r36 = 7 then (some (1, u34)) else (some (0, u34)))) fun (p37 : Int32 × St) => cV (f_W_need p37.2 p37.1 8 ((u8.1 1) + 6)) fun u31 => f_C_readRows_L46 n u31 (x2 + 1)))
noncomputable def f_C_readRows (u : St) : Option (St) := cI (f_W_next u 2) fun r3 u1 => bnd (sv u1 12 r3) fun u4 => bnd (if 30 < (u4.1 12) then (0) else (1)) fun (z5 : Int32) => cV (f_W_need u4 z5 15 (u.1 1)) fun u6 => cT (f_C_readRows_L46 FU u6 0) fun (u51 : St) => some u51
set_option maxHeartbeats 4000000 in
set_option maxRecDepth 100000 in
theorem w_C_readRows_L46 {Z : zT} {D : va_G} {cs : Nat → ClassId} {a : Nat → Nat} {p : Program} {l : Launch} {e : Env} {s : State} {m : MethodId} {args : Array Value} {below : List Frame} {meth : Method} {c : Code} {Q : State → Prop}  {u2 : St} (C : Cx clA R_C prog_2_method_17_code 8 D cs (xW a cs) Z p s m args c) (hE : ∀ (H : Heap) (locs : List Loc) (ls : Array Slot), Dy clA D (xW a cs) s H locs u2 → lv_has ls 8 [] → W p l e rm_C_readRows s m args below meth c H locs 0 0 Q (F0 m 222 ls [])) : ∀ (n : Nat) (u : St) (x2 : Int32) (H : Heap) (locs : List Loc) (ls : Array Slot), f_C_readRows_L46 n u x2 = some u2 → Dy clA D (xW a cs) s H locs u → lv_has ls 8 [(0, .ref (a 0)), (2, .int x2)] → W p l e rm_C_readRows s m args below meth c H locs 0 0 Q (F0 m 46 ls []) := by
  have hx := C.1.1
  have hb := C.1.2.1
  intro n
  induction n with
  | zero =>
    intro u x2 H locs ls hk I hl
    rw [f_C_readRows_L46] at hk
    cases hk
  | succ n ih =>
    intro u x2 H locs ls hk I hl
    rw [f_C_readRows_L46] at hk
    refine lv_iload_n hx hb d_C_readRows_46 rfl (lv_at hl 1 rfl) ?_
    refine lv_aload_n hx hb d_C_readRows_47 rfl (lv_at hl 0 rfl) ?_
    refine g_C_rows C I k_123 d_C_readRows_48 ?_
    refine lv_icmp_ge (tgt := 222) hx hb d_C_readRows_51 (by decide) (fun hc => ?_) (fun hc => ?_)
    · replace hk := it_u hc hk
      obtain rfl := eo1 hk
      exact hE _ _ _ I (lv_sub hl [] rfl)
    · replace hk := ie_u hc hk
      refine lv_aload_n hx hb d_C_readRows_54 rfl (lv_at hl 0 rfl) ?_
      refine g_C_walk C I k_125 d_C_readRows_55 ?_
      obtain ⟨r10, u8, h9, hk⟩ := cI_u hk
      refine go_I I (call_runV (rest := []) C I (c_W_sound C.2.2.2.1 C.2.2.2.2.1 l h9 _) wd_W_sound (q0 := 4) (ci := 4) rfl rfl k_551 ⟨rfl, rfl⟩ ⟨by decide, by decide⟩ rfl hl.1 rfl (Nat.le_of_ble_eq_true rfl) d_C_readRows_58) (fun H locs I => ?_)
      refine lv_if_eq (tgt := 222) hx hb d_C_readRows_61 (by decide) (fun hc => ?_) (fun hc => ?_)
      · replace hk := it_u hc hk
        obtain rfl := eo1 hk
        exact hE _ _ _ I (lv_sub hl [] rfl)
      · replace hk := ie_u hc hk
        refine lv_aload_n hx hb d_C_readRows_64 rfl (lv_at hl 0 rfl) ?_
        refine g_C_walk C I k_125 d_C_readRows_65 ?_
        refine g_W_at C I k_38 d_C_readRows_68 ?_
        refine lv_istore_n (lv' := [(1, .int (u8.1 1)), (0, .ref (a 0)), (2, .int x2)]) hx hb d_C_readRows_71 rfl hl (by decide) rfl (fun ls hl => ?_)
        refine lv_aload_n hx hb d_C_readRows_72 rfl (lv_at hl 1 rfl) ?_
        refine g_C_walk C I k_125 d_C_readRows_73 ?_
        refine lv_iconst (v := 2) hx hb d_C_readRows_76 (by decide) ?_
        obtain ⟨r13, u11, h12, hk⟩ := cI_u hk
        refine go_I I (call_runV (rest := []) C I (c_W_next C.2.2.2.1 C.2.2.2.2.1 l h12 _) wd_W_next (q0 := 4) (ci := 4) rfl rfl k_549 ⟨rfl, rfl⟩ ⟨by decide, by decide⟩ rfl hl.1 rfl (Nat.le_of_ble_eq_true rfl) d_C_readRows_77) (fun H locs I => ?_)
        refine lv_istore_n (lv' := [(3, .int r13), (1, .int (u8.1 1)), (0, .ref (a 0)), (2, .int x2)]) hx hb d_C_readRows_80 rfl hl (by decide) rfl (fun ls hl => ?_)
        refine lv_aload_n hx hb d_C_readRows_81 rfl (lv_at hl 2 rfl) ?_
        refine g_C_walk C I k_125 d_C_readRows_82 ?_
        refine lv_iconst (v := 2) hx hb d_C_readRows_85 (by decide) ?_
        obtain ⟨r16, u14, h15, hk⟩ := cI_u hk
        refine go_I I (call_runV (rest := []) C I (c_W_next C.2.2.2.1 C.2.2.2.2.1 l h15 _) wd_W_next (q0 := 4) (ci := 4) rfl rfl k_549 ⟨rfl, rfl⟩ ⟨by decide, by decide⟩ rfl hl.1 rfl (Nat.le_of_ble_eq_true rfl) d_C_readRows_86) (fun H locs I => ?_)
        refine lv_istore (lv' := [(4, .int r16), (3, .int r13), (1, .int (u8.1 1)), (0, .ref (a 0)), (2, .int x2)]) hx hb d_C_readRows_89 hl (by decide) rfl (fun ls hl => ?_)
        refine lv_aload_n hx hb d_C_readRows_91 rfl (lv_at hl 3 rfl) ?_
        refine g_C_walk C I k_125 d_C_readRows_92 ?_
        refine lv_iconst (v := 2) hx hb d_C_readRows_95 (by decide) ?_
        obtain ⟨r19, u17, h18, hk⟩ := cI_u hk
        refine go_I I (call_runV (rest := []) C I (c_W_next C.2.2.2.1 C.2.2.2.2.1 l h18 _) wd_W_next (q0 := 4) (ci := 4) rfl rfl k_549 ⟨rfl, rfl⟩ ⟨by decide, by decide⟩ rfl hl.1 rfl (Nat.le_of_ble_eq_true rfl) d_C_readRows_96) (fun H locs I => ?_)
        refine lv_istore (lv' := [(5, .int r19), (4, .int r16), (3, .int r13), (1, .int (u8.1 1)), (0, .ref (a 0)), (2, .int x2)]) hx hb d_C_readRows_99 hl (by decide) rfl (fun ls hl => ?_)
        refine lv_aload_n hx hb d_C_readRows_101 rfl (lv_at hl 4 rfl) ?_
        refine g_C_walk C I k_125 d_C_readRows_102 ?_
        refine lv_iconst (v := 2) hx hb d_C_readRows_105 (by decide) ?_
        obtain ⟨r22, u20, h21, hk⟩ := cI_u hk
        refine go_I I (call_runV (rest := []) C I (c_W_next C.2.2.2.1 C.2.2.2.2.1 l h21 _) wd_W_next (q0 := 4) (ci := 4) rfl rfl k_549 ⟨rfl, rfl⟩ ⟨by decide, by decide⟩ rfl hl.1 rfl (Nat.le_of_ble_eq_true rfl) d_C_readRows_106) (fun H locs I => ?_)
        refine lv_istore (lv' := [(6, .int r22), (5, .int r19), (4, .int r16), (3, .int r13), (1, .int (u8.1 1)), (0, .ref (a 0)), (2, .int x2)]) hx hb d_C_readRows_109 hl (by decide) rfl (fun ls hl => ?_)
        refine lv_iload_n hx hb d_C_readRows_111 rfl (lv_at hl 3 rfl) ?_
        refine lv_iload hx hb d_C_readRows_112 (lv_at hl 2 rfl) ?_
        obtain ⟨⟨z23, u24⟩, hj46, hk⟩ := cT_u hk
        have Khj46 : ∀ (H : Heap) (locs : List Loc) (ls : Array Slot), Dy clA D (xW a cs) s H locs u24 → lv_has ls 8 [(0, .ref (a 0)), (1, .int (u8.1 1)), (2, .int x2), (3, .int r13), (5, .int r19), (6, .int r22)] → W p l e rm_C_readRows s m args below meth c H locs 0 0 Q (F0 m 140 ls [.int z23]) := by
          intro H locs ls I hl
          refine lv_istore (lv' := [(7, .int z23), (0, .ref (a 0)), (1, .int (u8.1 1)), (2, .int x2), (3, .int r13), (5, .int r19), (6, .int r22)]) hx hb d_C_readRows_140 hl (by decide) rfl (fun ls hl => ?_)
          refine lv_aload_n hx hb d_C_readRows_142 rfl (lv_at hl 1 rfl) ?_
          refine g_C_walk C I k_125 d_C_readRows_143 ?_
          refine lv_iload hx hb d_C_readRows_146 (lv_at hl 0 rfl) ?_
          obtain ⟨⟨z25, u26⟩, hj38, hk⟩ := cT_u hk
          have Khj38 : ∀ (H : Heap) (locs : List Loc) (ls : Array Slot), Dy clA D (xW a cs) s H locs u26 → lv_has ls 8 [(0, .ref (a 0)), (1, .int (u8.1 1)), (2, .int x2), (6, .int r22)] → W p l e rm_C_readRows s m args below meth c H locs 0 0 Q (F0 m 173 ls [.int z25, .ref (a 4)]) := by
            intro H locs ls I hl
            refine lv_bipush (v := 28) hx hb d_C_readRows_173 (by decide) ?_
            refine lv_iload_n hx hb d_C_readRows_175 rfl (lv_at hl 1 rfl) ?_
            obtain ⟨u27, h28, hk⟩ := cV_u hk
            refine go_V I (call_runV (rest := []) C I (c_W_need C.2.2.2.1 C.2.2.2.2.1 l h28 _) wd_W_need (q0 := 4) (ci := 4) rfl rfl k_550 ⟨rfl, rfl⟩ ⟨by decide, by decide⟩ rfl hl.1 rfl (Nat.le_of_ble_eq_true rfl) d_C_readRows_176) (fun H locs I => ?_)
            refine lv_aload_n hx hb d_C_readRows_179 rfl (lv_at hl 0 rfl) ?_
            refine g_C_walk C I k_125 d_C_readRows_180 ?_
            refine lv_iload hx hb d_C_readRows_183 (lv_at hl 3 rfl) ?_
            obtain ⟨⟨z29, u30⟩, hj33, hk⟩ := cT_u hk
            have Khj33 : ∀ (H : Heap) (locs : List Loc) (ls : Array Slot), Dy clA D (xW a cs) s H locs u30 → lv_has ls 8 [(0, .ref (a 0)), (1, .int (u8.1 1)), (2, .int x2)] → W p l e rm_C_readRows s m args below meth c H locs 0 0 Q (F0 m 207 ls [.int z29, .ref (a 4)]) := by
              intro H locs ls I hl
              refine lv_bipush (v := 8) hx hb d_C_readRows_207 (by decide) ?_
              refine lv_iload_n hx hb d_C_readRows_209 rfl (lv_at hl 1 rfl) ?_
              refine lv_bipush (v := 6) hx hb d_C_readRows_210 (by decide) ?_
              refine lv_iadd hx hb d_C_readRows_212 ?_
              obtain ⟨u31, h32, hk⟩ := cV_u hk
              refine go_V I (call_runV (rest := []) C I (c_W_need C.2.2.2.1 C.2.2.2.2.1 l h32 _) wd_W_need (q0 := 4) (ci := 4) rfl rfl k_550 ⟨rfl, rfl⟩ ⟨by decide, by decide⟩ rfl hl.1 rfl (Nat.le_of_ble_eq_true rfl) d_C_readRows_213) (fun H locs I => ?_)
              refine lv_iinc (v := (x2 + 1)) (lv' := [(2, .int (x2 + 1)), (0, .ref (a 0)), (1, .int (u8.1 1))]) hx hb d_C_readRows_216 hl (k := 2) rfl rfl (by decide) rfl (fun ls hl => ?_)
              refine lv_goto (tgt := 46) hx hb d_C_readRows_219 (by decide) ?_
              exact ih u31 (x2 + 1) _ _ _ hk I (lv_sub hl [1, 0] rfl)
            refine lv_if_eq (tgt := 202) hx hb d_C_readRows_185 (by decide) (fun hc => ?_) (fun hc => ?_)
            · replace hj33 := it_u hc hj33
              refine lv_iconst (v := 1) hx hb d_C_readRows_202 (by decide) ?_
              refine lv_goto (tgt := 207) hx hb d_C_readRows_203 (by decide) ?_
              obtain ⟨rfl, rfl⟩ := eo2 hj33
              exact Khj33 _ _ _ I (lv_sub hl [0, 1, 2] rfl)
            · replace hj33 := ie_u hc hj33
              refine lv_aload_n hx hb d_C_readRows_188 rfl (lv_at hl 0 rfl) ?_
              refine g_C_pool C I k_126 d_C_readRows_189 ?_
              refine lv_iload hx hb d_C_readRows_192 (lv_at hl 3 rfl) ?_
              obtain ⟨r36, u34, h35, hj33⟩ := cI_u hj33
              refine go_I I (call_runV (rest := [.ref (a 4)]) C I (c_P_kindOf C.2.2.2.1 C.2.2.2.2.1 l h35 _) wd_P_kindOf (q0 := 2) (ci := 2) rfl rfl k_595 ⟨rfl, rfl⟩ ⟨by decide, by decide⟩ rfl hl.1 rfl (Nat.le_of_ble_eq_true rfl) d_C_readRows_194) (fun H locs I => ?_)
              refine lv_bipush (v := 7) hx hb d_C_readRows_197 (by decide) ?_
              refine lv_icmp_ne (tgt := 206) hx hb d_C_readRows_199 (by decide) (fun hc => ?_) (fun hc => ?_)
              · replace hj33 := ie_u hc hj33
                refine lv_iconst (v := 0) hx hb d_C_readRows_206 (by decide) ?_
                obtain ⟨rfl, rfl⟩ := eo2 hj33
                exact Khj33 _ _ _ I (lv_sub hl [0, 1, 2] rfl)
              · replace hj33 := it_u hc hj33
                refine lv_iconst (v := 1) hx hb d_C_readRows_202 (by decide) ?_
                refine lv_goto (tgt := 207) hx hb d_C_readRows_203 (by decide) ?_
                obtain ⟨rfl, rfl⟩ := eo2 hj33
                exact Khj33 _ _ _ I (lv_sub hl [0, 1, 2] rfl)
          refine lv_if_eq (tgt := 172) hx hb d_C_readRows_148 (by decide) (fun hc => ?_) (fun hc => ?_)
          · replace hj38 := it_u hc hj38
            refine lv_iconst (v := 0) hx hb d_C_readRows_172 (by decide) ?_
            obtain ⟨rfl, rfl⟩ := eo2 hj38
            exact Khj38 _ _ _ I (lv_sub hl [1, 2, 3, 6] rfl)
          · replace hj38 := ie_u hc hj38
            refine lv_aload_n hx hb d_C_readRows_151 rfl (lv_at hl 1 rfl) ?_
            refine lv_iload_n hx hb d_C_readRows_152 rfl (lv_at hl 4 rfl) ?_
            obtain ⟨r41, u39, h40, hj38⟩ := cI_u hj38
            refine go_I I (call_runV (rest := [.ref (a 4)]) C I (c_C_isFirst C.2.2.2.1 C.2.2.2.2.1 l h40 _) wd_C_isFirst (q0 := 0) (ci := 0) rfl rfl k_609 ⟨rfl, rfl⟩ ⟨by decide, by decide⟩ rfl hl.1 rfl (Nat.le_of_ble_eq_true rfl) d_C_readRows_153) (fun H locs I => ?_)
            refine lv_if_eq (tgt := 172) hx hb d_C_readRows_156 (by decide) (fun hc => ?_) (fun hc => ?_)
            · replace hj38 := it_u hc hj38
              refine lv_iconst (v := 0) hx hb d_C_readRows_172 (by decide) ?_
              obtain ⟨rfl, rfl⟩ := eo2 hj38
              exact Khj38 _ _ _ I (lv_sub hl [1, 2, 3, 6] rfl)
            · replace hj38 := ie_u hc hj38
              refine lv_aload_n hx hb d_C_readRows_159 rfl (lv_at hl 1 rfl) ?_
              refine lv_iload hx hb d_C_readRows_160 (lv_at hl 5 rfl) ?_
              obtain ⟨r44, u42, h43, hj38⟩ := cI_u hj38
              refine go_I I (call_runV (rest := [.ref (a 4)]) C I (c_C_isFirst C.2.2.2.1 C.2.2.2.2.1 l h43 _) wd_C_isFirst (q0 := 0) (ci := 0) rfl rfl k_609 ⟨rfl, rfl⟩ ⟨by decide, by decide⟩ rfl hl.1 rfl (Nat.le_of_ble_eq_true rfl) d_C_readRows_162) (fun H locs I => ?_)
              refine lv_if_eq (tgt := 172) hx hb d_C_readRows_165 (by decide) (fun hc => ?_) (fun hc => ?_)
              · replace hj38 := it_u hc hj38
                refine lv_iconst (v := 0) hx hb d_C_readRows_172 (by decide) ?_
                obtain ⟨rfl, rfl⟩ := eo2 hj38
                exact Khj38 _ _ _ I (lv_sub hl [1, 2, 3, 6] rfl)
              · replace hj38 := ie_u hc hj38
                refine lv_iconst (v := 1) hx hb d_C_readRows_168 (by decide) ?_
                refine lv_goto (tgt := 173) hx hb d_C_readRows_169 (by decide) ?_
                obtain ⟨rfl, rfl⟩ := eo2 hj38
                exact Khj38 _ _ _ I (lv_sub hl [1, 2, 3, 6] rfl)
        refine lv_icmp_ge (tgt := 139) hx hb d_C_readRows_114 (by decide) (fun hc => ?_) (fun hc => ?_)
        · replace hj46 := it_u hc hj46
          refine lv_iconst (v := 0) hx hb d_C_readRows_139 (by decide) ?_
          obtain ⟨rfl, rfl⟩ := eo2 hj46
          exact Khj46 _ _ _ I (lv_sub hl [5, 4, 6, 3, 1, 0] rfl)
        · replace hj46 := ie_u hc hj46
          refine lv_iload hx hb d_C_readRows_117 (lv_at hl 2 rfl) ?_
          refine lv_aload_n hx hb d_C_readRows_119 rfl (lv_at hl 5 rfl) ?_
          refine g_C_size C I k_117 d_C_readRows_120 ?_
          refine lv_icmp_eq (tgt := 135) hx hb d_C_readRows_123 (by decide) (fun hc => ?_) (fun hc => ?_)
          · replace hj46 := it_u hc hj46
            refine lv_iconst (v := 1) hx hb d_C_readRows_135 (by decide) ?_
            refine lv_goto (tgt := 140) hx hb d_C_readRows_136 (by decide) ?_
            obtain ⟨rfl, rfl⟩ := eo2 hj46
            exact Khj46 _ _ _ I (lv_sub hl [5, 4, 6, 3, 1, 0] rfl)
          · replace hj46 := ie_u hc hj46
            refine lv_aload_n hx hb d_C_readRows_126 rfl (lv_at hl 5 rfl) ?_
            refine lv_iload hx hb d_C_readRows_127 (lv_at hl 2 rfl) ?_
            obtain ⟨r49, u47, h48, hj46⟩ := cI_u hj46
            refine go_I I (call_runV (rest := []) C I (c_C_isFirst C.2.2.2.1 C.2.2.2.2.1 l h48 _) wd_C_isFirst (q0 := 0) (ci := 0) rfl rfl k_609 ⟨rfl, rfl⟩ ⟨by decide, by decide⟩ rfl hl.1 rfl (Nat.le_of_ble_eq_true rfl) d_C_readRows_129) (fun H locs I => ?_)
            refine lv_if_eq (tgt := 139) hx hb d_C_readRows_132 (by decide) (fun hc => ?_) (fun hc => ?_)
            · replace hj46 := it_u hc hj46
              refine lv_iconst (v := 0) hx hb d_C_readRows_139 (by decide) ?_
              obtain ⟨rfl, rfl⟩ := eo2 hj46
              exact Khj46 _ _ _ I (lv_sub hl [5, 4, 6, 3, 1, 0] rfl)
            · replace hj46 := ie_u hc hj46
              refine lv_iconst (v := 1) hx hb d_C_readRows_135 (by decide) ?_
              refine lv_goto (tgt := 140) hx hb d_C_readRows_136 (by decide) ?_
              obtain ⟨rfl, rfl⟩ := eo2 hj46
              exact Khj46 _ _ _ I (lv_sub hl [5, 4, 6, 3, 1, 0] rfl)
set_option maxHeartbeats 4000000 in
set_option maxRecDepth 100000 in
theorem c_C_readRows {Z : zT} {D : va_G} {cs : Nat → ClassId} {a : Nat → Nat} (hw : wD (xW a cs)) (hz : zOK Z) (l : Launch) {u : St} {u' : St} (hk : f_C_readRows u = some u') : KV clA D cs (xW a cs) Z l y_C_readRows (.code y_C_readRows prog_2_method_17_code 8 (Option.none : Option Jvm.ClassFile.FieldType)) rm_C_readRows [.ref (a 0)] u u' := by
  unfold f_C_readRows at hk
  refine KV.of (by decide) (Nat.le_of_ble_eq_true rfl) hw hz ?_
  intro p e s m args below meth c Q C I hQ ls hl
  have hl : lv_has ls 8 [(0, .ref (a 0))] := hl
  have hx := C.1.1
  have hb := C.1.2.1
  refine lv_aload_n hx hb d_C_readRows_0 rfl (lv_at hl 0 rfl) ?_
  refine g_C_walk C I k_125 d_C_readRows_1 ?_
  refine g_W_at C I k_38 d_C_readRows_4 ?_
  refine lv_istore_n (lv' := [(1, .int (u.1 1)), (0, .ref (a 0))]) hx hb d_C_readRows_7 rfl hl (by decide) rfl (fun ls hl => ?_)
  refine lv_aload_n hx hb d_C_readRows_8 rfl (lv_at hl 1 rfl) ?_
  refine lv_aload_n hx hb d_C_readRows_9 rfl (lv_at hl 1 rfl) ?_
  refine g_C_walk C I k_125 d_C_readRows_10 ?_
  refine lv_iconst (v := 2) hx hb d_C_readRows_13 (by decide) ?_
  obtain ⟨r3, u1, h2, hk⟩ := cI_u hk
  refine go_I I (call_runV (rest := [.ref (a 0)]) C I (c_W_next C.2.2.2.1 C.2.2.2.2.1 l h2 _) wd_W_next (q0 := 4) (ci := 4) rfl rfl k_549 ⟨rfl, rfl⟩ ⟨by decide, by decide⟩ rfl hl.1 rfl (Nat.le_of_ble_eq_true rfl) d_C_readRows_14) (fun H locs I => ?_)
  refine p_C_rows C I k_123 d_C_readRows_17 (fun H locs I => ?_)
  obtain ⟨u4, hu, hk⟩ := bnd_u hk
  rw [hu] at I
  clear hu
  refine lv_aload_n hx hb d_C_readRows_20 rfl (lv_at hl 1 rfl) ?_
  refine g_C_walk C I k_125 d_C_readRows_21 ?_
  refine lv_aload_n hx hb d_C_readRows_24 rfl (lv_at hl 1 rfl) ?_
  refine g_C_rows C I k_123 d_C_readRows_25 ?_
  refine lv_bipush (v := 30) hx hb d_C_readRows_28 (by decide) ?_
  obtain ⟨z5, hj53, hk⟩ := bnd_u hk
  have Khj53 : ∀ (H : Heap) (locs : List Loc) (ls : Array Slot), Dy clA D (xW a cs) s H locs u4 → lv_has ls 8 [(0, .ref (a 0)), (1, .int (u.1 1))] → W p l e rm_C_readRows s m args below meth c H locs 0 0 Q (F0 m 38 ls [.int z5, .ref (a 4)]) := by
    intro H locs ls I hl
    refine lv_bipush (v := 15) hx hb d_C_readRows_38 (by decide) ?_
    refine lv_iload_n hx hb d_C_readRows_40 rfl (lv_at hl 1 rfl) ?_
    obtain ⟨u6, h7, hk⟩ := cV_u hk
    refine go_V I (call_runV (rest := []) C I (c_W_need C.2.2.2.1 C.2.2.2.2.1 l h7 _) wd_W_need (q0 := 4) (ci := 4) rfl rfl k_550 ⟨rfl, rfl⟩ ⟨by decide, by decide⟩ rfl hl.1 rfl (Nat.le_of_ble_eq_true rfl) d_C_readRows_41) (fun H locs I => ?_)
    refine lv_iconst (v := 0) hx hb d_C_readRows_44 (by decide) ?_
    refine lv_istore_n (lv' := [(2, .int 0), (0, .ref (a 0)), (1, .int (u.1 1))]) hx hb d_C_readRows_45 rfl hl (by decide) rfl (fun ls hl => ?_)
    obtain ⟨u51, hj52, hk⟩ := cT_u hk
    refine w_C_readRows_L46 C (fun H locs ls I hl => ?_) FU u6 0 _ _ _ hj52 I (lv_sub hl [1, 0] rfl)
    exact hQ _ _ _ _ _ I hk d_C_readRows_222
  refine lv_icmp_gt (tgt := 37) hx hb d_C_readRows_30 (by decide) (fun hc => ?_) (fun hc => ?_)
  · replace hj53 := it_u hc hj53
    refine lv_iconst (v := 0) hx hb d_C_readRows_37 (by decide) ?_
    obtain rfl := ep1 hj53
    exact Khj53 _ _ _ I (lv_sub hl [1, 0] rfl)
  · replace hj53 := ie_u hc hj53
    refine lv_iconst (v := 1) hx hb d_C_readRows_33 (by decide) ?_
    refine lv_goto (tgt := 38) hx hb d_C_readRows_34 (by decide) ?_
    obtain rfl := ep1 hj53
    exact Khj53 _ _ _ I (lv_sub hl [1, 0] rfl)
def rm_C_readSizes : Room := { frames := 2, cells := 0, slots := 0, locals := 46 }
noncomputable def f_C_readSizes_L233 : Nat → St → Int32 → Option (St)
  | 0, _, _ => none
  | n + 1, u, x3 => if (u.1 9) ≤ x3 then (some (u)) else (if 2000 ≤ x3 then (some (u)) else (cI (f_W_sound u) fun r34 u32 => if r34 = 0 then (some (u32)) else (gd x3 2000 (bnd (sa u32 9 x3.toNatClampNeg (vp_nar .byte 0)) fun u35 => f_C_readSizes_L233 n u35 (x3 + 1)))))
noncomputable def f_C_readSizes (u : St) (x1 : Int32) : Option (St) := cI (f_W_next u 2) fun r3 u1 => bnd (sv u1 7 r3) fun u4 => bnd (if 255 < (u4.1 7) then (0) else (1)) fun (z5 : Int32) => cV (f_W_need u4 z5 15 (u.1 1)) fun u6 => cI (f_W_next u6 2) fun r10 u8 => bnd (sv u8 8 r10) fun u11 => bnd (if 255 < (u11.1 8) then (0) else (1)) fun (z12 : Int32) => cV (f_W_need u11 z12 15 (u6.1 1)) fun u13 => bnd (if (u13.1 8) < x1 then (0) else (1)) fun (z15 : Int32) => cV (f_W_need u13 z15 21 (u6.1 1)) fun u16 => cI (f_W_next u16 4) fun r20 u18 => bnd (sv u18 9 r20) fun u21 => bnd (if (u21.1 9) < 1 then (0) else (if 2000 < (u21.1 9) then (0) else (1))) fun (z22 : Int32) => cV (f_W_need u21 z22 15 (u16.1 1)) fun u23 => bnd (sv u23 13 (u23.1 1)) fun u25 => bnd (if (u25.1 0) < ((u25.1 13) + (u25.1 9)) then (0) else (1)) fun (z26 : Int32) => cV (f_W_need u25 z26 1 (u25.1 0)) fun u27 => bnd (sv u27 10 0) fun u29 => bnd (sv u29 11 0) fun u30 => bnd (sv u30 12 0) fun u31 => cT (f_C_readSizes_L233 FU u31 0) fun (u36 : St) => some u36
set_option maxHeartbeats 4000000 in
set_option maxRecDepth 100000 in
theorem w_C_readSizes_L233 {Z : zT} {D : va_G} {cs : Nat → ClassId} {a : Nat → Nat} {p : Program} {l : Launch} {e : Env} {s : State} {m : MethodId} {args : Array Value} {below : List Frame} {meth : Method} {c : Code} {Q : State → Prop}  {u2 : St} (C : Cx clA R_C prog_2_method_3_code 4 D cs (xW a cs) Z p s m args c) (hE : ∀ (H : Heap) (locs : List Loc) (ls : Array Slot), Dy clA D (xW a cs) s H locs u2 → lv_has ls 4 [] → W p l e rm_C_readSizes s m args below meth c H locs 0 0 Q (F0 m 271 ls [])) : ∀ (n : Nat) (u : St) (x3 : Int32) (H : Heap) (locs : List Loc) (ls : Array Slot), f_C_readSizes_L233 n u x3 = some u2 → Dy clA D (xW a cs) s H locs u → lv_has ls 4 [(0, .ref (a 0)), (3, .int x3)] → W p l e rm_C_readSizes s m args below meth c H locs 0 0 Q (F0 m 233 ls []) := by
  have hx := C.1.1
  have hb := C.1.2.1
  intro n
  induction n with
  | zero =>
    intro u x3 H locs ls hk I hl
    rw [f_C_readSizes_L233] at hk
    cases hk
  | succ n ih =>
    intro u x3 H locs ls hk I hl
    rw [f_C_readSizes_L233] at hk
    refine lv_iload_n hx hb d_C_readSizes_233 rfl (lv_at hl 1 rfl) ?_
    refine lv_aload_n hx hb d_C_readSizes_234 rfl (lv_at hl 0 rfl) ?_
    refine g_C_size C I k_117 d_C_readSizes_235 ?_
    refine lv_icmp_ge (tgt := 271) hx hb d_C_readSizes_238 (by decide) (fun hc => ?_) (fun hc => ?_)
    · replace hk := it_u hc hk
      obtain rfl := eo1 hk
      exact hE _ _ _ I (lv_sub hl [] rfl)
    · replace hk := ie_u hc hk
      refine lv_iload_n hx hb d_C_readSizes_241 rfl (lv_at hl 1 rfl) ?_
      refine lv_sipush (v := 2000) hx hb d_C_readSizes_242 (by decide) ?_
      refine lv_icmp_ge (tgt := 271) hx hb d_C_readSizes_245 (by decide) (fun hc => ?_) (fun hc => ?_)
      · replace hk := it_u hc hk
        obtain rfl := eo1 hk
        exact hE _ _ _ I (lv_sub hl [] rfl)
      · replace hk := ie_u hc hk
        refine lv_aload_n hx hb d_C_readSizes_248 rfl (lv_at hl 0 rfl) ?_
        refine g_C_walk C I k_125 d_C_readSizes_249 ?_
        obtain ⟨r34, u32, h33, hk⟩ := cI_u hk
        refine go_I I (call_runV (rest := []) C I (c_W_sound C.2.2.2.1 C.2.2.2.2.1 l h33 _) wd_W_sound (q0 := 4) (ci := 4) rfl rfl k_551 ⟨rfl, rfl⟩ ⟨by decide, by decide⟩ rfl hl.1 rfl (Nat.le_of_ble_eq_true rfl) d_C_readSizes_252) (fun H locs I => ?_)
        refine lv_if_eq (tgt := 271) hx hb d_C_readSizes_255 (by decide) (fun hc => ?_) (fun hc => ?_)
        · replace hk := it_u hc hk
          obtain rfl := eo1 hk
          exact hE _ _ _ I (lv_sub hl [] rfl)
        · replace hk := ie_u hc hk
          refine lv_aload_n hx hb d_C_readSizes_258 rfl (lv_at hl 0 rfl) ?_
          refine g_C_firsts C I k_127 d_C_readSizes_259 ?_
          refine lv_iload_n hx hb d_C_readSizes_262 rfl (lv_at hl 1 rfl) ?_
          refine lv_iconst (v := 0) hx hb d_C_readSizes_263 (by decide) ?_
          obtain ⟨hi, hk⟩ := gd_u hk
          refine s_C_firsts C I hi d_C_readSizes_264 (fun H locs I => ?_)
          obtain ⟨u35, hu, hk⟩ := bnd_u hk
          rw [hu] at I
          clear hu
          refine lv_iinc (v := (x3 + 1)) (lv' := [(3, .int (x3 + 1)), (0, .ref (a 0))]) hx hb d_C_readSizes_265 hl (k := 1) rfl rfl (by decide) rfl (fun ls hl => ?_)
          refine lv_goto (tgt := 233) hx hb d_C_readSizes_268 (by decide) ?_
          exact ih u35 (x3 + 1) _ _ _ hk I (lv_sub hl [1, 0] rfl)
set_option maxHeartbeats 4000000 in
set_option maxRecDepth 100000 in
theorem c_C_readSizes {Z : zT} {D : va_G} {cs : Nat → ClassId} {a : Nat → Nat} (hw : wD (xW a cs)) (hz : zOK Z) (l : Launch) {u : St} {x1 : Int32} {u' : St} (hk : f_C_readSizes u x1 = some u') : KV clA D cs (xW a cs) Z l y_C_readSizes (.code y_C_readSizes prog_2_method_3_code 4 (Option.none : Option Jvm.ClassFile.FieldType)) rm_C_readSizes [.ref (a 0), .int x1] u u' := by
  unfold f_C_readSizes at hk
  refine KV.of (by decide) (Nat.le_of_ble_eq_true rfl) hw hz ?_
  intro p e s m args below meth c Q C I hQ ls hl
  have hl : lv_has ls 4 [(0, .ref (a 0)), (1, .int x1)] := hl
  have hx := C.1.1
  have hb := C.1.2.1
  refine lv_aload_n hx hb d_C_readSizes_0 rfl (lv_at hl 0 rfl) ?_
  refine g_C_walk C I k_125 d_C_readSizes_1 ?_
  refine g_W_at C I k_38 d_C_readSizes_4 ?_
  refine lv_istore_n (lv' := [(2, .int (u.1 1)), (0, .ref (a 0)), (1, .int x1)]) hx hb d_C_readSizes_7 rfl hl (by decide) rfl (fun ls hl => ?_)
  refine lv_aload_n hx hb d_C_readSizes_8 rfl (lv_at hl 1 rfl) ?_
  refine lv_aload_n hx hb d_C_readSizes_9 rfl (lv_at hl 1 rfl) ?_
  refine g_C_walk C I k_125 d_C_readSizes_10 ?_
  refine lv_iconst (v := 2) hx hb d_C_readSizes_13 (by decide) ?_
  obtain ⟨r3, u1, h2, hk⟩ := cI_u hk
  refine go_I I (call_runV (rest := [.ref (a 0)]) C I (c_W_next C.2.2.2.1 C.2.2.2.2.1 l h2 _) wd_W_next (q0 := 4) (ci := 4) rfl rfl k_549 ⟨rfl, rfl⟩ ⟨by decide, by decide⟩ rfl hl.1 rfl (Nat.le_of_ble_eq_true rfl) d_C_readSizes_14) (fun H locs I => ?_)
  refine p_C_stack C I k_113 d_C_readSizes_17 (fun H locs I => ?_)
  obtain ⟨u4, hu, hk⟩ := bnd_u hk
  rw [hu] at I
  clear hu
  refine lv_aload_n hx hb d_C_readSizes_20 rfl (lv_at hl 1 rfl) ?_
  refine g_C_walk C I k_125 d_C_readSizes_21 ?_
  refine lv_aload_n hx hb d_C_readSizes_24 rfl (lv_at hl 1 rfl) ?_
  refine g_C_stack C I k_113 d_C_readSizes_25 ?_
  refine lv_sipush (v := 255) hx hb d_C_readSizes_28 (by decide) ?_
  obtain ⟨z5, hj42, hk⟩ := bnd_u hk
  have Khj42 : ∀ (H : Heap) (locs : List Loc) (ls : Array Slot), Dy clA D (xW a cs) s H locs u4 → lv_has ls 4 [(0, .ref (a 0)), (1, .int x1), (2, .int (u.1 1))] → W p l e rm_C_readSizes s m args below meth c H locs 0 0 Q (F0 m 39 ls [.int z5, .ref (a 4)]) := by
    intro H locs ls I hl
    refine lv_bipush (v := 15) hx hb d_C_readSizes_39 (by decide) ?_
    refine lv_iload_n hx hb d_C_readSizes_41 rfl (lv_at hl 2 rfl) ?_
    obtain ⟨u6, h7, hk⟩ := cV_u hk
    refine go_V I (call_runV (rest := []) C I (c_W_need C.2.2.2.1 C.2.2.2.2.1 l h7 _) wd_W_need (q0 := 4) (ci := 4) rfl rfl k_550 ⟨rfl, rfl⟩ ⟨by decide, by decide⟩ rfl hl.1 rfl (Nat.le_of_ble_eq_true rfl) d_C_readSizes_42) (fun H locs I => ?_)
    refine lv_aload_n hx hb d_C_readSizes_45 rfl (lv_at hl 0 rfl) ?_
    refine g_C_walk C I k_125 d_C_readSizes_46 ?_
    refine g_W_at C I k_38 d_C_readSizes_49 ?_
    refine lv_istore_n (lv' := [(2, .int (u6.1 1)), (0, .ref (a 0)), (1, .int x1)]) hx hb d_C_readSizes_52 rfl hl (by decide) rfl (fun ls hl => ?_)
    refine lv_aload_n hx hb d_C_readSizes_53 rfl (lv_at hl 1 rfl) ?_
    refine lv_aload_n hx hb d_C_readSizes_54 rfl (lv_at hl 1 rfl) ?_
    refine g_C_walk C I k_125 d_C_readSizes_55 ?_
    refine lv_iconst (v := 2) hx hb d_C_readSizes_58 (by decide) ?_
    obtain ⟨r10, u8, h9, hk⟩ := cI_u hk
    refine go_I I (call_runV (rest := [.ref (a 0)]) C I (c_W_next C.2.2.2.1 C.2.2.2.2.1 l h9 _) wd_W_next (q0 := 4) (ci := 4) rfl rfl k_549 ⟨rfl, rfl⟩ ⟨by decide, by decide⟩ rfl hl.1 rfl (Nat.le_of_ble_eq_true rfl) d_C_readSizes_59) (fun H locs I => ?_)
    refine p_C_locals C I k_115 d_C_readSizes_62 (fun H locs I => ?_)
    obtain ⟨u11, hu, hk⟩ := bnd_u hk
    rw [hu] at I
    clear hu
    refine lv_aload_n hx hb d_C_readSizes_65 rfl (lv_at hl 1 rfl) ?_
    refine g_C_walk C I k_125 d_C_readSizes_66 ?_
    refine lv_aload_n hx hb d_C_readSizes_69 rfl (lv_at hl 1 rfl) ?_
    refine g_C_locals C I k_115 d_C_readSizes_70 ?_
    refine lv_sipush (v := 255) hx hb d_C_readSizes_73 (by decide) ?_
    obtain ⟨z12, hj41, hk⟩ := bnd_u hk
    have Khj41 : ∀ (H : Heap) (locs : List Loc) (ls : Array Slot), Dy clA D (xW a cs) s H locs u11 → lv_has ls 4 [(0, .ref (a 0)), (1, .int x1), (2, .int (u6.1 1))] → W p l e rm_C_readSizes s m args below meth c H locs 0 0 Q (F0 m 84 ls [.int z12, .ref (a 4)]) := by
      intro H locs ls I hl
      refine lv_bipush (v := 15) hx hb d_C_readSizes_84 (by decide) ?_
      refine lv_iload_n hx hb d_C_readSizes_86 rfl (lv_at hl 2 rfl) ?_
      obtain ⟨u13, h14, hk⟩ := cV_u hk
      refine go_V I (call_runV (rest := []) C I (c_W_need C.2.2.2.1 C.2.2.2.2.1 l h14 _) wd_W_need (q0 := 4) (ci := 4) rfl rfl k_550 ⟨rfl, rfl⟩ ⟨by decide, by decide⟩ rfl hl.1 rfl (Nat.le_of_ble_eq_true rfl) d_C_readSizes_87) (fun H locs I => ?_)
      refine lv_aload_n hx hb d_C_readSizes_90 rfl (lv_at hl 0 rfl) ?_
      refine g_C_walk C I k_125 d_C_readSizes_91 ?_
      refine lv_aload_n hx hb d_C_readSizes_94 rfl (lv_at hl 0 rfl) ?_
      refine g_C_locals C I k_115 d_C_readSizes_95 ?_
      refine lv_iload_n hx hb d_C_readSizes_98 rfl (lv_at hl 1 rfl) ?_
      obtain ⟨z15, hj40, hk⟩ := bnd_u hk
      have Khj40 : ∀ (H : Heap) (locs : List Loc) (ls : Array Slot), Dy clA D (xW a cs) s H locs u13 → lv_has ls 4 [(0, .ref (a 0)), (2, .int (u6.1 1))] → W p l e rm_C_readSizes s m args below meth c H locs 0 0 Q (F0 m 107 ls [.int z15, .ref (a 4)]) := by
        intro H locs ls I hl
        refine lv_bipush (v := 21) hx hb d_C_readSizes_107 (by decide) ?_
        refine lv_iload_n hx hb d_C_readSizes_109 rfl (lv_at hl 1 rfl) ?_
        obtain ⟨u16, h17, hk⟩ := cV_u hk
        refine go_V I (call_runV (rest := []) C I (c_W_need C.2.2.2.1 C.2.2.2.2.1 l h17 _) wd_W_need (q0 := 4) (ci := 4) rfl rfl k_550 ⟨rfl, rfl⟩ ⟨by decide, by decide⟩ rfl hl.1 rfl (Nat.le_of_ble_eq_true rfl) d_C_readSizes_110) (fun H locs I => ?_)
        refine lv_aload_n hx hb d_C_readSizes_113 rfl (lv_at hl 0 rfl) ?_
        refine g_C_walk C I k_125 d_C_readSizes_114 ?_
        refine g_W_at C I k_38 d_C_readSizes_117 ?_
        refine lv_istore_n (lv' := [(2, .int (u16.1 1)), (0, .ref (a 0))]) hx hb d_C_readSizes_120 rfl hl (by decide) rfl (fun ls hl => ?_)
        refine lv_aload_n hx hb d_C_readSizes_121 rfl (lv_at hl 1 rfl) ?_
        refine lv_aload_n hx hb d_C_readSizes_122 rfl (lv_at hl 1 rfl) ?_
        refine g_C_walk C I k_125 d_C_readSizes_123 ?_
        refine lv_iconst (v := 4) hx hb d_C_readSizes_126 (by decide) ?_
        obtain ⟨r20, u18, h19, hk⟩ := cI_u hk
        refine go_I I (call_runV (rest := [.ref (a 0)]) C I (c_W_next C.2.2.2.1 C.2.2.2.2.1 l h19 _) wd_W_next (q0 := 4) (ci := 4) rfl rfl k_549 ⟨rfl, rfl⟩ ⟨by decide, by decide⟩ rfl hl.1 rfl (Nat.le_of_ble_eq_true rfl) d_C_readSizes_127) (fun H locs I => ?_)
        refine p_C_size C I k_117 d_C_readSizes_130 (fun H locs I => ?_)
        obtain ⟨u21, hu, hk⟩ := bnd_u hk
        rw [hu] at I
        clear hu
        refine lv_aload_n hx hb d_C_readSizes_133 rfl (lv_at hl 1 rfl) ?_
        refine g_C_walk C I k_125 d_C_readSizes_134 ?_
        refine lv_aload_n hx hb d_C_readSizes_137 rfl (lv_at hl 1 rfl) ?_
        refine g_C_size C I k_117 d_C_readSizes_138 ?_
        refine lv_iconst (v := 1) hx hb d_C_readSizes_141 (by decide) ?_
        obtain ⟨z22, hj39, hk⟩ := bnd_u hk
        have Khj39 : ∀ (H : Heap) (locs : List Loc) (ls : Array Slot), Dy clA D (xW a cs) s H locs u21 → lv_has ls 4 [(0, .ref (a 0)), (2, .int (u16.1 1))] → W p l e rm_C_readSizes s m args below meth c H locs 0 0 Q (F0 m 160 ls [.int z22, .ref (a 4)]) := by
          intro H locs ls I hl
          refine lv_bipush (v := 15) hx hb d_C_readSizes_160 (by decide) ?_
          refine lv_iload_n hx hb d_C_readSizes_162 rfl (lv_at hl 1 rfl) ?_
          obtain ⟨u23, h24, hk⟩ := cV_u hk
          refine go_V I (call_runV (rest := []) C I (c_W_need C.2.2.2.1 C.2.2.2.2.1 l h24 _) wd_W_need (q0 := 4) (ci := 4) rfl rfl k_550 ⟨rfl, rfl⟩ ⟨by decide, by decide⟩ rfl hl.1 rfl (Nat.le_of_ble_eq_true rfl) d_C_readSizes_163) (fun H locs I => ?_)
          refine lv_aload_n hx hb d_C_readSizes_166 rfl (lv_at hl 0 rfl) ?_
          refine lv_aload_n hx hb d_C_readSizes_167 rfl (lv_at hl 0 rfl) ?_
          refine g_C_walk C I k_125 d_C_readSizes_168 ?_
          refine g_W_at C I k_38 d_C_readSizes_171 ?_
          refine p_C_base C I k_130 d_C_readSizes_174 (fun H locs I => ?_)
          obtain ⟨u25, hu, hk⟩ := bnd_u hk
          rw [hu] at I
          clear hu
          refine lv_aload_n hx hb d_C_readSizes_177 rfl (lv_at hl 0 rfl) ?_
          refine g_C_walk C I k_125 d_C_readSizes_178 ?_
          refine lv_aload_n hx hb d_C_readSizes_181 rfl (lv_at hl 0 rfl) ?_
          refine g_C_base C I k_130 d_C_readSizes_182 ?_
          refine lv_aload_n hx hb d_C_readSizes_185 rfl (lv_at hl 0 rfl) ?_
          refine g_C_size C I k_117 d_C_readSizes_186 ?_
          refine lv_iadd hx hb d_C_readSizes_189 ?_
          refine lv_aload_n hx hb d_C_readSizes_190 rfl (lv_at hl 0 rfl) ?_
          refine g_C_walk C I k_125 d_C_readSizes_191 ?_
          refine g_W_length C I k_35 d_C_readSizes_194 ?_
          obtain ⟨z26, hj38, hk⟩ := bnd_u hk
          have Khj38 : ∀ (H : Heap) (locs : List Loc) (ls : Array Slot), Dy clA D (xW a cs) s H locs u25 → lv_has ls 4 [(0, .ref (a 0))] → W p l e rm_C_readSizes s m args below meth c H locs 0 0 Q (F0 m 205 ls [.int z26, .ref (a 4)]) := by
            intro H locs ls I hl
            refine lv_iconst (v := 1) hx hb d_C_readSizes_205 (by decide) ?_
            refine lv_aload_n hx hb d_C_readSizes_206 rfl (lv_at hl 0 rfl) ?_
            refine g_C_walk C I k_125 d_C_readSizes_207 ?_
            refine g_W_length C I k_35 d_C_readSizes_210 ?_
            obtain ⟨u27, h28, hk⟩ := cV_u hk
            refine go_V I (call_runV (rest := []) C I (c_W_need C.2.2.2.1 C.2.2.2.2.1 l h28 _) wd_W_need (q0 := 4) (ci := 4) rfl rfl k_550 ⟨rfl, rfl⟩ ⟨by decide, by decide⟩ rfl hl.1 rfl (Nat.le_of_ble_eq_true rfl) d_C_readSizes_213) (fun H locs I => ?_)
            refine lv_aload_n hx hb d_C_readSizes_216 rfl (lv_at hl 0 rfl) ?_
            refine lv_iconst (v := 0) hx hb d_C_readSizes_217 (by decide) ?_
            refine p_C_instructions C I k_119 d_C_readSizes_218 (fun H locs I => ?_)
            obtain ⟨u29, hu, hk⟩ := bnd_u hk
            rw [hu] at I
            clear hu
            refine lv_aload_n hx hb d_C_readSizes_221 rfl (lv_at hl 0 rfl) ?_
            refine lv_iconst (v := 0) hx hb d_C_readSizes_222 (by decide) ?_
            refine p_C_jumps C I k_121 d_C_readSizes_223 (fun H locs I => ?_)
            obtain ⟨u30, hu, hk⟩ := bnd_u hk
            rw [hu] at I
            clear hu
            refine lv_aload_n hx hb d_C_readSizes_226 rfl (lv_at hl 0 rfl) ?_
            refine lv_iconst (v := 0) hx hb d_C_readSizes_227 (by decide) ?_
            refine p_C_rows C I k_123 d_C_readSizes_228 (fun H locs I => ?_)
            obtain ⟨u31, hu, hk⟩ := bnd_u hk
            rw [hu] at I
            clear hu
            refine lv_iconst (v := 0) hx hb d_C_readSizes_231 (by decide) ?_
            refine lv_istore_n (lv' := [(3, .int 0), (0, .ref (a 0))]) hx hb d_C_readSizes_232 rfl hl (by decide) rfl (fun ls hl => ?_)
            obtain ⟨u36, hj37, hk⟩ := cT_u hk
            refine w_C_readSizes_L233 C (fun H locs ls I hl => ?_) FU u31 0 _ _ _ hj37 I (lv_sub hl [1, 0] rfl)
            exact hQ _ _ _ _ _ I hk d_C_readSizes_271
          refine lv_icmp_gt (tgt := 204) hx hb d_C_readSizes_197 (by decide) (fun hc => ?_) (fun hc => ?_)
          · replace hj38 := it_u hc hj38
            refine lv_iconst (v := 0) hx hb d_C_readSizes_204 (by decide) ?_
            obtain rfl := ep1 hj38
            exact Khj38 _ _ _ I (lv_sub hl [0] rfl)
          · replace hj38 := ie_u hc hj38
            refine lv_iconst (v := 1) hx hb d_C_readSizes_200 (by decide) ?_
            refine lv_goto (tgt := 205) hx hb d_C_readSizes_201 (by decide) ?_
            obtain rfl := ep1 hj38
            exact Khj38 _ _ _ I (lv_sub hl [0] rfl)
        refine lv_icmp_lt (tgt := 159) hx hb d_C_readSizes_142 (by decide) (fun hc => ?_) (fun hc => ?_)
        · replace hj39 := it_u hc hj39
          refine lv_iconst (v := 0) hx hb d_C_readSizes_159 (by decide) ?_
          obtain rfl := ep1 hj39
          exact Khj39 _ _ _ I (lv_sub hl [1, 0] rfl)
        · replace hj39 := ie_u hc hj39
          refine lv_aload_n hx hb d_C_readSizes_145 rfl (lv_at hl 1 rfl) ?_
          refine g_C_size C I k_117 d_C_readSizes_146 ?_
          refine lv_sipush (v := 2000) hx hb d_C_readSizes_149 (by decide) ?_
          refine lv_icmp_gt (tgt := 159) hx hb d_C_readSizes_152 (by decide) (fun hc => ?_) (fun hc => ?_)
          · replace hj39 := it_u hc hj39
            refine lv_iconst (v := 0) hx hb d_C_readSizes_159 (by decide) ?_
            obtain rfl := ep1 hj39
            exact Khj39 _ _ _ I (lv_sub hl [1, 0] rfl)
          · replace hj39 := ie_u hc hj39
            refine lv_iconst (v := 1) hx hb d_C_readSizes_155 (by decide) ?_
            refine lv_goto (tgt := 160) hx hb d_C_readSizes_156 (by decide) ?_
            obtain rfl := ep1 hj39
            exact Khj39 _ _ _ I (lv_sub hl [1, 0] rfl)
      refine lv_icmp_lt (tgt := 106) hx hb d_C_readSizes_99 (by decide) (fun hc => ?_) (fun hc => ?_)
      · replace hj40 := it_u hc hj40
        refine lv_iconst (v := 0) hx hb d_C_readSizes_106 (by decide) ?_
        obtain rfl := ep1 hj40
        exact Khj40 _ _ _ I (lv_sub hl [0, 2] rfl)
      · replace hj40 := ie_u hc hj40
        refine lv_iconst (v := 1) hx hb d_C_readSizes_102 (by decide) ?_
        refine lv_goto (tgt := 107) hx hb d_C_readSizes_103 (by decide) ?_
        obtain rfl := ep1 hj40
        exact Khj40 _ _ _ I (lv_sub hl [0, 2] rfl)
    refine lv_icmp_gt (tgt := 83) hx hb d_C_readSizes_76 (by decide) (fun hc => ?_) (fun hc => ?_)
    · replace hj41 := it_u hc hj41
      refine lv_iconst (v := 0) hx hb d_C_readSizes_83 (by decide) ?_
      obtain rfl := ep1 hj41
      exact Khj41 _ _ _ I (lv_sub hl [1, 2, 0] rfl)
    · replace hj41 := ie_u hc hj41
      refine lv_iconst (v := 1) hx hb d_C_readSizes_79 (by decide) ?_
      refine lv_goto (tgt := 84) hx hb d_C_readSizes_80 (by decide) ?_
      obtain rfl := ep1 hj41
      exact Khj41 _ _ _ I (lv_sub hl [1, 2, 0] rfl)
  refine lv_icmp_gt (tgt := 38) hx hb d_C_readSizes_31 (by decide) (fun hc => ?_) (fun hc => ?_)
  · replace hj42 := it_u hc hj42
    refine lv_iconst (v := 0) hx hb d_C_readSizes_38 (by decide) ?_
    obtain rfl := ep1 hj42
    exact Khj42 _ _ _ I (lv_sub hl [1, 2, 0] rfl)
  · replace hj42 := ie_u hc hj42
    refine lv_iconst (v := 1) hx hb d_C_readSizes_34 (by decide) ?_
    refine lv_goto (tgt := 39) hx hb d_C_readSizes_35 (by decide) ?_
    obtain rfl := ep1 hj42
    exact Khj42 _ _ _ I (lv_sub hl [1, 2, 0] rfl)
def rm_C_addJump : Room := { frames := 0, cells := 0, slots := 0, locals := 0 }
noncomputable def f_C_addJump (u : St) (x1 : Int32) (x2 : Int32) : Option (St) := cT (if 667 ≤ (u.1 11) then (some (u)) else (gd (u.1 11) 667 (bnd (sa u 10 (u.1 11).toNatClampNeg x1) fun u3 => gd (u3.1 11) 667 (bnd (sa u3 11 (u3.1 11).toNatClampNeg (x1 + x2)) fun u4 => bnd (sv u4 11 ((u4.1 11) + 1)) fun u5 => some (u5))))) fun (u1 : St) => some u1
set_option maxHeartbeats 4000000 in
set_option maxRecDepth 100000 in
theorem c_C_addJump {Z : zT} {D : va_G} {cs : Nat → ClassId} {a : Nat → Nat} (hw : wD (xW a cs)) (hz : zOK Z) (l : Launch) {u : St} {x1 : Int32} {x2 : Int32} {u' : St} (hk : f_C_addJump u x1 x2 = some u') : KV clA D cs (xW a cs) Z l y_C_addJump (.code y_C_addJump prog_2_method_14_code 3 (Option.none : Option Jvm.ClassFile.FieldType)) rm_C_addJump [.ref (a 0), .int x1, .int x2] u u' := by
  unfold f_C_addJump at hk
  refine KV.of (by decide) (Nat.le_of_ble_eq_true rfl) hw hz ?_
  intro p e s m args below meth c Q C I hQ ls hl
  have hl : lv_has ls 3 [(0, .ref (a 0)), (1, .int x1), (2, .int x2)] := hl
  have hx := C.1.1
  have hb := C.1.2.1
  refine lv_aload_n hx hb d_C_addJump_0 rfl (lv_at hl 0 rfl) ?_
  refine g_C_jumps C I k_121 d_C_addJump_1 ?_
  refine lv_sipush (v := 667) hx hb d_C_addJump_4 (by decide) ?_
  obtain ⟨u1, hj2, hk⟩ := cT_u hk
  have Khj2 : ∀ (H : Heap) (locs : List Loc) (ls : Array Slot), Dy clA D (xW a cs) s H locs u1 → lv_has ls 3 [] → W p l e rm_C_addJump s m args below meth c H locs 0 0 Q (F0 m 42 ls []) := by
    intro H locs ls I hl
    exact hQ _ _ _ _ _ I hk d_C_addJump_42
  refine lv_icmp_ge (tgt := 42) hx hb d_C_addJump_7 (by decide) (fun hc => ?_) (fun hc => ?_)
  · replace hj2 := it_u hc hj2
    obtain rfl := eo1 hj2
    exact Khj2 _ _ _ I (lv_sub hl [] rfl)
  · replace hj2 := ie_u hc hj2
    refine lv_aload_n hx hb d_C_addJump_10 rfl (lv_at hl 0 rfl) ?_
    refine g_C_origins C I k_128 d_C_addJump_11 ?_
    refine lv_aload_n hx hb d_C_addJump_14 rfl (lv_at hl 0 rfl) ?_
    refine g_C_jumps C I k_121 d_C_addJump_15 ?_
    refine lv_iload_n hx hb d_C_addJump_18 rfl (lv_at hl 1 rfl) ?_
    obtain ⟨hi, hj2⟩ := gd_u hj2
    refine s_C_origins C I hi d_C_addJump_19 (fun H locs I => ?_)
    obtain ⟨u3, hu, hj2⟩ := bnd_u hj2
    rw [hu] at I
    clear hu
    refine lv_aload_n hx hb d_C_addJump_20 rfl (lv_at hl 0 rfl) ?_
    refine g_C_aims C I k_129 d_C_addJump_21 ?_
    refine lv_aload_n hx hb d_C_addJump_24 rfl (lv_at hl 0 rfl) ?_
    refine g_C_jumps C I k_121 d_C_addJump_25 ?_
    refine lv_iload_n hx hb d_C_addJump_28 rfl (lv_at hl 1 rfl) ?_
    refine lv_iload_n hx hb d_C_addJump_29 rfl (lv_at hl 2 rfl) ?_
    refine lv_iadd hx hb d_C_addJump_30 ?_
    obtain ⟨hi, hj2⟩ := gd_u hj2
    refine s_C_aims C I hi d_C_addJump_31 (fun H locs I => ?_)
    obtain ⟨u4, hu, hj2⟩ := bnd_u hj2
    rw [hu] at I
    clear hu
    refine lv_aload_n hx hb d_C_addJump_32 rfl (lv_at hl 0 rfl) ?_
    refine lv_dup hx hb d_C_addJump_33 rfl ?_
    refine g_C_jumps C I k_121 d_C_addJump_34 ?_
    refine lv_iconst (v := 1) hx hb d_C_addJump_37 (by decide) ?_
    refine lv_iadd hx hb d_C_addJump_38 ?_
    refine p_C_jumps C I k_121 d_C_addJump_39 (fun H locs I => ?_)
    obtain ⟨u5, hu, hj2⟩ := bnd_u hj2
    rw [hu] at I
    clear hu
    obtain rfl := eo1 hj2
    exact Khj2 _ _ _ I (lv_sub hl [] rfl)
def rm_C_kindFits : Room := { frames := 0, cells := 0, slots := 0, locals := 0 }
noncomputable def f_C_kindFits (u : St) (x1 : Int32) (x2 : Int32) (x3 : Int32) : Option (Int32 × St) := if x1 = 4 ∨ x1 = 5 then (bnd (if x3 = 3 then (1) else (if x3 = 8 then (1) else (if x3 = 7 then (1) else (0)))) fun (z1 : Int32) => gb z1 (some (z1, u))) else (if x1 = 6 then (bnd (if x3 = 5 then (1) else (0)) fun (z3 : Int32) => gb z3 (some (z3, u))) else (if x1 = 16 then (bnd (if x3 = 9 then (1) else (0)) fun (z5 : Int32) => gb z5 (some (z5, u))) else (if x1 = 17 then (bnd (if x2 = 182 then (0) else (if (u.1 14) < 52 then (0) else (1))) fun (z7 : Int32) => bnd (if x3 = 10 then (1) else (if z7 = 0 then (0) else (if x3 = 11 then (1) else (0)))) fun (z8 : Int32) => gb z8 (some (z8, u))) else (if x1 = 18 then (bnd (if x3 = 11 then (1) else (0)) fun (z11 : Int32) => gb z11 (some (z11, u))) else (bnd (if x3 = 7 then (1) else (0)) fun (z13 : Int32) => gb z13 (some (z13, u)))))))
set_option maxHeartbeats 4000000 in
set_option maxRecDepth 100000 in
theorem c_C_kindFits {Z : zT} {D : va_G} {cs : Nat → ClassId} {a : Nat → Nat} (hw : wD (xW a cs)) (hz : zOK Z) (l : Launch) {u : St} {x1 : Int32} {x2 : Int32} {x3 : Int32} {r : Int32} {u' : St} (hk : f_C_kindFits u x1 x2 x3 = some (r, u')) : KI clA D cs (xW a cs) Z l y_C_kindFits (.code y_C_kindFits prog_2_method_7_code 5 (Option.some Jvm.ClassFile.FieldType.boolean)) rm_C_kindFits [.ref (a 0), .int x1, .int x2, .int x3] u r u' := by
  unfold f_C_kindFits at hk
  refine KZ.of (by decide) (Nat.le_of_ble_eq_true rfl) hw hz ?_
  intro p e s m args below meth c Q C I hQ ls hl
  have hl : lv_has ls 5 [(0, .ref (a 0)), (1, .int x1), (2, .int x2), (3, .int x3)] := hl
  have hx := C.1.1
  have hb := C.1.2.1
  refine lv_iload_n hx hb d_C_kindFits_0 rfl (lv_at hl 1 rfl) ?_
  by_cases hs0 : x1 = 4 ∨ x1 = 5
  · replace hk := it_u hs0 hk
    refine lv_tableIn (tgt := 76) (off := 75) hx hb d_C_kindFits_1 (by rcases hs0 with h | h <;> rw [h] <;> decide) (by rcases hs0 with h | h <;> rw [h] <;> decide) (by rcases hs0 with h | h <;> rw [h] <;> decide) (by decide) ?_
    refine lv_iload_n hx hb d_C_kindFits_76 rfl (lv_at hl 3 rfl) ?_
    refine lv_iconst (v := 3) hx hb d_C_kindFits_77 (by decide) ?_
    obtain ⟨z1, hj2, hk⟩ := bnd_u hk
    have Khj2 : ∀ (H : Heap) (locs : List Loc) (ls : Array Slot), Dy clA D (xW a cs) s H locs u → lv_has ls 5 [] → W p l e rm_C_kindFits s m args below meth c H locs 0 0 Q (F0 m 98 ls [.int z1]) := by
      intro H locs ls I hl
      exact hQ _ _ _ _ _ _ I hk d_C_kindFits_98
    refine lv_icmp_eq (tgt := 93) hx hb d_C_kindFits_78 (by decide) (fun hc => ?_) (fun hc => ?_)
    · replace hj2 := it_u hc hj2
      refine lv_iconst (v := 1) hx hb d_C_kindFits_93 (by decide) ?_
      refine lv_goto (tgt := 98) hx hb d_C_kindFits_94 (by decide) ?_
      obtain rfl := ep1 hj2
      exact Khj2 _ _ _ I (lv_sub hl [] rfl)
    · replace hj2 := ie_u hc hj2
      refine lv_iload_n hx hb d_C_kindFits_81 rfl (lv_at hl 3 rfl) ?_
      refine lv_bipush (v := 8) hx hb d_C_kindFits_82 (by decide) ?_
      refine lv_icmp_eq (tgt := 93) hx hb d_C_kindFits_84 (by decide) (fun hc => ?_) (fun hc => ?_)
      · replace hj2 := it_u hc hj2
        refine lv_iconst (v := 1) hx hb d_C_kindFits_93 (by decide) ?_
        refine lv_goto (tgt := 98) hx hb d_C_kindFits_94 (by decide) ?_
        obtain rfl := ep1 hj2
        exact Khj2 _ _ _ I (lv_sub hl [] rfl)
      · replace hj2 := ie_u hc hj2
        refine lv_iload_n hx hb d_C_kindFits_87 rfl (lv_at hl 3 rfl) ?_
        refine lv_bipush (v := 7) hx hb d_C_kindFits_88 (by decide) ?_
        refine lv_icmp_ne (tgt := 97) hx hb d_C_kindFits_90 (by decide) (fun hc => ?_) (fun hc => ?_)
        · replace hj2 := ie_u hc hj2
          refine lv_iconst (v := 0) hx hb d_C_kindFits_97 (by decide) ?_
          obtain rfl := ep1 hj2
          exact Khj2 _ _ _ I (lv_sub hl [] rfl)
        · replace hj2 := it_u hc hj2
          refine lv_iconst (v := 1) hx hb d_C_kindFits_93 (by decide) ?_
          refine lv_goto (tgt := 98) hx hb d_C_kindFits_94 (by decide) ?_
          obtain rfl := ep1 hj2
          exact Khj2 _ _ _ I (lv_sub hl [] rfl)
  replace hk := ie_u hs0 hk
  by_cases hs1 : x1 = 6
  · replace hk := it_u hs1 hk
    refine lv_tableIn (tgt := 99) (off := 98) hx hb d_C_kindFits_1 (by rw [hs1]; decide) (by rw [hs1]; decide) (by rw [hs1]; decide) (by decide) ?_
    refine lv_iload_n hx hb d_C_kindFits_99 rfl (lv_at hl 3 rfl) ?_
    refine lv_iconst (v := 5) hx hb d_C_kindFits_100 (by decide) ?_
    obtain ⟨z3, hj4, hk⟩ := bnd_u hk
    have Khj4 : ∀ (H : Heap) (locs : List Loc) (ls : Array Slot), Dy clA D (xW a cs) s H locs u → lv_has ls 5 [] → W p l e rm_C_kindFits s m args below meth c H locs 0 0 Q (F0 m 109 ls [.int z3]) := by
      intro H locs ls I hl
      exact hQ _ _ _ _ _ _ I hk d_C_kindFits_109
    refine lv_icmp_ne (tgt := 108) hx hb d_C_kindFits_101 (by decide) (fun hc => ?_) (fun hc => ?_)
    · replace hj4 := ie_u hc hj4
      refine lv_iconst (v := 0) hx hb d_C_kindFits_108 (by decide) ?_
      obtain rfl := ep1 hj4
      exact Khj4 _ _ _ I (lv_sub hl [] rfl)
    · replace hj4 := it_u hc hj4
      refine lv_iconst (v := 1) hx hb d_C_kindFits_104 (by decide) ?_
      refine lv_goto (tgt := 109) hx hb d_C_kindFits_105 (by decide) ?_
      obtain rfl := ep1 hj4
      exact Khj4 _ _ _ I (lv_sub hl [] rfl)
  replace hk := ie_u hs1 hk
  by_cases hs2 : x1 = 16
  · replace hk := it_u hs2 hk
    refine lv_tableIn (tgt := 110) (off := 109) hx hb d_C_kindFits_1 (by rw [hs2]; decide) (by rw [hs2]; decide) (by rw [hs2]; decide) (by decide) ?_
    refine lv_iload_n hx hb d_C_kindFits_110 rfl (lv_at hl 3 rfl) ?_
    refine lv_bipush (v := 9) hx hb d_C_kindFits_111 (by decide) ?_
    obtain ⟨z5, hj6, hk⟩ := bnd_u hk
    have Khj6 : ∀ (H : Heap) (locs : List Loc) (ls : Array Slot), Dy clA D (xW a cs) s H locs u → lv_has ls 5 [] → W p l e rm_C_kindFits s m args below meth c H locs 0 0 Q (F0 m 121 ls [.int z5]) := by
      intro H locs ls I hl
      exact hQ _ _ _ _ _ _ I hk d_C_kindFits_121
    refine lv_icmp_ne (tgt := 120) hx hb d_C_kindFits_113 (by decide) (fun hc => ?_) (fun hc => ?_)
    · replace hj6 := ie_u hc hj6
      refine lv_iconst (v := 0) hx hb d_C_kindFits_120 (by decide) ?_
      obtain rfl := ep1 hj6
      exact Khj6 _ _ _ I (lv_sub hl [] rfl)
    · replace hj6 := it_u hc hj6
      refine lv_iconst (v := 1) hx hb d_C_kindFits_116 (by decide) ?_
      refine lv_goto (tgt := 121) hx hb d_C_kindFits_117 (by decide) ?_
      obtain rfl := ep1 hj6
      exact Khj6 _ _ _ I (lv_sub hl [] rfl)
  replace hk := ie_u hs2 hk
  by_cases hs3 : x1 = 17
  · replace hk := it_u hs3 hk
    refine lv_tableIn (tgt := 122) (off := 121) hx hb d_C_kindFits_1 (by rw [hs3]; decide) (by rw [hs3]; decide) (by rw [hs3]; decide) (by decide) ?_
    refine lv_iload_n hx hb d_C_kindFits_122 rfl (lv_at hl 2 rfl) ?_
    refine lv_sipush (v := 182) hx hb d_C_kindFits_123 (by decide) ?_
    obtain ⟨z7, hj10, hk⟩ := bnd_u hk
    have Khj10 : ∀ (H : Heap) (locs : List Loc) (ls : Array Slot), Dy clA D (xW a cs) s H locs u → lv_has ls 5 [(3, .int x3)] → W p l e rm_C_kindFits s m args below meth c H locs 0 0 Q (F0 m 143 ls [.int z7]) := by
      intro H locs ls I hl
      refine lv_istore (lv' := [(4, .int z7), (3, .int x3)]) hx hb d_C_kindFits_143 hl (by decide) rfl (fun ls hl => ?_)
      refine lv_iload_n hx hb d_C_kindFits_145 rfl (lv_at hl 1 rfl) ?_
      refine lv_bipush (v := 10) hx hb d_C_kindFits_146 (by decide) ?_
      obtain ⟨z8, hj9, hk⟩ := bnd_u hk
      have Khj9 : ∀ (H : Heap) (locs : List Loc) (ls : Array Slot), Dy clA D (xW a cs) s H locs u → lv_has ls 5 [] → W p l e rm_C_kindFits s m args below meth c H locs 0 0 Q (F0 m 167 ls [.int z8]) := by
        intro H locs ls I hl
        exact hQ _ _ _ _ _ _ I hk d_C_kindFits_167
      refine lv_icmp_eq (tgt := 162) hx hb d_C_kindFits_148 (by decide) (fun hc => ?_) (fun hc => ?_)
      · replace hj9 := it_u hc hj9
        refine lv_iconst (v := 1) hx hb d_C_kindFits_162 (by decide) ?_
        refine lv_goto (tgt := 167) hx hb d_C_kindFits_163 (by decide) ?_
        obtain rfl := ep1 hj9
        exact Khj9 _ _ _ I (lv_sub hl [] rfl)
      · replace hj9 := ie_u hc hj9
        refine lv_iload hx hb d_C_kindFits_151 (lv_at hl 0 rfl) ?_
        refine lv_if_eq (tgt := 166) hx hb d_C_kindFits_153 (by decide) (fun hc => ?_) (fun hc => ?_)
        · replace hj9 := it_u hc hj9
          refine lv_iconst (v := 0) hx hb d_C_kindFits_166 (by decide) ?_
          obtain rfl := ep1 hj9
          exact Khj9 _ _ _ I (lv_sub hl [] rfl)
        · replace hj9 := ie_u hc hj9
          refine lv_iload_n hx hb d_C_kindFits_156 rfl (lv_at hl 1 rfl) ?_
          refine lv_bipush (v := 11) hx hb d_C_kindFits_157 (by decide) ?_
          refine lv_icmp_ne (tgt := 166) hx hb d_C_kindFits_159 (by decide) (fun hc => ?_) (fun hc => ?_)
          · replace hj9 := ie_u hc hj9
            refine lv_iconst (v := 0) hx hb d_C_kindFits_166 (by decide) ?_
            obtain rfl := ep1 hj9
            exact Khj9 _ _ _ I (lv_sub hl [] rfl)
          · replace hj9 := it_u hc hj9
            refine lv_iconst (v := 1) hx hb d_C_kindFits_162 (by decide) ?_
            refine lv_goto (tgt := 167) hx hb d_C_kindFits_163 (by decide) ?_
            obtain rfl := ep1 hj9
            exact Khj9 _ _ _ I (lv_sub hl [] rfl)
    refine lv_icmp_eq (tgt := 142) hx hb d_C_kindFits_126 (by decide) (fun hc => ?_) (fun hc => ?_)
    · replace hj10 := it_u hc hj10
      refine lv_iconst (v := 0) hx hb d_C_kindFits_142 (by decide) ?_
      obtain rfl := ep1 hj10
      exact Khj10 _ _ _ I (lv_sub hl [3] rfl)
    · replace hj10 := ie_u hc hj10
      refine lv_aload_n hx hb d_C_kindFits_129 rfl (lv_at hl 0 rfl) ?_
      refine g_C_version C I k_131 d_C_kindFits_130 ?_
      refine lv_bipush (v := 52) hx hb d_C_kindFits_133 (by decide) ?_
      refine lv_icmp_lt (tgt := 142) hx hb d_C_kindFits_135 (by decide) (fun hc => ?_) (fun hc => ?_)
      · replace hj10 := it_u hc hj10
        refine lv_iconst (v := 0) hx hb d_C_kindFits_142 (by decide) ?_
        obtain rfl := ep1 hj10
        exact Khj10 _ _ _ I (lv_sub hl [3] rfl)
      · replace hj10 := ie_u hc hj10
        refine lv_iconst (v := 1) hx hb d_C_kindFits_138 (by decide) ?_
        refine lv_goto (tgt := 143) hx hb d_C_kindFits_139 (by decide) ?_
        obtain rfl := ep1 hj10
        exact Khj10 _ _ _ I (lv_sub hl [3] rfl)
  replace hk := ie_u hs3 hk
  by_cases hs4 : x1 = 18
  · replace hk := it_u hs4 hk
    refine lv_tableIn (tgt := 168) (off := 167) hx hb d_C_kindFits_1 (by rw [hs4]; decide) (by rw [hs4]; decide) (by rw [hs4]; decide) (by decide) ?_
    refine lv_iload_n hx hb d_C_kindFits_168 rfl (lv_at hl 3 rfl) ?_
    refine lv_bipush (v := 11) hx hb d_C_kindFits_169 (by decide) ?_
    obtain ⟨z11, hj12, hk⟩ := bnd_u hk
    have Khj12 : ∀ (H : Heap) (locs : List Loc) (ls : Array Slot), Dy clA D (xW a cs) s H locs u → lv_has ls 5 [] → W p l e rm_C_kindFits s m args below meth c H locs 0 0 Q (F0 m 179 ls [.int z11]) := by
      intro H locs ls I hl
      exact hQ _ _ _ _ _ _ I hk d_C_kindFits_179
    refine lv_icmp_ne (tgt := 178) hx hb d_C_kindFits_171 (by decide) (fun hc => ?_) (fun hc => ?_)
    · replace hj12 := ie_u hc hj12
      refine lv_iconst (v := 0) hx hb d_C_kindFits_178 (by decide) ?_
      obtain rfl := ep1 hj12
      exact Khj12 _ _ _ I (lv_sub hl [] rfl)
    · replace hj12 := it_u hc hj12
      refine lv_iconst (v := 1) hx hb d_C_kindFits_174 (by decide) ?_
      refine lv_goto (tgt := 179) hx hb d_C_kindFits_175 (by decide) ?_
      obtain rfl := ep1 hj12
      exact Khj12 _ _ _ I (lv_sub hl [] rfl)
  replace hk := ie_u hs4 hk
  have n4 : ¬ x1 = 4 := fun h => hs0 (Or.inl h)
  have n5 : ¬ x1 = 5 := fun h => hs0 (Or.inr (h))
  have n6 : ¬ x1 = 6 := fun h => hs1 h
  have n16 : ¬ x1 = 16 := fun h => hs2 h
  have n17 : ¬ x1 = 17 := fun h => hs3 h
  have n18 : ¬ x1 = 18 := fun h => hs4 h
  have wn4 := lv_neT (a := 4) n4 (by decide)
  have wn5 := lv_neT (a := 5) n5 (by decide)
  have wn6 := lv_neT (a := 6) n6 (by decide)
  have wn16 := lv_neT (a := 16) n16 (by decide)
  have wn17 := lv_neT (a := 17) n17 (by decide)
  have wn18 := lv_neT (a := 18) n18 (by decide)
  have Kd1 : ∀ (H : Heap) (locs : List Loc), Dy clA D (xW a cs) s H locs u → W p l e rm_C_kindFits s m args below meth c H locs 0 0 Q (F0 m 180 ls []) := by
    intro H locs I
    refine lv_iload_n hx hb d_C_kindFits_180 rfl (lv_at hl 3 rfl) ?_
    refine lv_bipush (v := 7) hx hb d_C_kindFits_181 (by decide) ?_
    obtain ⟨z13, hj14, hk⟩ := bnd_u hk
    have Khj14 : ∀ (H : Heap) (locs : List Loc) (ls : Array Slot), Dy clA D (xW a cs) s H locs u → lv_has ls 5 [] → W p l e rm_C_kindFits s m args below meth c H locs 0 0 Q (F0 m 191 ls [.int z13]) := by
      intro H locs ls I hl
      exact hQ _ _ _ _ _ _ I hk d_C_kindFits_191
    refine lv_icmp_ne (tgt := 190) hx hb d_C_kindFits_183 (by decide) (fun hc => ?_) (fun hc => ?_)
    · replace hj14 := ie_u hc hj14
      refine lv_iconst (v := 0) hx hb d_C_kindFits_190 (by decide) ?_
      obtain rfl := ep1 hj14
      exact Khj14 _ _ _ I (lv_sub hl [] rfl)
    · replace hj14 := it_u hc hj14
      refine lv_iconst (v := 1) hx hb d_C_kindFits_186 (by decide) ?_
      refine lv_goto (tgt := 191) hx hb d_C_kindFits_187 (by decide) ?_
      obtain rfl := ep1 hj14
      exact Khj14 _ _ _ I (lv_sub hl [] rfl)
  by_cases hlo : (x1 : Int32).toInt < 4
  · exact lv_tableOut (tgt := 180) hx hb d_C_kindFits_1 (Or.inl hlo) (by decide) (Kd1 _ _ I)
  by_cases hhi : 18 < (x1 : Int32).toInt
  · exact lv_tableOut (tgt := 180) hx hb d_C_kindFits_1 (Or.inr hhi) (by decide) (Kd1 _ _ I)
  have hg : (x1 : Int32).toInt = 7 ∨ (x1 : Int32).toInt = 8 ∨ (x1 : Int32).toInt = 9 ∨ (x1 : Int32).toInt = 10 ∨ (x1 : Int32).toInt = 11 ∨ (x1 : Int32).toInt = 12 ∨ (x1 : Int32).toInt = 13 ∨ (x1 : Int32).toInt = 14 ∨ (x1 : Int32).toInt = 15 := by omega
  exact lv_tableIn (tgt := 180) (off := 179) hx hb d_C_kindFits_1 hlo hhi (by rcases hg with h | h | h | h | h | h | h | h | h <;> rw [h] <;> decide) (by decide) (Kd1 _ _ I)
def rm_C_localInCode : Room := { frames := 0, cells := 0, slots := 0, locals := 0 }
noncomputable def f_C_localInCode (u : St) (x0 : Int32) : Option (Int32 × St) := bnd (if 54 ≤ x0 then ((x0 - 59)) else ((x0 - 26))) fun (z1 : Int32) => some ((z1 &&& 3), u)
set_option maxHeartbeats 4000000 in
set_option maxRecDepth 100000 in
theorem c_C_localInCode {Z : zT} {D : va_G} {cs : Nat → ClassId} {a : Nat → Nat} (hw : wD (xW a cs)) (hz : zOK Z) (l : Launch) {u : St} {x0 : Int32} {r : Int32} {u' : St} (hk : f_C_localInCode u x0 = some (r, u')) : KI clA D cs (xW a cs) Z l y_C_localInCode (.code y_C_localInCode prog_2_method_6_code 1 (Option.some Jvm.ClassFile.FieldType.int)) rm_C_localInCode [.int x0] u r u' := by
  unfold f_C_localInCode at hk
  refine KI.of (by decide) (Nat.le_of_ble_eq_true rfl) rfl hw hz ?_
  intro p e s m args below meth c Q C I hQ ls hl
  have hl : lv_has ls 1 [(0, .int x0)] := hl
  have hx := C.1.1
  have hb := C.1.2.1
  refine lv_iload_n hx hb d_C_localInCode_0 rfl (lv_at hl 0 rfl) ?_
  refine lv_bipush (v := 54) hx hb d_C_localInCode_1 (by decide) ?_
  obtain ⟨z1, hj2, hk⟩ := bnd_u hk
  have Khj2 : ∀ (H : Heap) (locs : List Loc) (ls : Array Slot), Dy clA D (xW a cs) s H locs u → lv_has ls 1 [] → W p l e rm_C_localInCode s m args below meth c H locs 0 0 Q (F0 m 17 ls [.int z1]) := by
    intro H locs ls I hl
    refine lv_iconst (v := 3) hx hb d_C_localInCode_17 (by decide) ?_
    refine lv_iand hx hb d_C_localInCode_18 ?_
    exact hQ _ _ _ _ _ _ I hk d_C_localInCode_19
  refine lv_icmp_ge (tgt := 13) hx hb d_C_localInCode_3 (by decide) (fun hc => ?_) (fun hc => ?_)
  · replace hj2 := it_u hc hj2
    refine lv_iload_n hx hb d_C_localInCode_13 rfl (lv_at hl 0 rfl) ?_
    refine lv_bipush (v := 59) hx hb d_C_localInCode_14 (by decide) ?_
    refine lv_isub hx hb d_C_localInCode_16 ?_
    obtain rfl := ep1 hj2
    exact Khj2 _ _ _ I (lv_sub hl [] rfl)
  · replace hj2 := ie_u hc hj2
    refine lv_iload_n hx hb d_C_localInCode_6 rfl (lv_at hl 0 rfl) ?_
    refine lv_bipush (v := 26) hx hb d_C_localInCode_7 (by decide) ?_
    refine lv_isub hx hb d_C_localInCode_9 ?_
    refine lv_goto (tgt := 17) hx hb d_C_localInCode_10 (by decide) ?_
    obtain rfl := ep1 hj2
    exact Khj2 _ _ _ I (lv_sub hl [] rfl)
def rm_C_restFits : Room := { frames := 1, cells := 0, slots := 0, locals := 24 }
noncomputable def f_C_restFits (u : St) (x1 : Int32) (x2 : Int32) (x3 : Int32) (x4 : Int32) : Option (Int32 × St) := if x1 = 17 then (cT (if x2 = 183 then (some (1, u)) else (cI (f_P_factsOf u x3) fun r6 u4 => if (r6 &&& 4) = 0 then (some (1, u4)) else (some (0, u4)))) fun (p7 : Int32 × St) => gb p7.1 (some (p7.1, p7.2))) else (if x1 = 18 then (cI (f_W_numberAt u (x4 + 3) 2) fun r10 u8 => cI (f_P_measureOf u8 x3) fun r13 u11 => bnd (if r10 = ((r13 + 1) <<< (8 &&& 31)) then (1) else (0)) fun (z14 : Int32) => gb z14 (some (z14, u11))) else (if x1 = 19 then (cT (if x2 = 187 then (cI (f_P_measureOf u x3) fun r21 u19 => if r21 = 0 then (some (1, u19)) else (some (0, u19))) else (some (1, u))) fun (p22 : Int32 × St) => gb p22.1 (some (p22.1, p22.2))) else (if x1 = 21 then (cI (f_W_numberAt u (x4 + 3) 1) fun r25 u23 => cT (if r25 < 1 then (some (0, u23)) else (cI (f_P_measureOf u23 x3) fun r31 u29 => if r31 < r25 then (some (0, u29)) else (some (1, u29)))) fun (p32 : Int32 × St) => gb p32.1 (some (p32.1, p32.2))) else (gb 1 (some (1, u))))))
set_option maxHeartbeats 4000000 in
set_option maxRecDepth 100000 in
theorem c_C_restFits {Z : zT} {D : va_G} {cs : Nat → ClassId} {a : Nat → Nat} (hw : wD (xW a cs)) (hz : zOK Z) (l : Launch) {u : St} {x1 : Int32} {x2 : Int32} {x3 : Int32} {x4 : Int32} {r : Int32} {u' : St} (hk : f_C_restFits u x1 x2 x3 x4 = some (r, u')) : KI clA D cs (xW a cs) Z l y_C_restFits (.code y_C_restFits prog_2_method_8_code 6 (Option.some Jvm.ClassFile.FieldType.boolean)) rm_C_restFits [.ref (a 0), .int x1, .int x2, .int x3, .int x4] u r u' := by
  unfold f_C_restFits at hk
  refine KZ.of (by decide) (Nat.le_of_ble_eq_true rfl) hw hz ?_
  intro p e s m args below meth c Q C I hQ ls hl
  have hl : lv_has ls 6 [(0, .ref (a 0)), (1, .int x1), (2, .int x2), (3, .int x3), (4, .int x4)] := hl
  have hx := C.1.1
  have hb := C.1.2.1
  refine lv_iload_n hx hb d_C_restFits_0 rfl (lv_at hl 1 rfl) ?_
  by_cases hs0 : x1 = 17
  · replace hk := it_u hs0 hk
    refine lv_tableIn (tgt := 36) (off := 35) hx hb d_C_restFits_1 (by rw [hs0]; decide) (by rw [hs0]; decide) (by rw [hs0]; decide) (by decide) ?_
    refine lv_iload_n hx hb d_C_restFits_36 rfl (lv_at hl 2 rfl) ?_
    refine lv_sipush (v := 183) hx hb d_C_restFits_37 (by decide) ?_
    obtain ⟨⟨z1, u2⟩, hj3, hk⟩ := cT_u hk
    have Khj3 : ∀ (H : Heap) (locs : List Loc) (ls : Array Slot), Dy clA D (xW a cs) s H locs u2 → lv_has ls 6 [] → W p l e rm_C_restFits s m args below meth c H locs 0 0 Q (F0 m 61 ls [.int z1]) := by
      intro H locs ls I hl
      exact hQ _ _ _ _ _ _ I hk d_C_restFits_61
    refine lv_icmp_eq (tgt := 56) hx hb d_C_restFits_40 (by decide) (fun hc => ?_) (fun hc => ?_)
    · replace hj3 := it_u hc hj3
      refine lv_iconst (v := 1) hx hb d_C_restFits_56 (by decide) ?_
      refine lv_goto (tgt := 61) hx hb d_C_restFits_57 (by decide) ?_
      obtain ⟨rfl, rfl⟩ := eo2 hj3
      exact Khj3 _ _ _ I (lv_sub hl [] rfl)
    · replace hj3 := ie_u hc hj3
      refine lv_aload_n hx hb d_C_restFits_43 rfl (lv_at hl 0 rfl) ?_
      refine g_C_pool C I k_126 d_C_restFits_44 ?_
      refine lv_iload_n hx hb d_C_restFits_47 rfl (lv_at hl 3 rfl) ?_
      obtain ⟨r6, u4, h5, hj3⟩ := cI_u hj3
      refine go_I I (call_runV (rest := []) C I (c_P_factsOf C.2.2.2.1 C.2.2.2.2.1 l h5 _) wd_P_factsOf (q0 := 2) (ci := 2) rfl rfl k_604 ⟨rfl, rfl⟩ ⟨by decide, by decide⟩ rfl hl.1 rfl (Nat.le_of_ble_eq_true rfl) d_C_restFits_48) (fun H locs I => ?_)
      refine lv_iconst (v := 4) hx hb d_C_restFits_51 (by decide) ?_
      refine lv_iand hx hb d_C_restFits_52 ?_
      refine lv_if_ne (tgt := 60) hx hb d_C_restFits_53 (by decide) (fun hc => ?_) (fun hc => ?_)
      · replace hj3 := ie_u hc hj3
        refine lv_iconst (v := 0) hx hb d_C_restFits_60 (by decide) ?_
        obtain ⟨rfl, rfl⟩ := eo2 hj3
        exact Khj3 _ _ _ I (lv_sub hl [] rfl)
      · replace hj3 := it_u hc hj3
        refine lv_iconst (v := 1) hx hb d_C_restFits_56 (by decide) ?_
        refine lv_goto (tgt := 61) hx hb d_C_restFits_57 (by decide) ?_
        obtain ⟨rfl, rfl⟩ := eo2 hj3
        exact Khj3 _ _ _ I (lv_sub hl [] rfl)
  replace hk := ie_u hs0 hk
  by_cases hs1 : x1 = 18
  · replace hk := it_u hs1 hk
    refine lv_tableIn (tgt := 62) (off := 61) hx hb d_C_restFits_1 (by rw [hs1]; decide) (by rw [hs1]; decide) (by rw [hs1]; decide) (by decide) ?_
    refine lv_aload_n hx hb d_C_restFits_62 rfl (lv_at hl 0 rfl) ?_
    refine g_C_walk C I k_125 d_C_restFits_63 ?_
    refine lv_iload hx hb d_C_restFits_66 (lv_at hl 4 rfl) ?_
    refine lv_iconst (v := 3) hx hb d_C_restFits_68 (by decide) ?_
    refine lv_iadd hx hb d_C_restFits_69 ?_
    refine lv_iconst (v := 2) hx hb d_C_restFits_70 (by decide) ?_
    obtain ⟨r10, u8, h9, hk⟩ := cI_u hk
    refine go_I I (call_runV (rest := []) C I (c_W_numberAt C.2.2.2.1 C.2.2.2.2.1 l h9 _) wd_W_numberAt (q0 := 4) (ci := 4) rfl rfl k_556 ⟨rfl, rfl⟩ ⟨by decide, by decide⟩ rfl hl.1 rfl (Nat.le_of_ble_eq_true rfl) d_C_restFits_71) (fun H locs I => ?_)
    refine lv_aload_n hx hb d_C_restFits_74 rfl (lv_at hl 0 rfl) ?_
    refine g_C_pool C I k_126 d_C_restFits_75 ?_
    refine lv_iload_n hx hb d_C_restFits_78 rfl (lv_at hl 3 rfl) ?_
    obtain ⟨r13, u11, h12, hk⟩ := cI_u hk
    refine go_I I (call_runV (rest := [.int r10]) C I (c_P_measureOf C.2.2.2.1 C.2.2.2.2.1 l h12 _) wd_P_measureOf (q0 := 2) (ci := 2) rfl rfl k_605 ⟨rfl, rfl⟩ ⟨by decide, by decide⟩ rfl hl.1 rfl (Nat.le_of_ble_eq_true rfl) d_C_restFits_79) (fun H locs I => ?_)
    refine lv_iconst (v := 1) hx hb d_C_restFits_82 (by decide) ?_
    refine lv_iadd hx hb d_C_restFits_83 ?_
    refine lv_bipush (v := 8) hx hb d_C_restFits_84 (by decide) ?_
    refine lv_ishl hx hb d_C_restFits_86 ?_
    obtain ⟨z14, hj15, hk⟩ := bnd_u hk
    have Khj15 : ∀ (H : Heap) (locs : List Loc) (ls : Array Slot), Dy clA D (xW a cs) s H locs u11 → lv_has ls 6 [] → W p l e rm_C_restFits s m args below meth c H locs 0 0 Q (F0 m 95 ls [.int z14]) := by
      intro H locs ls I hl
      exact hQ _ _ _ _ _ _ I hk d_C_restFits_95
    refine lv_icmp_ne (tgt := 94) hx hb d_C_restFits_87 (by decide) (fun hc => ?_) (fun hc => ?_)
    · replace hj15 := ie_u hc hj15
      refine lv_iconst (v := 0) hx hb d_C_restFits_94 (by decide) ?_
      obtain rfl := ep1 hj15
      exact Khj15 _ _ _ I (lv_sub hl [] rfl)
    · replace hj15 := it_u hc hj15
      refine lv_iconst (v := 1) hx hb d_C_restFits_90 (by decide) ?_
      refine lv_goto (tgt := 95) hx hb d_C_restFits_91 (by decide) ?_
      obtain rfl := ep1 hj15
      exact Khj15 _ _ _ I (lv_sub hl [] rfl)
  replace hk := ie_u hs1 hk
  by_cases hs2 : x1 = 19
  · replace hk := it_u hs2 hk
    refine lv_tableIn (tgt := 96) (off := 95) hx hb d_C_restFits_1 (by rw [hs2]; decide) (by rw [hs2]; decide) (by rw [hs2]; decide) (by decide) ?_
    refine lv_iload_n hx hb d_C_restFits_96 rfl (lv_at hl 2 rfl) ?_
    refine lv_sipush (v := 187) hx hb d_C_restFits_97 (by decide) ?_
    obtain ⟨⟨z16, u17⟩, hj18, hk⟩ := cT_u hk
    have Khj18 : ∀ (H : Heap) (locs : List Loc) (ls : Array Slot), Dy clA D (xW a cs) s H locs u17 → lv_has ls 6 [] → W p l e rm_C_restFits s m args below meth c H locs 0 0 Q (F0 m 119 ls [.int z16]) := by
      intro H locs ls I hl
      exact hQ _ _ _ _ _ _ I hk d_C_restFits_119
    refine lv_icmp_ne (tgt := 114) hx hb d_C_restFits_100 (by decide) (fun hc => ?_) (fun hc => ?_)
    · replace hj18 := ie_u hc hj18
      refine lv_iconst (v := 1) hx hb d_C_restFits_114 (by decide) ?_
      refine lv_goto (tgt := 119) hx hb d_C_restFits_115 (by decide) ?_
      obtain ⟨rfl, rfl⟩ := eo2 hj18
      exact Khj18 _ _ _ I (lv_sub hl [] rfl)
    · replace hj18 := it_u hc hj18
      refine lv_aload_n hx hb d_C_restFits_103 rfl (lv_at hl 0 rfl) ?_
      refine g_C_pool C I k_126 d_C_restFits_104 ?_
      refine lv_iload_n hx hb d_C_restFits_107 rfl (lv_at hl 3 rfl) ?_
      obtain ⟨r21, u19, h20, hj18⟩ := cI_u hj18
      refine go_I I (call_runV (rest := []) C I (c_P_measureOf C.2.2.2.1 C.2.2.2.2.1 l h20 _) wd_P_measureOf (q0 := 2) (ci := 2) rfl rfl k_605 ⟨rfl, rfl⟩ ⟨by decide, by decide⟩ rfl hl.1 rfl (Nat.le_of_ble_eq_true rfl) d_C_restFits_108) (fun H locs I => ?_)
      refine lv_if_ne (tgt := 118) hx hb d_C_restFits_111 (by decide) (fun hc => ?_) (fun hc => ?_)
      · replace hj18 := ie_u hc hj18
        refine lv_iconst (v := 0) hx hb d_C_restFits_118 (by decide) ?_
        obtain ⟨rfl, rfl⟩ := eo2 hj18
        exact Khj18 _ _ _ I (lv_sub hl [] rfl)
      · replace hj18 := it_u hc hj18
        refine lv_iconst (v := 1) hx hb d_C_restFits_114 (by decide) ?_
        refine lv_goto (tgt := 119) hx hb d_C_restFits_115 (by decide) ?_
        obtain ⟨rfl, rfl⟩ := eo2 hj18
        exact Khj18 _ _ _ I (lv_sub hl [] rfl)
  replace hk := ie_u hs2 hk
  by_cases hs3 : x1 = 21
  · replace hk := it_u hs3 hk
    refine lv_tableIn (tgt := 120) (off := 119) hx hb d_C_restFits_1 (by rw [hs3]; decide) (by rw [hs3]; decide) (by rw [hs3]; decide) (by decide) ?_
    refine lv_aload_n hx hb d_C_restFits_120 rfl (lv_at hl 0 rfl) ?_
    refine g_C_walk C I k_125 d_C_restFits_121 ?_
    refine lv_iload hx hb d_C_restFits_124 (lv_at hl 4 rfl) ?_
    refine lv_iconst (v := 3) hx hb d_C_restFits_126 (by decide) ?_
    refine lv_iadd hx hb d_C_restFits_127 ?_
    refine lv_iconst (v := 1) hx hb d_C_restFits_128 (by decide) ?_
    obtain ⟨r25, u23, h24, hk⟩ := cI_u hk
    refine go_I I (call_runV (rest := []) C I (c_W_numberAt C.2.2.2.1 C.2.2.2.2.1 l h24 _) wd_W_numberAt (q0 := 4) (ci := 4) rfl rfl k_556 ⟨rfl, rfl⟩ ⟨by decide, by decide⟩ rfl hl.1 rfl (Nat.le_of_ble_eq_true rfl) d_C_restFits_129) (fun H locs I => ?_)
    refine lv_istore (lv' := [(5, .int r25), (0, .ref (a 0)), (1, .int x1), (2, .int x2), (3, .int x3), (4, .int x4)]) hx hb d_C_restFits_132 hl (by decide) rfl (fun ls hl => ?_)
    refine lv_iload hx hb d_C_restFits_134 (lv_at hl 0 rfl) ?_
    refine lv_iconst (v := 1) hx hb d_C_restFits_136 (by decide) ?_
    obtain ⟨⟨z26, u27⟩, hj28, hk⟩ := cT_u hk
    have Khj28 : ∀ (H : Heap) (locs : List Loc) (ls : Array Slot), Dy clA D (xW a cs) s H locs u27 → lv_has ls 6 [] → W p l e rm_C_restFits s m args below meth c H locs 0 0 Q (F0 m 158 ls [.int z26]) := by
      intro H locs ls I hl
      exact hQ _ _ _ _ _ _ I hk d_C_restFits_158
    refine lv_icmp_lt (tgt := 157) hx hb d_C_restFits_137 (by decide) (fun hc => ?_) (fun hc => ?_)
    · replace hj28 := it_u hc hj28
      refine lv_iconst (v := 0) hx hb d_C_restFits_157 (by decide) ?_
      obtain ⟨rfl, rfl⟩ := eo2 hj28
      exact Khj28 _ _ _ I (lv_sub hl [] rfl)
    · replace hj28 := ie_u hc hj28
      refine lv_iload hx hb d_C_restFits_140 (lv_at hl 0 rfl) ?_
      refine lv_aload_n hx hb d_C_restFits_142 rfl (lv_at hl 1 rfl) ?_
      refine g_C_pool C I k_126 d_C_restFits_143 ?_
      refine lv_iload_n hx hb d_C_restFits_146 rfl (lv_at hl 4 rfl) ?_
      obtain ⟨r31, u29, h30, hj28⟩ := cI_u hj28
      refine go_I I (call_runV (rest := [.int r25]) C I (c_P_measureOf C.2.2.2.1 C.2.2.2.2.1 l h30 _) wd_P_measureOf (q0 := 2) (ci := 2) rfl rfl k_605 ⟨rfl, rfl⟩ ⟨by decide, by decide⟩ rfl hl.1 rfl (Nat.le_of_ble_eq_true rfl) d_C_restFits_147) (fun H locs I => ?_)
      refine lv_icmp_gt (tgt := 157) hx hb d_C_restFits_150 (by decide) (fun hc => ?_) (fun hc => ?_)
      · replace hj28 := it_u hc hj28
        refine lv_iconst (v := 0) hx hb d_C_restFits_157 (by decide) ?_
        obtain ⟨rfl, rfl⟩ := eo2 hj28
        exact Khj28 _ _ _ I (lv_sub hl [] rfl)
      · replace hj28 := ie_u hc hj28
        refine lv_iconst (v := 1) hx hb d_C_restFits_153 (by decide) ?_
        refine lv_goto (tgt := 158) hx hb d_C_restFits_154 (by decide) ?_
        obtain ⟨rfl, rfl⟩ := eo2 hj28
        exact Khj28 _ _ _ I (lv_sub hl [] rfl)
  replace hk := ie_u hs3 hk
  have n17 : ¬ x1 = 17 := fun h => hs0 h
  have n18 : ¬ x1 = 18 := fun h => hs1 h
  have n19 : ¬ x1 = 19 := fun h => hs2 h
  have n21 : ¬ x1 = 21 := fun h => hs3 h
  have wn17 := lv_neT (a := 17) n17 (by decide)
  have wn18 := lv_neT (a := 18) n18 (by decide)
  have wn19 := lv_neT (a := 19) n19 (by decide)
  have wn21 := lv_neT (a := 21) n21 (by decide)
  have Kd1 : ∀ (H : Heap) (locs : List Loc), Dy clA D (xW a cs) s H locs u → W p l e rm_C_restFits s m args below meth c H locs 0 0 Q (F0 m 159 ls []) := by
    intro H locs I
    refine lv_iconst (v := 1) hx hb d_C_restFits_159 (by decide) ?_
    exact hQ _ _ _ _ _ _ I hk d_C_restFits_160
  by_cases hlo : (x1 : Int32).toInt < 17
  · exact lv_tableOut (tgt := 159) hx hb d_C_restFits_1 (Or.inl hlo) (by decide) (Kd1 _ _ I)
  by_cases hhi : 21 < (x1 : Int32).toInt
  · exact lv_tableOut (tgt := 159) hx hb d_C_restFits_1 (Or.inr hhi) (by decide) (Kd1 _ _ I)
  have hg : (x1 : Int32).toInt = 20 := by omega
  exact lv_tableIn (tgt := 159) (off := 158) hx hb d_C_restFits_1 hlo hhi (by rw [hg]; decide) (by decide) (Kd1 _ _ I)
def rm_C_stepFixed : Room := { frames := 2, cells := 0, slots := 0, locals := 49 }
noncomputable def f_C_stepFixed (u : St) (x1 : Int32) (x2 : Int32) (x3 : Int32) : Option (Int32 × St) := gd x3 23 (bnd (if (u.1 9) < (x1 + (tab_WIDTHS x3.toNatClampNeg)) then (0) else (1)) fun (z1 : Int32) => cV (f_W_need u z1 25 ((u.1 13) + x1)) fun u2 => gd x3 23 (cI (f_W_numberAt u2 (((u.1 13) + x1) + 1) (tab_NUMBERS x3.toNatClampNeg)) fun r6 u4 => cT (if x3 = 2 ∨ x3 = 3 then (some (u4)) else (if x3 = 7 ∨ x3 = 8 ∨ x3 = 11 then (bnd (if x3 = 8 then (2) else (1)) fun (z9 : Int32) => bnd (if (u4.1 8) < (r6 + z9) then (0) else (1)) fun (z10 : Int32) => cV (f_W_need u4 z10 23 ((u.1 13) + x1)) fun u11 => some (u11)) else (if x3 = 9 ∨ x3 = 10 then (cI (f_C_localInCode u4 x2) fun r17 u15 => bnd (if x3 = 10 then (2) else (1)) fun (z18 : Int32) => bnd (if (u15.1 8) < (r17 + z18) then (0) else (1)) fun (z19 : Int32) => cV (f_W_need u15 z19 23 ((u.1 13) + x1)) fun u20 => some (u20)) else (if x3 = 12 then (cV (f_C_addJump u4 x1 (r6).toInt16.toInt32) fun u24 => some (u24)) else (if x3 = 13 then (cV (f_C_addJump u4 x1 r6) fun u26 => some (u26)) else (if x3 = 20 then (bnd (if r6 = 4 then (1) else (if r6 = 5 then (1) else (if r6 < 8 then (0) else (if 11 < r6 then (0) else (1))))) fun (z28 : Int32) => cV (f_W_need u4 z28 24 ((u.1 13) + x1)) fun u29 => some (u29)) else (cI (f_P_kindOf u4 r6) fun r34 u32 => cI (f_C_kindFits u32 x3 x2 r34) fun r37 u35 => cV (f_W_need u35 r37 8 ((u.1 13) + x1)) fun u38 => cI (f_C_restFits u38 x3 x2 r6 ((u.1 13) + x1)) fun r42 u40 => cV (f_W_need u40 r42 24 ((u.1 13) + x1)) fun u43 => some (u43)))))))) fun (u7 : St) => some ((tab_WIDTHS x3.toNatClampNeg), u7)))
set_option maxHeartbeats 4000000 in
set_option maxRecDepth 100000 in
theorem c_C_stepFixed {sk sv9 st : Nat → Nat} {D : va_G} {cs : Nat → ClassId} {a : Nat → Nat} (hw : wD (xW a cs)) (hz : zOK (xZ sk sv9 st)) (l : Launch) {u : St} {x1 : Int32} {x2 : Int32} {x3 : Int32} {r : Int32} {u' : St} (hk : f_C_stepFixed u x1 x2 x3 = some (r, u')) : KI clA D cs (xW a cs) (xZ sk sv9 st) l y_C_stepFixed (.code y_C_stepFixed prog_2_method_5_code 7 (Option.some Jvm.ClassFile.FieldType.int)) rm_C_stepFixed [.ref (a 0), .int x1, .int x2, .int x3] u r u' := by
  unfold f_C_stepFixed at hk
  refine KI.of (by decide) (Nat.le_of_ble_eq_true rfl) rfl hw hz ?_
  intro p e s m args below meth c Q C I hQ ls hl
  have hl : lv_has ls 7 [(0, .ref (a 0)), (1, .int x1), (2, .int x2), (3, .int x3)] := hl
  have hx := C.1.1
  have hb := C.1.2.1
  refine lv_aload_n hx hb d_C_stepFixed_0 rfl (lv_at hl 0 rfl) ?_
  refine g_C_base C I k_130 d_C_stepFixed_1 ?_
  refine lv_iload_n hx hb d_C_stepFixed_4 rfl (lv_at hl 1 rfl) ?_
  refine lv_iadd hx hb d_C_stepFixed_5 ?_
  refine lv_istore (lv' := [(4, .int ((u.1 13) + x1)), (0, .ref (a 0)), (1, .int x1), (2, .int x2), (3, .int x3)]) hx hb d_C_stepFixed_6 hl (by decide) rfl (fun ls hl => ?_)
  refine gs_WIDTHS C I k_588 d_C_stepFixed_8 ?_
  refine lv_iload_n hx hb d_C_stepFixed_11 rfl (lv_at hl 4 rfl) ?_
  obtain ⟨hi, hk⟩ := gd_u hk
  refine lt_WIDTHS C I hi d_C_stepFixed_12 ?_
  refine lv_istore (lv' := [(5, .int (tab_WIDTHS x3.toNatClampNeg)), (4, .int ((u.1 13) + x1)), (0, .ref (a 0)), (1, .int x1), (2, .int x2), (3, .int x3)]) hx hb d_C_stepFixed_13 hl (by decide) rfl (fun ls hl => ?_)
  refine lv_aload_n hx hb d_C_stepFixed_15 rfl (lv_at hl 2 rfl) ?_
  refine g_C_walk C I k_125 d_C_stepFixed_16 ?_
  refine lv_iload_n hx hb d_C_stepFixed_19 rfl (lv_at hl 3 rfl) ?_
  refine lv_iload hx hb d_C_stepFixed_20 (lv_at hl 0 rfl) ?_
  refine lv_iadd hx hb d_C_stepFixed_22 ?_
  refine lv_aload_n hx hb d_C_stepFixed_23 rfl (lv_at hl 2 rfl) ?_
  refine g_C_size C I k_117 d_C_stepFixed_24 ?_
  obtain ⟨z1, hj45, hk⟩ := bnd_u hk
  have Khj45 : ∀ (H : Heap) (locs : List Loc) (ls : Array Slot), Dy clA D (xW a cs) s H locs u → lv_has ls 7 [(0, .ref (a 0)), (1, .int x1), (2, .int x2), (3, .int x3), (4, .int ((u.1 13) + x1)), (5, .int (tab_WIDTHS x3.toNatClampNeg))] → W p l e rm_C_stepFixed s m args below meth c H locs 0 0 Q (F0 m 35 ls [.int z1, .ref (a 4)]) := by
    intro H locs ls I hl
    refine lv_bipush (v := 25) hx hb d_C_stepFixed_35 (by decide) ?_
    refine lv_iload hx hb d_C_stepFixed_37 (lv_at hl 4 rfl) ?_
    obtain ⟨u2, h3, hk⟩ := cV_u hk
    refine go_V I (call_runV (rest := []) C I (c_W_need C.2.2.2.1 C.2.2.2.2.1 l h3 _) wd_W_need (q0 := 4) (ci := 4) rfl rfl k_550 ⟨rfl, rfl⟩ ⟨by decide, by decide⟩ rfl hl.1 rfl (Nat.le_of_ble_eq_true rfl) d_C_stepFixed_39) (fun H locs I => ?_)
    refine lv_aload_n hx hb d_C_stepFixed_42 rfl (lv_at hl 0 rfl) ?_
    refine g_C_walk C I k_125 d_C_stepFixed_43 ?_
    refine lv_iload hx hb d_C_stepFixed_46 (lv_at hl 4 rfl) ?_
    refine lv_iconst (v := 1) hx hb d_C_stepFixed_48 (by decide) ?_
    refine lv_iadd hx hb d_C_stepFixed_49 ?_
    refine gs_NUMBERS C I k_590 d_C_stepFixed_50 ?_
    refine lv_iload_n hx hb d_C_stepFixed_53 rfl (lv_at hl 3 rfl) ?_
    obtain ⟨hi, hk⟩ := gd_u hk
    refine lt_NUMBERS C I hi d_C_stepFixed_54 ?_
    obtain ⟨r6, u4, h5, hk⟩ := cI_u hk
    refine go_I I (call_runV (rest := []) C I (c_W_numberAt C.2.2.2.1 C.2.2.2.2.1 l h5 _) wd_W_numberAt (q0 := 4) (ci := 4) rfl rfl k_556 ⟨rfl, rfl⟩ ⟨by decide, by decide⟩ rfl hl.1 rfl (Nat.le_of_ble_eq_true rfl) d_C_stepFixed_55) (fun H locs I => ?_)
    refine lv_istore (lv' := [(6, .int r6), (0, .ref (a 0)), (1, .int x1), (2, .int x2), (3, .int x3), (4, .int ((u.1 13) + x1)), (5, .int (tab_WIDTHS x3.toNatClampNeg))]) hx hb d_C_stepFixed_58 hl (by decide) rfl (fun ls hl => ?_)
    refine lv_iload_n hx hb d_C_stepFixed_60 rfl (lv_at hl 4 rfl) ?_
    obtain ⟨u7, hj8, hk⟩ := cT_u hk
    have Khj8 : ∀ (H : Heap) (locs : List Loc) (ls : Array Slot), Dy clA D (xW a cs) s H locs u7 → lv_has ls 7 [(5, .int (tab_WIDTHS x3.toNatClampNeg))] → W p l e rm_C_stepFixed s m args below meth c H locs 0 0 Q (F0 m 350 ls []) := by
      intro H locs ls I hl
      refine lv_iload hx hb d_C_stepFixed_350 (lv_at hl 0 rfl) ?_
      exact hQ _ _ _ _ _ _ I hk d_C_stepFixed_352
    by_cases hs0 : x3 = 2 ∨ x3 = 3
    · replace hj8 := it_u hs0 hj8
      refine lv_tableIn (tgt := 152) (off := 91) hx hb d_C_stepFixed_61 (by rcases hs0 with h | h <;> rw [h] <;> decide) (by rcases hs0 with h | h <;> rw [h] <;> decide) (by rcases hs0 with h | h <;> rw [h] <;> decide) (by decide) ?_
      refine lv_goto (tgt := 350) hx hb d_C_stepFixed_152 (by decide) ?_
      obtain rfl := eo1 hj8
      exact Khj8 _ _ _ I (lv_sub hl [6] rfl)
    replace hj8 := ie_u hs0 hj8
    by_cases hs1 : x3 = 7 ∨ x3 = 8 ∨ x3 = 11
    · replace hj8 := it_u hs1 hj8
      refine lv_tableIn (tgt := 155) (off := 94) hx hb d_C_stepFixed_61 (by rcases hs1 with h | h | h <;> rw [h] <;> decide) (by rcases hs1 with h | h | h <;> rw [h] <;> decide) (by rcases hs1 with h | h | h <;> rw [h] <;> decide) (by decide) ?_
      refine lv_aload_n hx hb d_C_stepFixed_155 rfl (lv_at hl 1 rfl) ?_
      refine g_C_walk C I k_125 d_C_stepFixed_156 ?_
      refine lv_iload hx hb d_C_stepFixed_159 (lv_at hl 0 rfl) ?_
      refine lv_iload_n hx hb d_C_stepFixed_161 rfl (lv_at hl 4 rfl) ?_
      refine lv_bipush (v := 8) hx hb d_C_stepFixed_162 (by decide) ?_
      obtain ⟨z9, hj14, hj8⟩ := bnd_u hj8
      have Khj14 : ∀ (H : Heap) (locs : List Loc) (ls : Array Slot), Dy clA D (xW a cs) s H locs u4 → lv_has ls 7 [(0, .ref (a 0)), (4, .int ((u.1 13) + x1)), (5, .int (tab_WIDTHS x3.toNatClampNeg))] → W p l e rm_C_stepFixed s m args below meth c H locs 0 0 Q (F0 m 172 ls [.int z9, .int r6, .ref (a 4)]) := by
        intro H locs ls I hl
        refine lv_iadd hx hb d_C_stepFixed_172 ?_
        refine lv_aload_n hx hb d_C_stepFixed_173 rfl (lv_at hl 0 rfl) ?_
        refine g_C_locals C I k_115 d_C_stepFixed_174 ?_
        obtain ⟨z10, hj13, hj8⟩ := bnd_u hj8
        have Khj13 : ∀ (H : Heap) (locs : List Loc) (ls : Array Slot), Dy clA D (xW a cs) s H locs u4 → lv_has ls 7 [(4, .int ((u.1 13) + x1)), (5, .int (tab_WIDTHS x3.toNatClampNeg))] → W p l e rm_C_stepFixed s m args below meth c H locs 0 0 Q (F0 m 185 ls [.int z10, .ref (a 4)]) := by
          intro H locs ls I hl
          refine lv_bipush (v := 23) hx hb d_C_stepFixed_185 (by decide) ?_
          refine lv_iload hx hb d_C_stepFixed_187 (lv_at hl 0 rfl) ?_
          obtain ⟨u11, h12, hj8⟩ := cV_u hj8
          refine go_V I (call_runV (rest := []) C I (c_W_need C.2.2.2.1 C.2.2.2.2.1 l h12 _) wd_W_need (q0 := 4) (ci := 4) rfl rfl k_550 ⟨rfl, rfl⟩ ⟨by decide, by decide⟩ rfl hl.1 rfl (Nat.le_of_ble_eq_true rfl) d_C_stepFixed_189) (fun H locs I => ?_)
          refine lv_goto (tgt := 350) hx hb d_C_stepFixed_192 (by decide) ?_
          obtain rfl := eo1 hj8
          exact Khj8 _ _ _ I (lv_sub hl [1] rfl)
        refine lv_icmp_gt (tgt := 184) hx hb d_C_stepFixed_177 (by decide) (fun hc => ?_) (fun hc => ?_)
        · replace hj13 := it_u hc hj13
          refine lv_iconst (v := 0) hx hb d_C_stepFixed_184 (by decide) ?_
          obtain rfl := ep1 hj13
          exact Khj13 _ _ _ I (lv_sub hl [1, 2] rfl)
        · replace hj13 := ie_u hc hj13
          refine lv_iconst (v := 1) hx hb d_C_stepFixed_180 (by decide) ?_
          refine lv_goto (tgt := 185) hx hb d_C_stepFixed_181 (by decide) ?_
          obtain rfl := ep1 hj13
          exact Khj13 _ _ _ I (lv_sub hl [1, 2] rfl)
      refine lv_icmp_ne (tgt := 171) hx hb d_C_stepFixed_164 (by decide) (fun hc => ?_) (fun hc => ?_)
      · replace hj14 := ie_u hc hj14
        refine lv_iconst (v := 1) hx hb d_C_stepFixed_171 (by decide) ?_
        obtain rfl := ep1 hj14
        exact Khj14 _ _ _ I (lv_sub hl [1, 5, 6] rfl)
      · replace hj14 := it_u hc hj14
        refine lv_iconst (v := 2) hx hb d_C_stepFixed_167 (by decide) ?_
        refine lv_goto (tgt := 172) hx hb d_C_stepFixed_168 (by decide) ?_
        obtain rfl := ep1 hj14
        exact Khj14 _ _ _ I (lv_sub hl [1, 5, 6] rfl)
    replace hj8 := ie_u hs1 hj8
    by_cases hs2 : x3 = 9 ∨ x3 = 10
    · replace hj8 := it_u hs2 hj8
      refine lv_tableIn (tgt := 195) (off := 134) hx hb d_C_stepFixed_61 (by rcases hs2 with h | h <;> rw [h] <;> decide) (by rcases hs2 with h | h <;> rw [h] <;> decide) (by rcases hs2 with h | h <;> rw [h] <;> decide) (by decide) ?_
      refine lv_aload_n hx hb d_C_stepFixed_195 rfl (lv_at hl 1 rfl) ?_
      refine g_C_walk C I k_125 d_C_stepFixed_196 ?_
      refine lv_iload_n hx hb d_C_stepFixed_199 rfl (lv_at hl 3 rfl) ?_
      obtain ⟨r17, u15, h16, hj8⟩ := cI_u hj8
      refine go_I I (call_runS (rest := [.ref (a 4)]) C I (c_C_localInCode C.2.2.2.1 C.2.2.2.2.1 l h16 _) wd_C_localInCode k_592 ⟨rfl, rfl⟩ ⟨by decide, by decide⟩ rfl hl.1 rfl (Nat.le_of_ble_eq_true rfl) d_C_stepFixed_200) (fun H locs I => ?_)
      refine lv_iload_n hx hb d_C_stepFixed_203 rfl (lv_at hl 4 rfl) ?_
      refine lv_bipush (v := 10) hx hb d_C_stepFixed_204 (by decide) ?_
      obtain ⟨z18, hj23, hj8⟩ := bnd_u hj8
      have Khj23 : ∀ (H : Heap) (locs : List Loc) (ls : Array Slot), Dy clA D (xW a cs) s H locs u15 → lv_has ls 7 [(0, .ref (a 0)), (4, .int ((u.1 13) + x1)), (5, .int (tab_WIDTHS x3.toNatClampNeg))] → W p l e rm_C_stepFixed s m args below meth c H locs 0 0 Q (F0 m 214 ls [.int z18, .int r17, .ref (a 4)]) := by
        intro H locs ls I hl
        refine lv_iadd hx hb d_C_stepFixed_214 ?_
        refine lv_aload_n hx hb d_C_stepFixed_215 rfl (lv_at hl 0 rfl) ?_
        refine g_C_locals C I k_115 d_C_stepFixed_216 ?_
        obtain ⟨z19, hj22, hj8⟩ := bnd_u hj8
        have Khj22 : ∀ (H : Heap) (locs : List Loc) (ls : Array Slot), Dy clA D (xW a cs) s H locs u15 → lv_has ls 7 [(4, .int ((u.1 13) + x1)), (5, .int (tab_WIDTHS x3.toNatClampNeg))] → W p l e rm_C_stepFixed s m args below meth c H locs 0 0 Q (F0 m 227 ls [.int z19, .ref (a 4)]) := by
          intro H locs ls I hl
          refine lv_bipush (v := 23) hx hb d_C_stepFixed_227 (by decide) ?_
          refine lv_iload hx hb d_C_stepFixed_229 (lv_at hl 0 rfl) ?_
          obtain ⟨u20, h21, hj8⟩ := cV_u hj8
          refine go_V I (call_runV (rest := []) C I (c_W_need C.2.2.2.1 C.2.2.2.2.1 l h21 _) wd_W_need (q0 := 4) (ci := 4) rfl rfl k_550 ⟨rfl, rfl⟩ ⟨by decide, by decide⟩ rfl hl.1 rfl (Nat.le_of_ble_eq_true rfl) d_C_stepFixed_231) (fun H locs I => ?_)
          refine lv_goto (tgt := 350) hx hb d_C_stepFixed_234 (by decide) ?_
          obtain rfl := eo1 hj8
          exact Khj8 _ _ _ I (lv_sub hl [1] rfl)
        refine lv_icmp_gt (tgt := 226) hx hb d_C_stepFixed_219 (by decide) (fun hc => ?_) (fun hc => ?_)
        · replace hj22 := it_u hc hj22
          refine lv_iconst (v := 0) hx hb d_C_stepFixed_226 (by decide) ?_
          obtain rfl := ep1 hj22
          exact Khj22 _ _ _ I (lv_sub hl [1, 2] rfl)
        · replace hj22 := ie_u hc hj22
          refine lv_iconst (v := 1) hx hb d_C_stepFixed_222 (by decide) ?_
          refine lv_goto (tgt := 227) hx hb d_C_stepFixed_223 (by decide) ?_
          obtain rfl := ep1 hj22
          exact Khj22 _ _ _ I (lv_sub hl [1, 2] rfl)
      refine lv_icmp_ne (tgt := 213) hx hb d_C_stepFixed_206 (by decide) (fun hc => ?_) (fun hc => ?_)
      · replace hj23 := ie_u hc hj23
        refine lv_iconst (v := 1) hx hb d_C_stepFixed_213 (by decide) ?_
        obtain rfl := ep1 hj23
        exact Khj23 _ _ _ I (lv_sub hl [1, 5, 6] rfl)
      · replace hj23 := it_u hc hj23
        refine lv_iconst (v := 2) hx hb d_C_stepFixed_209 (by decide) ?_
        refine lv_goto (tgt := 214) hx hb d_C_stepFixed_210 (by decide) ?_
        obtain rfl := ep1 hj23
        exact Khj23 _ _ _ I (lv_sub hl [1, 5, 6] rfl)
    replace hj8 := ie_u hs2 hj8
    by_cases hs3 : x3 = 12
    · replace hj8 := it_u hs3 hj8
      refine lv_tableIn (tgt := 237) (off := 176) hx hb d_C_stepFixed_61 (by rw [hs3]; decide) (by rw [hs3]; decide) (by rw [hs3]; decide) (by decide) ?_
      refine lv_aload_n hx hb d_C_stepFixed_237 rfl (lv_at hl 1 rfl) ?_
      refine lv_iload_n hx hb d_C_stepFixed_238 rfl (lv_at hl 2 rfl) ?_
      refine lv_iload hx hb d_C_stepFixed_239 (lv_at hl 0 rfl) ?_
      refine lv_i2s (v := (r6).toInt16.toInt32) hx hb d_C_stepFixed_241 rfl ?_
      obtain ⟨u24, h25, hj8⟩ := cV_u hj8
      refine go_V I (call_runV (rest := []) C I (c_C_addJump C.2.2.2.1 C.2.2.2.2.1 l h25 _) wd_C_addJump (q0 := 0) (ci := 0) rfl rfl k_571 ⟨rfl, rfl⟩ ⟨by decide, by decide⟩ rfl hl.1 rfl (Nat.le_of_ble_eq_true rfl) d_C_stepFixed_242) (fun H locs I => ?_)
      refine lv_goto (tgt := 350) hx hb d_C_stepFixed_245 (by decide) ?_
      obtain rfl := eo1 hj8
      exact Khj8 _ _ _ I (lv_sub hl [6] rfl)
    replace hj8 := ie_u hs3 hj8
    by_cases hs4 : x3 = 13
    · replace hj8 := it_u hs4 hj8
      refine lv_tableIn (tgt := 248) (off := 187) hx hb d_C_stepFixed_61 (by rw [hs4]; decide) (by rw [hs4]; decide) (by rw [hs4]; decide) (by decide) ?_
      refine lv_aload_n hx hb d_C_stepFixed_248 rfl (lv_at hl 1 rfl) ?_
      refine lv_iload_n hx hb d_C_stepFixed_249 rfl (lv_at hl 2 rfl) ?_
      refine lv_iload hx hb d_C_stepFixed_250 (lv_at hl 0 rfl) ?_
      obtain ⟨u26, h27, hj8⟩ := cV_u hj8
      refine go_V I (call_runV (rest := []) C I (c_C_addJump C.2.2.2.1 C.2.2.2.2.1 l h27 _) wd_C_addJump (q0 := 0) (ci := 0) rfl rfl k_571 ⟨rfl, rfl⟩ ⟨by decide, by decide⟩ rfl hl.1 rfl (Nat.le_of_ble_eq_true rfl) d_C_stepFixed_252) (fun H locs I => ?_)
      refine lv_goto (tgt := 350) hx hb d_C_stepFixed_255 (by decide) ?_
      obtain rfl := eo1 hj8
      exact Khj8 _ _ _ I (lv_sub hl [6] rfl)
    replace hj8 := ie_u hs4 hj8
    by_cases hs5 : x3 = 20
    · replace hj8 := it_u hs5 hj8
      refine lv_tableIn (tgt := 258) (off := 197) hx hb d_C_stepFixed_61 (by rw [hs5]; decide) (by rw [hs5]; decide) (by rw [hs5]; decide) (by decide) ?_
      refine lv_aload_n hx hb d_C_stepFixed_258 rfl (lv_at hl 1 rfl) ?_
      refine g_C_walk C I k_125 d_C_stepFixed_259 ?_
      refine lv_iload hx hb d_C_stepFixed_262 (lv_at hl 0 rfl) ?_
      refine lv_iconst (v := 4) hx hb d_C_stepFixed_264 (by decide) ?_
      obtain ⟨z28, hj31, hj8⟩ := bnd_u hj8
      have Khj31 : ∀ (H : Heap) (locs : List Loc) (ls : Array Slot), Dy clA D (xW a cs) s H locs u4 → lv_has ls 7 [(4, .int ((u.1 13) + x1)), (5, .int (tab_WIDTHS x3.toNatClampNeg))] → W p l e rm_C_stepFixed s m args below meth c H locs 0 0 Q (F0 m 293 ls [.int z28, .ref (a 4)]) := by
        intro H locs ls I hl
        refine lv_bipush (v := 24) hx hb d_C_stepFixed_293 (by decide) ?_
        refine lv_iload hx hb d_C_stepFixed_295 (lv_at hl 0 rfl) ?_
        obtain ⟨u29, h30, hj8⟩ := cV_u hj8
        refine go_V I (call_runV (rest := []) C I (c_W_need C.2.2.2.1 C.2.2.2.2.1 l h30 _) wd_W_need (q0 := 4) (ci := 4) rfl rfl k_550 ⟨rfl, rfl⟩ ⟨by decide, by decide⟩ rfl hl.1 rfl (Nat.le_of_ble_eq_true rfl) d_C_stepFixed_297) (fun H locs I => ?_)
        refine lv_goto (tgt := 350) hx hb d_C_stepFixed_300 (by decide) ?_
        obtain rfl := eo1 hj8
        exact Khj8 _ _ _ I (lv_sub hl [1] rfl)
      refine lv_icmp_eq (tgt := 288) hx hb d_C_stepFixed_265 (by decide) (fun hc => ?_) (fun hc => ?_)
      · replace hj31 := it_u hc hj31
        refine lv_iconst (v := 1) hx hb d_C_stepFixed_288 (by decide) ?_
        refine lv_goto (tgt := 293) hx hb d_C_stepFixed_289 (by decide) ?_
        obtain rfl := ep1 hj31
        exact Khj31 _ _ _ I (lv_sub hl [5, 6] rfl)
      · replace hj31 := ie_u hc hj31
        refine lv_iload hx hb d_C_stepFixed_268 (lv_at hl 0 rfl) ?_
        refine lv_iconst (v := 5) hx hb d_C_stepFixed_270 (by decide) ?_
        refine lv_icmp_eq (tgt := 288) hx hb d_C_stepFixed_271 (by decide) (fun hc => ?_) (fun hc => ?_)
        · replace hj31 := it_u hc hj31
          refine lv_iconst (v := 1) hx hb d_C_stepFixed_288 (by decide) ?_
          refine lv_goto (tgt := 293) hx hb d_C_stepFixed_289 (by decide) ?_
          obtain rfl := ep1 hj31
          exact Khj31 _ _ _ I (lv_sub hl [5, 6] rfl)
        · replace hj31 := ie_u hc hj31
          refine lv_iload hx hb d_C_stepFixed_274 (lv_at hl 0 rfl) ?_
          refine lv_bipush (v := 8) hx hb d_C_stepFixed_276 (by decide) ?_
          refine lv_icmp_lt (tgt := 292) hx hb d_C_stepFixed_278 (by decide) (fun hc => ?_) (fun hc => ?_)
          · replace hj31 := it_u hc hj31
            refine lv_iconst (v := 0) hx hb d_C_stepFixed_292 (by decide) ?_
            obtain rfl := ep1 hj31
            exact Khj31 _ _ _ I (lv_sub hl [5, 6] rfl)
          · replace hj31 := ie_u hc hj31
            refine lv_iload hx hb d_C_stepFixed_281 (lv_at hl 0 rfl) ?_
            refine lv_bipush (v := 11) hx hb d_C_stepFixed_283 (by decide) ?_
            refine lv_icmp_gt (tgt := 292) hx hb d_C_stepFixed_285 (by decide) (fun hc => ?_) (fun hc => ?_)
            · replace hj31 := it_u hc hj31
              refine lv_iconst (v := 0) hx hb d_C_stepFixed_292 (by decide) ?_
              obtain rfl := ep1 hj31
              exact Khj31 _ _ _ I (lv_sub hl [5, 6] rfl)
            · replace hj31 := ie_u hc hj31
              refine lv_iconst (v := 1) hx hb d_C_stepFixed_288 (by decide) ?_
              refine lv_goto (tgt := 293) hx hb d_C_stepFixed_289 (by decide) ?_
              obtain rfl := ep1 hj31
              exact Khj31 _ _ _ I (lv_sub hl [5, 6] rfl)
    replace hj8 := ie_u hs5 hj8
    have n2 : ¬ x3 = 2 := fun h => hs0 (Or.inl h)
    have n3 : ¬ x3 = 3 := fun h => hs0 (Or.inr (h))
    have n7 : ¬ x3 = 7 := fun h => hs1 (Or.inl h)
    have n8 : ¬ x3 = 8 := fun h => hs1 (Or.inr (Or.inl h))
    have n11 : ¬ x3 = 11 := fun h => hs1 (Or.inr (Or.inr (h)))
    have n9 : ¬ x3 = 9 := fun h => hs2 (Or.inl h)
    have n10 : ¬ x3 = 10 := fun h => hs2 (Or.inr (h))
    have n12 : ¬ x3 = 12 := fun h => hs3 h
    have n13 : ¬ x3 = 13 := fun h => hs4 h
    have n20 : ¬ x3 = 20 := fun h => hs5 h
    have wn2 := lv_neT (a := 2) n2 (by decide)
    have wn3 := lv_neT (a := 3) n3 (by decide)
    have wn7 := lv_neT (a := 7) n7 (by decide)
    have wn8 := lv_neT (a := 8) n8 (by decide)
    have wn11 := lv_neT (a := 11) n11 (by decide)
    have wn9 := lv_neT (a := 9) n9 (by decide)
    have wn10 := lv_neT (a := 10) n10 (by decide)
    have wn12 := lv_neT (a := 12) n12 (by decide)
    have wn13 := lv_neT (a := 13) n13 (by decide)
    have wn20 := lv_neT (a := 20) n20 (by decide)
    have Kd61 : ∀ (H : Heap) (locs : List Loc), Dy clA D (xW a cs) s H locs u4 → W p l e rm_C_stepFixed s m args below meth c H locs 0 0 Q (F0 m 303 ls []) := by
      intro H locs I
      refine lv_aload_n hx hb d_C_stepFixed_303 rfl (lv_at hl 1 rfl) ?_
      refine g_C_walk C I k_125 d_C_stepFixed_304 ?_
      refine lv_aload_n hx hb d_C_stepFixed_307 rfl (lv_at hl 1 rfl) ?_
      refine lv_iload_n hx hb d_C_stepFixed_308 rfl (lv_at hl 4 rfl) ?_
      refine lv_iload_n hx hb d_C_stepFixed_309 rfl (lv_at hl 3 rfl) ?_
      refine lv_aload_n hx hb d_C_stepFixed_310 rfl (lv_at hl 1 rfl) ?_
      refine g_C_pool C I k_126 d_C_stepFixed_311 ?_
      refine lv_iload hx hb d_C_stepFixed_314 (lv_at hl 0 rfl) ?_
      obtain ⟨r34, u32, h33, hj8⟩ := cI_u hj8
      refine go_I I (call_runV (rest := [.int x2, .int x3, .ref (a 0), .ref (a 4)]) C I (c_P_kindOf C.2.2.2.1 C.2.2.2.2.1 l h33 _) wd_P_kindOf (q0 := 2) (ci := 2) rfl rfl k_595 ⟨rfl, rfl⟩ ⟨by decide, by decide⟩ rfl hl.1 rfl (Nat.le_of_ble_eq_true rfl) d_C_stepFixed_316) (fun H locs I => ?_)
      obtain ⟨r37, u35, h36, hj8⟩ := cI_u hj8
      refine go_I I (call_runV (rest := [.ref (a 4)]) C I (c_C_kindFits C.2.2.2.1 C.2.2.2.2.1 l h36 _) wd_C_kindFits (q0 := 0) (ci := 0) rfl rfl k_596 ⟨rfl, rfl⟩ ⟨by decide, by decide⟩ rfl hl.1 rfl (Nat.le_of_ble_eq_true rfl) d_C_stepFixed_319) (fun H locs I => ?_)
      refine lv_bipush (v := 8) hx hb d_C_stepFixed_322 (by decide) ?_
      refine lv_iload hx hb d_C_stepFixed_324 (lv_at hl 5 rfl) ?_
      obtain ⟨u38, h39, hj8⟩ := cV_u hj8
      refine go_V I (call_runV (rest := []) C I (c_W_need C.2.2.2.1 C.2.2.2.2.1 l h39 _) wd_W_need (q0 := 4) (ci := 4) rfl rfl k_550 ⟨rfl, rfl⟩ ⟨by decide, by decide⟩ rfl hl.1 rfl (Nat.le_of_ble_eq_true rfl) d_C_stepFixed_326) (fun H locs I => ?_)
      refine lv_aload_n hx hb d_C_stepFixed_329 rfl (lv_at hl 1 rfl) ?_
      refine g_C_walk C I k_125 d_C_stepFixed_330 ?_
      refine lv_aload_n hx hb d_C_stepFixed_333 rfl (lv_at hl 1 rfl) ?_
      refine lv_iload_n hx hb d_C_stepFixed_334 rfl (lv_at hl 4 rfl) ?_
      refine lv_iload_n hx hb d_C_stepFixed_335 rfl (lv_at hl 3 rfl) ?_
      refine lv_iload hx hb d_C_stepFixed_336 (lv_at hl 0 rfl) ?_
      refine lv_iload hx hb d_C_stepFixed_338 (lv_at hl 5 rfl) ?_
      obtain ⟨r42, u40, h41, hj8⟩ := cI_u hj8
      refine go_I I (call_runV (rest := [.ref (a 4)]) C I (c_C_restFits C.2.2.2.1 C.2.2.2.2.1 l h41 _) wd_C_restFits (q0 := 0) (ci := 0) rfl rfl k_600 ⟨rfl, rfl⟩ ⟨by decide, by decide⟩ rfl hl.1 rfl (Nat.le_of_ble_eq_true rfl) d_C_stepFixed_340) (fun H locs I => ?_)
      refine lv_bipush (v := 24) hx hb d_C_stepFixed_343 (by decide) ?_
      refine lv_iload hx hb d_C_stepFixed_345 (lv_at hl 5 rfl) ?_
      obtain ⟨u43, h44, hj8⟩ := cV_u hj8
      refine go_V I (call_runV (rest := []) C I (c_W_need C.2.2.2.1 C.2.2.2.2.1 l h44 _) wd_W_need (q0 := 4) (ci := 4) rfl rfl k_550 ⟨rfl, rfl⟩ ⟨by decide, by decide⟩ rfl hl.1 rfl (Nat.le_of_ble_eq_true rfl) d_C_stepFixed_347) (fun H locs I => ?_)
      obtain rfl := eo1 hj8
      exact Khj8 _ _ _ I (lv_sub hl [6] rfl)
    by_cases hlo : (x3 : Int32).toInt < 2
    · exact lv_tableOut (tgt := 303) hx hb d_C_stepFixed_61 (Or.inl hlo) (by decide) (Kd61 _ _ I)
    by_cases hhi : 20 < (x3 : Int32).toInt
    · exact lv_tableOut (tgt := 303) hx hb d_C_stepFixed_61 (Or.inr hhi) (by decide) (Kd61 _ _ I)
    have hg : (x3 : Int32).toInt = 4 ∨ (x3 : Int32).toInt = 5 ∨ (x3 : Int32).toInt = 6 ∨ (x3 : Int32).toInt = 14 ∨ (x3 : Int32).toInt = 15 ∨ (x3 : Int32).toInt = 16 ∨ (x3 : Int32).toInt = 17 ∨ (x3 : Int32).toInt = 18 ∨ (x3 : Int32).toInt = 19 := by omega
    exact lv_tableIn (tgt := 303) (off := 242) hx hb d_C_stepFixed_61 hlo hhi (by rcases hg with h | h | h | h | h | h | h | h | h <;> rw [h] <;> decide) (by decide) (Kd61 _ _ I)
  refine lv_icmp_gt (tgt := 34) hx hb d_C_stepFixed_27 (by decide) (fun hc => ?_) (fun hc => ?_)
  · replace hj45 := it_u hc hj45
    refine lv_iconst (v := 0) hx hb d_C_stepFixed_34 (by decide) ?_
    obtain rfl := ep1 hj45
    exact Khj45 _ _ _ I (lv_sub hl [2, 3, 4, 5, 1, 0] rfl)
  · replace hj45 := ie_u hc hj45
    refine lv_iconst (v := 1) hx hb d_C_stepFixed_30 (by decide) ?_
    refine lv_goto (tgt := 35) hx hb d_C_stepFixed_31 (by decide) ?_
    obtain rfl := ep1 hj45
    exact Khj45 _ _ _ I (lv_sub hl [2, 3, 4, 5, 1, 0] rfl)
def rm_C_pastPadding : Room := { frames := 1, cells := 0, slots := 0, locals := 24 }
noncomputable def f_C_pastPadding_L12 (x1 : Int32) (x2 : Int32) : Nat → St → Int32 → Option (St)
  | 0, _, _ => none
  | n + 1, u, x3 => if x2 ≤ x3 then (some (u)) else (bnd (if (u.1 9) ≤ x3 then (0) else (1)) fun (z1 : Int32) => cV (f_W_need u z1 25 ((u.1 13) + x1)) fun u2 => cI (f_W_numberAt u2 ((u2.1 13) + x3) 1) fun r6 u4 => bnd (if r6 = 0 then (1) else (0)) fun (z7 : Int32) => cV (f_W_need u4 z7 24 ((u4.1 13) + x1)) fun u8 => f_C_pastPadding_L12 x1 x2 n u8 (x3 + 1))
noncomputable def f_C_pastPadding (u : St) (x1 : Int32) : Option (Int32 × St) := cT (f_C_pastPadding_L12 x1 (((x1 + 4) / 4) * 4) FU u (x1 + 1)) fun (u12 : St) => some ((((x1 + 4) / 4) * 4), u12)
set_option maxHeartbeats 4000000 in
set_option maxRecDepth 100000 in
theorem w_C_pastPadding_L12 {Z : zT} {D : va_G} {cs : Nat → ClassId} {a : Nat → Nat} {p : Program} {l : Launch} {e : Env} {s : State} {m : MethodId} {args : Array Value} {below : List Frame} {meth : Method} {c : Code} {Q : State → Prop}  {u2 : St} {x1 : Int32} {x2 : Int32} (C : Cx clA R_C prog_2_method_12_code 4 D cs (xW a cs) Z p s m args c) (hE : ∀ (H : Heap) (locs : List Loc) (ls : Array Slot), Dy clA D (xW a cs) s H locs u2 → lv_has ls 4 [(2, .int x2)] → W p l e rm_C_pastPadding s m args below meth c H locs 0 0 Q (F0 m 88 ls [])) : ∀ (n : Nat) (u : St) (x3 : Int32) (H : Heap) (locs : List Loc) (ls : Array Slot), f_C_pastPadding_L12 x1 x2 n u x3 = some u2 → Dy clA D (xW a cs) s H locs u → lv_has ls 4 [(0, .ref (a 0)), (1, .int x1), (2, .int x2), (3, .int x3)] → W p l e rm_C_pastPadding s m args below meth c H locs 0 0 Q (F0 m 12 ls []) := by
  have hx := C.1.1
  have hb := C.1.2.1
  intro n
  induction n with
  | zero =>
    intro u x3 H locs ls hk I hl
    rw [f_C_pastPadding_L12] at hk
    cases hk
  | succ n ih =>
    intro u x3 H locs ls hk I hl
    rw [f_C_pastPadding_L12] at hk
    refine lv_iload_n hx hb d_C_pastPadding_12 rfl (lv_at hl 3 rfl) ?_
    refine lv_iload_n hx hb d_C_pastPadding_13 rfl (lv_at hl 2 rfl) ?_
    refine lv_icmp_ge (tgt := 88) hx hb d_C_pastPadding_14 (by decide) (fun hc => ?_) (fun hc => ?_)
    · replace hk := it_u hc hk
      obtain rfl := eo1 hk
      exact hE _ _ _ I (lv_sub hl [2] rfl)
    · replace hk := ie_u hc hk
      refine lv_aload_n hx hb d_C_pastPadding_17 rfl (lv_at hl 0 rfl) ?_
      refine g_C_walk C I k_125 d_C_pastPadding_18 ?_
      refine lv_iload_n hx hb d_C_pastPadding_21 rfl (lv_at hl 3 rfl) ?_
      refine lv_aload_n hx hb d_C_pastPadding_22 rfl (lv_at hl 0 rfl) ?_
      refine g_C_size C I k_117 d_C_pastPadding_23 ?_
      obtain ⟨z1, hj11, hk⟩ := bnd_u hk
      have Khj11 : ∀ (H : Heap) (locs : List Loc) (ls : Array Slot), Dy clA D (xW a cs) s H locs u → lv_has ls 4 [(0, .ref (a 0)), (1, .int x1), (2, .int x2), (3, .int x3)] → W p l e rm_C_pastPadding s m args below meth c H locs 0 0 Q (F0 m 34 ls [.int z1, .ref (a 4)]) := by
        intro H locs ls I hl
        refine lv_bipush (v := 25) hx hb d_C_pastPadding_34 (by decide) ?_
        refine lv_aload_n hx hb d_C_pastPadding_36 rfl (lv_at hl 0 rfl) ?_
        refine g_C_base C I k_130 d_C_pastPadding_37 ?_
        refine lv_iload_n hx hb d_C_pastPadding_40 rfl (lv_at hl 1 rfl) ?_
        refine lv_iadd hx hb d_C_pastPadding_41 ?_
        obtain ⟨u2, h3, hk⟩ := cV_u hk
        refine go_V I (call_runV (rest := []) C I (c_W_need C.2.2.2.1 C.2.2.2.2.1 l h3 _) wd_W_need (q0 := 4) (ci := 4) rfl rfl k_550 ⟨rfl, rfl⟩ ⟨by decide, by decide⟩ rfl hl.1 rfl (Nat.le_of_ble_eq_true rfl) d_C_pastPadding_42) (fun H locs I => ?_)
        refine lv_aload_n hx hb d_C_pastPadding_45 rfl (lv_at hl 0 rfl) ?_
        refine g_C_walk C I k_125 d_C_pastPadding_46 ?_
        refine lv_aload_n hx hb d_C_pastPadding_49 rfl (lv_at hl 0 rfl) ?_
        refine g_C_walk C I k_125 d_C_pastPadding_50 ?_
        refine lv_aload_n hx hb d_C_pastPadding_53 rfl (lv_at hl 0 rfl) ?_
        refine g_C_base C I k_130 d_C_pastPadding_54 ?_
        refine lv_iload_n hx hb d_C_pastPadding_57 rfl (lv_at hl 3 rfl) ?_
        refine lv_iadd hx hb d_C_pastPadding_58 ?_
        refine lv_iconst (v := 1) hx hb d_C_pastPadding_59 (by decide) ?_
        obtain ⟨r6, u4, h5, hk⟩ := cI_u hk
        refine go_I I (call_runV (rest := [.ref (a 4)]) C I (c_W_numberAt C.2.2.2.1 C.2.2.2.2.1 l h5 _) wd_W_numberAt (q0 := 4) (ci := 4) rfl rfl k_556 ⟨rfl, rfl⟩ ⟨by decide, by decide⟩ rfl hl.1 rfl (Nat.le_of_ble_eq_true rfl) d_C_pastPadding_60) (fun H locs I => ?_)
        obtain ⟨z7, hj10, hk⟩ := bnd_u hk
        have Khj10 : ∀ (H : Heap) (locs : List Loc) (ls : Array Slot), Dy clA D (xW a cs) s H locs u4 → lv_has ls 4 [(0, .ref (a 0)), (1, .int x1), (2, .int x2), (3, .int x3)] → W p l e rm_C_pastPadding s m args below meth c H locs 0 0 Q (F0 m 71 ls [.int z7, .ref (a 4)]) := by
          intro H locs ls I hl
          refine lv_bipush (v := 24) hx hb d_C_pastPadding_71 (by decide) ?_
          refine lv_aload_n hx hb d_C_pastPadding_73 rfl (lv_at hl 0 rfl) ?_
          refine g_C_base C I k_130 d_C_pastPadding_74 ?_
          refine lv_iload_n hx hb d_C_pastPadding_77 rfl (lv_at hl 1 rfl) ?_
          refine lv_iadd hx hb d_C_pastPadding_78 ?_
          obtain ⟨u8, h9, hk⟩ := cV_u hk
          refine go_V I (call_runV (rest := []) C I (c_W_need C.2.2.2.1 C.2.2.2.2.1 l h9 _) wd_W_need (q0 := 4) (ci := 4) rfl rfl k_550 ⟨rfl, rfl⟩ ⟨by decide, by decide⟩ rfl hl.1 rfl (Nat.le_of_ble_eq_true rfl) d_C_pastPadding_79) (fun H locs I => ?_)
          refine lv_iinc (v := (x3 + 1)) (lv' := [(3, .int (x3 + 1)), (0, .ref (a 0)), (1, .int x1), (2, .int x2)]) hx hb d_C_pastPadding_82 hl (k := 3) rfl rfl (by decide) rfl (fun ls hl => ?_)
          refine lv_goto (tgt := 12) hx hb d_C_pastPadding_85 (by decide) ?_
          exact ih u8 (x3 + 1) _ _ _ hk I (lv_sub hl [1, 2, 3, 0] rfl)
        refine lv_if_ne (tgt := 70) hx hb d_C_pastPadding_63 (by decide) (fun hc => ?_) (fun hc => ?_)
        · replace hj10 := ie_u hc hj10
          refine lv_iconst (v := 0) hx hb d_C_pastPadding_70 (by decide) ?_
          obtain rfl := ep1 hj10
          exact Khj10 _ _ _ I (lv_sub hl [0, 1, 2, 3] rfl)
        · replace hj10 := it_u hc hj10
          refine lv_iconst (v := 1) hx hb d_C_pastPadding_66 (by decide) ?_
          refine lv_goto (tgt := 71) hx hb d_C_pastPadding_67 (by decide) ?_
          obtain rfl := ep1 hj10
          exact Khj10 _ _ _ I (lv_sub hl [0, 1, 2, 3] rfl)
      refine lv_icmp_ge (tgt := 33) hx hb d_C_pastPadding_26 (by decide) (fun hc => ?_) (fun hc => ?_)
      · replace hj11 := it_u hc hj11
        refine lv_iconst (v := 0) hx hb d_C_pastPadding_33 (by decide) ?_
        obtain rfl := ep1 hj11
        exact Khj11 _ _ _ I (lv_sub hl [0, 1, 2, 3] rfl)
      · replace hj11 := ie_u hc hj11
        refine lv_iconst (v := 1) hx hb d_C_pastPadding_29 (by decide) ?_
        refine lv_goto (tgt := 34) hx hb d_C_pastPadding_30 (by decide) ?_
        obtain rfl := ep1 hj11
        exact Khj11 _ _ _ I (lv_sub hl [0, 1, 2, 3] rfl)
set_option maxHeartbeats 4000000 in
set_option maxRecDepth 100000 in
theorem c_C_pastPadding {Z : zT} {D : va_G} {cs : Nat → ClassId} {a : Nat → Nat} (hw : wD (xW a cs)) (hz : zOK Z) (l : Launch) {u : St} {x1 : Int32} {r : Int32} {u' : St} (hk : f_C_pastPadding u x1 = some (r, u')) : KI clA D cs (xW a cs) Z l y_C_pastPadding (.code y_C_pastPadding prog_2_method_12_code 4 (Option.some Jvm.ClassFile.FieldType.int)) rm_C_pastPadding [.ref (a 0), .int x1] u r u' := by
  unfold f_C_pastPadding at hk
  refine KI.of (by decide) (Nat.le_of_ble_eq_true rfl) rfl hw hz ?_
  intro p e s m args below meth c Q C I hQ ls hl
  have hl : lv_has ls 4 [(0, .ref (a 0)), (1, .int x1)] := hl
  have hx := C.1.1
  have hb := C.1.2.1
  refine lv_iload_n hx hb d_C_pastPadding_0 rfl (lv_at hl 1 rfl) ?_
  refine lv_iconst (v := 4) hx hb d_C_pastPadding_1 (by decide) ?_
  refine lv_iadd hx hb d_C_pastPadding_2 ?_
  refine lv_iconst (v := 4) hx hb d_C_pastPadding_3 (by decide) ?_
  refine lv_idiv hx hb d_C_pastPadding_4 (by decide) ?_
  refine lv_iconst (v := 4) hx hb d_C_pastPadding_5 (by decide) ?_
  refine lv_imul hx hb d_C_pastPadding_6 ?_
  refine lv_istore_n (lv' := [(2, .int (((x1 + 4) / 4) * 4)), (0, .ref (a 0)), (1, .int x1)]) hx hb d_C_pastPadding_7 rfl hl (by decide) rfl (fun ls hl => ?_)
  refine lv_iload_n hx hb d_C_pastPadding_8 rfl (lv_at hl 2 rfl) ?_
  refine lv_iconst (v := 1) hx hb d_C_pastPadding_9 (by decide) ?_
  refine lv_iadd hx hb d_C_pastPadding_10 ?_
  refine lv_istore_n (lv' := [(3, .int (x1 + 1)), (2, .int (((x1 + 4) / 4) * 4)), (0, .ref (a 0)), (1, .int x1)]) hx hb d_C_pastPadding_11 rfl hl (by decide) rfl (fun ls hl => ?_)
  obtain ⟨u12, hj13, hk⟩ := cT_u hk
  refine w_C_pastPadding_L12 C (fun H locs ls I hl => ?_) FU u (x1 + 1) _ _ _ hj13 I (lv_sub hl [2, 3, 1, 0] rfl)
  refine lv_iload_n hx hb d_C_pastPadding_88 rfl (lv_at hl 0 rfl) ?_
  exact hQ _ _ _ _ _ _ I hk d_C_pastPadding_89
def rm_C_switchNumber : Room := { frames := 1, cells := 0, slots := 0, locals := 24 }
noncomputable def f_C_switchNumber (u : St) (x1 : Int32) (x2 : Int32) : Option (Int32 × St) := bnd (if (u.1 9) < (x2 + 4) then (0) else (1)) fun (z1 : Int32) => cV (f_W_need u z1 25 ((u.1 13) + x1)) fun u2 => cI (f_W_numberAt u2 ((u2.1 13) + x2) 4) fun r6 u4 => some (r6, u4)
set_option maxHeartbeats 4000000 in
set_option maxRecDepth 100000 in
theorem c_C_switchNumber {Z : zT} {D : va_G} {cs : Nat → ClassId} {a : Nat → Nat} (hw : wD (xW a cs)) (hz : zOK Z) (l : Launch) {u : St} {x1 : Int32} {x2 : Int32} {r : Int32} {u' : St} (hk : f_C_switchNumber u x1 x2 = some (r, u')) : KI clA D cs (xW a cs) Z l y_C_switchNumber (.code y_C_switchNumber prog_2_method_13_code 3 (Option.some Jvm.ClassFile.FieldType.int)) rm_C_switchNumber [.ref (a 0), .int x1, .int x2] u r u' := by
  unfold f_C_switchNumber at hk
  refine KI.of (by decide) (Nat.le_of_ble_eq_true rfl) rfl hw hz ?_
  intro p e s m args below meth c Q C I hQ ls hl
  have hl : lv_has ls 3 [(0, .ref (a 0)), (1, .int x1), (2, .int x2)] := hl
  have hx := C.1.1
  have hb := C.1.2.1
  refine lv_aload_n hx hb d_C_switchNumber_0 rfl (lv_at hl 0 rfl) ?_
  refine g_C_walk C I k_125 d_C_switchNumber_1 ?_
  refine lv_iload_n hx hb d_C_switchNumber_4 rfl (lv_at hl 2 rfl) ?_
  refine lv_iconst (v := 4) hx hb d_C_switchNumber_5 (by decide) ?_
  refine lv_iadd hx hb d_C_switchNumber_6 ?_
  refine lv_aload_n hx hb d_C_switchNumber_7 rfl (lv_at hl 0 rfl) ?_
  refine g_C_size C I k_117 d_C_switchNumber_8 ?_
  obtain ⟨z1, hj7, hk⟩ := bnd_u hk
  have Khj7 : ∀ (H : Heap) (locs : List Loc) (ls : Array Slot), Dy clA D (xW a cs) s H locs u → lv_has ls 3 [(0, .ref (a 0)), (1, .int x1), (2, .int x2)] → W p l e rm_C_switchNumber s m args below meth c H locs 0 0 Q (F0 m 19 ls [.int z1, .ref (a 4)]) := by
    intro H locs ls I hl
    refine lv_bipush (v := 25) hx hb d_C_switchNumber_19 (by decide) ?_
    refine lv_aload_n hx hb d_C_switchNumber_21 rfl (lv_at hl 0 rfl) ?_
    refine g_C_base C I k_130 d_C_switchNumber_22 ?_
    refine lv_iload_n hx hb d_C_switchNumber_25 rfl (lv_at hl 1 rfl) ?_
    refine lv_iadd hx hb d_C_switchNumber_26 ?_
    obtain ⟨u2, h3, hk⟩ := cV_u hk
    refine go_V I (call_runV (rest := []) C I (c_W_need C.2.2.2.1 C.2.2.2.2.1 l h3 _) wd_W_need (q0 := 4) (ci := 4) rfl rfl k_550 ⟨rfl, rfl⟩ ⟨by decide, by decide⟩ rfl hl.1 rfl (Nat.le_of_ble_eq_true rfl) d_C_switchNumber_27) (fun H locs I => ?_)
    refine lv_aload_n hx hb d_C_switchNumber_30 rfl (lv_at hl 0 rfl) ?_
    refine g_C_walk C I k_125 d_C_switchNumber_31 ?_
    refine lv_aload_n hx hb d_C_switchNumber_34 rfl (lv_at hl 0 rfl) ?_
    refine g_C_base C I k_130 d_C_switchNumber_35 ?_
    refine lv_iload_n hx hb d_C_switchNumber_38 rfl (lv_at hl 2 rfl) ?_
    refine lv_iadd hx hb d_C_switchNumber_39 ?_
    refine lv_iconst (v := 4) hx hb d_C_switchNumber_40 (by decide) ?_
    obtain ⟨r6, u4, h5, hk⟩ := cI_u hk
    refine go_I I (call_runV (rest := []) C I (c_W_numberAt C.2.2.2.1 C.2.2.2.2.1 l h5 _) wd_W_numberAt (q0 := 4) (ci := 4) rfl rfl k_556 ⟨rfl, rfl⟩ ⟨by decide, by decide⟩ rfl hl.1 rfl (Nat.le_of_ble_eq_true rfl) d_C_switchNumber_41) (fun H locs I => ?_)
    exact hQ _ _ _ _ _ _ I hk d_C_switchNumber_44
  refine lv_icmp_gt (tgt := 18) hx hb d_C_switchNumber_11 (by decide) (fun hc => ?_) (fun hc => ?_)
  · replace hj7 := it_u hc hj7
    refine lv_iconst (v := 0) hx hb d_C_switchNumber_18 (by decide) ?_
    obtain rfl := ep1 hj7
    exact Khj7 _ _ _ I (lv_sub hl [0, 1, 2] rfl)
  · replace hj7 := ie_u hc hj7
    refine lv_iconst (v := 1) hx hb d_C_switchNumber_14 (by decide) ?_
    refine lv_goto (tgt := 19) hx hb d_C_switchNumber_15 (by decide) ?_
    obtain rfl := ep1 hj7
    exact Khj7 _ _ _ I (lv_sub hl [0, 1, 2] rfl)
def rm_C_stepPairs : Room := { frames := 2, cells := 0, slots := 0, locals := 47 }
noncomputable def f_C_stepPairs_L66 (x1 : Int32) (x3 : Int32) : Nat → St → Int32 → Int32 → Int32 → Option (St × Int32)
  | 0, _, _, _, _ => none
  | n + 1, u, x2, x4, x5 => if x3 ≤ x5 then (some (u, x2)) else (cI (f_W_sound u) fun r17 u15 => if r17 = 0 then (some (u15, x2)) else (cI (f_C_switchNumber u15 x1 x2) fun r20 u18 => bnd (if x5 = 0 then (1) else (if r20 ≤ x4 then (0) else (1))) fun (z21 : Int32) => cV (f_W_need u18 z21 24 ((u18.1 13) + x1)) fun u22 => cI (f_C_switchNumber u22 x1 (x2 + 4)) fun r26 u24 => cV (f_C_addJump u24 x1 r26) fun u27 => f_C_stepPairs_L66 x1 x3 n u27 (x2 + 8) r20 (x5 + 1)))
noncomputable def f_C_stepPairs (u : St) (x1 : Int32) : Option (Int32 × St) := cI (f_C_pastPadding u x1) fun r3 u1 => cI (f_C_switchNumber u1 x1 r3) fun r6 u4 => cV (f_C_addJump u4 x1 r6) fun u7 => cI (f_C_switchNumber u7 x1 (r3 + 4)) fun r11 u9 => bnd (if r11 < 0 then (0) else (if 250 < r11 then (0) else (1))) fun (z12 : Int32) => cV (f_W_need u9 z12 24 ((u9.1 13) + x1)) fun u13 => cT (f_C_stepPairs_L66 x1 r11 FU u13 (r3 + 8) 0 0) fun (p33 : St × Int32) => some ((p33.2 - x1), p33.1)
set_option maxHeartbeats 4000000 in
set_option maxRecDepth 100000 in
theorem w_C_stepPairs_L66 {Z : zT} {D : va_G} {cs : Nat → ClassId} {a : Nat → Nat} {p : Program} {l : Launch} {e : Env} {s : State} {m : MethodId} {args : Array Value} {below : List Frame} {meth : Method} {c : Code} {Q : State → Prop}  {u2 : St} {o2 : Int32} {x1 : Int32} {x3 : Int32} (C : Cx clA R_C prog_2_method_11_code 7 D cs (xW a cs) Z p s m args c) (hE : ∀ (H : Heap) (locs : List Loc) (ls : Array Slot), Dy clA D (xW a cs) s H locs u2 → lv_has ls 7 [(1, .int x1), (2, .int o2)] → W p l e rm_C_stepPairs s m args below meth c H locs 0 0 Q (F0 m 148 ls [])) : ∀ (n : Nat) (u : St) (x2 : Int32) (x4 : Int32) (x5 : Int32) (H : Heap) (locs : List Loc) (ls : Array Slot), f_C_stepPairs_L66 x1 x3 n u x2 x4 x5 = some (u2, o2) → Dy clA D (xW a cs) s H locs u → lv_has ls 7 [(0, .ref (a 0)), (1, .int x1), (2, .int x2), (3, .int x3), (4, .int x4), (5, .int x5)] → W p l e rm_C_stepPairs s m args below meth c H locs 0 0 Q (F0 m 66 ls []) := by
  have hx := C.1.1
  have hb := C.1.2.1
  intro n
  induction n with
  | zero =>
    intro u x2 x4 x5 H locs ls hk I hl
    rw [f_C_stepPairs_L66] at hk
    cases hk
  | succ n ih =>
    intro u x2 x4 x5 H locs ls hk I hl
    rw [f_C_stepPairs_L66] at hk
    refine lv_iload hx hb d_C_stepPairs_66 (lv_at hl 5 rfl) ?_
    refine lv_iload_n hx hb d_C_stepPairs_68 rfl (lv_at hl 3 rfl) ?_
    refine lv_icmp_ge (tgt := 148) hx hb d_C_stepPairs_69 (by decide) (fun hc => ?_) (fun hc => ?_)
    · replace hk := it_u hc hk
      obtain ⟨rfl, rfl⟩ := eo2 hk
      exact hE _ _ _ I (lv_sub hl [1, 2] rfl)
    · replace hk := ie_u hc hk
      refine lv_aload_n hx hb d_C_stepPairs_72 rfl (lv_at hl 0 rfl) ?_
      refine g_C_walk C I k_125 d_C_stepPairs_73 ?_
      obtain ⟨r17, u15, h16, hk⟩ := cI_u hk
      refine go_I I (call_runV (rest := []) C I (c_W_sound C.2.2.2.1 C.2.2.2.2.1 l h16 _) wd_W_sound (q0 := 4) (ci := 4) rfl rfl k_551 ⟨rfl, rfl⟩ ⟨by decide, by decide⟩ rfl hl.1 rfl (Nat.le_of_ble_eq_true rfl) d_C_stepPairs_76) (fun H locs I => ?_)
      refine lv_if_eq (tgt := 148) hx hb d_C_stepPairs_79 (by decide) (fun hc => ?_) (fun hc => ?_)
      · replace hk := it_u hc hk
        obtain ⟨rfl, rfl⟩ := eo2 hk
        exact hE _ _ _ I (lv_sub hl [1, 2] rfl)
      · replace hk := ie_u hc hk
        refine lv_aload_n hx hb d_C_stepPairs_82 rfl (lv_at hl 0 rfl) ?_
        refine lv_iload_n hx hb d_C_stepPairs_83 rfl (lv_at hl 1 rfl) ?_
        refine lv_iload_n hx hb d_C_stepPairs_84 rfl (lv_at hl 2 rfl) ?_
        obtain ⟨r20, u18, h19, hk⟩ := cI_u hk
        refine go_I I (call_runV (rest := []) C I (c_C_switchNumber C.2.2.2.1 C.2.2.2.2.1 l h19 _) wd_C_switchNumber (q0 := 0) (ci := 0) rfl rfl k_567 ⟨rfl, rfl⟩ ⟨by decide, by decide⟩ rfl hl.1 rfl (Nat.le_of_ble_eq_true rfl) d_C_stepPairs_85) (fun H locs I => ?_)
        refine lv_istore (lv' := [(6, .int r20), (0, .ref (a 0)), (1, .int x1), (2, .int x2), (3, .int x3), (4, .int x4), (5, .int x5)]) hx hb d_C_stepPairs_88 hl (by decide) rfl (fun ls hl => ?_)
        refine lv_aload_n hx hb d_C_stepPairs_90 rfl (lv_at hl 1 rfl) ?_
        refine g_C_walk C I k_125 d_C_stepPairs_91 ?_
        refine lv_iload hx hb d_C_stepPairs_94 (lv_at hl 6 rfl) ?_
        obtain ⟨z21, hj29, hk⟩ := bnd_u hk
        have Khj29 : ∀ (H : Heap) (locs : List Loc) (ls : Array Slot), Dy clA D (xW a cs) s H locs u18 → lv_has ls 7 [(0, .ref (a 0)), (1, .int x1), (2, .int x2), (3, .int x3), (5, .int x5), (6, .int r20)] → W p l e rm_C_stepPairs s m args below meth c H locs 0 0 Q (F0 m 111 ls [.int z21, .ref (a 4)]) := by
          intro H locs ls I hl
          refine lv_bipush (v := 24) hx hb d_C_stepPairs_111 (by decide) ?_
          refine lv_aload_n hx hb d_C_stepPairs_113 rfl (lv_at hl 0 rfl) ?_
          refine g_C_base C I k_130 d_C_stepPairs_114 ?_
          refine lv_iload_n hx hb d_C_stepPairs_117 rfl (lv_at hl 1 rfl) ?_
          refine lv_iadd hx hb d_C_stepPairs_118 ?_
          obtain ⟨u22, h23, hk⟩ := cV_u hk
          refine go_V I (call_runV (rest := []) C I (c_W_need C.2.2.2.1 C.2.2.2.2.1 l h23 _) wd_W_need (q0 := 4) (ci := 4) rfl rfl k_550 ⟨rfl, rfl⟩ ⟨by decide, by decide⟩ rfl hl.1 rfl (Nat.le_of_ble_eq_true rfl) d_C_stepPairs_119) (fun H locs I => ?_)
          refine lv_aload_n hx hb d_C_stepPairs_122 rfl (lv_at hl 0 rfl) ?_
          refine lv_iload_n hx hb d_C_stepPairs_123 rfl (lv_at hl 1 rfl) ?_
          refine lv_aload_n hx hb d_C_stepPairs_124 rfl (lv_at hl 0 rfl) ?_
          refine lv_iload_n hx hb d_C_stepPairs_125 rfl (lv_at hl 1 rfl) ?_
          refine lv_iload_n hx hb d_C_stepPairs_126 rfl (lv_at hl 2 rfl) ?_
          refine lv_iconst (v := 4) hx hb d_C_stepPairs_127 (by decide) ?_
          refine lv_iadd hx hb d_C_stepPairs_128 ?_
          obtain ⟨r26, u24, h25, hk⟩ := cI_u hk
          refine go_I I (call_runV (rest := [.int x1, .ref (a 0)]) C I (c_C_switchNumber C.2.2.2.1 C.2.2.2.2.1 l h25 _) wd_C_switchNumber (q0 := 0) (ci := 0) rfl rfl k_567 ⟨rfl, rfl⟩ ⟨by decide, by decide⟩ rfl hl.1 rfl (Nat.le_of_ble_eq_true rfl) d_C_stepPairs_129) (fun H locs I => ?_)
          obtain ⟨u27, h28, hk⟩ := cV_u hk
          refine go_V I (call_runV (rest := []) C I (c_C_addJump C.2.2.2.1 C.2.2.2.2.1 l h28 _) wd_C_addJump (q0 := 0) (ci := 0) rfl rfl k_571 ⟨rfl, rfl⟩ ⟨by decide, by decide⟩ rfl hl.1 rfl (Nat.le_of_ble_eq_true rfl) d_C_stepPairs_132) (fun H locs I => ?_)
          refine lv_iload hx hb d_C_stepPairs_135 (lv_at hl 5 rfl) ?_
          refine lv_istore (lv' := [(4, .int r20), (0, .ref (a 0)), (1, .int x1), (2, .int x2), (3, .int x3), (5, .int x5), (6, .int r20)]) hx hb d_C_stepPairs_137 hl (by decide) rfl (fun ls hl => ?_)
          refine lv_iinc (v := (x2 + 8)) (lv' := [(2, .int (x2 + 8)), (4, .int r20), (0, .ref (a 0)), (1, .int x1), (3, .int x3), (5, .int x5), (6, .int r20)]) hx hb d_C_stepPairs_139 hl (k := 3) rfl rfl (by decide) rfl (fun ls hl => ?_)
          refine lv_iinc (v := (x5 + 1)) (lv' := [(5, .int (x5 + 1)), (2, .int (x2 + 8)), (4, .int r20), (0, .ref (a 0)), (1, .int x1), (3, .int x3), (6, .int r20)]) hx hb d_C_stepPairs_142 hl (k := 5) rfl rfl (by decide) rfl (fun ls hl => ?_)
          refine lv_goto (tgt := 66) hx hb d_C_stepPairs_145 (by decide) ?_
          exact ih u27 (x2 + 8) r20 (x5 + 1) _ _ _ hk I (lv_sub hl [3, 4, 1, 5, 2, 0] rfl)
        refine lv_if_eq (tgt := 106) hx hb d_C_stepPairs_96 (by decide) (fun hc => ?_) (fun hc => ?_)
        · replace hj29 := it_u hc hj29
          refine lv_iconst (v := 1) hx hb d_C_stepPairs_106 (by decide) ?_
          refine lv_goto (tgt := 111) hx hb d_C_stepPairs_107 (by decide) ?_
          obtain rfl := ep1 hj29
          exact Khj29 _ _ _ I (lv_sub hl [1, 2, 3, 4, 6, 0] rfl)
        · replace hj29 := ie_u hc hj29
          refine lv_iload hx hb d_C_stepPairs_99 (lv_at hl 0 rfl) ?_
          refine lv_iload hx hb d_C_stepPairs_101 (lv_at hl 5 rfl) ?_
          refine lv_icmp_le (tgt := 110) hx hb d_C_stepPairs_103 (by decide) (fun hc => ?_) (fun hc => ?_)
          · replace hj29 := it_u hc hj29
            refine lv_iconst (v := 0) hx hb d_C_stepPairs_110 (by decide) ?_
            obtain rfl := ep1 hj29
            exact Khj29 _ _ _ I (lv_sub hl [1, 2, 3, 4, 6, 0] rfl)
          · replace hj29 := ie_u hc hj29
            refine lv_iconst (v := 1) hx hb d_C_stepPairs_106 (by decide) ?_
            refine lv_goto (tgt := 111) hx hb d_C_stepPairs_107 (by decide) ?_
            obtain rfl := ep1 hj29
            exact Khj29 _ _ _ I (lv_sub hl [1, 2, 3, 4, 6, 0] rfl)
set_option maxHeartbeats 4000000 in
set_option maxRecDepth 100000 in
theorem c_C_stepPairs {Z : zT} {D : va_G} {cs : Nat → ClassId} {a : Nat → Nat} (hw : wD (xW a cs)) (hz : zOK Z) (l : Launch) {u : St} {x1 : Int32} {r : Int32} {u' : St} (hk : f_C_stepPairs u x1 = some (r, u')) : KI clA D cs (xW a cs) Z l y_C_stepPairs (.code y_C_stepPairs prog_2_method_11_code 7 (Option.some Jvm.ClassFile.FieldType.int)) rm_C_stepPairs [.ref (a 0), .int x1] u r u' := by
  unfold f_C_stepPairs at hk
  refine KI.of (by decide) (Nat.le_of_ble_eq_true rfl) rfl hw hz ?_
  intro p e s m args below meth c Q C I hQ ls hl
  have hl : lv_has ls 7 [(0, .ref (a 0)), (1, .int x1)] := hl
  have hx := C.1.1
  have hb := C.1.2.1
  refine lv_aload_n hx hb d_C_stepPairs_0 rfl (lv_at hl 0 rfl) ?_
  refine lv_iload_n hx hb d_C_stepPairs_1 rfl (lv_at hl 1 rfl) ?_
  obtain ⟨r3, u1, h2, hk⟩ := cI_u hk
  refine go_I I (call_runV (rest := []) C I (c_C_pastPadding C.2.2.2.1 C.2.2.2.2.1 l h2 _) wd_C_pastPadding (q0 := 0) (ci := 0) rfl rfl k_563 ⟨rfl, rfl⟩ ⟨by decide, by decide⟩ rfl hl.1 rfl (Nat.le_of_ble_eq_true rfl) d_C_stepPairs_2) (fun H locs I => ?_)
  refine lv_istore_n (lv' := [(2, .int r3), (0, .ref (a 0)), (1, .int x1)]) hx hb d_C_stepPairs_5 rfl hl (by decide) rfl (fun ls hl => ?_)
  refine lv_aload_n hx hb d_C_stepPairs_6 rfl (lv_at hl 1 rfl) ?_
  refine lv_iload_n hx hb d_C_stepPairs_7 rfl (lv_at hl 2 rfl) ?_
  refine lv_aload_n hx hb d_C_stepPairs_8 rfl (lv_at hl 1 rfl) ?_
  refine lv_iload_n hx hb d_C_stepPairs_9 rfl (lv_at hl 2 rfl) ?_
  refine lv_iload_n hx hb d_C_stepPairs_10 rfl (lv_at hl 0 rfl) ?_
  obtain ⟨r6, u4, h5, hk⟩ := cI_u hk
  refine go_I I (call_runV (rest := [.int x1, .ref (a 0)]) C I (c_C_switchNumber C.2.2.2.1 C.2.2.2.2.1 l h5 _) wd_C_switchNumber (q0 := 0) (ci := 0) rfl rfl k_567 ⟨rfl, rfl⟩ ⟨by decide, by decide⟩ rfl hl.1 rfl (Nat.le_of_ble_eq_true rfl) d_C_stepPairs_11) (fun H locs I => ?_)
  obtain ⟨u7, h8, hk⟩ := cV_u hk
  refine go_V I (call_runV (rest := []) C I (c_C_addJump C.2.2.2.1 C.2.2.2.2.1 l h8 _) wd_C_addJump (q0 := 0) (ci := 0) rfl rfl k_571 ⟨rfl, rfl⟩ ⟨by decide, by decide⟩ rfl hl.1 rfl (Nat.le_of_ble_eq_true rfl) d_C_stepPairs_14) (fun H locs I => ?_)
  refine lv_aload_n hx hb d_C_stepPairs_17 rfl (lv_at hl 1 rfl) ?_
  refine lv_iload_n hx hb d_C_stepPairs_18 rfl (lv_at hl 2 rfl) ?_
  refine lv_iload_n hx hb d_C_stepPairs_19 rfl (lv_at hl 0 rfl) ?_
  refine lv_iconst (v := 4) hx hb d_C_stepPairs_20 (by decide) ?_
  refine lv_iadd hx hb d_C_stepPairs_21 ?_
  obtain ⟨r11, u9, h10, hk⟩ := cI_u hk
  refine go_I I (call_runV (rest := []) C I (c_C_switchNumber C.2.2.2.1 C.2.2.2.2.1 l h10 _) wd_C_switchNumber (q0 := 0) (ci := 0) rfl rfl k_567 ⟨rfl, rfl⟩ ⟨by decide, by decide⟩ rfl hl.1 rfl (Nat.le_of_ble_eq_true rfl) d_C_stepPairs_22) (fun H locs I => ?_)
  refine lv_istore_n (lv' := [(3, .int r11), (2, .int r3), (0, .ref (a 0)), (1, .int x1)]) hx hb d_C_stepPairs_25 rfl hl (by decide) rfl (fun ls hl => ?_)
  refine lv_aload_n hx hb d_C_stepPairs_26 rfl (lv_at hl 2 rfl) ?_
  refine g_C_walk C I k_125 d_C_stepPairs_27 ?_
  refine lv_iload_n hx hb d_C_stepPairs_30 rfl (lv_at hl 0 rfl) ?_
  obtain ⟨z12, hj34, hk⟩ := bnd_u hk
  have Khj34 : ∀ (H : Heap) (locs : List Loc) (ls : Array Slot), Dy clA D (xW a cs) s H locs u9 → lv_has ls 7 [(0, .ref (a 0)), (1, .int x1), (2, .int r3), (3, .int r11)] → W p l e rm_C_stepPairs s m args below meth c H locs 0 0 Q (F0 m 46 ls [.int z12, .ref (a 4)]) := by
    intro H locs ls I hl
    refine lv_bipush (v := 24) hx hb d_C_stepPairs_46 (by decide) ?_
    refine lv_aload_n hx hb d_C_stepPairs_48 rfl (lv_at hl 0 rfl) ?_
    refine g_C_base C I k_130 d_C_stepPairs_49 ?_
    refine lv_iload_n hx hb d_C_stepPairs_52 rfl (lv_at hl 1 rfl) ?_
    refine lv_iadd hx hb d_C_stepPairs_53 ?_
    obtain ⟨u13, h14, hk⟩ := cV_u hk
    refine go_V I (call_runV (rest := []) C I (c_W_need C.2.2.2.1 C.2.2.2.2.1 l h14 _) wd_W_need (q0 := 4) (ci := 4) rfl rfl k_550 ⟨rfl, rfl⟩ ⟨by decide, by decide⟩ rfl hl.1 rfl (Nat.le_of_ble_eq_true rfl) d_C_stepPairs_54) (fun H locs I => ?_)
    refine lv_iinc (v := (r3 + 8)) (lv' := [(2, .int (r3 + 8)), (0, .ref (a 0)), (1, .int x1), (3, .int r11)]) hx hb d_C_stepPairs_57 hl (k := 2) rfl rfl (by decide) rfl (fun ls hl => ?_)
    refine lv_iconst (v := 0) hx hb d_C_stepPairs_60 (by decide) ?_
    refine lv_istore (lv' := [(4, .int 0), (2, .int (r3 + 8)), (0, .ref (a 0)), (1, .int x1), (3, .int r11)]) hx hb d_C_stepPairs_61 hl (by decide) rfl (fun ls hl => ?_)
    refine lv_iconst (v := 0) hx hb d_C_stepPairs_63 (by decide) ?_
    refine lv_istore (lv' := [(5, .int 0), (4, .int 0), (2, .int (r3 + 8)), (0, .ref (a 0)), (1, .int x1), (3, .int r11)]) hx hb d_C_stepPairs_64 hl (by decide) rfl (fun ls hl => ?_)
    obtain ⟨⟨u30, z31⟩, hj32, hk⟩ := cT_u hk
    refine w_C_stepPairs_L66 C (fun H locs ls I hl => ?_) FU u13 (r3 + 8) 0 0 _ _ _ hj32 I (lv_sub hl [3, 4, 2, 5, 1, 0] rfl)
    refine lv_iload_n hx hb d_C_stepPairs_148 rfl (lv_at hl 1 rfl) ?_
    refine lv_iload_n hx hb d_C_stepPairs_149 rfl (lv_at hl 0 rfl) ?_
    refine lv_isub hx hb d_C_stepPairs_150 ?_
    exact hQ _ _ _ _ _ _ I hk d_C_stepPairs_151
  refine lv_if_lt (tgt := 45) hx hb d_C_stepPairs_31 (by decide) (fun hc => ?_) (fun hc => ?_)
  · replace hj34 := it_u hc hj34
    refine lv_iconst (v := 0) hx hb d_C_stepPairs_45 (by decide) ?_
    obtain rfl := ep1 hj34
    exact Khj34 _ _ _ I (lv_sub hl [2, 3, 1, 0] rfl)
  · replace hj34 := ie_u hc hj34
    refine lv_iload_n hx hb d_C_stepPairs_34 rfl (lv_at hl 0 rfl) ?_
    refine lv_sipush (v := 250) hx hb d_C_stepPairs_35 (by decide) ?_
    refine lv_icmp_gt (tgt := 45) hx hb d_C_stepPairs_38 (by decide) (fun hc => ?_) (fun hc => ?_)
    · replace hj34 := it_u hc hj34
      refine lv_iconst (v := 0) hx hb d_C_stepPairs_45 (by decide) ?_
      obtain rfl := ep1 hj34
      exact Khj34 _ _ _ I (lv_sub hl [2, 3, 1, 0] rfl)
    · replace hj34 := ie_u hc hj34
      refine lv_iconst (v := 1) hx hb d_C_stepPairs_41 (by decide) ?_
      refine lv_goto (tgt := 46) hx hb d_C_stepPairs_42 (by decide) ?_
      obtain rfl := ep1 hj34
      exact Khj34 _ _ _ I (lv_sub hl [2, 3, 1, 0] rfl)
def rm_C_stepTable : Room := { frames := 2, cells := 0, slots := 0, locals := 47 }
noncomputable def f_C_stepTable_L89 (x1 : Int32) (x5 : Int64) : Nat → St → Int32 → Int32 → Option (St × Int32)
  | 0, _, _, _ => none
  | n + 1, u, x2, x7 => if 0 ≤ (lg_cmp (x7).toInt64 x5) then (some (u, x2)) else (if 500 ≤ x7 then (some (u, x2)) else (cI (f_W_sound u) fun r20 u18 => if r20 = 0 then (some (u18, x2)) else (cI (f_C_switchNumber u18 x1 x2) fun r23 u21 => cV (f_C_addJump u21 x1 r23) fun u24 => f_C_stepTable_L89 x1 x5 n u24 (x2 + 4) (x7 + 1))))
noncomputable def f_C_stepTable (u : St) (x1 : Int32) : Option (Int32 × St) := cI (f_C_pastPadding u x1) fun r3 u1 => cI (f_C_switchNumber u1 x1 r3) fun r6 u4 => cV (f_C_addJump u4 x1 r6) fun u7 => cI (f_C_switchNumber u7 x1 (r3 + 4)) fun r11 u9 => cI (f_C_switchNumber u9 x1 (r3 + 8)) fun r14 u12 => bnd (if (lg_cmp (((r14).toInt64 - (r11).toInt64) + 1) 1) < 0 then (0) else (if 0 < (lg_cmp (((r14).toInt64 - (r11).toInt64) + 1) 500) then (0) else (1))) fun (z15 : Int32) => cV (f_W_need u12 z15 24 ((u12.1 13) + x1)) fun u16 => cT (f_C_stepTable_L89 x1 (((r14).toInt64 - (r11).toInt64) + 1) FU u16 (r3 + 12) 0) fun (p29 : St × Int32) => some ((p29.2 - x1), p29.1)
set_option maxHeartbeats 4000000 in
set_option maxRecDepth 100000 in
theorem w_C_stepTable_L89 {Z : zT} {D : va_G} {cs : Nat → ClassId} {a : Nat → Nat} {p : Program} {l : Launch} {e : Env} {s : State} {m : MethodId} {args : Array Value} {below : List Frame} {meth : Method} {c : Code} {Q : State → Prop}  {u2 : St} {o2 : Int32} {x1 : Int32} {x5 : Int64} (C : Cx clA R_C prog_2_method_10_code 8 D cs (xW a cs) Z p s m args c) (hE : ∀ (H : Heap) (locs : List Loc) (ls : Array Slot), Dy clA D (xW a cs) s H locs u2 → lv_has ls 8 [(1, .int x1), (2, .int o2)] → W p l e rm_C_stepTable s m args below meth c H locs 0 0 Q (F0 m 136 ls [])) : ∀ (n : Nat) (u : St) (x2 : Int32) (x7 : Int32) (H : Heap) (locs : List Loc) (ls : Array Slot), f_C_stepTable_L89 x1 x5 n u x2 x7 = some (u2, o2) → Dy clA D (xW a cs) s H locs u → lv_has ls 8 [(0, .ref (a 0)), (1, .int x1), (2, .int x2), (5, .long x5), (7, .int x7)] → W p l e rm_C_stepTable s m args below meth c H locs 0 0 Q (F0 m 89 ls []) := by
  have hx := C.1.1
  have hb := C.1.2.1
  intro n
  induction n with
  | zero =>
    intro u x2 x7 H locs ls hk I hl
    rw [f_C_stepTable_L89] at hk
    cases hk
  | succ n ih =>
    intro u x2 x7 H locs ls hk I hl
    rw [f_C_stepTable_L89] at hk
    refine lv_iload hx hb d_C_stepTable_89 (lv_at hl 4 rfl) ?_
    refine lv_i2l (v := (x7).toInt64) hx hb d_C_stepTable_91 rfl ?_
    refine lv_lload hx hb d_C_stepTable_92 (lv_at hl 3 rfl) ?_
    refine W.lcmp hx hb d_C_stepTable_94 ?_
    refine lv_if_ge (tgt := 136) hx hb d_C_stepTable_95 (by decide) (fun hc => ?_) (fun hc => ?_)
    · replace hk := it_u hc hk
      obtain ⟨rfl, rfl⟩ := eo2 hk
      exact hE _ _ _ I (lv_sub hl [1, 2] rfl)
    · replace hk := ie_u hc hk
      refine lv_iload hx hb d_C_stepTable_98 (lv_at hl 4 rfl) ?_
      refine lv_sipush (v := 500) hx hb d_C_stepTable_100 (by decide) ?_
      refine lv_icmp_ge (tgt := 136) hx hb d_C_stepTable_103 (by decide) (fun hc => ?_) (fun hc => ?_)
      · replace hk := it_u hc hk
        obtain ⟨rfl, rfl⟩ := eo2 hk
        exact hE _ _ _ I (lv_sub hl [1, 2] rfl)
      · replace hk := ie_u hc hk
        refine lv_aload_n hx hb d_C_stepTable_106 rfl (lv_at hl 0 rfl) ?_
        refine g_C_walk C I k_125 d_C_stepTable_107 ?_
        obtain ⟨r20, u18, h19, hk⟩ := cI_u hk
        refine go_I I (call_runV (rest := []) C I (c_W_sound C.2.2.2.1 C.2.2.2.2.1 l h19 _) wd_W_sound (q0 := 4) (ci := 4) rfl rfl k_551 ⟨rfl, rfl⟩ ⟨by decide, by decide⟩ rfl hl.1 rfl (Nat.le_of_ble_eq_true rfl) d_C_stepTable_110) (fun H locs I => ?_)
        refine lv_if_eq (tgt := 136) hx hb d_C_stepTable_113 (by decide) (fun hc => ?_) (fun hc => ?_)
        · replace hk := it_u hc hk
          obtain ⟨rfl, rfl⟩ := eo2 hk
          exact hE _ _ _ I (lv_sub hl [1, 2] rfl)
        · replace hk := ie_u hc hk
          refine lv_aload_n hx hb d_C_stepTable_116 rfl (lv_at hl 0 rfl) ?_
          refine lv_iload_n hx hb d_C_stepTable_117 rfl (lv_at hl 1 rfl) ?_
          refine lv_aload_n hx hb d_C_stepTable_118 rfl (lv_at hl 0 rfl) ?_
          refine lv_iload_n hx hb d_C_stepTable_119 rfl (lv_at hl 1 rfl) ?_
          refine lv_iload_n hx hb d_C_stepTable_120 rfl (lv_at hl 2 rfl) ?_
          obtain ⟨r23, u21, h22, hk⟩ := cI_u hk
          refine go_I I (call_runV (rest := [.int x1, .ref (a 0)]) C I (c_C_switchNumber C.2.2.2.1 C.2.2.2.2.1 l h22 _) wd_C_switchNumber (q0 := 0) (ci := 0) rfl rfl k_567 ⟨rfl, rfl⟩ ⟨by decide, by decide⟩ rfl hl.1 rfl (Nat.le_of_ble_eq_true rfl) d_C_stepTable_121) (fun H locs I => ?_)
          obtain ⟨u24, h25, hk⟩ := cV_u hk
          refine go_V I (call_runV (rest := []) C I (c_C_addJump C.2.2.2.1 C.2.2.2.2.1 l h25 _) wd_C_addJump (q0 := 0) (ci := 0) rfl rfl k_571 ⟨rfl, rfl⟩ ⟨by decide, by decide⟩ rfl hl.1 rfl (Nat.le_of_ble_eq_true rfl) d_C_stepTable_124) (fun H locs I => ?_)
          refine lv_iinc (v := (x2 + 4)) (lv' := [(2, .int (x2 + 4)), (0, .ref (a 0)), (1, .int x1), (5, .long x5), (7, .int x7)]) hx hb d_C_stepTable_127 hl (k := 2) rfl rfl (by decide) rfl (fun ls hl => ?_)
          refine lv_iinc (v := (x7 + 1)) (lv' := [(7, .int (x7 + 1)), (2, .int (x2 + 4)), (0, .ref (a 0)), (1, .int x1), (5, .long x5)]) hx hb d_C_stepTable_130 hl (k := 4) rfl rfl (by decide) rfl (fun ls hl => ?_)
          refine lv_goto (tgt := 89) hx hb d_C_stepTable_133 (by decide) ?_
          exact ih u24 (x2 + 4) (x7 + 1) _ _ _ hk I (lv_sub hl [2, 3, 1, 4, 0] rfl)
set_option maxHeartbeats 4000000 in
set_option maxRecDepth 100000 in
theorem c_C_stepTable {Z : zT} {D : va_G} {cs : Nat → ClassId} {a : Nat → Nat} (hw : wD (xW a cs)) (hz : zOK Z) (l : Launch) {u : St} {x1 : Int32} {r : Int32} {u' : St} (hk : f_C_stepTable u x1 = some (r, u')) : KI clA D cs (xW a cs) Z l y_C_stepTable (.code y_C_stepTable prog_2_method_10_code 8 (Option.some Jvm.ClassFile.FieldType.int)) rm_C_stepTable [.ref (a 0), .int x1] u r u' := by
  unfold f_C_stepTable at hk
  refine KI.of (by decide) (Nat.le_of_ble_eq_true rfl) rfl hw hz ?_
  intro p e s m args below meth c Q C I hQ ls hl
  have hl : lv_has ls 8 [(0, .ref (a 0)), (1, .int x1)] := hl
  have hx := C.1.1
  have hb := C.1.2.1
  refine lv_aload_n hx hb d_C_stepTable_0 rfl (lv_at hl 0 rfl) ?_
  refine lv_iload_n hx hb d_C_stepTable_1 rfl (lv_at hl 1 rfl) ?_
  obtain ⟨r3, u1, h2, hk⟩ := cI_u hk
  refine go_I I (call_runV (rest := []) C I (c_C_pastPadding C.2.2.2.1 C.2.2.2.2.1 l h2 _) wd_C_pastPadding (q0 := 0) (ci := 0) rfl rfl k_563 ⟨rfl, rfl⟩ ⟨by decide, by decide⟩ rfl hl.1 rfl (Nat.le_of_ble_eq_true rfl) d_C_stepTable_2) (fun H locs I => ?_)
  refine lv_istore_n (lv' := [(2, .int r3), (0, .ref (a 0)), (1, .int x1)]) hx hb d_C_stepTable_5 rfl hl (by decide) rfl (fun ls hl => ?_)
  refine lv_aload_n hx hb d_C_stepTable_6 rfl (lv_at hl 1 rfl) ?_
  refine lv_iload_n hx hb d_C_stepTable_7 rfl (lv_at hl 2 rfl) ?_
  refine lv_aload_n hx hb d_C_stepTable_8 rfl (lv_at hl 1 rfl) ?_
  refine lv_iload_n hx hb d_C_stepTable_9 rfl (lv_at hl 2 rfl) ?_
  refine lv_iload_n hx hb d_C_stepTable_10 rfl (lv_at hl 0 rfl) ?_
  obtain ⟨r6, u4, h5, hk⟩ := cI_u hk
  refine go_I I (call_runV (rest := [.int x1, .ref (a 0)]) C I (c_C_switchNumber C.2.2.2.1 C.2.2.2.2.1 l h5 _) wd_C_switchNumber (q0 := 0) (ci := 0) rfl rfl k_567 ⟨rfl, rfl⟩ ⟨by decide, by decide⟩ rfl hl.1 rfl (Nat.le_of_ble_eq_true rfl) d_C_stepTable_11) (fun H locs I => ?_)
  obtain ⟨u7, h8, hk⟩ := cV_u hk
  refine go_V I (call_runV (rest := []) C I (c_C_addJump C.2.2.2.1 C.2.2.2.2.1 l h8 _) wd_C_addJump (q0 := 0) (ci := 0) rfl rfl k_571 ⟨rfl, rfl⟩ ⟨by decide, by decide⟩ rfl hl.1 rfl (Nat.le_of_ble_eq_true rfl) d_C_stepTable_14) (fun H locs I => ?_)
  refine lv_aload_n hx hb d_C_stepTable_17 rfl (lv_at hl 1 rfl) ?_
  refine lv_iload_n hx hb d_C_stepTable_18 rfl (lv_at hl 2 rfl) ?_
  refine lv_iload_n hx hb d_C_stepTable_19 rfl (lv_at hl 0 rfl) ?_
  refine lv_iconst (v := 4) hx hb d_C_stepTable_20 (by decide) ?_
  refine lv_iadd hx hb d_C_stepTable_21 ?_
  obtain ⟨r11, u9, h10, hk⟩ := cI_u hk
  refine go_I I (call_runV (rest := []) C I (c_C_switchNumber C.2.2.2.1 C.2.2.2.2.1 l h10 _) wd_C_switchNumber (q0 := 0) (ci := 0) rfl rfl k_567 ⟨rfl, rfl⟩ ⟨by decide, by decide⟩ rfl hl.1 rfl (Nat.le_of_ble_eq_true rfl) d_C_stepTable_22) (fun H locs I => ?_)
  refine lv_istore_n (lv' := [(3, .int r11), (2, .int r3), (0, .ref (a 0)), (1, .int x1)]) hx hb d_C_stepTable_25 rfl hl (by decide) rfl (fun ls hl => ?_)
  refine lv_aload_n hx hb d_C_stepTable_26 rfl (lv_at hl 2 rfl) ?_
  refine lv_iload_n hx hb d_C_stepTable_27 rfl (lv_at hl 3 rfl) ?_
  refine lv_iload_n hx hb d_C_stepTable_28 rfl (lv_at hl 1 rfl) ?_
  refine lv_bipush (v := 8) hx hb d_C_stepTable_29 (by decide) ?_
  refine lv_iadd hx hb d_C_stepTable_31 ?_
  obtain ⟨r14, u12, h13, hk⟩ := cI_u hk
  refine go_I I (call_runV (rest := []) C I (c_C_switchNumber C.2.2.2.1 C.2.2.2.2.1 l h13 _) wd_C_switchNumber (q0 := 0) (ci := 0) rfl rfl k_567 ⟨rfl, rfl⟩ ⟨by decide, by decide⟩ rfl hl.1 rfl (Nat.le_of_ble_eq_true rfl) d_C_stepTable_32) (fun H locs I => ?_)
  refine lv_istore (lv' := [(4, .int r14), (3, .int r11), (2, .int r3), (0, .ref (a 0)), (1, .int x1)]) hx hb d_C_stepTable_35 hl (by decide) rfl (fun ls hl => ?_)
  refine lv_iload hx hb d_C_stepTable_37 (lv_at hl 0 rfl) ?_
  refine lv_i2l (v := (r14).toInt64) hx hb d_C_stepTable_39 rfl ?_
  refine lv_iload_n hx hb d_C_stepTable_40 rfl (lv_at hl 1 rfl) ?_
  refine lv_i2l (v := (r11).toInt64) hx hb d_C_stepTable_41 rfl ?_
  refine lv_lsub hx hb d_C_stepTable_42 ?_
  refine lv_lconst (v := 1) hx hb d_C_stepTable_43 (by decide) ?_
  refine lv_ladd hx hb d_C_stepTable_44 ?_
  refine lv_lstore (lv' := [(5, .long (((r14).toInt64 - (r11).toInt64) + 1)), (4, .int r14), (3, .int r11), (2, .int r3), (0, .ref (a 0)), (1, .int x1)]) hx hb d_C_stepTable_45 hl (by decide) rfl (fun ls hl => ?_)
  refine lv_aload_n hx hb d_C_stepTable_47 rfl (lv_at hl 4 rfl) ?_
  refine g_C_walk C I k_125 d_C_stepTable_48 ?_
  refine lv_lload hx hb d_C_stepTable_51 (lv_at hl 0 rfl) ?_
  refine lv_lconst (v := 1) hx hb d_C_stepTable_53 (by decide) ?_
  refine W.lcmp hx hb d_C_stepTable_54 ?_
  obtain ⟨z15, hj30, hk⟩ := bnd_u hk
  have Khj30 : ∀ (H : Heap) (locs : List Loc) (ls : Array Slot), Dy clA D (xW a cs) s H locs u12 → lv_has ls 8 [(0, .ref (a 0)), (1, .int x1), (2, .int r3), (5, .long (((r14).toInt64 - (r11).toInt64) + 1))] → W p l e rm_C_stepTable s m args below meth c H locs 0 0 Q (F0 m 72 ls [.int z15, .ref (a 4)]) := by
    intro H locs ls I hl
    refine lv_bipush (v := 24) hx hb d_C_stepTable_72 (by decide) ?_
    refine lv_aload_n hx hb d_C_stepTable_74 rfl (lv_at hl 0 rfl) ?_
    refine g_C_base C I k_130 d_C_stepTable_75 ?_
    refine lv_iload_n hx hb d_C_stepTable_78 rfl (lv_at hl 1 rfl) ?_
    refine lv_iadd hx hb d_C_stepTable_79 ?_
    obtain ⟨u16, h17, hk⟩ := cV_u hk
    refine go_V I (call_runV (rest := []) C I (c_W_need C.2.2.2.1 C.2.2.2.2.1 l h17 _) wd_W_need (q0 := 4) (ci := 4) rfl rfl k_550 ⟨rfl, rfl⟩ ⟨by decide, by decide⟩ rfl hl.1 rfl (Nat.le_of_ble_eq_true rfl) d_C_stepTable_80) (fun H locs I => ?_)
    refine lv_iinc (v := (r3 + 12)) (lv' := [(2, .int (r3 + 12)), (0, .ref (a 0)), (1, .int x1), (5, .long (((r14).toInt64 - (r11).toInt64) + 1))]) hx hb d_C_stepTable_83 hl (k := 2) rfl rfl (by decide) rfl (fun ls hl => ?_)
    refine lv_iconst (v := 0) hx hb d_C_stepTable_86 (by decide) ?_
    refine lv_istore (lv' := [(7, .int 0), (2, .int (r3 + 12)), (0, .ref (a 0)), (1, .int x1), (5, .long (((r14).toInt64 - (r11).toInt64) + 1))]) hx hb d_C_stepTable_87 hl (by decide) rfl (fun ls hl => ?_)
    obtain ⟨⟨u26, z27⟩, hj28, hk⟩ := cT_u hk
    refine w_C_stepTable_L89 C (fun H locs ls I hl => ?_) FU u16 (r3 + 12) 0 _ _ _ hj28 I (lv_sub hl [2, 3, 1, 4, 0] rfl)
    refine lv_iload_n hx hb d_C_stepTable_136 rfl (lv_at hl 1 rfl) ?_
    refine lv_iload_n hx hb d_C_stepTable_137 rfl (lv_at hl 0 rfl) ?_
    refine lv_isub hx hb d_C_stepTable_138 ?_
    exact hQ _ _ _ _ _ _ I hk d_C_stepTable_139
  refine lv_if_lt (tgt := 71) hx hb d_C_stepTable_55 (by decide) (fun hc => ?_) (fun hc => ?_)
  · replace hj30 := it_u hc hj30
    refine lv_iconst (v := 0) hx hb d_C_stepTable_71 (by decide) ?_
    obtain rfl := ep1 hj30
    exact Khj30 _ _ _ I (lv_sub hl [4, 5, 3, 0] rfl)
  · replace hj30 := ie_u hc hj30
    refine lv_lload hx hb d_C_stepTable_58 (lv_at hl 0 rfl) ?_
    refine lv_ldc2 hx hb C.1.2.2.2 (C.2.1 _ k_575) d_C_stepTable_60 ?_
    refine W.lcmp hx hb d_C_stepTable_63 ?_
    refine lv_if_gt (tgt := 71) hx hb d_C_stepTable_64 (by decide) (fun hc => ?_) (fun hc => ?_)
    · replace hj30 := it_u hc hj30
      refine lv_iconst (v := 0) hx hb d_C_stepTable_71 (by decide) ?_
      obtain rfl := ep1 hj30
      exact Khj30 _ _ _ I (lv_sub hl [4, 5, 3, 0] rfl)
    · replace hj30 := ie_u hc hj30
      refine lv_iconst (v := 1) hx hb d_C_stepTable_67 (by decide) ?_
      refine lv_goto (tgt := 72) hx hb d_C_stepTable_68 (by decide) ?_
      obtain rfl := ep1 hj30
      exact Khj30 _ _ _ I (lv_sub hl [4, 5, 3, 0] rfl)
def rm_C_stepWide : Room := { frames := 1, cells := 0, slots := 0, locals := 24 }
noncomputable def f_C_stepWide (u : St) (x1 : Int32) : Option (Int32 × St) := bnd (if (u.1 9) ≤ (x1 + 1) then (0) else (1)) fun (z1 : Int32) => cV (f_W_need u z1 25 ((u.1 13) + x1)) fun u2 => cI (f_W_numberAt u2 (((u.1 13) + x1) + 1) 1) fun r6 u4 => cT (if 202 ≤ r6 then (some (0)) else (gd r6 202 (some ((tab_FORMS r6.toNatClampNeg))))) fun (z7 : Int32) => bnd (if z7 = 7 then (1) else (if z7 = 8 then (1) else (if z7 = 11 then (1) else (0)))) fun (z8 : Int32) => cV (f_W_need u4 z8 22 ((u.1 13) + x1)) fun u9 => bnd (if z7 = 11 then (6) else (4)) fun (z11 : Int32) => bnd (if (u9.1 9) < (x1 + z11) then (0) else (1)) fun (z12 : Int32) => cV (f_W_need u9 z12 25 ((u.1 13) + x1)) fun u13 => cI (f_W_numberAt u13 (((u.1 13) + x1) + 2) 2) fun r17 u15 => bnd (if z7 = 8 then (2) else (1)) fun (z18 : Int32) => bnd (if (u15.1 8) < (r17 + z18) then (0) else (1)) fun (z19 : Int32) => cV (f_W_need u15 z19 23 ((u.1 13) + x1)) fun u20 => some (z11, u20)
set_option maxHeartbeats 4000000 in
set_option maxRecDepth 100000 in
theorem c_C_stepWide {sk sv9 st : Nat → Nat} {D : va_G} {cs : Nat → ClassId} {a : Nat → Nat} (hw : wD (xW a cs)) (hz : zOK (xZ sk sv9 st)) (l : Launch) {u : St} {x1 : Int32} {r : Int32} {u' : St} (hk : f_C_stepWide u x1 = some (r, u')) : KI clA D cs (xW a cs) (xZ sk sv9 st) l y_C_stepWide (.code y_C_stepWide prog_2_method_9_code 7 (Option.some Jvm.ClassFile.FieldType.int)) rm_C_stepWide [.ref (a 0), .int x1] u r u' := by
  unfold f_C_stepWide at hk
  refine KI.of (by decide) (Nat.le_of_ble_eq_true rfl) rfl hw hz ?_
  intro p e s m args below meth c Q C I hQ ls hl
  have hl : lv_has ls 7 [(0, .ref (a 0)), (1, .int x1)] := hl
  have hx := C.1.1
  have hb := C.1.2.1
  refine lv_aload_n hx hb d_C_stepWide_0 rfl (lv_at hl 0 rfl) ?_
  refine g_C_base C I k_130 d_C_stepWide_1 ?_
  refine lv_iload_n hx hb d_C_stepWide_4 rfl (lv_at hl 1 rfl) ?_
  refine lv_iadd hx hb d_C_stepWide_5 ?_
  refine lv_istore_n (lv' := [(2, .int ((u.1 13) + x1)), (0, .ref (a 0)), (1, .int x1)]) hx hb d_C_stepWide_6 rfl hl (by decide) rfl (fun ls hl => ?_)
  refine lv_aload_n hx hb d_C_stepWide_7 rfl (lv_at hl 1 rfl) ?_
  refine g_C_walk C I k_125 d_C_stepWide_8 ?_
  refine lv_iload_n hx hb d_C_stepWide_11 rfl (lv_at hl 2 rfl) ?_
  refine lv_iconst (v := 1) hx hb d_C_stepWide_12 (by decide) ?_
  refine lv_iadd hx hb d_C_stepWide_13 ?_
  refine lv_aload_n hx hb d_C_stepWide_14 rfl (lv_at hl 1 rfl) ?_
  refine g_C_size C I k_117 d_C_stepWide_15 ?_
  obtain ⟨z1, hj28, hk⟩ := bnd_u hk
  have Khj28 : ∀ (H : Heap) (locs : List Loc) (ls : Array Slot), Dy clA D (xW a cs) s H locs u → lv_has ls 7 [(0, .ref (a 0)), (1, .int x1), (2, .int ((u.1 13) + x1))] → W p l e rm_C_stepWide s m args below meth c H locs 0 0 Q (F0 m 26 ls [.int z1, .ref (a 4)]) := by
    intro H locs ls I hl
    refine lv_bipush (v := 25) hx hb d_C_stepWide_26 (by decide) ?_
    refine lv_iload_n hx hb d_C_stepWide_28 rfl (lv_at hl 2 rfl) ?_
    obtain ⟨u2, h3, hk⟩ := cV_u hk
    refine go_V I (call_runV (rest := []) C I (c_W_need C.2.2.2.1 C.2.2.2.2.1 l h3 _) wd_W_need (q0 := 4) (ci := 4) rfl rfl k_550 ⟨rfl, rfl⟩ ⟨by decide, by decide⟩ rfl hl.1 rfl (Nat.le_of_ble_eq_true rfl) d_C_stepWide_29) (fun H locs I => ?_)
    refine lv_aload_n hx hb d_C_stepWide_32 rfl (lv_at hl 0 rfl) ?_
    refine g_C_walk C I k_125 d_C_stepWide_33 ?_
    refine lv_iload_n hx hb d_C_stepWide_36 rfl (lv_at hl 2 rfl) ?_
    refine lv_iconst (v := 1) hx hb d_C_stepWide_37 (by decide) ?_
    refine lv_iadd hx hb d_C_stepWide_38 ?_
    refine lv_iconst (v := 1) hx hb d_C_stepWide_39 (by decide) ?_
    obtain ⟨r6, u4, h5, hk⟩ := cI_u hk
    refine go_I I (call_runV (rest := []) C I (c_W_numberAt C.2.2.2.1 C.2.2.2.2.1 l h5 _) wd_W_numberAt (q0 := 4) (ci := 4) rfl rfl k_556 ⟨rfl, rfl⟩ ⟨by decide, by decide⟩ rfl hl.1 rfl (Nat.le_of_ble_eq_true rfl) d_C_stepWide_40) (fun H locs I => ?_)
    refine lv_istore_n (lv' := [(3, .int r6), (0, .ref (a 0)), (1, .int x1), (2, .int ((u.1 13) + x1))]) hx hb d_C_stepWide_43 rfl hl (by decide) rfl (fun ls hl => ?_)
    refine lv_iload_n hx hb d_C_stepWide_44 rfl (lv_at hl 0 rfl) ?_
    refine gs_FORMS C I k_557 d_C_stepWide_45 ?_
    refine nt_FORMS C I d_C_stepWide_48 ?_
    obtain ⟨z7, hj27, hk⟩ := cT_u hk
    have Khj27 : ∀ (H : Heap) (locs : List Loc) (ls : Array Slot), Dy clA D (xW a cs) s H locs u4 → lv_has ls 7 [(0, .ref (a 0)), (1, .int x1), (2, .int ((u.1 13) + x1))] → W p l e rm_C_stepWide s m args below meth c H locs 0 0 Q (F0 m 61 ls [.int z7]) := by
      intro H locs ls I hl
      refine lv_istore (lv' := [(4, .int z7), (0, .ref (a 0)), (1, .int x1), (2, .int ((u.1 13) + x1))]) hx hb d_C_stepWide_61 hl (by decide) rfl (fun ls hl => ?_)
      refine lv_aload_n hx hb d_C_stepWide_63 rfl (lv_at hl 1 rfl) ?_
      refine g_C_walk C I k_125 d_C_stepWide_64 ?_
      refine lv_iload hx hb d_C_stepWide_67 (lv_at hl 0 rfl) ?_
      refine lv_bipush (v := 7) hx hb d_C_stepWide_69 (by decide) ?_
      obtain ⟨z8, hj26, hk⟩ := bnd_u hk
      have Khj26 : ∀ (H : Heap) (locs : List Loc) (ls : Array Slot), Dy clA D (xW a cs) s H locs u4 → lv_has ls 7 [(0, .ref (a 0)), (1, .int x1), (2, .int ((u.1 13) + x1)), (4, .int z7)] → W p l e rm_C_stepWide s m args below meth c H locs 0 0 Q (F0 m 93 ls [.int z8, .ref (a 4)]) := by
        intro H locs ls I hl
        refine lv_bipush (v := 22) hx hb d_C_stepWide_93 (by decide) ?_
        refine lv_iload_n hx hb d_C_stepWide_95 rfl (lv_at hl 2 rfl) ?_
        obtain ⟨u9, h10, hk⟩ := cV_u hk
        refine go_V I (call_runV (rest := []) C I (c_W_need C.2.2.2.1 C.2.2.2.2.1 l h10 _) wd_W_need (q0 := 4) (ci := 4) rfl rfl k_550 ⟨rfl, rfl⟩ ⟨by decide, by decide⟩ rfl hl.1 rfl (Nat.le_of_ble_eq_true rfl) d_C_stepWide_96) (fun H locs I => ?_)
        refine lv_iload hx hb d_C_stepWide_99 (lv_at hl 3 rfl) ?_
        refine lv_bipush (v := 11) hx hb d_C_stepWide_101 (by decide) ?_
        obtain ⟨z11, hj25, hk⟩ := bnd_u hk
        have Khj25 : ∀ (H : Heap) (locs : List Loc) (ls : Array Slot), Dy clA D (xW a cs) s H locs u9 → lv_has ls 7 [(0, .ref (a 0)), (1, .int x1), (2, .int ((u.1 13) + x1)), (4, .int z7)] → W p l e rm_C_stepWide s m args below meth c H locs 0 0 Q (F0 m 112 ls [.int z11]) := by
          intro H locs ls I hl
          refine lv_istore (lv' := [(5, .int z11), (0, .ref (a 0)), (1, .int x1), (2, .int ((u.1 13) + x1)), (4, .int z7)]) hx hb d_C_stepWide_112 hl (by decide) rfl (fun ls hl => ?_)
          refine lv_aload_n hx hb d_C_stepWide_114 rfl (lv_at hl 1 rfl) ?_
          refine g_C_walk C I k_125 d_C_stepWide_115 ?_
          refine lv_iload_n hx hb d_C_stepWide_118 rfl (lv_at hl 2 rfl) ?_
          refine lv_iload hx hb d_C_stepWide_119 (lv_at hl 0 rfl) ?_
          refine lv_iadd hx hb d_C_stepWide_121 ?_
          refine lv_aload_n hx hb d_C_stepWide_122 rfl (lv_at hl 1 rfl) ?_
          refine g_C_size C I k_117 d_C_stepWide_123 ?_
          obtain ⟨z12, hj24, hk⟩ := bnd_u hk
          have Khj24 : ∀ (H : Heap) (locs : List Loc) (ls : Array Slot), Dy clA D (xW a cs) s H locs u9 → lv_has ls 7 [(0, .ref (a 0)), (2, .int ((u.1 13) + x1)), (4, .int z7), (5, .int z11)] → W p l e rm_C_stepWide s m args below meth c H locs 0 0 Q (F0 m 134 ls [.int z12, .ref (a 4)]) := by
            intro H locs ls I hl
            refine lv_bipush (v := 25) hx hb d_C_stepWide_134 (by decide) ?_
            refine lv_iload_n hx hb d_C_stepWide_136 rfl (lv_at hl 1 rfl) ?_
            obtain ⟨u13, h14, hk⟩ := cV_u hk
            refine go_V I (call_runV (rest := []) C I (c_W_need C.2.2.2.1 C.2.2.2.2.1 l h14 _) wd_W_need (q0 := 4) (ci := 4) rfl rfl k_550 ⟨rfl, rfl⟩ ⟨by decide, by decide⟩ rfl hl.1 rfl (Nat.le_of_ble_eq_true rfl) d_C_stepWide_137) (fun H locs I => ?_)
            refine lv_aload_n hx hb d_C_stepWide_140 rfl (lv_at hl 0 rfl) ?_
            refine g_C_walk C I k_125 d_C_stepWide_141 ?_
            refine lv_iload_n hx hb d_C_stepWide_144 rfl (lv_at hl 1 rfl) ?_
            refine lv_iconst (v := 2) hx hb d_C_stepWide_145 (by decide) ?_
            refine lv_iadd hx hb d_C_stepWide_146 ?_
            refine lv_iconst (v := 2) hx hb d_C_stepWide_147 (by decide) ?_
            obtain ⟨r17, u15, h16, hk⟩ := cI_u hk
            refine go_I I (call_runV (rest := []) C I (c_W_numberAt C.2.2.2.1 C.2.2.2.2.1 l h16 _) wd_W_numberAt (q0 := 4) (ci := 4) rfl rfl k_556 ⟨rfl, rfl⟩ ⟨by decide, by decide⟩ rfl hl.1 rfl (Nat.le_of_ble_eq_true rfl) d_C_stepWide_148) (fun H locs I => ?_)
            refine lv_istore (lv' := [(6, .int r17), (0, .ref (a 0)), (2, .int ((u.1 13) + x1)), (4, .int z7), (5, .int z11)]) hx hb d_C_stepWide_151 hl (by decide) rfl (fun ls hl => ?_)
            refine lv_aload_n hx hb d_C_stepWide_153 rfl (lv_at hl 1 rfl) ?_
            refine g_C_walk C I k_125 d_C_stepWide_154 ?_
            refine lv_iload hx hb d_C_stepWide_157 (lv_at hl 0 rfl) ?_
            refine lv_iload hx hb d_C_stepWide_159 (lv_at hl 3 rfl) ?_
            refine lv_bipush (v := 8) hx hb d_C_stepWide_161 (by decide) ?_
            obtain ⟨z18, hj23, hk⟩ := bnd_u hk
            have Khj23 : ∀ (H : Heap) (locs : List Loc) (ls : Array Slot), Dy clA D (xW a cs) s H locs u15 → lv_has ls 7 [(0, .ref (a 0)), (2, .int ((u.1 13) + x1)), (5, .int z11)] → W p l e rm_C_stepWide s m args below meth c H locs 0 0 Q (F0 m 171 ls [.int z18, .int r17, .ref (a 4)]) := by
              intro H locs ls I hl
              refine lv_iadd hx hb d_C_stepWide_171 ?_
              refine lv_aload_n hx hb d_C_stepWide_172 rfl (lv_at hl 0 rfl) ?_
              refine g_C_locals C I k_115 d_C_stepWide_173 ?_
              obtain ⟨z19, hj22, hk⟩ := bnd_u hk
              have Khj22 : ∀ (H : Heap) (locs : List Loc) (ls : Array Slot), Dy clA D (xW a cs) s H locs u15 → lv_has ls 7 [(2, .int ((u.1 13) + x1)), (5, .int z11)] → W p l e rm_C_stepWide s m args below meth c H locs 0 0 Q (F0 m 184 ls [.int z19, .ref (a 4)]) := by
                intro H locs ls I hl
                refine lv_bipush (v := 23) hx hb d_C_stepWide_184 (by decide) ?_
                refine lv_iload_n hx hb d_C_stepWide_186 rfl (lv_at hl 0 rfl) ?_
                obtain ⟨u20, h21, hk⟩ := cV_u hk
                refine go_V I (call_runV (rest := []) C I (c_W_need C.2.2.2.1 C.2.2.2.2.1 l h21 _) wd_W_need (q0 := 4) (ci := 4) rfl rfl k_550 ⟨rfl, rfl⟩ ⟨by decide, by decide⟩ rfl hl.1 rfl (Nat.le_of_ble_eq_true rfl) d_C_stepWide_187) (fun H locs I => ?_)
                refine lv_iload hx hb d_C_stepWide_190 (lv_at hl 1 rfl) ?_
                exact hQ _ _ _ _ _ _ I hk d_C_stepWide_192
              refine lv_icmp_gt (tgt := 183) hx hb d_C_stepWide_176 (by decide) (fun hc => ?_) (fun hc => ?_)
              · replace hj22 := it_u hc hj22
                refine lv_iconst (v := 0) hx hb d_C_stepWide_183 (by decide) ?_
                obtain rfl := ep1 hj22
                exact Khj22 _ _ _ I (lv_sub hl [1, 2] rfl)
              · replace hj22 := ie_u hc hj22
                refine lv_iconst (v := 1) hx hb d_C_stepWide_179 (by decide) ?_
                refine lv_goto (tgt := 184) hx hb d_C_stepWide_180 (by decide) ?_
                obtain rfl := ep1 hj22
                exact Khj22 _ _ _ I (lv_sub hl [1, 2] rfl)
            refine lv_icmp_ne (tgt := 170) hx hb d_C_stepWide_163 (by decide) (fun hc => ?_) (fun hc => ?_)
            · replace hj23 := ie_u hc hj23
              refine lv_iconst (v := 1) hx hb d_C_stepWide_170 (by decide) ?_
              obtain rfl := ep1 hj23
              exact Khj23 _ _ _ I (lv_sub hl [1, 2, 4] rfl)
            · replace hj23 := it_u hc hj23
              refine lv_iconst (v := 2) hx hb d_C_stepWide_166 (by decide) ?_
              refine lv_goto (tgt := 171) hx hb d_C_stepWide_167 (by decide) ?_
              obtain rfl := ep1 hj23
              exact Khj23 _ _ _ I (lv_sub hl [1, 2, 4] rfl)
          refine lv_icmp_gt (tgt := 133) hx hb d_C_stepWide_126 (by decide) (fun hc => ?_) (fun hc => ?_)
          · replace hj24 := it_u hc hj24
            refine lv_iconst (v := 0) hx hb d_C_stepWide_133 (by decide) ?_
            obtain rfl := ep1 hj24
            exact Khj24 _ _ _ I (lv_sub hl [1, 3, 4, 0] rfl)
          · replace hj24 := ie_u hc hj24
            refine lv_iconst (v := 1) hx hb d_C_stepWide_129 (by decide) ?_
            refine lv_goto (tgt := 134) hx hb d_C_stepWide_130 (by decide) ?_
            obtain rfl := ep1 hj24
            exact Khj24 _ _ _ I (lv_sub hl [1, 3, 4, 0] rfl)
        refine lv_icmp_ne (tgt := 111) hx hb d_C_stepWide_103 (by decide) (fun hc => ?_) (fun hc => ?_)
        · replace hj25 := ie_u hc hj25
          refine lv_iconst (v := 4) hx hb d_C_stepWide_111 (by decide) ?_
          obtain rfl := ep1 hj25
          exact Khj25 _ _ _ I (lv_sub hl [0, 1, 2, 3] rfl)
        · replace hj25 := it_u hc hj25
          refine lv_bipush (v := 6) hx hb d_C_stepWide_106 (by decide) ?_
          refine lv_goto (tgt := 112) hx hb d_C_stepWide_108 (by decide) ?_
          obtain rfl := ep1 hj25
          exact Khj25 _ _ _ I (lv_sub hl [0, 1, 2, 3] rfl)
      refine lv_icmp_eq (tgt := 88) hx hb d_C_stepWide_71 (by decide) (fun hc => ?_) (fun hc => ?_)
      · replace hj26 := it_u hc hj26
        refine lv_iconst (v := 1) hx hb d_C_stepWide_88 (by decide) ?_
        refine lv_goto (tgt := 93) hx hb d_C_stepWide_89 (by decide) ?_
        obtain rfl := ep1 hj26
        exact Khj26 _ _ _ I (lv_sub hl [1, 2, 3, 0] rfl)
      · replace hj26 := ie_u hc hj26
        refine lv_iload hx hb d_C_stepWide_74 (lv_at hl 0 rfl) ?_
        refine lv_bipush (v := 8) hx hb d_C_stepWide_76 (by decide) ?_
        refine lv_icmp_eq (tgt := 88) hx hb d_C_stepWide_78 (by decide) (fun hc => ?_) (fun hc => ?_)
        · replace hj26 := it_u hc hj26
          refine lv_iconst (v := 1) hx hb d_C_stepWide_88 (by decide) ?_
          refine lv_goto (tgt := 93) hx hb d_C_stepWide_89 (by decide) ?_
          obtain rfl := ep1 hj26
          exact Khj26 _ _ _ I (lv_sub hl [1, 2, 3, 0] rfl)
        · replace hj26 := ie_u hc hj26
          refine lv_iload hx hb d_C_stepWide_81 (lv_at hl 0 rfl) ?_
          refine lv_bipush (v := 11) hx hb d_C_stepWide_83 (by decide) ?_
          refine lv_icmp_ne (tgt := 92) hx hb d_C_stepWide_85 (by decide) (fun hc => ?_) (fun hc => ?_)
          · replace hj26 := ie_u hc hj26
            refine lv_iconst (v := 0) hx hb d_C_stepWide_92 (by decide) ?_
            obtain rfl := ep1 hj26
            exact Khj26 _ _ _ I (lv_sub hl [1, 2, 3, 0] rfl)
          · replace hj26 := it_u hc hj26
            refine lv_iconst (v := 1) hx hb d_C_stepWide_88 (by decide) ?_
            refine lv_goto (tgt := 93) hx hb d_C_stepWide_89 (by decide) ?_
            obtain rfl := ep1 hj26
            exact Khj26 _ _ _ I (lv_sub hl [1, 2, 3, 0] rfl)
    refine lv_icmp_ge (tgt := 60) hx hb d_C_stepWide_49 (by decide) (fun hc => ?_) (fun hc => ?_)
    · replace hj27 := it_u hc hj27
      refine lv_iconst (v := 0) hx hb d_C_stepWide_60 (by decide) ?_
      obtain rfl := eo1 hj27
      exact Khj27 _ _ _ I (lv_sub hl [1, 2, 3] rfl)
    · replace hj27 := ie_u hc hj27
      refine gs_FORMS C I k_557 d_C_stepWide_52 ?_
      refine lv_iload_n hx hb d_C_stepWide_55 rfl (lv_at hl 0 rfl) ?_
      obtain ⟨hi, hj27⟩ := gd_u hj27
      refine lt_FORMS C I hi d_C_stepWide_56 ?_
      refine lv_goto (tgt := 61) hx hb d_C_stepWide_57 (by decide) ?_
      obtain rfl := eo1 hj27
      exact Khj27 _ _ _ I (lv_sub hl [1, 2, 3] rfl)
  refine lv_icmp_ge (tgt := 25) hx hb d_C_stepWide_18 (by decide) (fun hc => ?_) (fun hc => ?_)
  · replace hj28 := it_u hc hj28
    refine lv_iconst (v := 0) hx hb d_C_stepWide_25 (by decide) ?_
    obtain rfl := ep1 hj28
    exact Khj28 _ _ _ I (lv_sub hl [1, 2, 0] rfl)
  · replace hj28 := ie_u hc hj28
    refine lv_iconst (v := 1) hx hb d_C_stepWide_21 (by decide) ?_
    refine lv_goto (tgt := 26) hx hb d_C_stepWide_22 (by decide) ?_
    obtain rfl := ep1 hj28
    exact Khj28 _ _ _ I (lv_sub hl [1, 2, 0] rfl)
def rm_C_step : Room := { frames := 3, cells := 0, slots := 0, locals := 75 }
noncomputable def f_C_step (u : St) (x1 : Int32) : Option (Int32 × St) := cI (f_W_numberAt u ((u.1 13) + x1) 1) fun r3 u1 => cT (if 202 ≤ r3 then (some (0)) else (gd r3 202 (some ((tab_FORMS r3.toNatClampNeg))))) fun (z4 : Int32) => if z4 = 0 then (cV (f_W_need u1 0 22 ((u1.1 13) + x1)) fun u5 => some (1, u5)) else (if z4 = 1 then (some (1, u1)) else (if z4 = 14 then (cI (f_C_stepTable u1 x1) fun r9 u7 => some (r9, u7)) else (if z4 = 15 then (cI (f_C_stepPairs u1 x1) fun r12 u10 => some (r12, u10)) else (if z4 = 22 then (cI (f_C_stepWide u1 x1) fun r15 u13 => some (r15, u13)) else (cI (f_C_stepFixed u1 x1 r3 z4) fun r18 u16 => some (r18, u16))))))
set_option maxHeartbeats 4000000 in
set_option maxRecDepth 100000 in
theorem c_C_step {sk sv9 st : Nat → Nat} {D : va_G} {cs : Nat → ClassId} {a : Nat → Nat} (hw : wD (xW a cs)) (hz : zOK (xZ sk sv9 st)) (l : Launch) {u : St} {x1 : Int32} {r : Int32} {u' : St} (hk : f_C_step u x1 = some (r, u')) : KI clA D cs (xW a cs) (xZ sk sv9 st) l y_C_step (.code y_C_step prog_2_method_4_code 4 (Option.some Jvm.ClassFile.FieldType.int)) rm_C_step [.ref (a 0), .int x1] u r u' := by
  unfold f_C_step at hk
  refine KI.of (by decide) (Nat.le_of_ble_eq_true rfl) rfl hw hz ?_
  intro p e s m args below meth c Q C I hQ ls hl
  have hl : lv_has ls 4 [(0, .ref (a 0)), (1, .int x1)] := hl
  have hx := C.1.1
  have hb := C.1.2.1
  refine lv_aload_n hx hb d_C_step_0 rfl (lv_at hl 0 rfl) ?_
  refine g_C_walk C I k_125 d_C_step_1 ?_
  refine lv_aload_n hx hb d_C_step_4 rfl (lv_at hl 0 rfl) ?_
  refine g_C_base C I k_130 d_C_step_5 ?_
  refine lv_iload_n hx hb d_C_step_8 rfl (lv_at hl 1 rfl) ?_
  refine lv_iadd hx hb d_C_step_9 ?_
  refine lv_iconst (v := 1) hx hb d_C_step_10 (by decide) ?_
  obtain ⟨r3, u1, h2, hk⟩ := cI_u hk
  refine go_I I (call_runV (rest := []) C I (c_W_numberAt C.2.2.2.1 C.2.2.2.2.1 l h2 _) wd_W_numberAt (q0 := 4) (ci := 4) rfl rfl k_556 ⟨rfl, rfl⟩ ⟨by decide, by decide⟩ rfl hl.1 rfl (Nat.le_of_ble_eq_true rfl) d_C_step_11) (fun H locs I => ?_)
  refine lv_istore_n (lv' := [(2, .int r3), (0, .ref (a 0)), (1, .int x1)]) hx hb d_C_step_14 rfl hl (by decide) rfl (fun ls hl => ?_)
  refine lv_iload_n hx hb d_C_step_15 rfl (lv_at hl 0 rfl) ?_
  refine gs_FORMS C I k_557 d_C_step_16 ?_
  refine nt_FORMS C I d_C_step_19 ?_
  obtain ⟨z4, hj19, hk⟩ := cT_u hk
  have Khj19 : ∀ (H : Heap) (locs : List Loc) (ls : Array Slot), Dy clA D (xW a cs) s H locs u1 → lv_has ls 4 [(0, .ref (a 0)), (1, .int x1), (2, .int r3)] → W p l e rm_C_step s m args below meth c H locs 0 0 Q (F0 m 32 ls [.int z4]) := by
    intro H locs ls I hl
    refine lv_istore_n (lv' := [(3, .int z4), (0, .ref (a 0)), (1, .int x1), (2, .int r3)]) hx hb d_C_step_32 rfl hl (by decide) rfl (fun ls hl => ?_)
    refine lv_iload_n hx hb d_C_step_33 rfl (lv_at hl 0 rfl) ?_
    by_cases hs0 : z4 = 0
    · replace hk := it_u hs0 hk
      refine lv_lookup (tgt := 84) (off := 50) hx hb d_C_step_34 (by decide) (by rw [hs0]; decide) (by decide) ?_
      refine lv_aload_n hx hb d_C_step_84 rfl (lv_at hl 1 rfl) ?_
      refine g_C_walk C I k_125 d_C_step_85 ?_
      refine lv_iconst (v := 0) hx hb d_C_step_88 (by decide) ?_
      refine lv_bipush (v := 22) hx hb d_C_step_89 (by decide) ?_
      refine lv_aload_n hx hb d_C_step_91 rfl (lv_at hl 1 rfl) ?_
      refine g_C_base C I k_130 d_C_step_92 ?_
      refine lv_iload_n hx hb d_C_step_95 rfl (lv_at hl 2 rfl) ?_
      refine lv_iadd hx hb d_C_step_96 ?_
      obtain ⟨u5, h6, hk⟩ := cV_u hk
      refine go_V I (call_runV (rest := []) C I (c_W_need C.2.2.2.1 C.2.2.2.2.1 l h6 _) wd_W_need (q0 := 4) (ci := 4) rfl rfl k_550 ⟨rfl, rfl⟩ ⟨by decide, by decide⟩ rfl hl.1 rfl (Nat.le_of_ble_eq_true rfl) d_C_step_97) (fun H locs I => ?_)
      refine lv_iconst (v := 1) hx hb d_C_step_100 (by decide) ?_
      exact hQ _ _ _ _ _ _ I hk d_C_step_101
    replace hk := ie_u hs0 hk
    by_cases hs1 : z4 = 1
    · replace hk := it_u hs1 hk
      refine lv_lookup (tgt := 102) (off := 68) hx hb d_C_step_34 (by decide) (by rw [hs1]; decide) (by decide) ?_
      refine lv_iconst (v := 1) hx hb d_C_step_102 (by decide) ?_
      exact hQ _ _ _ _ _ _ I hk d_C_step_103
    replace hk := ie_u hs1 hk
    by_cases hs2 : z4 = 14
    · replace hk := it_u hs2 hk
      refine lv_lookup (tgt := 104) (off := 70) hx hb d_C_step_34 (by decide) (by rw [hs2]; decide) (by decide) ?_
      refine lv_aload_n hx hb d_C_step_104 rfl (lv_at hl 1 rfl) ?_
      refine lv_iload_n hx hb d_C_step_105 rfl (lv_at hl 2 rfl) ?_
      obtain ⟨r9, u7, h8, hk⟩ := cI_u hk
      refine go_I I (call_runV (rest := []) C I (c_C_stepTable C.2.2.2.1 C.2.2.2.2.1 l h8 _) wd_C_stepTable (q0 := 0) (ci := 0) rfl rfl k_559 ⟨rfl, rfl⟩ ⟨by decide, by decide⟩ rfl hl.1 rfl (Nat.le_of_ble_eq_true rfl) d_C_step_106) (fun H locs I => ?_)
      exact hQ _ _ _ _ _ _ I hk d_C_step_109
    replace hk := ie_u hs2 hk
    by_cases hs3 : z4 = 15
    · replace hk := it_u hs3 hk
      refine lv_lookup (tgt := 110) (off := 76) hx hb d_C_step_34 (by decide) (by rw [hs3]; decide) (by decide) ?_
      refine lv_aload_n hx hb d_C_step_110 rfl (lv_at hl 1 rfl) ?_
      refine lv_iload_n hx hb d_C_step_111 rfl (lv_at hl 2 rfl) ?_
      obtain ⟨r12, u10, h11, hk⟩ := cI_u hk
      refine go_I I (call_runV (rest := []) C I (c_C_stepPairs C.2.2.2.1 C.2.2.2.2.1 l h11 _) wd_C_stepPairs (q0 := 0) (ci := 0) rfl rfl k_576 ⟨rfl, rfl⟩ ⟨by decide, by decide⟩ rfl hl.1 rfl (Nat.le_of_ble_eq_true rfl) d_C_step_112) (fun H locs I => ?_)
      exact hQ _ _ _ _ _ _ I hk d_C_step_115
    replace hk := ie_u hs3 hk
    by_cases hs4 : z4 = 22
    · replace hk := it_u hs4 hk
      refine lv_lookup (tgt := 116) (off := 82) hx hb d_C_step_34 (by decide) (by rw [hs4]; decide) (by decide) ?_
      refine lv_aload_n hx hb d_C_step_116 rfl (lv_at hl 1 rfl) ?_
      refine lv_iload_n hx hb d_C_step_117 rfl (lv_at hl 2 rfl) ?_
      obtain ⟨r15, u13, h14, hk⟩ := cI_u hk
      refine go_I I (call_runV (rest := []) C I (c_C_stepWide C.2.2.2.1 C.2.2.2.2.1 l h14 _) wd_C_stepWide (q0 := 0) (ci := 0) rfl rfl k_580 ⟨rfl, rfl⟩ ⟨by decide, by decide⟩ rfl hl.1 rfl (Nat.le_of_ble_eq_true rfl) d_C_step_118) (fun H locs I => ?_)
      exact hQ _ _ _ _ _ _ I hk d_C_step_121
    replace hk := ie_u hs4 hk
    have n0 : ¬ z4 = 0 := fun h => hs0 h
    have n1 : ¬ z4 = 1 := fun h => hs1 h
    have n14 : ¬ z4 = 14 := fun h => hs2 h
    have n15 : ¬ z4 = 15 := fun h => hs3 h
    have n22 : ¬ z4 = 22 := fun h => hs4 h
    refine lv_lookup (tgt := 122) (off := 88) hx hb d_C_step_34 (by decide) (by show Op.lookupswitch.offset [(0, 50), (1, 68), (14, 70), (15, 76), (22, 82)] _ _ = _; rw [lv_osw (k := 0) n0 (by decide), lv_osw (k := 1) n1 (by decide), lv_osw (k := 14) n14 (by decide), lv_osw (k := 15) n15 (by decide), lv_osw (k := 22) n22 (by decide)]; rfl) (by decide) ?_
    refine lv_aload_n hx hb d_C_step_122 rfl (lv_at hl 1 rfl) ?_
    refine lv_iload_n hx hb d_C_step_123 rfl (lv_at hl 2 rfl) ?_
    refine lv_iload_n hx hb d_C_step_124 rfl (lv_at hl 3 rfl) ?_
    refine lv_iload_n hx hb d_C_step_125 rfl (lv_at hl 0 rfl) ?_
    obtain ⟨r18, u16, h17, hk⟩ := cI_u hk
    refine go_I I (call_runV (rest := []) C I (c_C_stepFixed C.2.2.2.1 C.2.2.2.2.1 l h17 _) wd_C_stepFixed (q0 := 0) (ci := 0) rfl rfl k_584 ⟨rfl, rfl⟩ ⟨by decide, by decide⟩ rfl hl.1 rfl (Nat.le_of_ble_eq_true rfl) d_C_step_126) (fun H locs I => ?_)
    exact hQ _ _ _ _ _ _ I hk d_C_step_129
  refine lv_icmp_ge (tgt := 31) hx hb d_C_step_20 (by decide) (fun hc => ?_) (fun hc => ?_)
  · replace hj19 := it_u hc hj19
    refine lv_iconst (v := 0) hx hb d_C_step_31 (by decide) ?_
    obtain rfl := eo1 hj19
    exact Khj19 _ _ _ I (lv_sub hl [1, 2, 0] rfl)
  · replace hj19 := ie_u hc hj19
    refine gs_FORMS C I k_557 d_C_step_23 ?_
    refine lv_iload_n hx hb d_C_step_26 rfl (lv_at hl 0 rfl) ?_
    obtain ⟨hi, hj19⟩ := gd_u hj19
    refine lt_FORMS C I hi d_C_step_27 ?_
    refine lv_goto (tgt := 32) hx hb d_C_step_28 (by decide) ?_
    obtain rfl := eo1 hj19
    exact Khj19 _ _ _ I (lv_sub hl [1, 2, 0] rfl)
def rm_C_readAll : Room := { frames := 4, cells := 0, slots := 0, locals := 98 }
noncomputable def f_C_readAll_L15 : Nat → St → Int32 → Int32 → Option (St × Int32)
  | 0, _, _, _ => none
  | n + 1, u, x3, x4 => if (u.1 9) ≤ x4 then (some (u, x3)) else (if 2000 ≤ x4 then (some (u, x3)) else (cI (f_W_sound u) fun r6 u4 => if r6 = 0 then (some (u4, x3)) else (gd x4 2000 (bnd (sa u4 9 x4.toNatClampNeg (vp_nar .byte 1)) fun u7 => bnd (sv u7 10 ((u7.1 10) + 1)) fun u8 => cI (f_C_step u8 x4) fun r11 u9 => f_C_readAll_L15 n u9 x4 (x4 + (if 1 < r11 then r11 else 1))))))
noncomputable def f_C_readAll_L84 (x3 : Int32) : Nat → St → Int32 → Option (St)
  | 0, _, _ => none
  | n + 1, u, x5 => if (u.1 11) ≤ x5 then (some (u)) else (cI (f_W_sound u) fun r16 u14 => if r16 = 0 then (some (u14)) else (gd x5 667 (cI (f_C_isFirst u14 (u14.2 11 x5.toNatClampNeg)) fun r19 u17 => gd x5 667 (cV (f_W_need u17 r19 26 ((u17.1 13) + (u17.2 10 x5.toNatClampNeg))) fun u20 => f_C_readAll_L84 x3 n u20 (x5 + 1)))))
noncomputable def f_C_readAll (u : St) (x1 : Int32) (x2 : Int32) : Option (St) := bnd (sv u 14 x1) fun u1 => cV (f_C_readSizes u1 x2) fun u2 => cT (f_C_readAll_L15 FU u2 0 0) fun (p48 : St × Int32) => cT (f_C_readAll_L84 p48.2 FU p48.1 0) fun (u22 : St) => cI (f_W_numberAt u22 ((u22.1 13) + p48.2) 1) fun r25 u23 => cI (f_C_mayBeLast u23 r25) fun r28 u26 => cV (f_W_need u26 r28 27 ((u26.1 13) + p48.2)) fun u29 => cI (f_W_sound u29) fun r33 u31 => cT (if r33 = 0 then (some (u31)) else (bnd (sv u31 1 ((u31.1 13) + (u31.1 9))) fun u43 => cV (f_C_readRows u43) fun u44 => some (u44))) fun (u34 : St) => cI (f_W_next u34 2) fun r37 u35 => bnd (if r37 = 0 then (1) else (0)) fun (z38 : Int32) => cV (f_W_need u35 z38 19 (u34.1 1)) fun u39 => some u39
set_option maxHeartbeats 4000000 in
set_option maxRecDepth 100000 in
theorem w_C_readAll_L15 {sk sv9 st : Nat → Nat} {D : va_G} {cs : Nat → ClassId} {a : Nat → Nat} {p : Program} {l : Launch} {e : Env} {s : State} {m : MethodId} {args : Array Value} {below : List Frame} {meth : Method} {c : Code} {Q : State → Prop}  {u2 : St} {o3 : Int32} (C : Cx clA R_C prog_2_method_2_code 6 D cs (xW a cs) (xZ sk sv9 st) p s m args c) (hE : ∀ (H : Heap) (locs : List Loc) (ls : Array Slot), Dy clA D (xW a cs) s H locs u2 → lv_has ls 6 [(0, .ref (a 0)), (3, .int o3)] → W p l e rm_C_readAll s m args below meth c H locs 0 0 Q (F0 m 81 ls [])) : ∀ (n : Nat) (u : St) (x3 : Int32) (x4 : Int32) (H : Heap) (locs : List Loc) (ls : Array Slot), f_C_readAll_L15 n u x3 x4 = some (u2, o3) → Dy clA D (xW a cs) s H locs u → lv_has ls 6 [(0, .ref (a 0)), (3, .int x3), (4, .int x4)] → W p l e rm_C_readAll s m args below meth c H locs 0 0 Q (F0 m 15 ls []) := by
  have hx := C.1.1
  have hb := C.1.2.1
  intro n
  induction n with
  | zero =>
    intro u x3 x4 H locs ls hk I hl
    rw [f_C_readAll_L15] at hk
    cases hk
  | succ n ih =>
    intro u x3 x4 H locs ls hk I hl
    rw [f_C_readAll_L15] at hk
    refine lv_iload hx hb d_C_readAll_15 (lv_at hl 2 rfl) ?_
    refine lv_aload_n hx hb d_C_readAll_17 rfl (lv_at hl 0 rfl) ?_
    refine g_C_size C I k_117 d_C_readAll_18 ?_
    refine lv_icmp_ge (tgt := 81) hx hb d_C_readAll_21 (by decide) (fun hc => ?_) (fun hc => ?_)
    · replace hk := it_u hc hk
      obtain ⟨rfl, rfl⟩ := eo2 hk
      exact hE _ _ _ I (lv_sub hl [0, 1] rfl)
    · replace hk := ie_u hc hk
      refine lv_iload hx hb d_C_readAll_24 (lv_at hl 2 rfl) ?_
      refine lv_sipush (v := 2000) hx hb d_C_readAll_26 (by decide) ?_
      refine lv_icmp_ge (tgt := 81) hx hb d_C_readAll_29 (by decide) (fun hc => ?_) (fun hc => ?_)
      · replace hk := it_u hc hk
        obtain ⟨rfl, rfl⟩ := eo2 hk
        exact hE _ _ _ I (lv_sub hl [0, 1] rfl)
      · replace hk := ie_u hc hk
        refine lv_aload_n hx hb d_C_readAll_32 rfl (lv_at hl 0 rfl) ?_
        refine g_C_walk C I k_125 d_C_readAll_33 ?_
        obtain ⟨r6, u4, h5, hk⟩ := cI_u hk
        refine go_I I (call_runV (rest := []) C I (c_W_sound C.2.2.2.1 C.2.2.2.2.1 l h5 _) wd_W_sound (q0 := 4) (ci := 4) rfl rfl k_551 ⟨rfl, rfl⟩ ⟨by decide, by decide⟩ rfl hl.1 rfl (Nat.le_of_ble_eq_true rfl) d_C_readAll_36) (fun H locs I => ?_)
        refine lv_if_eq (tgt := 81) hx hb d_C_readAll_39 (by decide) (fun hc => ?_) (fun hc => ?_)
        · replace hk := it_u hc hk
          obtain ⟨rfl, rfl⟩ := eo2 hk
          exact hE _ _ _ I (lv_sub hl [0, 1] rfl)
        · replace hk := ie_u hc hk
          refine lv_aload_n hx hb d_C_readAll_42 rfl (lv_at hl 0 rfl) ?_
          refine g_C_firsts C I k_127 d_C_readAll_43 ?_
          refine lv_iload hx hb d_C_readAll_46 (lv_at hl 2 rfl) ?_
          refine lv_iconst (v := 1) hx hb d_C_readAll_48 (by decide) ?_
          obtain ⟨hi, hk⟩ := gd_u hk
          refine s_C_firsts C I hi d_C_readAll_49 (fun H locs I => ?_)
          obtain ⟨u7, hu, hk⟩ := bnd_u hk
          rw [hu] at I
          clear hu
          refine lv_aload_n hx hb d_C_readAll_50 rfl (lv_at hl 0 rfl) ?_
          refine lv_dup hx hb d_C_readAll_51 rfl ?_
          refine g_C_instructions C I k_119 d_C_readAll_52 ?_
          refine lv_iconst (v := 1) hx hb d_C_readAll_55 (by decide) ?_
          refine lv_iadd hx hb d_C_readAll_56 ?_
          refine p_C_instructions C I k_119 d_C_readAll_57 (fun H locs I => ?_)
          obtain ⟨u8, hu, hk⟩ := bnd_u hk
          rw [hu] at I
          clear hu
          refine lv_iload hx hb d_C_readAll_60 (lv_at hl 2 rfl) ?_
          refine lv_istore_n (lv' := [(3, .int x4), (0, .ref (a 0)), (4, .int x4)]) hx hb d_C_readAll_62 rfl hl (by decide) rfl (fun ls hl => ?_)
          refine lv_iload hx hb d_C_readAll_63 (lv_at hl 2 rfl) ?_
          refine lv_iconst (v := 1) hx hb d_C_readAll_65 (by decide) ?_
          refine lv_aload_n hx hb d_C_readAll_66 rfl (lv_at hl 1 rfl) ?_
          refine lv_iload hx hb d_C_readAll_67 (lv_at hl 2 rfl) ?_
          obtain ⟨r11, u9, h10, hk⟩ := cI_u hk
          refine go_I I (call_runV (rest := [.int 1, .int x4]) C I (c_C_step C.2.2.2.1 C.2.2.2.2.1 l h10 _) wd_C_step (q0 := 0) (ci := 0) rfl rfl k_552 ⟨rfl, rfl⟩ ⟨by decide, by decide⟩ rfl hl.1 rfl (Nat.le_of_ble_eq_true rfl) d_C_readAll_69) (fun H locs I => ?_)
          refine va_mmax hx hb (C.1.2.2.1.trans hl.1.symm) C.1.2.2.2 (C.2.1 _ k_606) (C.2.1 _ k_607) (C.2.1 _ k_9) (C.2.1 _ k_608) (by decide) (Nat.le_of_ble_eq_true rfl) (Nat.zero_le _) (Nat.zero_le _) d_C_readAll_72 ?_
          refine lv_iadd hx hb d_C_readAll_75 ?_
          refine lv_istore (lv' := [(4, .int (x4 + (if 1 < r11 then r11 else 1))), (3, .int x4), (0, .ref (a 0))]) hx hb d_C_readAll_76 hl (by decide) rfl (fun ls hl => ?_)
          refine lv_goto (tgt := 15) hx hb d_C_readAll_78 (by decide) ?_
          exact ih u9 x4 (x4 + (if 1 < r11 then r11 else 1)) _ _ _ hk I (lv_sub hl [2, 1, 0] rfl)
set_option maxHeartbeats 4000000 in
set_option maxRecDepth 100000 in
theorem w_C_readAll_L84 {sk sv9 st : Nat → Nat} {D : va_G} {cs : Nat → ClassId} {a : Nat → Nat} {p : Program} {l : Launch} {e : Env} {s : State} {m : MethodId} {args : Array Value} {below : List Frame} {meth : Method} {c : Code} {Q : State → Prop}  {u2 : St} {x3 : Int32} (C : Cx clA R_C prog_2_method_2_code 6 D cs (xW a cs) (xZ sk sv9 st) p s m args c) (hE : ∀ (H : Heap) (locs : List Loc) (ls : Array Slot), Dy clA D (xW a cs) s H locs u2 → lv_has ls 6 [(0, .ref (a 0)), (3, .int x3)] → W p l e rm_C_readAll s m args below meth c H locs 0 0 Q (F0 m 141 ls [])) : ∀ (n : Nat) (u : St) (x5 : Int32) (H : Heap) (locs : List Loc) (ls : Array Slot), f_C_readAll_L84 x3 n u x5 = some u2 → Dy clA D (xW a cs) s H locs u → lv_has ls 6 [(0, .ref (a 0)), (3, .int x3), (5, .int x5)] → W p l e rm_C_readAll s m args below meth c H locs 0 0 Q (F0 m 84 ls []) := by
  have hx := C.1.1
  have hb := C.1.2.1
  intro n
  induction n with
  | zero =>
    intro u x5 H locs ls hk I hl
    rw [f_C_readAll_L84] at hk
    cases hk
  | succ n ih =>
    intro u x5 H locs ls hk I hl
    rw [f_C_readAll_L84] at hk
    refine lv_iload hx hb d_C_readAll_84 (lv_at hl 2 rfl) ?_
    refine lv_aload_n hx hb d_C_readAll_86 rfl (lv_at hl 0 rfl) ?_
    refine g_C_jumps C I k_121 d_C_readAll_87 ?_
    refine lv_icmp_ge (tgt := 141) hx hb d_C_readAll_90 (by decide) (fun hc => ?_) (fun hc => ?_)
    · replace hk := it_u hc hk
      obtain rfl := eo1 hk
      exact hE _ _ _ I (lv_sub hl [0, 1] rfl)
    · replace hk := ie_u hc hk
      refine lv_aload_n hx hb d_C_readAll_93 rfl (lv_at hl 0 rfl) ?_
      refine g_C_walk C I k_125 d_C_readAll_94 ?_
      obtain ⟨r16, u14, h15, hk⟩ := cI_u hk
      refine go_I I (call_runV (rest := []) C I (c_W_sound C.2.2.2.1 C.2.2.2.2.1 l h15 _) wd_W_sound (q0 := 4) (ci := 4) rfl rfl k_551 ⟨rfl, rfl⟩ ⟨by decide, by decide⟩ rfl hl.1 rfl (Nat.le_of_ble_eq_true rfl) d_C_readAll_97) (fun H locs I => ?_)
      refine lv_if_eq (tgt := 141) hx hb d_C_readAll_100 (by decide) (fun hc => ?_) (fun hc => ?_)
      · replace hk := it_u hc hk
        obtain rfl := eo1 hk
        exact hE _ _ _ I (lv_sub hl [0, 1] rfl)
      · replace hk := ie_u hc hk
        refine lv_aload_n hx hb d_C_readAll_103 rfl (lv_at hl 0 rfl) ?_
        refine g_C_walk C I k_125 d_C_readAll_104 ?_
        refine lv_aload_n hx hb d_C_readAll_107 rfl (lv_at hl 0 rfl) ?_
        refine lv_aload_n hx hb d_C_readAll_108 rfl (lv_at hl 0 rfl) ?_
        refine g_C_aims C I k_129 d_C_readAll_109 ?_
        refine lv_iload hx hb d_C_readAll_112 (lv_at hl 2 rfl) ?_
        obtain ⟨hi, hk⟩ := gd_u hk
        refine l_C_aims C I hi d_C_readAll_114 ?_
        obtain ⟨r19, u17, h18, hk⟩ := cI_u hk
        refine go_I I (call_runV (rest := [.ref (a 4)]) C I (c_C_isFirst C.2.2.2.1 C.2.2.2.2.1 l h18 _) wd_C_isFirst (q0 := 0) (ci := 0) rfl rfl k_609 ⟨rfl, rfl⟩ ⟨by decide, by decide⟩ rfl hl.1 rfl (Nat.le_of_ble_eq_true rfl) d_C_readAll_115) (fun H locs I => ?_)
        refine lv_bipush (v := 26) hx hb d_C_readAll_118 (by decide) ?_
        refine lv_aload_n hx hb d_C_readAll_120 rfl (lv_at hl 0 rfl) ?_
        refine g_C_base C I k_130 d_C_readAll_121 ?_
        refine lv_aload_n hx hb d_C_readAll_124 rfl (lv_at hl 0 rfl) ?_
        refine g_C_origins C I k_128 d_C_readAll_125 ?_
        refine lv_iload hx hb d_C_readAll_128 (lv_at hl 2 rfl) ?_
        obtain ⟨hi, hk⟩ := gd_u hk
        refine l_C_origins C I hi d_C_readAll_130 ?_
        refine lv_iadd hx hb d_C_readAll_131 ?_
        obtain ⟨u20, h21, hk⟩ := cV_u hk
        refine go_V I (call_runV (rest := []) C I (c_W_need C.2.2.2.1 C.2.2.2.2.1 l h21 _) wd_W_need (q0 := 4) (ci := 4) rfl rfl k_550 ⟨rfl, rfl⟩ ⟨by decide, by decide⟩ rfl hl.1 rfl (Nat.le_of_ble_eq_true rfl) d_C_readAll_132) (fun H locs I => ?_)
        refine lv_iinc (v := (x5 + 1)) (lv' := [(5, .int (x5 + 1)), (0, .ref (a 0)), (3, .int x3)]) hx hb d_C_readAll_135 hl (k := 2) rfl rfl (by decide) rfl (fun ls hl => ?_)
        refine lv_goto (tgt := 84) hx hb d_C_readAll_138 (by decide) ?_
        exact ih u20 (x5 + 1) _ _ _ hk I (lv_sub hl [1, 2, 0] rfl)
set_option maxHeartbeats 4000000 in
set_option maxRecDepth 100000 in
theorem c_C_readAll {sk sv9 st : Nat → Nat} {D : va_G} {cs : Nat → ClassId} {a : Nat → Nat} (hw : wD (xW a cs)) (hz : zOK (xZ sk sv9 st)) (l : Launch) {u : St} {x1 : Int32} {x2 : Int32} {u' : St} (hk : f_C_readAll u x1 x2 = some u') : KV clA D cs (xW a cs) (xZ sk sv9 st) l y_C_readAll (.code y_C_readAll prog_2_method_2_code 6 (Option.none : Option Jvm.ClassFile.FieldType)) rm_C_readAll [.ref (a 0), .int x1, .int x2] u u' := by
  unfold f_C_readAll at hk
  refine KV.of (by decide) (Nat.le_of_ble_eq_true rfl) hw hz ?_
  intro p e s m args below meth c Q C I hQ ls hl
  have hl : lv_has ls 6 [(0, .ref (a 0)), (1, .int x1), (2, .int x2)] := hl
  have hx := C.1.1
  have hb := C.1.2.1
  refine lv_aload_n hx hb d_C_readAll_0 rfl (lv_at hl 0 rfl) ?_
  refine lv_iload_n hx hb d_C_readAll_1 rfl (lv_at hl 1 rfl) ?_
  refine p_C_version C I k_131 d_C_readAll_2 (fun H locs I => ?_)
  obtain ⟨u1, hu, hk⟩ := bnd_u hk
  rw [hu] at I
  clear hu
  refine lv_aload_n hx hb d_C_readAll_5 rfl (lv_at hl 0 rfl) ?_
  refine lv_iload_n hx hb d_C_readAll_6 rfl (lv_at hl 2 rfl) ?_
  obtain ⟨u2, h3, hk⟩ := cV_u hk
  refine go_V I (call_runV (rest := []) C I (c_C_readSizes C.2.2.2.1 C.2.2.2.2.1 l h3 _) wd_C_readSizes (q0 := 0) (ci := 0) rfl rfl k_545 ⟨rfl, rfl⟩ ⟨by decide, by decide⟩ rfl hl.1 rfl (Nat.le_of_ble_eq_true rfl) d_C_readAll_7) (fun H locs I => ?_)
  refine lv_iconst (v := 0) hx hb d_C_readAll_10 (by decide) ?_
  refine lv_istore_n (lv' := [(3, .int 0), (0, .ref (a 0)), (1, .int x1), (2, .int x2)]) hx hb d_C_readAll_11 rfl hl (by decide) rfl (fun ls hl => ?_)
  refine lv_iconst (v := 0) hx hb d_C_readAll_12 (by decide) ?_
  refine lv_istore (lv' := [(4, .int 0), (3, .int 0), (0, .ref (a 0)), (1, .int x1), (2, .int x2)]) hx hb d_C_readAll_13 hl (by decide) rfl (fun ls hl => ?_)
  obtain ⟨⟨u12, z13⟩, hj47, hk⟩ := cT_u hk
  refine w_C_readAll_L15 C (fun H locs ls I hl => ?_) FU u2 0 0 _ _ _ hj47 I (lv_sub hl [2, 1, 0] rfl)
  refine lv_iconst (v := 0) hx hb d_C_readAll_81 (by decide) ?_
  refine lv_istore (lv' := [(5, .int 0), (0, .ref (a 0)), (3, .int z13)]) hx hb d_C_readAll_82 hl (by decide) rfl (fun ls hl => ?_)
  obtain ⟨u22, hj46, hk⟩ := cT_u hk
  refine w_C_readAll_L84 C (fun H locs ls I hl => ?_) FU u12 0 _ _ _ hj46 I (lv_sub hl [1, 2, 0] rfl)
  refine lv_aload_n hx hb d_C_readAll_141 rfl (lv_at hl 0 rfl) ?_
  refine g_C_walk C I k_125 d_C_readAll_142 ?_
  refine lv_aload_n hx hb d_C_readAll_145 rfl (lv_at hl 0 rfl) ?_
  refine g_C_walk C I k_125 d_C_readAll_146 ?_
  refine lv_aload_n hx hb d_C_readAll_149 rfl (lv_at hl 0 rfl) ?_
  refine g_C_base C I k_130 d_C_readAll_150 ?_
  refine lv_iload_n hx hb d_C_readAll_153 rfl (lv_at hl 1 rfl) ?_
  refine lv_iadd hx hb d_C_readAll_154 ?_
  refine lv_iconst (v := 1) hx hb d_C_readAll_155 (by decide) ?_
  obtain ⟨r25, u23, h24, hk⟩ := cI_u hk
  refine go_I I (call_runV (rest := [.ref (a 4)]) C I (c_W_numberAt C.2.2.2.1 C.2.2.2.2.1 l h24 _) wd_W_numberAt (q0 := 4) (ci := 4) rfl rfl k_556 ⟨rfl, rfl⟩ ⟨by decide, by decide⟩ rfl hl.1 rfl (Nat.le_of_ble_eq_true rfl) d_C_readAll_156) (fun H locs I => ?_)
  obtain ⟨r28, u26, h27, hk⟩ := cI_u hk
  refine go_I I (call_runS (rest := [.ref (a 4)]) C I (c_C_mayBeLast C.2.2.2.1 C.2.2.2.2.1 l h27 _) wd_C_mayBeLast k_613 ⟨rfl, rfl⟩ ⟨by decide, by decide⟩ rfl hl.1 rfl (Nat.le_of_ble_eq_true rfl) d_C_readAll_159) (fun H locs I => ?_)
  refine lv_bipush (v := 27) hx hb d_C_readAll_162 (by decide) ?_
  refine lv_aload_n hx hb d_C_readAll_164 rfl (lv_at hl 0 rfl) ?_
  refine g_C_base C I k_130 d_C_readAll_165 ?_
  refine lv_iload_n hx hb d_C_readAll_168 rfl (lv_at hl 1 rfl) ?_
  refine lv_iadd hx hb d_C_readAll_169 ?_
  obtain ⟨u29, h30, hk⟩ := cV_u hk
  refine go_V I (call_runV (rest := []) C I (c_W_need C.2.2.2.1 C.2.2.2.2.1 l h30 _) wd_W_need (q0 := 4) (ci := 4) rfl rfl k_550 ⟨rfl, rfl⟩ ⟨by decide, by decide⟩ rfl hl.1 rfl (Nat.le_of_ble_eq_true rfl) d_C_readAll_170) (fun H locs I => ?_)
  refine lv_aload_n hx hb d_C_readAll_173 rfl (lv_at hl 0 rfl) ?_
  refine g_C_walk C I k_125 d_C_readAll_174 ?_
  obtain ⟨r33, u31, h32, hk⟩ := cI_u hk
  refine go_I I (call_runV (rest := []) C I (c_W_sound C.2.2.2.1 C.2.2.2.2.1 l h32 _) wd_W_sound (q0 := 4) (ci := 4) rfl rfl k_551 ⟨rfl, rfl⟩ ⟨by decide, by decide⟩ rfl hl.1 rfl (Nat.le_of_ble_eq_true rfl) d_C_readAll_177) (fun H locs I => ?_)
  obtain ⟨u34, hj42, hk⟩ := cT_u hk
  have Khj42 : ∀ (H : Heap) (locs : List Loc) (ls : Array Slot), Dy clA D (xW a cs) s H locs u34 → lv_has ls 6 [(0, .ref (a 0))] → W p l e rm_C_readAll s m args below meth c H locs 0 0 Q (F0 m 203 ls []) := by
    intro H locs ls I hl
    refine lv_aload_n hx hb d_C_readAll_203 rfl (lv_at hl 0 rfl) ?_
    refine g_C_walk C I k_125 d_C_readAll_204 ?_
    refine g_W_at C I k_38 d_C_readAll_207 ?_
    refine lv_istore (lv' := [(5, .int (u34.1 1)), (0, .ref (a 0))]) hx hb d_C_readAll_210 hl (by decide) rfl (fun ls hl => ?_)
    refine lv_aload_n hx hb d_C_readAll_212 rfl (lv_at hl 1 rfl) ?_
    refine g_C_walk C I k_125 d_C_readAll_213 ?_
    refine lv_aload_n hx hb d_C_readAll_216 rfl (lv_at hl 1 rfl) ?_
    refine g_C_walk C I k_125 d_C_readAll_217 ?_
    refine lv_iconst (v := 2) hx hb d_C_readAll_220 (by decide) ?_
    obtain ⟨r37, u35, h36, hk⟩ := cI_u hk
    refine go_I I (call_runV (rest := [.ref (a 4)]) C I (c_W_next C.2.2.2.1 C.2.2.2.2.1 l h36 _) wd_W_next (q0 := 4) (ci := 4) rfl rfl k_549 ⟨rfl, rfl⟩ ⟨by decide, by decide⟩ rfl hl.1 rfl (Nat.le_of_ble_eq_true rfl) d_C_readAll_221) (fun H locs I => ?_)
    obtain ⟨z38, hj41, hk⟩ := bnd_u hk
    have Khj41 : ∀ (H : Heap) (locs : List Loc) (ls : Array Slot), Dy clA D (xW a cs) s H locs u35 → lv_has ls 6 [(5, .int (u34.1 1))] → W p l e rm_C_readAll s m args below meth c H locs 0 0 Q (F0 m 232 ls [.int z38, .ref (a 4)]) := by
      intro H locs ls I hl
      refine lv_bipush (v := 19) hx hb d_C_readAll_232 (by decide) ?_
      refine lv_iload hx hb d_C_readAll_234 (lv_at hl 0 rfl) ?_
      obtain ⟨u39, h40, hk⟩ := cV_u hk
      refine go_V I (call_runV (rest := []) C I (c_W_need C.2.2.2.1 C.2.2.2.2.1 l h40 _) wd_W_need (q0 := 4) (ci := 4) rfl rfl k_550 ⟨rfl, rfl⟩ ⟨by decide, by decide⟩ rfl hl.1 rfl (Nat.le_of_ble_eq_true rfl) d_C_readAll_236) (fun H locs I => ?_)
      exact hQ _ _ _ _ _ I hk d_C_readAll_239
    refine lv_if_ne (tgt := 231) hx hb d_C_readAll_224 (by decide) (fun hc => ?_) (fun hc => ?_)
    · replace hj41 := ie_u hc hj41
      refine lv_iconst (v := 0) hx hb d_C_readAll_231 (by decide) ?_
      obtain rfl := ep1 hj41
      exact Khj41 _ _ _ I (lv_sub hl [0] rfl)
    · replace hj41 := it_u hc hj41
      refine lv_iconst (v := 1) hx hb d_C_readAll_227 (by decide) ?_
      refine lv_goto (tgt := 232) hx hb d_C_readAll_228 (by decide) ?_
      obtain rfl := ep1 hj41
      exact Khj41 _ _ _ I (lv_sub hl [0] rfl)
  refine lv_if_eq (tgt := 203) hx hb d_C_readAll_180 (by decide) (fun hc => ?_) (fun hc => ?_)
  · replace hj42 := it_u hc hj42
    obtain rfl := eo1 hj42
    exact Khj42 _ _ _ I (lv_sub hl [0] rfl)
  · replace hj42 := ie_u hc hj42
    refine lv_aload_n hx hb d_C_readAll_183 rfl (lv_at hl 0 rfl) ?_
    refine g_C_walk C I k_125 d_C_readAll_184 ?_
    refine lv_aload_n hx hb d_C_readAll_187 rfl (lv_at hl 0 rfl) ?_
    refine g_C_base C I k_130 d_C_readAll_188 ?_
    refine lv_aload_n hx hb d_C_readAll_191 rfl (lv_at hl 0 rfl) ?_
    refine g_C_size C I k_117 d_C_readAll_192 ?_
    refine lv_iadd hx hb d_C_readAll_195 ?_
    refine p_W_at C I k_38 d_C_readAll_196 (fun H locs I => ?_)
    obtain ⟨u43, hu, hj42⟩ := bnd_u hj42
    rw [hu] at I
    clear hu
    refine lv_aload_n hx hb d_C_readAll_199 rfl (lv_at hl 0 rfl) ?_
    obtain ⟨u44, h45, hj42⟩ := cV_u hj42
    refine go_V I (call_runV (rest := []) C I (c_C_readRows C.2.2.2.1 C.2.2.2.2.1 l h45 _) wd_C_readRows (q0 := 0) (ci := 0) rfl rfl k_616 ⟨rfl, rfl⟩ ⟨by decide, by decide⟩ rfl hl.1 rfl (Nat.le_of_ble_eq_true rfl) d_C_readAll_200) (fun H locs I => ?_)
    obtain rfl := eo1 hj42
    exact Khj42 _ _ _ I (lv_sub hl [0] rfl)
