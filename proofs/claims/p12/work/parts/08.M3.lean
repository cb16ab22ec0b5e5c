theorem d_M_thrown_0 : decode prog_9_method_42_code 0 = .ok (.aload_n 0, 1) := by decide +kernel
theorem d_M_thrown_1 : decode prog_9_method_42_code 1 = .ok (.invokevirtual 73, 3) := by decide +kernel
theorem d_M_thrown_4 : decode prog_9_method_42_code 4 = .ok (.istore_n 2, 1) := by decide +kernel
theorem d_M_thrown_5 : decode prog_9_method_42_code 5 = .ok (.iconst 0, 1) := by decide +kernel
theorem d_M_thrown_6 : decode prog_9_method_42_code 6 = .ok (.istore_n 3, 1) := by decide +kernel
theorem d_M_thrown_7 : decode prog_9_method_42_code 7 = .ok (.iload_n 3, 1) := by decide +kernel
theorem d_M_thrown_8 : decode prog_9_method_42_code 8 = .ok (.iload_n 2, 1) := by decide +kernel
theorem d_M_thrown_9 : decode prog_9_method_42_code 9 = .ok (.if_icmp .ge 23, 3) := by decide +kernel
theorem d_M_thrown_12 : decode prog_9_method_42_code 12 = .ok (.aload_n 0, 1) := by decide +kernel
theorem d_M_thrown_13 : decode prog_9_method_42_code 13 = .ok (.invokevirtual 55, 3) := by decide +kernel
theorem d_M_thrown_16 : decode prog_9_method_42_code 16 = .ok (.ifCond .eq 16, 3) := by decide +kernel
theorem d_M_thrown_19 : decode prog_9_method_42_code 19 = .ok (.aload_n 0, 1) := by decide +kernel
theorem d_M_thrown_20 : decode prog_9_method_42_code 20 = .ok (.bipush 7, 2) := by decide +kernel
theorem d_M_thrown_22 : decode prog_9_method_42_code 22 = .ok (.invokevirtual 201, 3) := by decide +kernel
theorem d_M_thrown_25 : decode prog_9_method_42_code 25 = .ok (.pop, 1) := by decide +kernel
theorem d_M_thrown_26 : decode prog_9_method_42_code 26 = .ok (.iinc 3 1, 3) := by decide +kernel
theorem d_M_thrown_29 : decode prog_9_method_42_code 29 = .ok (.goto (-22), 3) := by decide +kernel
theorem d_M_thrown_32 : decode prog_9_method_42_code 32 = .ok (.aload_n 0, 1) := by decide +kernel
theorem d_M_thrown_33 : decode prog_9_method_42_code 33 = .ok (.getfield 20, 3) := by decide +kernel
theorem d_M_thrown_36 : decode prog_9_method_42_code 36 = .ok (.bipush 6, 2) := by decide +kernel
theorem d_M_thrown_38 : decode prog_9_method_42_code 38 = .ok (.iload_n 1, 1) := by decide +kernel
theorem d_M_thrown_39 : decode prog_9_method_42_code 39 = .ok (.imul, 1) := by decide +kernel
theorem d_M_thrown_40 : decode prog_9_method_42_code 40 = .ok (.iconst 5, 1) := by decide +kernel
theorem d_M_thrown_41 : decode prog_9_method_42_code 41 = .ok (.iadd, 1) := by decide +kernel
theorem d_M_thrown_42 : decode prog_9_method_42_code 42 = .ok (.iload_n 2, 1) := by decide +kernel
theorem d_M_thrown_43 : decode prog_9_method_42_code 43 = .ok (.iastore, 1) := by decide +kernel
theorem d_M_thrown_44 : decode prog_9_method_42_code 44 = .ok (.return_, 1) := by decide +kernel
theorem d_M_value_0 : decode prog_9_method_43_code 0 = .ok (.aload_n 0, 1) := by decide +kernel
theorem d_M_value_1 : decode prog_9_method_43_code 1 = .ok (.iload_n 1, 1) := by decide +kernel
theorem d_M_value_2 : decode prog_9_method_43_code 2 = .ok (.invokevirtual 80, 3) := by decide +kernel
theorem d_M_value_5 : decode prog_9_method_43_code 5 = .ok (.iconst 1, 1) := by decide +kernel
theorem d_M_value_6 : decode prog_9_method_43_code 6 = .ok (.if_icmp .ne 12, 3) := by decide +kernel
theorem d_M_value_9 : decode prog_9_method_43_code 9 = .ok (.aload_n 0, 1) := by decide +kernel
theorem d_M_value_10 : decode prog_9_method_43_code 10 = .ok (.iload_n 1, 1) := by decide +kernel
theorem d_M_value_11 : decode prog_9_method_43_code 11 = .ok (.iconst 0, 1) := by decide +kernel
theorem d_M_value_12 : decode prog_9_method_43_code 12 = .ok (.invokevirtual 86, 3) := by decide +kernel
theorem d_M_value_15 : decode prog_9_method_43_code 15 = .ok (.goto 4, 3) := by decide +kernel
theorem d_M_value_18 : decode prog_9_method_43_code 18 = .ok (.iconst 0, 1) := by decide +kernel
theorem d_M_value_19 : decode prog_9_method_43_code 19 = .ok (.istore_n 2, 1) := by decide +kernel
theorem d_M_value_20 : decode prog_9_method_43_code 20 = .ok (.iload_n 2, 1) := by decide +kernel
theorem d_M_value_21 : decode prog_9_method_43_code 21 = .ok (.bipush 74, 2) := by decide +kernel
theorem d_M_value_23 : decode prog_9_method_43_code 23 = .ok (.if_icmp .ne 7, 3) := by decide +kernel
theorem d_M_value_26 : decode prog_9_method_43_code 26 = .ok (.iconst 5, 1) := by decide +kernel
theorem d_M_value_27 : decode prog_9_method_43_code 27 = .ok (.goto 36, 3) := by decide +kernel
theorem d_M_value_30 : decode prog_9_method_43_code 30 = .ok (.iload_n 2, 1) := by decide +kernel
theorem d_M_value_31 : decode prog_9_method_43_code 31 = .ok (.ifCond .eq 7, 3) := by decide +kernel
theorem d_M_value_34 : decode prog_9_method_43_code 34 = .ok (.iconst 3, 1) := by decide +kernel
theorem d_M_value_35 : decode prog_9_method_43_code 35 = .ok (.goto 28, 3) := by decide +kernel
theorem d_M_value_38 : decode prog_9_method_43_code 38 = .ok (.aload_n 0, 1) := by decide +kernel
theorem d_M_value_39 : decode prog_9_method_43_code 39 = .ok (.iload_n 1, 1) := by decide +kernel
theorem d_M_value_40 : decode prog_9_method_43_code 40 = .ok (.bipush 18, 2) := by decide +kernel
theorem d_M_value_42 : decode prog_9_method_43_code 42 = .ok (.ldc2_w 250, 3) := by decide +kernel
theorem d_M_value_45 : decode prog_9_method_43_code 45 = .ok (.ldc2_w 252, 3) := by decide +kernel
theorem d_M_value_48 : decode prog_9_method_43_code 48 = .ok (.ldc2_w 254, 3) := by decide +kernel
theorem d_M_value_51 : decode prog_9_method_43_code 51 = .ok (.invokevirtual 180, 3) := by decide +kernel
theorem d_M_value_54 : decode prog_9_method_43_code 54 = .ok (.ifCond .eq 8, 3) := by decide +kernel
theorem d_M_value_57 : decode prog_9_method_43_code 57 = .ok (.bipush 8, 2) := by decide +kernel
theorem d_M_value_59 : decode prog_9_method_43_code 59 = .ok (.goto 4, 3) := by decide +kernel
theorem d_M_value_62 : decode prog_9_method_43_code 62 = .ok (.iconst (-1), 1) := by decide +kernel
theorem d_M_value_63 : decode prog_9_method_43_code 63 = .ok (.istore_n 3, 1) := by decide +kernel
theorem d_M_value_64 : decode prog_9_method_43_code 64 = .ok (.aload_n 0, 1) := by decide +kernel
theorem d_M_value_65 : decode prog_9_method_43_code 65 = .ok (.iload_n 3, 1) := by decide +kernel
theorem d_M_value_66 : decode prog_9_method_43_code 66 = .ok (.invokevirtual 201, 3) := by decide +kernel
theorem d_M_value_69 : decode prog_9_method_43_code 69 = .ok (.pop, 1) := by decide +kernel
theorem d_M_value_70 : decode prog_9_method_43_code 70 = .ok (.return_, 1) := by decide +kernel
theorem d_M_attributes_0 : decode prog_9_method_41_code 0 = .ok (.aload_n 0, 1) := by decide +kernel
theorem d_M_attributes_1 : decode prog_9_method_41_code 1 = .ok (.invokevirtual 73, 3) := by decide +kernel
theorem d_M_attributes_4 : decode prog_9_method_41_code 4 = .ok (.istore 5, 2) := by decide +kernel
theorem d_M_attributes_6 : decode prog_9_method_41_code 6 = .ok (.iconst 0, 1) := by decide +kernel
theorem d_M_attributes_7 : decode prog_9_method_41_code 7 = .ok (.istore 6, 2) := by decide +kernel
theorem d_M_attributes_9 : decode prog_9_method_41_code 9 = .ok (.iconst 0, 1) := by decide +kernel
theorem d_M_attributes_10 : decode prog_9_method_41_code 10 = .ok (.istore 7, 2) := by decide +kernel
theorem d_M_attributes_12 : decode prog_9_method_41_code 12 = .ok (.iconst 0, 1) := by decide +kernel
theorem d_M_attributes_13 : decode prog_9_method_41_code 13 = .ok (.istore 8, 2) := by decide +kernel
theorem d_M_attributes_15 : decode prog_9_method_41_code 15 = .ok (.iload 8, 2) := by decide +kernel
theorem d_M_attributes_17 : decode prog_9_method_41_code 17 = .ok (.iload 5, 2) := by decide +kernel
theorem d_M_attributes_19 : decode prog_9_method_41_code 19 = .ok (.if_icmp .ge 301, 3) := by decide +kernel
theorem d_M_attributes_22 : decode prog_9_method_41_code 22 = .ok (.aload_n 0, 1) := by decide +kernel
theorem d_M_attributes_23 : decode prog_9_method_41_code 23 = .ok (.invokevirtual 55, 3) := by decide +kernel
theorem d_M_attributes_26 : decode prog_9_method_41_code 26 = .ok (.ifCond .eq 294, 3) := by decide +kernel
theorem d_M_attributes_29 : decode prog_9_method_41_code 29 = .ok (.aload_n 0, 1) := by decide +kernel
theorem d_M_attributes_30 : decode prog_9_method_41_code 30 = .ok (.getfield 63, 3) := by decide +kernel
theorem d_M_attributes_33 : decode prog_9_method_41_code 33 = .ok (.istore 9, 2) := by decide +kernel
theorem d_M_attributes_35 : decode prog_9_method_41_code 35 = .ok (.aload_n 0, 1) := by decide +kernel
theorem d_M_attributes_36 : decode prog_9_method_41_code 36 = .ok (.iconst 1, 1) := by decide +kernel
theorem d_M_attributes_37 : decode prog_9_method_41_code 37 = .ok (.invokevirtual 201, 3) := by decide +kernel
theorem d_M_attributes_40 : decode prog_9_method_41_code 40 = .ok (.istore 10, 2) := by decide +kernel
theorem d_M_attributes_42 : decode prog_9_method_41_code 42 = .ok (.aload_n 0, 1) := by decide +kernel
theorem d_M_attributes_43 : decode prog_9_method_41_code 43 = .ok (.getfield 63, 3) := by decide +kernel
theorem d_M_attributes_46 : decode prog_9_method_41_code 46 = .ok (.istore 11, 2) := by decide +kernel
theorem d_M_attributes_48 : decode prog_9_method_41_code 48 = .ok (.aload_n 0, 1) := by decide +kernel
theorem d_M_attributes_49 : decode prog_9_method_41_code 49 = .ok (.invokevirtual 140, 3) := by decide +kernel
theorem d_M_attributes_52 : decode prog_9_method_41_code 52 = .ok (.lstore 12, 2) := by decide +kernel
theorem d_M_attributes_54 : decode prog_9_method_41_code 54 = .ok (.aload_n 0, 1) := by decide +kernel
theorem d_M_attributes_55 : decode prog_9_method_41_code 55 = .ok (.invokevirtual 55, 3) := by decide +kernel
theorem d_M_attributes_58 : decode prog_9_method_41_code 58 = .ok (.ifCond .ne 4, 3) := by decide +kernel
theorem d_M_attributes_61 : decode prog_9_method_41_code 61 = .ok (.return_, 1) := by decide +kernel
theorem d_M_attributes_62 : decode prog_9_method_41_code 62 = .ok (.iload_n 1, 1) := by decide +kernel
theorem d_M_attributes_63 : decode prog_9_method_41_code 63 = .ok (.iconst 1, 1) := by decide +kernel
theorem d_M_attributes_64 : decode prog_9_method_41_code 64 = .ok (.if_icmp .ne 36, 3) := by decide +kernel
theorem d_M_attributes_67 : decode prog_9_method_41_code 67 = .ok (.aload_n 0, 1) := by decide +kernel
theorem d_M_attributes_68 : decode prog_9_method_41_code 68 = .ok (.iload 10, 2) := by decide +kernel
theorem d_M_attributes_70 : decode prog_9_method_41_code 70 = .ok (.bipush 13, 2) := by decide +kernel
theorem d_M_attributes_72 : decode prog_9_method_41_code 72 = .ok (.ldc2_w 225, 3) := by decide +kernel
theorem d_M_attributes_75 : decode prog_9_method_41_code 75 = .ok (.ldc2_w 227, 3) := by decide +kernel
theorem d_M_attributes_78 : decode prog_9_method_41_code 78 = .ok (.lconst 0, 1) := by decide +kernel
theorem d_M_attributes_79 : decode prog_9_method_41_code 79 = .ok (.invokevirtual 180, 3) := by decide +kernel
theorem d_M_attributes_82 : decode prog_9_method_41_code 82 = .ok (.ifCond .eq 14, 3) := by decide +kernel
theorem d_M_attributes_85 : decode prog_9_method_41_code 85 = .ok (.iload_n 2, 1) := by decide +kernel
theorem d_M_attributes_86 : decode prog_9_method_41_code 86 = .ok (.bipush 8, 2) := by decide +kernel
theorem d_M_attributes_88 : decode prog_9_method_41_code 88 = .ok (.iand, 1) := by decide +kernel
theorem d_M_attributes_89 : decode prog_9_method_41_code 89 = .ok (.ifCond .eq 7, 3) := by decide +kernel
theorem d_M_attributes_92 : decode prog_9_method_41_code 92 = .ok (.iconst 1, 1) := by decide +kernel
theorem d_M_attributes_93 : decode prog_9_method_41_code 93 = .ok (.goto 58, 3) := by decide +kernel
theorem d_M_attributes_96 : decode prog_9_method_41_code 96 = .ok (.iconst 0, 1) := by decide +kernel
theorem d_M_attributes_97 : decode prog_9_method_41_code 97 = .ok (.goto 54, 3) := by decide +kernel
theorem d_M_attributes_100 : decode prog_9_method_41_code 100 = .ok (.iload_n 1, 1) := by decide +kernel
theorem d_M_attributes_101 : decode prog_9_method_41_code 101 = .ok (.iconst 2, 1) := by decide +kernel
theorem d_M_attributes_102 : decode prog_9_method_41_code 102 = .ok (.if_icmp .ne 34, 3) := by decide +kernel
theorem d_M_attributes_105 : decode prog_9_method_41_code 105 = .ok (.aload_n 0, 1) := by decide +kernel
theorem d_M_attributes_106 : decode prog_9_method_41_code 106 = .ok (.iload 10, 2) := by decide +kernel
theorem d_M_attributes_108 : decode prog_9_method_41_code 108 = .ok (.iconst 4, 1) := by decide +kernel
theorem d_M_attributes_109 : decode prog_9_method_41_code 109 = .ok (.ldc2_w 229, 3) := by decide +kernel
theorem d_M_attributes_112 : decode prog_9_method_41_code 112 = .ok (.lconst 0, 1) := by decide +kernel
theorem d_M_attributes_113 : decode prog_9_method_41_code 113 = .ok (.lconst 0, 1) := by decide +kernel
theorem d_M_attributes_114 : decode prog_9_method_41_code 114 = .ok (.invokevirtual 180, 3) := by decide +kernel
theorem d_M_attributes_117 : decode prog_9_method_41_code 117 = .ok (.ifCond .eq 15, 3) := by decide +kernel
theorem d_M_attributes_120 : decode prog_9_method_41_code 120 = .ok (.iload_n 2, 1) := by decide +kernel
theorem d_M_attributes_121 : decode prog_9_method_41_code 121 = .ok (.sipush 1024, 3) := by decide +kernel
theorem d_M_attributes_124 : decode prog_9_method_41_code 124 = .ok (.iand, 1) := by decide +kernel
theorem d_M_attributes_125 : decode prog_9_method_41_code 125 = .ok (.ifCond .ne 7, 3) := by decide +kernel
theorem d_M_attributes_128 : decode prog_9_method_41_code 128 = .ok (.iconst 1, 1) := by decide +kernel
theorem d_M_attributes_129 : decode prog_9_method_41_code 129 = .ok (.goto 22, 3) := by decide +kernel
theorem d_M_attributes_132 : decode prog_9_method_41_code 132 = .ok (.iconst 0, 1) := by decide +kernel
theorem d_M_attributes_133 : decode prog_9_method_41_code 133 = .ok (.goto 18, 3) := by decide +kernel
theorem d_M_attributes_136 : decode prog_9_method_41_code 136 = .ok (.aload_n 0, 1) := by decide +kernel
theorem d_M_attributes_137 : decode prog_9_method_41_code 137 = .ok (.iload 10, 2) := by decide +kernel
theorem d_M_attributes_139 : decode prog_9_method_41_code 139 = .ok (.bipush 10, 2) := by decide +kernel
theorem d_M_attributes_141 : decode prog_9_method_41_code 141 = .ok (.ldc2_w 231, 3) := by decide +kernel
theorem d_M_attributes_144 : decode prog_9_method_41_code 144 = .ok (.ldc2_w 233, 3) := by decide +kernel
theorem d_M_attributes_147 : decode prog_9_method_41_code 147 = .ok (.lconst 0, 1) := by decide +kernel
theorem d_M_attributes_148 : decode prog_9_method_41_code 148 = .ok (.invokevirtual 180, 3) := by decide +kernel
theorem d_M_attributes_151 : decode prog_9_method_41_code 151 = .ok (.istore 14, 2) := by decide +kernel
theorem d_M_attributes_153 : decode prog_9_method_41_code 153 = .ok (.iload_n 1, 1) := by decide +kernel
theorem d_M_attributes_154 : decode prog_9_method_41_code 154 = .ok (.iconst 2, 1) := by decide +kernel
theorem d_M_attributes_155 : decode prog_9_method_41_code 155 = .ok (.if_icmp .ne 25, 3) := by decide +kernel
theorem d_M_attributes_158 : decode prog_9_method_41_code 158 = .ok (.aload_n 0, 1) := by decide +kernel
theorem d_M_attributes_159 : decode prog_9_method_41_code 159 = .ok (.iload 10, 2) := by decide +kernel
theorem d_M_attributes_161 : decode prog_9_method_41_code 161 = .ok (.bipush 10, 2) := by decide +kernel
theorem d_M_attributes_163 : decode prog_9_method_41_code 163 = .ok (.ldc2_w 235, 3) := by decide +kernel
theorem d_M_attributes_166 : decode prog_9_method_41_code 166 = .ok (.ldc2_w 237, 3) := by decide +kernel
theorem d_M_attributes_169 : decode prog_9_method_41_code 169 = .ok (.lconst 0, 1) := by decide +kernel
theorem d_M_attributes_170 : decode prog_9_method_41_code 170 = .ok (.invokevirtual 180, 3) := by decide +kernel
theorem d_M_attributes_173 : decode prog_9_method_41_code 173 = .ok (.ifCond .eq 7, 3) := by decide +kernel
theorem d_M_attributes_176 : decode prog_9_method_41_code 176 = .ok (.iconst 1, 1) := by decide +kernel
theorem d_M_attributes_177 : decode prog_9_method_41_code 177 = .ok (.goto 4, 3) := by decide +kernel
theorem d_M_attributes_180 : decode prog_9_method_41_code 180 = .ok (.iconst 0, 1) := by decide +kernel
theorem d_M_attributes_181 : decode prog_9_method_41_code 181 = .ok (.istore 15, 2) := by decide +kernel
theorem d_M_attributes_183 : decode prog_9_method_41_code 183 = .ok (.aload_n 0, 1) := by decide +kernel
theorem d_M_attributes_184 : decode prog_9_method_41_code 184 = .ok (.iload 14, 2) := by decide +kernel
theorem d_M_attributes_186 : decode prog_9_method_41_code 186 = .ok (.ifCond .eq 8, 3) := by decide +kernel
theorem d_M_attributes_189 : decode prog_9_method_41_code 189 = .ok (.iload 6, 2) := by decide +kernel
theorem d_M_attributes_191 : decode prog_9_method_41_code 191 = .ok (.ifCond .eq 13, 3) := by decide +kernel
theorem d_M_attributes_194 : decode prog_9_method_41_code 194 = .ok (.iload 15, 2) := by decide +kernel
theorem d_M_attributes_196 : decode prog_9_method_41_code 196 = .ok (.ifCond .eq 12, 3) := by decide +kernel
theorem d_M_attributes_199 : decode prog_9_method_41_code 199 = .ok (.iload 7, 2) := by decide +kernel
theorem d_M_attributes_201 : decode prog_9_method_41_code 201 = .ok (.ifCond .ne 7, 3) := by decide +kernel
theorem d_M_attributes_204 : decode prog_9_method_41_code 204 = .ok (.iconst 1, 1) := by decide +kernel
theorem d_M_attributes_205 : decode prog_9_method_41_code 205 = .ok (.goto 4, 3) := by decide +kernel
theorem d_M_attributes_208 : decode prog_9_method_41_code 208 = .ok (.iconst 0, 1) := by decide +kernel
theorem d_M_attributes_209 : decode prog_9_method_41_code 209 = .ok (.bipush 19, 2) := by decide +kernel
theorem d_M_attributes_211 : decode prog_9_method_41_code 211 = .ok (.iload 9, 2) := by decide +kernel
theorem d_M_attributes_213 : decode prog_9_method_41_code 213 = .ok (.invokevirtual 115, 3) := by decide +kernel
theorem d_M_attributes_216 : decode prog_9_method_41_code 216 = .ok (.ifCond .ne 4, 3) := by decide +kernel
theorem d_M_attributes_219 : decode prog_9_method_41_code 219 = .ok (.return_, 1) := by decide +kernel
theorem d_M_attributes_220 : decode prog_9_method_41_code 220 = .ok (.iload 6, 2) := by decide +kernel
theorem d_M_attributes_222 : decode prog_9_method_41_code 222 = .ok (.iload 14, 2) := by decide +kernel
theorem d_M_attributes_224 : decode prog_9_method_41_code 224 = .ok (.ior, 1) := by decide +kernel
theorem d_M_attributes_225 : decode prog_9_method_41_code 225 = .ok (.istore 6, 2) := by decide +kernel
theorem d_M_attributes_227 : decode prog_9_method_41_code 227 = .ok (.iload 7, 2) := by decide +kernel
theorem d_M_attributes_229 : decode prog_9_method_41_code 229 = .ok (.iload 15, 2) := by decide +kernel
theorem d_M_attributes_231 : decode prog_9_method_41_code 231 = .ok (.ior, 1) := by decide +kernel
theorem d_M_attributes_232 : decode prog_9_method_41_code 232 = .ok (.istore 7, 2) := by decide +kernel
theorem d_M_attributes_234 : decode prog_9_method_41_code 234 = .ok (.aload_n 0, 1) := by decide +kernel
theorem d_M_attributes_235 : decode prog_9_method_41_code 235 = .ok (.getfield 63, 3) := by decide +kernel
theorem d_M_attributes_238 : decode prog_9_method_41_code 238 = .ok (.istore 16, 2) := by decide +kernel
theorem d_M_attributes_240 : decode prog_9_method_41_code 240 = .ok (.iload 15, 2) := by decide +kernel
theorem d_M_attributes_242 : decode prog_9_method_41_code 242 = .ok (.ifCond .eq 11, 3) := by decide +kernel
theorem d_M_attributes_245 : decode prog_9_method_41_code 245 = .ok (.aload_n 0, 1) := by decide +kernel
theorem d_M_attributes_246 : decode prog_9_method_41_code 246 = .ok (.iload_n 3, 1) := by decide +kernel
theorem d_M_attributes_247 : decode prog_9_method_41_code 247 = .ok (.invokevirtual 239, 3) := by decide +kernel
theorem d_M_attributes_250 : decode prog_9_method_41_code 250 = .ok (.goto 36, 3) := by decide +kernel
theorem d_M_attributes_253 : decode prog_9_method_41_code 253 = .ok (.iload_n 1, 1) := by decide +kernel
theorem d_M_attributes_254 : decode prog_9_method_41_code 254 = .ok (.iconst 1, 1) := by decide +kernel
theorem d_M_attributes_255 : decode prog_9_method_41_code 255 = .ok (.if_icmp .ne 11, 3) := by decide +kernel
theorem d_M_attributes_258 : decode prog_9_method_41_code 258 = .ok (.aload_n 0, 1) := by decide +kernel
theorem d_M_attributes_259 : decode prog_9_method_41_code 259 = .ok (.iload_n 3, 1) := by decide +kernel
theorem d_M_attributes_260 : decode prog_9_method_41_code 260 = .ok (.invokevirtual 243, 3) := by decide +kernel
theorem d_M_attributes_263 : decode prog_9_method_41_code 263 = .ok (.goto 23, 3) := by decide +kernel
theorem d_M_attributes_266 : decode prog_9_method_41_code 266 = .ok (.iload_n 1, 1) := by decide +kernel
theorem d_M_attributes_267 : decode prog_9_method_41_code 267 = .ok (.iconst 2, 1) := by decide +kernel
theorem d_M_attributes_268 : decode prog_9_method_41_code 268 = .ok (.if_icmp .ne 12, 3) := by decide +kernel
theorem d_M_attributes_271 : decode prog_9_method_41_code 271 = .ok (.aload_n 0, 1) := by decide +kernel
theorem d_M_attributes_272 : decode prog_9_method_41_code 272 = .ok (.iload_n 2, 1) := by decide +kernel
theorem d_M_attributes_273 : decode prog_9_method_41_code 273 = .ok (.iload_n 3, 1) := by decide +kernel
theorem d_M_attributes_274 : decode prog_9_method_41_code 274 = .ok (.invokevirtual 246, 3) := by decide +kernel
theorem d_M_attributes_277 : decode prog_9_method_41_code 277 = .ok (.goto 9, 3) := by decide +kernel
theorem d_M_attributes_280 : decode prog_9_method_41_code 280 = .ok (.aload_n 0, 1) := by decide +kernel
theorem d_M_attributes_281 : decode prog_9_method_41_code 281 = .ok (.iconst 1, 1) := by decide +kernel
theorem d_M_attributes_282 : decode prog_9_method_41_code 282 = .ok (.invokevirtual 201, 3) := by decide +kernel
theorem d_M_attributes_285 : decode prog_9_method_41_code 285 = .ok (.pop, 1) := by decide +kernel
theorem d_M_attributes_286 : decode prog_9_method_41_code 286 = .ok (.aload_n 0, 1) := by decide +kernel
theorem d_M_attributes_287 : decode prog_9_method_41_code 287 = .ok (.aload_n 0, 1) := by decide +kernel
theorem d_M_attributes_288 : decode prog_9_method_41_code 288 = .ok (.getfield 63, 3) := by decide +kernel
theorem d_M_attributes_291 : decode prog_9_method_41_code 291 = .ok (.iload 16, 2) := by decide +kernel
theorem d_M_attributes_293 : decode prog_9_method_41_code 293 = .ok (.isub, 1) := by decide +kernel
theorem d_M_attributes_294 : decode prog_9_method_41_code 294 = .ok (.i2l, 1) := by decide +kernel
theorem d_M_attributes_295 : decode prog_9_method_41_code 295 = .ok (.lload 12, 2) := by decide +kernel
theorem d_M_attributes_297 : decode prog_9_method_41_code 297 = .ok (.lcmp, 1) := by decide +kernel
theorem d_M_attributes_298 : decode prog_9_method_41_code 298 = .ok (.ifCond .ne 7, 3) := by decide +kernel
theorem d_M_attributes_301 : decode prog_9_method_41_code 301 = .ok (.iconst 1, 1) := by decide +kernel
theorem d_M_attributes_302 : decode prog_9_method_41_code 302 = .ok (.goto 4, 3) := by decide +kernel
theorem d_M_attributes_305 : decode prog_9_method_41_code 305 = .ok (.iconst 0, 1) := by decide +kernel
theorem d_M_attributes_306 : decode prog_9_method_41_code 306 = .ok (.bipush 18, 2) := by decide +kernel
theorem d_M_attributes_308 : decode prog_9_method_41_code 308 = .ok (.iload 11, 2) := by decide +kernel
theorem d_M_attributes_310 : decode prog_9_method_41_code 310 = .ok (.invokevirtual 115, 3) := by decide +kernel
theorem d_M_attributes_313 : decode prog_9_method_41_code 313 = .ok (.pop, 1) := by decide +kernel
theorem d_M_attributes_314 : decode prog_9_method_41_code 314 = .ok (.iinc 8 1, 3) := by decide +kernel
theorem d_M_attributes_317 : decode prog_9_method_41_code 317 = .ok (.goto (-302), 3) := by decide +kernel
theorem d_M_attributes_320 : decode prog_9_method_41_code 320 = .ok (.iload_n 1, 1) := by decide +kernel
theorem d_M_attributes_321 : decode prog_9_method_41_code 321 = .ok (.iconst 2, 1) := by decide +kernel
theorem d_M_attributes_322 : decode prog_9_method_41_code 322 = .ok (.if_icmp .ne 30, 3) := by decide +kernel
theorem d_M_attributes_325 : decode prog_9_method_41_code 325 = .ok (.aload_n 0, 1) := by decide +kernel
theorem d_M_attributes_326 : decode prog_9_method_41_code 326 = .ok (.iload 6, 2) := by decide +kernel
theorem d_M_attributes_328 : decode prog_9_method_41_code 328 = .ok (.ifCond .ne 11, 3) := by decide +kernel
theorem d_M_attributes_331 : decode prog_9_method_41_code 331 = .ok (.iload_n 2, 1) := by decide +kernel
theorem d_M_attributes_332 : decode prog_9_method_41_code 332 = .ok (.sipush 1024, 3) := by decide +kernel
theorem d_M_attributes_335 : decode prog_9_method_41_code 335 = .ok (.iand, 1) := by decide +kernel
theorem d_M_attributes_336 : decode prog_9_method_41_code 336 = .ok (.ifCond .eq 7, 3) := by decide +kernel
theorem d_M_attributes_339 : decode prog_9_method_41_code 339 = .ok (.iconst 1, 1) := by decide +kernel
theorem d_M_attributes_340 : decode prog_9_method_41_code 340 = .ok (.goto 4, 3) := by decide +kernel
theorem d_M_attributes_343 : decode prog_9_method_41_code 343 = .ok (.iconst 0, 1) := by decide +kernel
theorem d_M_attributes_344 : decode prog_9_method_41_code 344 = .ok (.bipush 20, 2) := by decide +kernel
theorem d_M_attributes_346 : decode prog_9_method_41_code 346 = .ok (.iload 4, 2) := by decide +kernel
theorem d_M_attributes_348 : decode prog_9_method_41_code 348 = .ok (.invokevirtual 115, 3) := by decide +kernel
theorem d_M_attributes_351 : decode prog_9_method_41_code 351 = .ok (.pop, 1) := by decide +kernel
theorem d_M_attributes_352 : decode prog_9_method_41_code 352 = .ok (.return_, 1) := by decide +kernel
theorem d_M_oneOf_0 : decode prog_9_method_38_code 0 = .ok (.iload_n 0, 1) := by decide +kernel
theorem d_M_oneOf_1 : decode prog_9_method_38_code 1 = .ok (.bipush 7, 2) := by decide +kernel
theorem d_M_oneOf_3 : decode prog_9_method_38_code 3 = .ok (.iand, 1) := by decide +kernel
theorem d_M_oneOf_4 : decode prog_9_method_38_code 4 = .ok (.iload_n 0, 1) := by decide +kernel
theorem d_M_oneOf_5 : decode prog_9_method_38_code 5 = .ok (.bipush 7, 2) := by decide +kernel
theorem d_M_oneOf_7 : decode prog_9_method_38_code 7 = .ok (.iand, 1) := by decide +kernel
theorem d_M_oneOf_8 : decode prog_9_method_38_code 8 = .ok (.iconst 1, 1) := by decide +kernel
theorem d_M_oneOf_9 : decode prog_9_method_38_code 9 = .ok (.isub, 1) := by decide +kernel
theorem d_M_oneOf_10 : decode prog_9_method_38_code 10 = .ok (.iand, 1) := by decide +kernel
theorem d_M_oneOf_11 : decode prog_9_method_38_code 11 = .ok (.ifCond .ne 7, 3) := by decide +kernel
theorem d_M_oneOf_14 : decode prog_9_method_38_code 14 = .ok (.iconst 1, 1) := by decide +kernel
theorem d_M_oneOf_15 : decode prog_9_method_38_code 15 = .ok (.goto 4, 3) := by decide +kernel
theorem d_M_oneOf_18 : decode prog_9_method_38_code 18 = .ok (.iconst 0, 1) := by decide +kernel
theorem d_M_oneOf_19 : decode prog_9_method_38_code 19 = .ok (.ireturn, 1) := by decide +kernel
theorem d_M_fields_0 : decode prog_9_method_39_code 0 = .ok (.aload_n 0, 1) := by decide +kernel
theorem d_M_fields_1 : decode prog_9_method_39_code 1 = .ok (.getfield 63, 3) := by decide +kernel
theorem d_M_fields_4 : decode prog_9_method_39_code 4 = .ok (.istore_n 1, 1) := by decide +kernel
theorem d_M_fields_5 : decode prog_9_method_39_code 5 = .ok (.aload_n 0, 1) := by decide +kernel
theorem d_M_fields_6 : decode prog_9_method_39_code 6 = .ok (.aload_n 0, 1) := by decide +kernel
theorem d_M_fields_7 : decode prog_9_method_39_code 7 = .ok (.invokevirtual 73, 3) := by decide +kernel
theorem d_M_fields_10 : decode prog_9_method_39_code 10 = .ok (.putfield 119, 3) := by decide +kernel
theorem d_M_fields_13 : decode prog_9_method_39_code 13 = .ok (.aload_n 0, 1) := by decide +kernel
theorem d_M_fields_14 : decode prog_9_method_39_code 14 = .ok (.aload_n 0, 1) := by decide +kernel
theorem d_M_fields_15 : decode prog_9_method_39_code 15 = .ok (.getfield 119, 3) := by decide +kernel
theorem d_M_fields_18 : decode prog_9_method_39_code 18 = .ok (.bipush 60, 2) := by decide +kernel
theorem d_M_fields_20 : decode prog_9_method_39_code 20 = .ok (.if_icmp .gt 7, 3) := by decide +kernel
theorem d_M_fields_23 : decode prog_9_method_39_code 23 = .ok (.iconst 1, 1) := by decide +kernel
theorem d_M_fields_24 : decode prog_9_method_39_code 24 = .ok (.goto 4, 3) := by decide +kernel
theorem d_M_fields_27 : decode prog_9_method_39_code 27 = .ok (.iconst 0, 1) := by decide +kernel
theorem d_M_fields_28 : decode prog_9_method_39_code 28 = .ok (.bipush 15, 2) := by decide +kernel
theorem d_M_fields_30 : decode prog_9_method_39_code 30 = .ok (.iload_n 1, 1) := by decide +kernel
theorem d_M_fields_31 : decode prog_9_method_39_code 31 = .ok (.invokevirtual 115, 3) := by decide +kernel
theorem d_M_fields_34 : decode prog_9_method_39_code 34 = .ok (.pop, 1) := by decide +kernel
theorem d_M_fields_35 : decode prog_9_method_39_code 35 = .ok (.iconst 0, 1) := by decide +kernel
theorem d_M_fields_36 : decode prog_9_method_39_code 36 = .ok (.istore_n 2, 1) := by decide +kernel
theorem d_M_fields_37 : decode prog_9_method_39_code 37 = .ok (.iload_n 2, 1) := by decide +kernel
theorem d_M_fields_38 : decode prog_9_method_39_code 38 = .ok (.aload_n 0, 1) := by decide +kernel
theorem d_M_fields_39 : decode prog_9_method_39_code 39 = .ok (.getfield 119, 3) := by decide +kernel
theorem d_M_fields_42 : decode prog_9_method_39_code 42 = .ok (.if_icmp .ge 281, 3) := by decide +kernel
theorem d_M_fields_45 : decode prog_9_method_39_code 45 = .ok (.aload_n 0, 1) := by decide +kernel
theorem d_M_fields_46 : decode prog_9_method_39_code 46 = .ok (.invokevirtual 55, 3) := by decide +kernel
theorem d_M_fields_49 : decode prog_9_method_39_code 49 = .ok (.ifCond .eq 274, 3) := by decide +kernel
theorem d_M_fields_52 : decode prog_9_method_39_code 52 = .ok (.aload_n 0, 1) := by decide +kernel
theorem d_M_fields_53 : decode prog_9_method_39_code 53 = .ok (.getfield 63, 3) := by decide +kernel
theorem d_M_fields_56 : decode prog_9_method_39_code 56 = .ok (.istore_n 3, 1) := by decide +kernel
theorem d_M_fields_57 : decode prog_9_method_39_code 57 = .ok (.aload_n 0, 1) := by decide +kernel
theorem d_M_fields_58 : decode prog_9_method_39_code 58 = .ok (.invokevirtual 73, 3) := by decide +kernel
theorem d_M_fields_61 : decode prog_9_method_39_code 61 = .ok (.istore 4, 2) := by decide +kernel
theorem d_M_fields_63 : decode prog_9_method_39_code 63 = .ok (.iload 4, 2) := by decide +kernel
theorem d_M_fields_65 : decode prog_9_method_39_code 65 = .ok (.sipush (-160), 3) := by decide +kernel
theorem d_M_fields_68 : decode prog_9_method_39_code 68 = .ok (.iand, 1) := by decide +kernel
theorem d_M_fields_69 : decode prog_9_method_39_code 69 = .ok (.ifCond .ne 33, 3) := by decide +kernel
theorem d_M_fields_72 : decode prog_9_method_39_code 72 = .ok (.iload 4, 2) := by decide +kernel
theorem d_M_fields_74 : decode prog_9_method_39_code 74 = .ok (.invokestatic 220, 3) := by decide +kernel
theorem d_M_fields_77 : decode prog_9_method_39_code 77 = .ok (.ifCond .eq 25, 3) := by decide +kernel
theorem d_M_fields_80 : decode prog_9_method_39_code 80 = .ok (.aload_n 0, 1) := by decide +kernel
theorem d_M_fields_81 : decode prog_9_method_39_code 81 = .ok (.getfield 198, 3) := by decide +kernel
theorem d_M_fields_84 : decode prog_9_method_39_code 84 = .ok (.sipush 512, 3) := by decide +kernel
theorem d_M_fields_87 : decode prog_9_method_39_code 87 = .ok (.iand, 1) := by decide +kernel
theorem d_M_fields_88 : decode prog_9_method_39_code 88 = .ok (.ifCond .eq 10, 3) := by decide +kernel
theorem d_M_fields_91 : decode prog_9_method_39_code 91 = .ok (.iload 4, 2) := by decide +kernel
theorem d_M_fields_93 : decode prog_9_method_39_code 93 = .ok (.bipush 25, 2) := by decide +kernel
theorem d_M_fields_95 : decode prog_9_method_39_code 95 = .ok (.if_icmp .ne 7, 3) := by decide +kernel
theorem d_M_fields_98 : decode prog_9_method_39_code 98 = .ok (.iconst 1, 1) := by decide +kernel
theorem d_M_fields_99 : decode prog_9_method_39_code 99 = .ok (.goto 4, 3) := by decide +kernel
theorem d_M_fields_102 : decode prog_9_method_39_code 102 = .ok (.iconst 0, 1) := by decide +kernel
theorem d_M_fields_103 : decode prog_9_method_39_code 103 = .ok (.istore 5, 2) := by decide +kernel
theorem d_M_fields_105 : decode prog_9_method_39_code 105 = .ok (.aload_n 0, 1) := by decide +kernel
theorem d_M_fields_106 : decode prog_9_method_39_code 106 = .ok (.iload 5, 2) := by decide +kernel
theorem d_M_fields_108 : decode prog_9_method_39_code 108 = .ok (.bipush 13, 2) := by decide +kernel
theorem d_M_fields_110 : decode prog_9_method_39_code 110 = .ok (.iload_n 3, 1) := by decide +kernel
theorem d_M_fields_111 : decode prog_9_method_39_code 111 = .ok (.invokevirtual 115, 3) := by decide +kernel
theorem d_M_fields_114 : decode prog_9_method_39_code 114 = .ok (.ifCond .ne 4, 3) := by decide +kernel
theorem d_M_fields_117 : decode prog_9_method_39_code 117 = .ok (.return_, 1) := by decide +kernel
theorem d_M_fields_118 : decode prog_9_method_39_code 118 = .ok (.aload_n 0, 1) := by decide +kernel
theorem d_M_fields_119 : decode prog_9_method_39_code 119 = .ok (.getfield 63, 3) := by decide +kernel
theorem d_M_fields_122 : decode prog_9_method_39_code 122 = .ok (.istore_n 1, 1) := by decide +kernel
theorem d_M_fields_123 : decode prog_9_method_39_code 123 = .ok (.aload_n 0, 1) := by decide +kernel
theorem d_M_fields_124 : decode prog_9_method_39_code 124 = .ok (.getfield 23, 3) := by decide +kernel
theorem d_M_fields_127 : decode prog_9_method_39_code 127 = .ok (.iload_n 2, 1) := by decide +kernel
theorem d_M_fields_128 : decode prog_9_method_39_code 128 = .ok (.aload_n 0, 1) := by decide +kernel
theorem d_M_fields_129 : decode prog_9_method_39_code 129 = .ok (.iconst 1, 1) := by decide +kernel
theorem d_M_fields_130 : decode prog_9_method_39_code 130 = .ok (.invokevirtual 201, 3) := by decide +kernel
theorem d_M_fields_133 : decode prog_9_method_39_code 133 = .ok (.iastore, 1) := by decide +kernel
theorem d_M_fields_134 : decode prog_9_method_39_code 134 = .ok (.aload_n 0, 1) := by decide +kernel
theorem d_M_fields_135 : decode prog_9_method_39_code 135 = .ok (.invokevirtual 55, 3) := by decide +kernel
theorem d_M_fields_138 : decode prog_9_method_39_code 138 = .ok (.ifCond .eq 23, 3) := by decide +kernel
theorem d_M_fields_141 : decode prog_9_method_39_code 141 = .ok (.aload_n 0, 1) := by decide +kernel
theorem d_M_fields_142 : decode prog_9_method_39_code 142 = .ok (.aload_n 0, 1) := by decide +kernel
theorem d_M_fields_143 : decode prog_9_method_39_code 143 = .ok (.aload_n 0, 1) := by decide +kernel
theorem d_M_fields_144 : decode prog_9_method_39_code 144 = .ok (.getfield 23, 3) := by decide +kernel
theorem d_M_fields_147 : decode prog_9_method_39_code 147 = .ok (.iload_n 2, 1) := by decide +kernel
theorem d_M_fields_148 : decode prog_9_method_39_code 148 = .ok (.iaload, 1) := by decide +kernel
theorem d_M_fields_149 : decode prog_9_method_39_code 149 = .ok (.invokevirtual 175, 3) := by decide +kernel
theorem d_M_fields_152 : decode prog_9_method_39_code 152 = .ok (.bipush 9, 2) := by decide +kernel
theorem d_M_fields_154 : decode prog_9_method_39_code 154 = .ok (.iload_n 1, 1) := by decide +kernel
theorem d_M_fields_155 : decode prog_9_method_39_code 155 = .ok (.invokevirtual 115, 3) := by decide +kernel
theorem d_M_fields_158 : decode prog_9_method_39_code 158 = .ok (.ifCond .ne 4, 3) := by decide +kernel
theorem d_M_fields_161 : decode prog_9_method_39_code 161 = .ok (.return_, 1) := by decide +kernel
theorem d_M_fields_162 : decode prog_9_method_39_code 162 = .ok (.aload_n 0, 1) := by decide +kernel
theorem d_M_fields_163 : decode prog_9_method_39_code 163 = .ok (.getfield 63, 3) := by decide +kernel
theorem d_M_fields_166 : decode prog_9_method_39_code 166 = .ok (.istore_n 1, 1) := by decide +kernel
theorem d_M_fields_167 : decode prog_9_method_39_code 167 = .ok (.aload_n 0, 1) := by decide +kernel
theorem d_M_fields_168 : decode prog_9_method_39_code 168 = .ok (.getfield 26, 3) := by decide +kernel
theorem d_M_fields_171 : decode prog_9_method_39_code 171 = .ok (.iload_n 2, 1) := by decide +kernel
theorem d_M_fields_172 : decode prog_9_method_39_code 172 = .ok (.aload_n 0, 1) := by decide +kernel
theorem d_M_fields_173 : decode prog_9_method_39_code 173 = .ok (.iconst 1, 1) := by decide +kernel
theorem d_M_fields_174 : decode prog_9_method_39_code 174 = .ok (.invokevirtual 201, 3) := by decide +kernel
theorem d_M_fields_177 : decode prog_9_method_39_code 177 = .ok (.iastore, 1) := by decide +kernel
theorem d_M_fields_178 : decode prog_9_method_39_code 178 = .ok (.aload_n 0, 1) := by decide +kernel
theorem d_M_fields_179 : decode prog_9_method_39_code 179 = .ok (.invokevirtual 55, 3) := by decide +kernel
theorem d_M_fields_182 : decode prog_9_method_39_code 182 = .ok (.ifCond .eq 45, 3) := by decide +kernel
theorem d_M_fields_185 : decode prog_9_method_39_code 185 = .ok (.aload_n 0, 1) := by decide +kernel
theorem d_M_fields_186 : decode prog_9_method_39_code 186 = .ok (.aload_n 0, 1) := by decide +kernel
theorem d_M_fields_187 : decode prog_9_method_39_code 187 = .ok (.aload_n 0, 1) := by decide +kernel
theorem d_M_fields_188 : decode prog_9_method_39_code 188 = .ok (.getfield 26, 3) := by decide +kernel
theorem d_M_fields_191 : decode prog_9_method_39_code 191 = .ok (.iload_n 2, 1) := by decide +kernel
theorem d_M_fields_192 : decode prog_9_method_39_code 192 = .ok (.iaload, 1) := by decide +kernel
theorem d_M_fields_193 : decode prog_9_method_39_code 193 = .ok (.invokevirtual 169, 3) := by decide +kernel
theorem d_M_fields_196 : decode prog_9_method_39_code 196 = .ok (.bipush 11, 2) := by decide +kernel
theorem d_M_fields_198 : decode prog_9_method_39_code 198 = .ok (.iload_n 1, 1) := by decide +kernel
theorem d_M_fields_199 : decode prog_9_method_39_code 199 = .ok (.invokevirtual 115, 3) := by decide +kernel
theorem d_M_fields_202 : decode prog_9_method_39_code 202 = .ok (.ifCond .eq 25, 3) := by decide +kernel
theorem d_M_fields_205 : decode prog_9_method_39_code 205 = .ok (.aload_n 0, 1) := by decide +kernel
theorem d_M_fields_206 : decode prog_9_method_39_code 206 = .ok (.aload_n 0, 1) := by decide +kernel
theorem d_M_fields_207 : decode prog_9_method_39_code 207 = .ok (.getfield 99, 3) := by decide +kernel
theorem d_M_fields_210 : decode prog_9_method_39_code 210 = .ok (.ifCond .ne 7, 3) := by decide +kernel
theorem d_M_fields_213 : decode prog_9_method_39_code 213 = .ok (.iconst 1, 1) := by decide +kernel
theorem d_M_fields_214 : decode prog_9_method_39_code 214 = .ok (.goto 4, 3) := by decide +kernel
theorem d_M_fields_217 : decode prog_9_method_39_code 217 = .ok (.iconst 0, 1) := by decide +kernel
theorem d_M_fields_218 : decode prog_9_method_39_code 218 = .ok (.bipush 12, 2) := by decide +kernel
theorem d_M_fields_220 : decode prog_9_method_39_code 220 = .ok (.iload_n 1, 1) := by decide +kernel
theorem d_M_fields_221 : decode prog_9_method_39_code 221 = .ok (.invokevirtual 115, 3) := by decide +kernel
theorem d_M_fields_224 : decode prog_9_method_39_code 224 = .ok (.ifCond .ne 4, 3) := by decide +kernel
theorem d_M_fields_227 : decode prog_9_method_39_code 227 = .ok (.return_, 1) := by decide +kernel
theorem d_M_fields_228 : decode prog_9_method_39_code 228 = .ok (.iconst 0, 1) := by decide +kernel
theorem d_M_fields_229 : decode prog_9_method_39_code 229 = .ok (.istore 6, 2) := by decide +kernel
theorem d_M_fields_231 : decode prog_9_method_39_code 231 = .ok (.iload 6, 2) := by decide +kernel
theorem d_M_fields_233 : decode prog_9_method_39_code 233 = .ok (.iload_n 2, 1) := by decide +kernel
theorem d_M_fields_234 : decode prog_9_method_39_code 234 = .ok (.if_icmp .ge 62, 3) := by decide +kernel
theorem d_M_fields_237 : decode prog_9_method_39_code 237 = .ok (.aload_n 0, 1) := by decide +kernel
theorem d_M_fields_238 : decode prog_9_method_39_code 238 = .ok (.aload_n 0, 1) := by decide +kernel
theorem d_M_fields_239 : decode prog_9_method_39_code 239 = .ok (.aload_n 0, 1) := by decide +kernel
theorem d_M_fields_240 : decode prog_9_method_39_code 240 = .ok (.getfield 23, 3) := by decide +kernel
theorem d_M_fields_243 : decode prog_9_method_39_code 243 = .ok (.iload 6, 2) := by decide +kernel
theorem d_M_fields_245 : decode prog_9_method_39_code 245 = .ok (.iaload, 1) := by decide +kernel
theorem d_M_fields_246 : decode prog_9_method_39_code 246 = .ok (.aload_n 0, 1) := by decide +kernel
theorem d_M_fields_247 : decode prog_9_method_39_code 247 = .ok (.getfield 23, 3) := by decide +kernel
theorem d_M_fields_250 : decode prog_9_method_39_code 250 = .ok (.iload_n 2, 1) := by decide +kernel
theorem d_M_fields_251 : decode prog_9_method_39_code 251 = .ok (.iaload, 1) := by decide +kernel
theorem d_M_fields_252 : decode prog_9_method_39_code 252 = .ok (.invokevirtual 213, 3) := by decide +kernel
theorem d_M_fields_255 : decode prog_9_method_39_code 255 = .ok (.ifCond .eq 23, 3) := by decide +kernel
theorem d_M_fields_258 : decode prog_9_method_39_code 258 = .ok (.aload_n 0, 1) := by decide +kernel
theorem d_M_fields_259 : decode prog_9_method_39_code 259 = .ok (.aload_n 0, 1) := by decide +kernel
theorem d_M_fields_260 : decode prog_9_method_39_code 260 = .ok (.getfield 26, 3) := by decide +kernel
theorem d_M_fields_263 : decode prog_9_method_39_code 263 = .ok (.iload 6, 2) := by decide +kernel
theorem d_M_fields_265 : decode prog_9_method_39_code 265 = .ok (.iaload, 1) := by decide +kernel
theorem d_M_fields_266 : decode prog_9_method_39_code 266 = .ok (.aload_n 0, 1) := by decide +kernel
theorem d_M_fields_267 : decode prog_9_method_39_code 267 = .ok (.getfield 26, 3) := by decide +kernel
theorem d_M_fields_270 : decode prog_9_method_39_code 270 = .ok (.iload_n 2, 1) := by decide +kernel
theorem d_M_fields_271 : decode prog_9_method_39_code 271 = .ok (.iaload, 1) := by decide +kernel
theorem d_M_fields_272 : decode prog_9_method_39_code 272 = .ok (.invokevirtual 213, 3) := by decide +kernel
theorem d_M_fields_275 : decode prog_9_method_39_code 275 = .ok (.ifCond .ne 7, 3) := by decide +kernel
theorem d_M_fields_278 : decode prog_9_method_39_code 278 = .ok (.iconst 1, 1) := by decide +kernel
theorem d_M_fields_279 : decode prog_9_method_39_code 279 = .ok (.goto 4, 3) := by decide +kernel
theorem d_M_fields_282 : decode prog_9_method_39_code 282 = .ok (.iconst 0, 1) := by decide +kernel
theorem d_M_fields_283 : decode prog_9_method_39_code 283 = .ok (.bipush 16, 2) := by decide +kernel
theorem d_M_fields_285 : decode prog_9_method_39_code 285 = .ok (.iload_n 3, 1) := by decide +kernel
theorem d_M_fields_286 : decode prog_9_method_39_code 286 = .ok (.invokevirtual 115, 3) := by decide +kernel
theorem d_M_fields_289 : decode prog_9_method_39_code 289 = .ok (.pop, 1) := by decide +kernel
theorem d_M_fields_290 : decode prog_9_method_39_code 290 = .ok (.iinc 6 1, 3) := by decide +kernel
theorem d_M_fields_293 : decode prog_9_method_39_code 293 = .ok (.goto (-62), 3) := by decide +kernel
theorem d_M_fields_296 : decode prog_9_method_39_code 296 = .ok (.aload_n 0, 1) := by decide +kernel
theorem d_M_fields_297 : decode prog_9_method_39_code 297 = .ok (.invokevirtual 55, 3) := by decide +kernel
theorem d_M_fields_300 : decode prog_9_method_39_code 300 = .ok (.ifCond .eq 17, 3) := by decide +kernel
theorem d_M_fields_303 : decode prog_9_method_39_code 303 = .ok (.aload_n 0, 1) := by decide +kernel
theorem d_M_fields_304 : decode prog_9_method_39_code 304 = .ok (.iconst 1, 1) := by decide +kernel
theorem d_M_fields_305 : decode prog_9_method_39_code 305 = .ok (.iload 4, 2) := by decide +kernel
theorem d_M_fields_307 : decode prog_9_method_39_code 307 = .ok (.aload_n 0, 1) := by decide +kernel
theorem d_M_fields_308 : decode prog_9_method_39_code 308 = .ok (.getfield 26, 3) := by decide +kernel
theorem d_M_fields_311 : decode prog_9_method_39_code 311 = .ok (.iload_n 2, 1) := by decide +kernel
theorem d_M_fields_312 : decode prog_9_method_39_code 312 = .ok (.iaload, 1) := by decide +kernel
theorem d_M_fields_313 : decode prog_9_method_39_code 313 = .ok (.iconst 0, 1) := by decide +kernel
theorem d_M_fields_314 : decode prog_9_method_39_code 314 = .ok (.invokevirtual 162, 3) := by decide +kernel
theorem d_M_fields_317 : decode prog_9_method_39_code 317 = .ok (.iinc 2 1, 3) := by decide +kernel
theorem d_M_fields_320 : decode prog_9_method_39_code 320 = .ok (.goto (-283), 3) := by decide +kernel
theorem d_M_fields_323 : decode prog_9_method_39_code 323 = .ok (.return_, 1) := by decide +kernel
theorem d_M_head_0 : decode prog_9_method_37_code 0 = .ok (.aload_n 0, 1) := by decide +kernel
theorem d_M_head_1 : decode prog_9_method_37_code 1 = .ok (.getfield 63, 3) := by decide +kernel
theorem d_M_head_4 : decode prog_9_method_37_code 4 = .ok (.istore_n 1, 1) := by decide +kernel
theorem d_M_head_5 : decode prog_9_method_37_code 5 = .ok (.aload_n 0, 1) := by decide +kernel
theorem d_M_head_6 : decode prog_9_method_37_code 6 = .ok (.aload_n 0, 1) := by decide +kernel
theorem d_M_head_7 : decode prog_9_method_37_code 7 = .ok (.invokevirtual 73, 3) := by decide +kernel
theorem d_M_head_10 : decode prog_9_method_37_code 10 = .ok (.putfield 198, 3) := by decide +kernel
theorem d_M_head_13 : decode prog_9_method_37_code 13 = .ok (.aload_n 0, 1) := by decide +kernel
theorem d_M_head_14 : decode prog_9_method_37_code 14 = .ok (.getfield 198, 3) := by decide +kernel
theorem d_M_head_17 : decode prog_9_method_37_code 17 = .ok (.sipush (-1586), 3) := by decide +kernel
theorem d_M_head_20 : decode prog_9_method_37_code 20 = .ok (.iand, 1) := by decide +kernel
theorem d_M_head_21 : decode prog_9_method_37_code 21 = .ok (.ifCond .ne 21, 3) := by decide +kernel
theorem d_M_head_24 : decode prog_9_method_37_code 24 = .ok (.aload_n 0, 1) := by decide +kernel
theorem d_M_head_25 : decode prog_9_method_37_code 25 = .ok (.getfield 198, 3) := by decide +kernel
theorem d_M_head_28 : decode prog_9_method_37_code 28 = .ok (.sipush 1040, 3) := by decide +kernel
theorem d_M_head_31 : decode prog_9_method_37_code 31 = .ok (.iand, 1) := by decide +kernel
theorem d_M_head_32 : decode prog_9_method_37_code 32 = .ok (.sipush 1040, 3) := by decide +kernel
theorem d_M_head_35 : decode prog_9_method_37_code 35 = .ok (.if_icmp .eq 7, 3) := by decide +kernel
theorem d_M_head_38 : decode prog_9_method_37_code 38 = .ok (.iconst 1, 1) := by decide +kernel
theorem d_M_head_39 : decode prog_9_method_37_code 39 = .ok (.goto 4, 3) := by decide +kernel
theorem d_M_head_42 : decode prog_9_method_37_code 42 = .ok (.iconst 0, 1) := by decide +kernel
theorem d_M_head_43 : decode prog_9_method_37_code 43 = .ok (.istore_n 2, 1) := by decide +kernel
theorem d_M_head_44 : decode prog_9_method_37_code 44 = .ok (.aload_n 0, 1) := by decide +kernel
theorem d_M_head_45 : decode prog_9_method_37_code 45 = .ok (.getfield 198, 3) := by decide +kernel
theorem d_M_head_48 : decode prog_9_method_37_code 48 = .ok (.sipush 512, 3) := by decide +kernel
theorem d_M_head_51 : decode prog_9_method_37_code 51 = .ok (.iand, 1) := by decide +kernel
theorem d_M_head_52 : decode prog_9_method_37_code 52 = .ok (.ifCond .eq 32, 3) := by decide +kernel
theorem d_M_head_55 : decode prog_9_method_37_code 55 = .ok (.iload_n 2, 1) := by decide +kernel
theorem d_M_head_56 : decode prog_9_method_37_code 56 = .ok (.aload_n 0, 1) := by decide +kernel
theorem d_M_head_57 : decode prog_9_method_37_code 57 = .ok (.getfield 198, 3) := by decide +kernel
theorem d_M_head_60 : decode prog_9_method_37_code 60 = .ok (.sipush 1024, 3) := by decide +kernel
theorem d_M_head_63 : decode prog_9_method_37_code 63 = .ok (.iand, 1) := by decide +kernel
theorem d_M_head_64 : decode prog_9_method_37_code 64 = .ok (.ifCond .eq 17, 3) := by decide +kernel
theorem d_M_head_67 : decode prog_9_method_37_code 67 = .ok (.aload_n 0, 1) := by decide +kernel
theorem d_M_head_68 : decode prog_9_method_37_code 68 = .ok (.getfield 198, 3) := by decide +kernel
theorem d_M_head_71 : decode prog_9_method_37_code 71 = .ok (.bipush 48, 2) := by decide +kernel
theorem d_M_head_73 : decode prog_9_method_37_code 73 = .ok (.iand, 1) := by decide +kernel
theorem d_M_head_74 : decode prog_9_method_37_code 74 = .ok (.ifCond .ne 7, 3) := by decide +kernel
theorem d_M_head_77 : decode prog_9_method_37_code 77 = .ok (.iconst 1, 1) := by decide +kernel
theorem d_M_head_78 : decode prog_9_method_37_code 78 = .ok (.goto 4, 3) := by decide +kernel
theorem d_M_head_81 : decode prog_9_method_37_code 81 = .ok (.iconst 0, 1) := by decide +kernel
theorem d_M_head_82 : decode prog_9_method_37_code 82 = .ok (.iand, 1) := by decide +kernel
theorem d_M_head_83 : decode prog_9_method_37_code 83 = .ok (.istore_n 2, 1) := by decide +kernel
theorem d_M_head_84 : decode prog_9_method_37_code 84 = .ok (.aload_n 0, 1) := by decide +kernel
theorem d_M_head_85 : decode prog_9_method_37_code 85 = .ok (.iload_n 2, 1) := by decide +kernel
theorem d_M_head_86 : decode prog_9_method_37_code 86 = .ok (.bipush 13, 2) := by decide +kernel
theorem d_M_head_88 : decode prog_9_method_37_code 88 = .ok (.iload_n 1, 1) := by decide +kernel
theorem d_M_head_89 : decode prog_9_method_37_code 89 = .ok (.invokevirtual 115, 3) := by decide +kernel
theorem d_M_head_92 : decode prog_9_method_37_code 92 = .ok (.ifCond .ne 4, 3) := by decide +kernel
theorem d_M_head_95 : decode prog_9_method_37_code 95 = .ok (.return_, 1) := by decide +kernel
theorem d_M_head_96 : decode prog_9_method_37_code 96 = .ok (.aload_n 0, 1) := by decide +kernel
theorem d_M_head_97 : decode prog_9_method_37_code 97 = .ok (.getfield 63, 3) := by decide +kernel
theorem d_M_head_100 : decode prog_9_method_37_code 100 = .ok (.istore_n 1, 1) := by decide +kernel
theorem d_M_head_101 : decode prog_9_method_37_code 101 = .ok (.aload_n 0, 1) := by decide +kernel
theorem d_M_head_102 : decode prog_9_method_37_code 102 = .ok (.aload_n 0, 1) := by decide +kernel
theorem d_M_head_103 : decode prog_9_method_37_code 103 = .ok (.bipush 7, 2) := by decide +kernel
theorem d_M_head_105 : decode prog_9_method_37_code 105 = .ok (.invokevirtual 201, 3) := by decide +kernel
theorem d_M_head_108 : decode prog_9_method_37_code 108 = .ok (.putfield 204, 3) := by decide +kernel
theorem d_M_head_111 : decode prog_9_method_37_code 111 = .ok (.aload_n 0, 1) := by decide +kernel
theorem d_M_head_112 : decode prog_9_method_37_code 112 = .ok (.invokevirtual 55, 3) := by decide +kernel
theorem d_M_head_115 : decode prog_9_method_37_code 115 = .ok (.ifCond .eq 29, 3) := by decide +kernel
theorem d_M_head_118 : decode prog_9_method_37_code 118 = .ok (.aload_n 0, 1) := by decide +kernel
theorem d_M_head_119 : decode prog_9_method_37_code 119 = .ok (.aload_n 0, 1) := by decide +kernel
theorem d_M_head_120 : decode prog_9_method_37_code 120 = .ok (.aload_n 0, 1) := by decide +kernel
theorem d_M_head_121 : decode prog_9_method_37_code 121 = .ok (.getfield 204, 3) := by decide +kernel
theorem d_M_head_124 : decode prog_9_method_37_code 124 = .ok (.invokevirtual 207, 3) := by decide +kernel
theorem d_M_head_127 : decode prog_9_method_37_code 127 = .ok (.ifCond .ne 7, 3) := by decide +kernel
theorem d_M_head_130 : decode prog_9_method_37_code 130 = .ok (.iconst 1, 1) := by decide +kernel
theorem d_M_head_131 : decode prog_9_method_37_code 131 = .ok (.goto 4, 3) := by decide +kernel
theorem d_M_head_134 : decode prog_9_method_37_code 134 = .ok (.iconst 0, 1) := by decide +kernel
theorem d_M_head_135 : decode prog_9_method_37_code 135 = .ok (.bipush 9, 2) := by decide +kernel
theorem d_M_head_137 : decode prog_9_method_37_code 137 = .ok (.iload_n 1, 1) := by decide +kernel
theorem d_M_head_138 : decode prog_9_method_37_code 138 = .ok (.invokevirtual 115, 3) := by decide +kernel
theorem d_M_head_141 : decode prog_9_method_37_code 141 = .ok (.ifCond .ne 4, 3) := by decide +kernel
theorem d_M_head_144 : decode prog_9_method_37_code 144 = .ok (.return_, 1) := by decide +kernel
theorem d_M_head_145 : decode prog_9_method_37_code 145 = .ok (.aload_n 0, 1) := by decide +kernel
theorem d_M_head_146 : decode prog_9_method_37_code 146 = .ok (.getfield 63, 3) := by decide +kernel
theorem d_M_head_149 : decode prog_9_method_37_code 149 = .ok (.istore_n 1, 1) := by decide +kernel
theorem d_M_head_150 : decode prog_9_method_37_code 150 = .ok (.aload_n 0, 1) := by decide +kernel
theorem d_M_head_151 : decode prog_9_method_37_code 151 = .ok (.bipush 7, 2) := by decide +kernel
theorem d_M_head_153 : decode prog_9_method_37_code 153 = .ok (.invokevirtual 201, 3) := by decide +kernel
theorem d_M_head_156 : decode prog_9_method_37_code 156 = .ok (.istore_n 3, 1) := by decide +kernel
theorem d_M_head_157 : decode prog_9_method_37_code 157 = .ok (.aload_n 0, 1) := by decide +kernel
theorem d_M_head_158 : decode prog_9_method_37_code 158 = .ok (.invokevirtual 55, 3) := by decide +kernel
theorem d_M_head_161 : decode prog_9_method_37_code 161 = .ok (.ifCond .eq 26, 3) := by decide +kernel
theorem d_M_head_164 : decode prog_9_method_37_code 164 = .ok (.aload_n 0, 1) := by decide +kernel
theorem d_M_head_165 : decode prog_9_method_37_code 165 = .ok (.aload_n 0, 1) := by decide +kernel
theorem d_M_head_166 : decode prog_9_method_37_code 166 = .ok (.iload_n 3, 1) := by decide +kernel
theorem d_M_head_167 : decode prog_9_method_37_code 167 = .ok (.invokevirtual 207, 3) := by decide +kernel
theorem d_M_head_170 : decode prog_9_method_37_code 170 = .ok (.ifCond .ne 7, 3) := by decide +kernel
theorem d_M_head_173 : decode prog_9_method_37_code 173 = .ok (.iconst 1, 1) := by decide +kernel
theorem d_M_head_174 : decode prog_9_method_37_code 174 = .ok (.goto 4, 3) := by decide +kernel
theorem d_M_head_177 : decode prog_9_method_37_code 177 = .ok (.iconst 0, 1) := by decide +kernel
theorem d_M_head_178 : decode prog_9_method_37_code 178 = .ok (.bipush 9, 2) := by decide +kernel
theorem d_M_head_180 : decode prog_9_method_37_code 180 = .ok (.iload_n 1, 1) := by decide +kernel
theorem d_M_head_181 : decode prog_9_method_37_code 181 = .ok (.invokevirtual 115, 3) := by decide +kernel
theorem d_M_head_184 : decode prog_9_method_37_code 184 = .ok (.ifCond .ne 4, 3) := by decide +kernel
theorem d_M_head_187 : decode prog_9_method_37_code 187 = .ok (.return_, 1) := by decide +kernel
theorem d_M_head_188 : decode prog_9_method_37_code 188 = .ok (.aload_n 0, 1) := by decide +kernel
theorem d_M_head_189 : decode prog_9_method_37_code 189 = .ok (.aload_n 0, 1) := by decide +kernel
theorem d_M_head_190 : decode prog_9_method_37_code 190 = .ok (.aload_n 0, 1) := by decide +kernel
theorem d_M_head_191 : decode prog_9_method_37_code 191 = .ok (.aload_n 0, 1) := by decide +kernel
theorem d_M_head_192 : decode prog_9_method_37_code 192 = .ok (.getfield 204, 3) := by decide +kernel
theorem d_M_head_195 : decode prog_9_method_37_code 195 = .ok (.invokevirtual 210, 3) := by decide +kernel
theorem d_M_head_198 : decode prog_9_method_37_code 198 = .ok (.aload_n 0, 1) := by decide +kernel
theorem d_M_head_199 : decode prog_9_method_37_code 199 = .ok (.iload_n 3, 1) := by decide +kernel
theorem d_M_head_200 : decode prog_9_method_37_code 200 = .ok (.invokevirtual 210, 3) := by decide +kernel
theorem d_M_head_203 : decode prog_9_method_37_code 203 = .ok (.invokevirtual 213, 3) := by decide +kernel
theorem d_M_head_206 : decode prog_9_method_37_code 206 = .ok (.ifCond .ne 7, 3) := by decide +kernel
theorem d_M_head_209 : decode prog_9_method_37_code 209 = .ok (.iconst 1, 1) := by decide +kernel
theorem d_M_head_210 : decode prog_9_method_37_code 210 = .ok (.goto 4, 3) := by decide +kernel
theorem d_M_head_213 : decode prog_9_method_37_code 213 = .ok (.iconst 0, 1) := by decide +kernel
theorem d_M_head_214 : decode prog_9_method_37_code 214 = .ok (.bipush 14, 2) := by decide +kernel
theorem d_M_head_216 : decode prog_9_method_37_code 216 = .ok (.iload_n 1, 1) := by decide +kernel
theorem d_M_head_217 : decode prog_9_method_37_code 217 = .ok (.invokevirtual 115, 3) := by decide +kernel
theorem d_M_head_220 : decode prog_9_method_37_code 220 = .ok (.pop, 1) := by decide +kernel
theorem d_M_head_221 : decode prog_9_method_37_code 221 = .ok (.aload_n 0, 1) := by decide +kernel
theorem d_M_head_222 : decode prog_9_method_37_code 222 = .ok (.aload_n 0, 1) := by decide +kernel
theorem d_M_head_223 : decode prog_9_method_37_code 223 = .ok (.getfield 198, 3) := by decide +kernel
theorem d_M_head_226 : decode prog_9_method_37_code 226 = .ok (.sipush 512, 3) := by decide +kernel
theorem d_M_head_229 : decode prog_9_method_37_code 229 = .ok (.iand, 1) := by decide +kernel
theorem d_M_head_230 : decode prog_9_method_37_code 230 = .ok (.ifCond .eq 24, 3) := by decide +kernel
theorem d_M_head_233 : decode prog_9_method_37_code 233 = .ok (.aload_n 0, 1) := by decide +kernel
theorem d_M_head_234 : decode prog_9_method_37_code 234 = .ok (.aload_n 0, 1) := by decide +kernel
theorem d_M_head_235 : decode prog_9_method_37_code 235 = .ok (.iload_n 3, 1) := by decide +kernel
theorem d_M_head_236 : decode prog_9_method_37_code 236 = .ok (.invokevirtual 210, 3) := by decide +kernel
theorem d_M_head_239 : decode prog_9_method_37_code 239 = .ok (.bipush 16, 2) := by decide +kernel
theorem d_M_head_241 : decode prog_9_method_37_code 241 = .ok (.ldc2_w 216, 3) := by decide +kernel
theorem d_M_head_244 : decode prog_9_method_37_code 244 = .ok (.ldc2_w 218, 3) := by decide +kernel
theorem d_M_head_247 : decode prog_9_method_37_code 247 = .ok (.lconst 0, 1) := by decide +kernel
theorem d_M_head_248 : decode prog_9_method_37_code 248 = .ok (.invokevirtual 180, 3) := by decide +kernel
theorem d_M_head_251 : decode prog_9_method_37_code 251 = .ok (.ifCond .eq 7, 3) := by decide +kernel
theorem d_M_head_254 : decode prog_9_method_37_code 254 = .ok (.iconst 1, 1) := by decide +kernel
theorem d_M_head_255 : decode prog_9_method_37_code 255 = .ok (.goto 4, 3) := by decide +kernel
theorem d_M_head_258 : decode prog_9_method_37_code 258 = .ok (.iconst 0, 1) := by decide +kernel
theorem d_M_head_259 : decode prog_9_method_37_code 259 = .ok (.bipush 14, 2) := by decide +kernel
theorem d_M_head_261 : decode prog_9_method_37_code 261 = .ok (.iload_n 1, 1) := by decide +kernel
theorem d_M_head_262 : decode prog_9_method_37_code 262 = .ok (.invokevirtual 115, 3) := by decide +kernel
theorem d_M_head_265 : decode prog_9_method_37_code 265 = .ok (.pop, 1) := by decide +kernel
theorem d_M_head_266 : decode prog_9_method_37_code 266 = .ok (.aload_n 0, 1) := by decide +kernel
theorem d_M_head_267 : decode prog_9_method_37_code 267 = .ok (.getfield 63, 3) := by decide +kernel
theorem d_M_head_270 : decode prog_9_method_37_code 270 = .ok (.istore_n 1, 1) := by decide +kernel
theorem d_M_head_271 : decode prog_9_method_37_code 271 = .ok (.aload_n 0, 1) := by decide +kernel
theorem d_M_head_272 : decode prog_9_method_37_code 272 = .ok (.aload_n 0, 1) := by decide +kernel
theorem d_M_head_273 : decode prog_9_method_37_code 273 = .ok (.invokevirtual 73, 3) := by decide +kernel
theorem d_M_head_276 : decode prog_9_method_37_code 276 = .ok (.putfield 125, 3) := by decide +kernel
theorem d_M_head_279 : decode prog_9_method_37_code 279 = .ok (.aload_n 0, 1) := by decide +kernel
theorem d_M_head_280 : decode prog_9_method_37_code 280 = .ok (.aload_n 0, 1) := by decide +kernel
theorem d_M_head_281 : decode prog_9_method_37_code 281 = .ok (.getfield 125, 3) := by decide +kernel
theorem d_M_head_284 : decode prog_9_method_37_code 284 = .ok (.bipush 20, 2) := by decide +kernel
theorem d_M_head_286 : decode prog_9_method_37_code 286 = .ok (.if_icmp .gt 7, 3) := by decide +kernel
theorem d_M_head_289 : decode prog_9_method_37_code 289 = .ok (.iconst 1, 1) := by decide +kernel
theorem d_M_head_290 : decode prog_9_method_37_code 290 = .ok (.goto 4, 3) := by decide +kernel
theorem d_M_head_293 : decode prog_9_method_37_code 293 = .ok (.iconst 0, 1) := by decide +kernel
theorem d_M_head_294 : decode prog_9_method_37_code 294 = .ok (.bipush 15, 2) := by decide +kernel
theorem d_M_head_296 : decode prog_9_method_37_code 296 = .ok (.iload_n 1, 1) := by decide +kernel
theorem d_M_head_297 : decode prog_9_method_37_code 297 = .ok (.invokevirtual 115, 3) := by decide +kernel
theorem d_M_head_300 : decode prog_9_method_37_code 300 = .ok (.pop, 1) := by decide +kernel
theorem d_M_head_301 : decode prog_9_method_37_code 301 = .ok (.iconst 0, 1) := by decide +kernel
theorem d_M_head_302 : decode prog_9_method_37_code 302 = .ok (.istore 4, 2) := by decide +kernel
theorem d_M_head_304 : decode prog_9_method_37_code 304 = .ok (.iload 4, 2) := by decide +kernel
theorem d_M_head_306 : decode prog_9_method_37_code 306 = .ok (.aload_n 0, 1) := by decide +kernel
theorem d_M_head_307 : decode prog_9_method_37_code 307 = .ok (.getfield 125, 3) := by decide +kernel
theorem d_M_head_310 : decode prog_9_method_37_code 310 = .ok (.if_icmp .ge 129, 3) := by decide +kernel
theorem d_M_head_313 : decode prog_9_method_37_code 313 = .ok (.aload_n 0, 1) := by decide +kernel
theorem d_M_head_314 : decode prog_9_method_37_code 314 = .ok (.invokevirtual 55, 3) := by decide +kernel
theorem d_M_head_317 : decode prog_9_method_37_code 317 = .ok (.ifCond .eq 122, 3) := by decide +kernel
theorem d_M_head_320 : decode prog_9_method_37_code 320 = .ok (.aload_n 0, 1) := by decide +kernel
theorem d_M_head_321 : decode prog_9_method_37_code 321 = .ok (.getfield 63, 3) := by decide +kernel
theorem d_M_head_324 : decode prog_9_method_37_code 324 = .ok (.istore_n 1, 1) := by decide +kernel
theorem d_M_head_325 : decode prog_9_method_37_code 325 = .ok (.aload_n 0, 1) := by decide +kernel
theorem d_M_head_326 : decode prog_9_method_37_code 326 = .ok (.getfield 29, 3) := by decide +kernel
theorem d_M_head_329 : decode prog_9_method_37_code 329 = .ok (.iload 4, 2) := by decide +kernel
theorem d_M_head_331 : decode prog_9_method_37_code 331 = .ok (.aload_n 0, 1) := by decide +kernel
theorem d_M_head_332 : decode prog_9_method_37_code 332 = .ok (.bipush 7, 2) := by decide +kernel
theorem d_M_head_334 : decode prog_9_method_37_code 334 = .ok (.invokevirtual 201, 3) := by decide +kernel
theorem d_M_head_337 : decode prog_9_method_37_code 337 = .ok (.iastore, 1) := by decide +kernel
theorem d_M_head_338 : decode prog_9_method_37_code 338 = .ok (.aload_n 0, 1) := by decide +kernel
theorem d_M_head_339 : decode prog_9_method_37_code 339 = .ok (.invokevirtual 55, 3) := by decide +kernel
theorem d_M_head_342 : decode prog_9_method_37_code 342 = .ok (.ifCond .eq 32, 3) := by decide +kernel
theorem d_M_head_345 : decode prog_9_method_37_code 345 = .ok (.aload_n 0, 1) := by decide +kernel
theorem d_M_head_346 : decode prog_9_method_37_code 346 = .ok (.aload_n 0, 1) := by decide +kernel
theorem d_M_head_347 : decode prog_9_method_37_code 347 = .ok (.aload_n 0, 1) := by decide +kernel
theorem d_M_head_348 : decode prog_9_method_37_code 348 = .ok (.getfield 29, 3) := by decide +kernel
theorem d_M_head_351 : decode prog_9_method_37_code 351 = .ok (.iload 4, 2) := by decide +kernel
theorem d_M_head_353 : decode prog_9_method_37_code 353 = .ok (.iaload, 1) := by decide +kernel
theorem d_M_head_354 : decode prog_9_method_37_code 354 = .ok (.invokevirtual 207, 3) := by decide +kernel
theorem d_M_head_357 : decode prog_9_method_37_code 357 = .ok (.ifCond .ne 7, 3) := by decide +kernel
theorem d_M_head_360 : decode prog_9_method_37_code 360 = .ok (.iconst 1, 1) := by decide +kernel
theorem d_M_head_361 : decode prog_9_method_37_code 361 = .ok (.goto 4, 3) := by decide +kernel
theorem d_M_head_364 : decode prog_9_method_37_code 364 = .ok (.iconst 0, 1) := by decide +kernel
theorem d_M_head_365 : decode prog_9_method_37_code 365 = .ok (.bipush 9, 2) := by decide +kernel
theorem d_M_head_367 : decode prog_9_method_37_code 367 = .ok (.iload_n 1, 1) := by decide +kernel
theorem d_M_head_368 : decode prog_9_method_37_code 368 = .ok (.invokevirtual 115, 3) := by decide +kernel
theorem d_M_head_371 : decode prog_9_method_37_code 371 = .ok (.ifCond .ne 4, 3) := by decide +kernel
theorem d_M_head_374 : decode prog_9_method_37_code 374 = .ok (.return_, 1) := by decide +kernel
theorem d_M_head_375 : decode prog_9_method_37_code 375 = .ok (.iconst 0, 1) := by decide +kernel
theorem d_M_head_376 : decode prog_9_method_37_code 376 = .ok (.istore 5, 2) := by decide +kernel
theorem d_M_head_378 : decode prog_9_method_37_code 378 = .ok (.iload 5, 2) := by decide +kernel
theorem d_M_head_380 : decode prog_9_method_37_code 380 = .ok (.iload 4, 2) := by decide +kernel
theorem d_M_head_382 : decode prog_9_method_37_code 382 = .ok (.if_icmp .ge 51, 3) := by decide +kernel
theorem d_M_head_385 : decode prog_9_method_37_code 385 = .ok (.aload_n 0, 1) := by decide +kernel
theorem d_M_head_386 : decode prog_9_method_37_code 386 = .ok (.aload_n 0, 1) := by decide +kernel
theorem d_M_head_387 : decode prog_9_method_37_code 387 = .ok (.aload_n 0, 1) := by decide +kernel
theorem d_M_head_388 : decode prog_9_method_37_code 388 = .ok (.aload_n 0, 1) := by decide +kernel
theorem d_M_head_389 : decode prog_9_method_37_code 389 = .ok (.getfield 29, 3) := by decide +kernel
theorem d_M_head_392 : decode prog_9_method_37_code 392 = .ok (.iload 5, 2) := by decide +kernel
theorem d_M_head_394 : decode prog_9_method_37_code 394 = .ok (.iaload, 1) := by decide +kernel
theorem d_M_head_395 : decode prog_9_method_37_code 395 = .ok (.invokevirtual 210, 3) := by decide +kernel
theorem d_M_head_398 : decode prog_9_method_37_code 398 = .ok (.aload_n 0, 1) := by decide +kernel
theorem d_M_head_399 : decode prog_9_method_37_code 399 = .ok (.aload_n 0, 1) := by decide +kernel
theorem d_M_head_400 : decode prog_9_method_37_code 400 = .ok (.getfield 29, 3) := by decide +kernel
theorem d_M_head_403 : decode prog_9_method_37_code 403 = .ok (.iload 4, 2) := by decide +kernel
theorem d_M_head_405 : decode prog_9_method_37_code 405 = .ok (.iaload, 1) := by decide +kernel
theorem d_M_head_406 : decode prog_9_method_37_code 406 = .ok (.invokevirtual 210, 3) := by decide +kernel
theorem d_M_head_409 : decode prog_9_method_37_code 409 = .ok (.invokevirtual 213, 3) := by decide +kernel
theorem d_M_head_412 : decode prog_9_method_37_code 412 = .ok (.ifCond .ne 7, 3) := by decide +kernel
theorem d_M_head_415 : decode prog_9_method_37_code 415 = .ok (.iconst 1, 1) := by decide +kernel
theorem d_M_head_416 : decode prog_9_method_37_code 416 = .ok (.goto 4, 3) := by decide +kernel
theorem d_M_head_419 : decode prog_9_method_37_code 419 = .ok (.iconst 0, 1) := by decide +kernel
theorem d_M_head_420 : decode prog_9_method_37_code 420 = .ok (.bipush 16, 2) := by decide +kernel
theorem d_M_head_422 : decode prog_9_method_37_code 422 = .ok (.iload_n 1, 1) := by decide +kernel
theorem d_M_head_423 : decode prog_9_method_37_code 423 = .ok (.invokevirtual 115, 3) := by decide +kernel
theorem d_M_head_426 : decode prog_9_method_37_code 426 = .ok (.pop, 1) := by decide +kernel
theorem d_M_head_427 : decode prog_9_method_37_code 427 = .ok (.iinc 5 1, 3) := by decide +kernel
theorem d_M_head_430 : decode prog_9_method_37_code 430 = .ok (.goto (-52), 3) := by decide +kernel
theorem d_M_head_433 : decode prog_9_method_37_code 433 = .ok (.iinc 4 1, 3) := by decide +kernel
theorem d_M_head_436 : decode prog_9_method_37_code 436 = .ok (.goto (-132), 3) := by decide +kernel
theorem d_M_head_439 : decode prog_9_method_37_code 439 = .ok (.return_, 1) := by decide +kernel
theorem d_M_methods_0 : decode prog_9_method_40_code 0 = .ok (.aload_n 0, 1) := by decide +kernel
theorem d_M_methods_1 : decode prog_9_method_40_code 1 = .ok (.getfield 63, 3) := by decide +kernel
theorem d_M_methods_4 : decode prog_9_method_40_code 4 = .ok (.istore_n 1, 1) := by decide +kernel
theorem d_M_methods_5 : decode prog_9_method_40_code 5 = .ok (.aload_n 0, 1) := by decide +kernel
theorem d_M_methods_6 : decode prog_9_method_40_code 6 = .ok (.aload_n 0, 1) := by decide +kernel
theorem d_M_methods_7 : decode prog_9_method_40_code 7 = .ok (.invokevirtual 73, 3) := by decide +kernel
theorem d_M_methods_10 : decode prog_9_method_40_code 10 = .ok (.putfield 122, 3) := by decide +kernel
theorem d_M_methods_13 : decode prog_9_method_40_code 13 = .ok (.aload_n 0, 1) := by decide +kernel
theorem d_M_methods_14 : decode prog_9_method_40_code 14 = .ok (.aload_n 0, 1) := by decide +kernel
theorem d_M_methods_15 : decode prog_9_method_40_code 15 = .ok (.getfield 122, 3) := by decide +kernel
theorem d_M_methods_18 : decode prog_9_method_40_code 18 = .ok (.bipush 60, 2) := by decide +kernel
theorem d_M_methods_20 : decode prog_9_method_40_code 20 = .ok (.if_icmp .gt 7, 3) := by decide +kernel
theorem d_M_methods_23 : decode prog_9_method_40_code 23 = .ok (.iconst 1, 1) := by decide +kernel
theorem d_M_methods_24 : decode prog_9_method_40_code 24 = .ok (.goto 4, 3) := by decide +kernel
theorem d_M_methods_27 : decode prog_9_method_40_code 27 = .ok (.iconst 0, 1) := by decide +kernel
theorem d_M_methods_28 : decode prog_9_method_40_code 28 = .ok (.bipush 15, 2) := by decide +kernel
theorem d_M_methods_30 : decode prog_9_method_40_code 30 = .ok (.iload_n 1, 1) := by decide +kernel
theorem d_M_methods_31 : decode prog_9_method_40_code 31 = .ok (.invokevirtual 115, 3) := by decide +kernel
theorem d_M_methods_34 : decode prog_9_method_40_code 34 = .ok (.pop, 1) := by decide +kernel
theorem d_M_methods_35 : decode prog_9_method_40_code 35 = .ok (.iconst 0, 1) := by decide +kernel
theorem d_M_methods_36 : decode prog_9_method_40_code 36 = .ok (.istore_n 2, 1) := by decide +kernel
theorem d_M_methods_37 : decode prog_9_method_40_code 37 = .ok (.iload_n 2, 1) := by decide +kernel
theorem d_M_methods_38 : decode prog_9_method_40_code 38 = .ok (.aload_n 0, 1) := by decide +kernel
theorem d_M_methods_39 : decode prog_9_method_40_code 39 = .ok (.getfield 122, 3) := by decide +kernel
theorem d_M_methods_42 : decode prog_9_method_40_code 42 = .ok (.if_icmp .ge 601, 3) := by decide +kernel
theorem d_M_methods_45 : decode prog_9_method_40_code 45 = .ok (.aload_n 0, 1) := by decide +kernel
theorem d_M_methods_46 : decode prog_9_method_40_code 46 = .ok (.invokevirtual 55, 3) := by decide +kernel
theorem d_M_methods_49 : decode prog_9_method_40_code 49 = .ok (.ifCond .eq 594, 3) := by decide +kernel
theorem d_M_methods_52 : decode prog_9_method_40_code 52 = .ok (.aload_n 0, 1) := by decide +kernel
theorem d_M_methods_53 : decode prog_9_method_40_code 53 = .ok (.getfield 63, 3) := by decide +kernel
theorem d_M_methods_56 : decode prog_9_method_40_code 56 = .ok (.istore_n 3, 1) := by decide +kernel
theorem d_M_methods_57 : decode prog_9_method_40_code 57 = .ok (.aload_n 0, 1) := by decide +kernel
theorem d_M_methods_58 : decode prog_9_method_40_code 58 = .ok (.invokevirtual 73, 3) := by decide +kernel
theorem d_M_methods_61 : decode prog_9_method_40_code 61 = .ok (.istore 4, 2) := by decide +kernel
theorem d_M_methods_63 : decode prog_9_method_40_code 63 = .ok (.aload_n 0, 1) := by decide +kernel
theorem d_M_methods_64 : decode prog_9_method_40_code 64 = .ok (.getfield 198, 3) := by decide +kernel
theorem d_M_methods_67 : decode prog_9_method_40_code 67 = .ok (.sipush 512, 3) := by decide +kernel
theorem d_M_methods_70 : decode prog_9_method_40_code 70 = .ok (.iand, 1) := by decide +kernel
theorem d_M_methods_71 : decode prog_9_method_40_code 71 = .ok (.ifCond .eq 7, 3) := by decide +kernel
theorem d_M_methods_74 : decode prog_9_method_40_code 74 = .ok (.iconst 1, 1) := by decide +kernel
theorem d_M_methods_75 : decode prog_9_method_40_code 75 = .ok (.goto 4, 3) := by decide +kernel
theorem d_M_methods_78 : decode prog_9_method_40_code 78 = .ok (.iconst 0, 1) := by decide +kernel
theorem d_M_methods_79 : decode prog_9_method_40_code 79 = .ok (.istore 5, 2) := by decide +kernel
theorem d_M_methods_81 : decode prog_9_method_40_code 81 = .ok (.iload 4, 2) := by decide +kernel
theorem d_M_methods_83 : decode prog_9_method_40_code 83 = .ok (.sipush (-1056), 3) := by decide +kernel
theorem d_M_methods_86 : decode prog_9_method_40_code 86 = .ok (.iand, 1) := by decide +kernel
theorem d_M_methods_87 : decode prog_9_method_40_code 87 = .ok (.ifCond .ne 32, 3) := by decide +kernel
theorem d_M_methods_90 : decode prog_9_method_40_code 90 = .ok (.iload 4, 2) := by decide +kernel
theorem d_M_methods_92 : decode prog_9_method_40_code 92 = .ok (.invokestatic 220, 3) := by decide +kernel
theorem d_M_methods_95 : decode prog_9_method_40_code 95 = .ok (.ifCond .eq 24, 3) := by decide +kernel
theorem d_M_methods_98 : decode prog_9_method_40_code 98 = .ok (.iload 4, 2) := by decide +kernel
theorem d_M_methods_100 : decode prog_9_method_40_code 100 = .ok (.sipush 1024, 3) := by decide +kernel
theorem d_M_methods_103 : decode prog_9_method_40_code 103 = .ok (.iand, 1) := by decide +kernel
theorem d_M_methods_104 : decode prog_9_method_40_code 104 = .ok (.ifCond .eq 11, 3) := by decide +kernel
theorem d_M_methods_107 : decode prog_9_method_40_code 107 = .ok (.iload 4, 2) := by decide +kernel
theorem d_M_methods_109 : decode prog_9_method_40_code 109 = .ok (.bipush 26, 2) := by decide +kernel
theorem d_M_methods_111 : decode prog_9_method_40_code 111 = .ok (.iand, 1) := by decide +kernel
theorem d_M_methods_112 : decode prog_9_method_40_code 112 = .ok (.ifCond .ne 7, 3) := by decide +kernel
theorem d_M_methods_115 : decode prog_9_method_40_code 115 = .ok (.iconst 1, 1) := by decide +kernel
theorem d_M_methods_116 : decode prog_9_method_40_code 116 = .ok (.goto 4, 3) := by decide +kernel
theorem d_M_methods_119 : decode prog_9_method_40_code 119 = .ok (.iconst 0, 1) := by decide +kernel
theorem d_M_methods_120 : decode prog_9_method_40_code 120 = .ok (.istore 6, 2) := by decide +kernel
theorem d_M_methods_122 : decode prog_9_method_40_code 122 = .ok (.iload 5, 2) := by decide +kernel
theorem d_M_methods_124 : decode prog_9_method_40_code 124 = .ok (.ifCond .eq 36, 3) := by decide +kernel
theorem d_M_methods_127 : decode prog_9_method_40_code 127 = .ok (.iload 6, 2) := by decide +kernel
theorem d_M_methods_129 : decode prog_9_method_40_code 129 = .ok (.iload 4, 2) := by decide +kernel
theorem d_M_methods_131 : decode prog_9_method_40_code 131 = .ok (.iconst 3, 1) := by decide +kernel
theorem d_M_methods_132 : decode prog_9_method_40_code 132 = .ok (.iand, 1) := by decide +kernel
theorem d_M_methods_133 : decode prog_9_method_40_code 133 = .ok (.ifCond .eq 23, 3) := by decide +kernel
theorem d_M_methods_136 : decode prog_9_method_40_code 136 = .ok (.iload 4, 2) := by decide +kernel
theorem d_M_methods_138 : decode prog_9_method_40_code 138 = .ok (.iconst 3, 1) := by decide +kernel
theorem d_M_methods_139 : decode prog_9_method_40_code 139 = .ok (.iand, 1) := by decide +kernel
theorem d_M_methods_140 : decode prog_9_method_40_code 140 = .ok (.iconst 3, 1) := by decide +kernel
theorem d_M_methods_141 : decode prog_9_method_40_code 141 = .ok (.if_icmp .eq 15, 3) := by decide +kernel
theorem d_M_methods_144 : decode prog_9_method_40_code 144 = .ok (.iload 4, 2) := by decide +kernel
theorem d_M_methods_146 : decode prog_9_method_40_code 146 = .ok (.bipush 20, 2) := by decide +kernel
theorem d_M_methods_148 : decode prog_9_method_40_code 148 = .ok (.iand, 1) := by decide +kernel
theorem d_M_methods_149 : decode prog_9_method_40_code 149 = .ok (.ifCond .ne 7, 3) := by decide +kernel
theorem d_M_methods_152 : decode prog_9_method_40_code 152 = .ok (.iconst 1, 1) := by decide +kernel
theorem d_M_methods_153 : decode prog_9_method_40_code 153 = .ok (.goto 4, 3) := by decide +kernel
theorem d_M_methods_156 : decode prog_9_method_40_code 156 = .ok (.iconst 0, 1) := by decide +kernel
theorem d_M_methods_157 : decode prog_9_method_40_code 157 = .ok (.iand, 1) := by decide +kernel
theorem d_M_methods_158 : decode prog_9_method_40_code 158 = .ok (.istore 6, 2) := by decide +kernel
theorem d_M_methods_160 : decode prog_9_method_40_code 160 = .ok (.iload 6, 2) := by decide +kernel
theorem d_M_methods_162 : decode prog_9_method_40_code 162 = .ok (.aload_n 0, 1) := by decide +kernel
theorem d_M_methods_163 : decode prog_9_method_40_code 163 = .ok (.getfield 198, 3) := by decide +kernel
theorem d_M_methods_166 : decode prog_9_method_40_code 166 = .ok (.sipush 1024, 3) := by decide +kernel
theorem d_M_methods_169 : decode prog_9_method_40_code 169 = .ok (.iand, 1) := by decide +kernel
theorem d_M_methods_170 : decode prog_9_method_40_code 170 = .ok (.ifCond .ne 12, 3) := by decide +kernel
theorem d_M_methods_173 : decode prog_9_method_40_code 173 = .ok (.iload 4, 2) := by decide +kernel
theorem d_M_methods_175 : decode prog_9_method_40_code 175 = .ok (.sipush 1024, 3) := by decide +kernel
theorem d_M_methods_178 : decode prog_9_method_40_code 178 = .ok (.iand, 1) := by decide +kernel
theorem d_M_methods_179 : decode prog_9_method_40_code 179 = .ok (.ifCond .ne 7, 3) := by decide +kernel
theorem d_M_methods_182 : decode prog_9_method_40_code 182 = .ok (.iconst 1, 1) := by decide +kernel
theorem d_M_methods_183 : decode prog_9_method_40_code 183 = .ok (.goto 4, 3) := by decide +kernel
theorem d_M_methods_186 : decode prog_9_method_40_code 186 = .ok (.iconst 0, 1) := by decide +kernel
theorem d_M_methods_187 : decode prog_9_method_40_code 187 = .ok (.iand, 1) := by decide +kernel
theorem d_M_methods_188 : decode prog_9_method_40_code 188 = .ok (.istore 6, 2) := by decide +kernel
theorem d_M_methods_190 : decode prog_9_method_40_code 190 = .ok (.aload_n 0, 1) := by decide +kernel
theorem d_M_methods_191 : decode prog_9_method_40_code 191 = .ok (.iload 6, 2) := by decide +kernel
theorem d_M_methods_193 : decode prog_9_method_40_code 193 = .ok (.bipush 13, 2) := by decide +kernel
theorem d_M_methods_195 : decode prog_9_method_40_code 195 = .ok (.iload_n 3, 1) := by decide +kernel
theorem d_M_methods_196 : decode prog_9_method_40_code 196 = .ok (.invokevirtual 115, 3) := by decide +kernel
theorem d_M_methods_199 : decode prog_9_method_40_code 199 = .ok (.ifCond .ne 4, 3) := by decide +kernel
theorem d_M_methods_202 : decode prog_9_method_40_code 202 = .ok (.return_, 1) := by decide +kernel
theorem d_M_methods_203 : decode prog_9_method_40_code 203 = .ok (.aload_n 0, 1) := by decide +kernel
theorem d_M_methods_204 : decode prog_9_method_40_code 204 = .ok (.getfield 63, 3) := by decide +kernel
theorem d_M_methods_207 : decode prog_9_method_40_code 207 = .ok (.istore 7, 2) := by decide +kernel
theorem d_M_methods_209 : decode prog_9_method_40_code 209 = .ok (.aload_n 0, 1) := by decide +kernel
theorem d_M_methods_210 : decode prog_9_method_40_code 210 = .ok (.getfield 23, 3) := by decide +kernel
theorem d_M_methods_213 : decode prog_9_method_40_code 213 = .ok (.iload_n 2, 1) := by decide +kernel
theorem d_M_methods_214 : decode prog_9_method_40_code 214 = .ok (.aload_n 0, 1) := by decide +kernel
theorem d_M_methods_215 : decode prog_9_method_40_code 215 = .ok (.iconst 1, 1) := by decide +kernel
theorem d_M_methods_216 : decode prog_9_method_40_code 216 = .ok (.invokevirtual 201, 3) := by decide +kernel
theorem d_M_methods_219 : decode prog_9_method_40_code 219 = .ok (.iastore, 1) := by decide +kernel
theorem d_M_methods_220 : decode prog_9_method_40_code 220 = .ok (.aload_n 0, 1) := by decide +kernel
theorem d_M_methods_221 : decode prog_9_method_40_code 221 = .ok (.invokevirtual 55, 3) := by decide +kernel
theorem d_M_methods_224 : decode prog_9_method_40_code 224 = .ok (.ifCond .eq 27, 3) := by decide +kernel
theorem d_M_methods_227 : decode prog_9_method_40_code 227 = .ok (.aload_n 0, 1) := by decide +kernel
theorem d_M_methods_228 : decode prog_9_method_40_code 228 = .ok (.aload_n 0, 1) := by decide +kernel
theorem d_M_methods_229 : decode prog_9_method_40_code 229 = .ok (.getfield 23, 3) := by decide +kernel
theorem d_M_methods_232 : decode prog_9_method_40_code 232 = .ok (.iload_n 2, 1) := by decide +kernel
theorem d_M_methods_233 : decode prog_9_method_40_code 233 = .ok (.iaload, 1) := by decide +kernel
theorem d_M_methods_234 : decode prog_9_method_40_code 234 = .ok (.bipush 6, 2) := by decide +kernel
theorem d_M_methods_236 : decode prog_9_method_40_code 236 = .ok (.ldc2_w 178, 3) := by decide +kernel
theorem d_M_methods_239 : decode prog_9_method_40_code 239 = .ok (.lconst 0, 1) := by decide +kernel
theorem d_M_methods_240 : decode prog_9_method_40_code 240 = .ok (.lconst 0, 1) := by decide +kernel
theorem d_M_methods_241 : decode prog_9_method_40_code 241 = .ok (.invokevirtual 180, 3) := by decide +kernel
theorem d_M_methods_244 : decode prog_9_method_40_code 244 = .ok (.ifCond .eq 7, 3) := by decide +kernel
theorem d_M_methods_247 : decode prog_9_method_40_code 247 = .ok (.iconst 1, 1) := by decide +kernel
theorem d_M_methods_248 : decode prog_9_method_40_code 248 = .ok (.goto 4, 3) := by decide +kernel
theorem d_M_methods_251 : decode prog_9_method_40_code 251 = .ok (.iconst 0, 1) := by decide +kernel
theorem d_M_methods_252 : decode prog_9_method_40_code 252 = .ok (.istore 8, 2) := by decide +kernel
theorem d_M_methods_254 : decode prog_9_method_40_code 254 = .ok (.aload_n 0, 1) := by decide +kernel
theorem d_M_methods_255 : decode prog_9_method_40_code 255 = .ok (.invokevirtual 55, 3) := by decide +kernel
theorem d_M_methods_258 : decode prog_9_method_40_code 258 = .ok (.ifCond .eq 27, 3) := by decide +kernel
theorem d_M_methods_261 : decode prog_9_method_40_code 261 = .ok (.aload_n 0, 1) := by decide +kernel
theorem d_M_methods_262 : decode prog_9_method_40_code 262 = .ok (.aload_n 0, 1) := by decide +kernel
theorem d_M_methods_263 : decode prog_9_method_40_code 263 = .ok (.getfield 23, 3) := by decide +kernel
theorem d_M_methods_266 : decode prog_9_method_40_code 266 = .ok (.iload_n 2, 1) := by decide +kernel
theorem d_M_methods_267 : decode prog_9_method_40_code 267 = .ok (.iaload, 1) := by decide +kernel
theorem d_M_methods_268 : decode prog_9_method_40_code 268 = .ok (.bipush 8, 2) := by decide +kernel
theorem d_M_methods_270 : decode prog_9_method_40_code 270 = .ok (.ldc2_w 184, 3) := by decide +kernel
theorem d_M_methods_273 : decode prog_9_method_40_code 273 = .ok (.lconst 0, 1) := by decide +kernel
theorem d_M_methods_274 : decode prog_9_method_40_code 274 = .ok (.lconst 0, 1) := by decide +kernel
theorem d_M_methods_275 : decode prog_9_method_40_code 275 = .ok (.invokevirtual 180, 3) := by decide +kernel
theorem d_M_methods_278 : decode prog_9_method_40_code 278 = .ok (.ifCond .eq 7, 3) := by decide +kernel
theorem d_M_methods_281 : decode prog_9_method_40_code 281 = .ok (.iconst 1, 1) := by decide +kernel
theorem d_M_methods_282 : decode prog_9_method_40_code 282 = .ok (.goto 4, 3) := by decide +kernel
theorem d_M_methods_285 : decode prog_9_method_40_code 285 = .ok (.iconst 0, 1) := by decide +kernel
theorem d_M_methods_286 : decode prog_9_method_40_code 286 = .ok (.istore 9, 2) := by decide +kernel
theorem d_M_methods_288 : decode prog_9_method_40_code 288 = .ok (.aload_n 0, 1) := by decide +kernel
theorem d_M_methods_289 : decode prog_9_method_40_code 289 = .ok (.invokevirtual 55, 3) := by decide +kernel
theorem d_M_methods_292 : decode prog_9_method_40_code 292 = .ok (.ifCond .eq 42, 3) := by decide +kernel
theorem d_M_methods_295 : decode prog_9_method_40_code 295 = .ok (.aload_n 0, 1) := by decide +kernel
theorem d_M_methods_296 : decode prog_9_method_40_code 296 = .ok (.iload 8, 2) := by decide +kernel
theorem d_M_methods_298 : decode prog_9_method_40_code 298 = .ok (.ifCond .ne 21, 3) := by decide +kernel
theorem d_M_methods_301 : decode prog_9_method_40_code 301 = .ok (.iload 9, 2) := by decide +kernel
theorem d_M_methods_303 : decode prog_9_method_40_code 303 = .ok (.ifCond .ne 16, 3) := by decide +kernel
theorem d_M_methods_306 : decode prog_9_method_40_code 306 = .ok (.aload_n 0, 1) := by decide +kernel
theorem d_M_methods_307 : decode prog_9_method_40_code 307 = .ok (.aload_n 0, 1) := by decide +kernel
theorem d_M_methods_308 : decode prog_9_method_40_code 308 = .ok (.getfield 23, 3) := by decide +kernel
theorem d_M_methods_311 : decode prog_9_method_40_code 311 = .ok (.iload_n 2, 1) := by decide +kernel
theorem d_M_methods_312 : decode prog_9_method_40_code 312 = .ok (.iaload, 1) := by decide +kernel
theorem d_M_methods_313 : decode prog_9_method_40_code 313 = .ok (.invokevirtual 175, 3) := by decide +kernel
theorem d_M_methods_316 : decode prog_9_method_40_code 316 = .ok (.ifCond .eq 7, 3) := by decide +kernel
theorem d_M_methods_319 : decode prog_9_method_40_code 319 = .ok (.iconst 1, 1) := by decide +kernel
theorem d_M_methods_320 : decode prog_9_method_40_code 320 = .ok (.goto 4, 3) := by decide +kernel
theorem d_M_methods_323 : decode prog_9_method_40_code 323 = .ok (.iconst 0, 1) := by decide +kernel
theorem d_M_methods_324 : decode prog_9_method_40_code 324 = .ok (.bipush 9, 2) := by decide +kernel
theorem d_M_methods_326 : decode prog_9_method_40_code 326 = .ok (.iload 7, 2) := by decide +kernel
theorem d_M_methods_328 : decode prog_9_method_40_code 328 = .ok (.invokevirtual 115, 3) := by decide +kernel
theorem d_M_methods_331 : decode prog_9_method_40_code 331 = .ok (.ifCond .ne 4, 3) := by decide +kernel
theorem d_M_methods_334 : decode prog_9_method_40_code 334 = .ok (.return_, 1) := by decide +kernel
theorem d_M_methods_335 : decode prog_9_method_40_code 335 = .ok (.aload_n 0, 1) := by decide +kernel
theorem d_M_methods_336 : decode prog_9_method_40_code 336 = .ok (.getfield 63, 3) := by decide +kernel
theorem d_M_methods_339 : decode prog_9_method_40_code 339 = .ok (.istore_n 1, 1) := by decide +kernel
theorem d_M_methods_340 : decode prog_9_method_40_code 340 = .ok (.aload_n 0, 1) := by decide +kernel
theorem d_M_methods_341 : decode prog_9_method_40_code 341 = .ok (.getfield 26, 3) := by decide +kernel
theorem d_M_methods_344 : decode prog_9_method_40_code 344 = .ok (.iload_n 2, 1) := by decide +kernel
theorem d_M_methods_345 : decode prog_9_method_40_code 345 = .ok (.aload_n 0, 1) := by decide +kernel
theorem d_M_methods_346 : decode prog_9_method_40_code 346 = .ok (.iconst 1, 1) := by decide +kernel
theorem d_M_methods_347 : decode prog_9_method_40_code 347 = .ok (.invokevirtual 201, 3) := by decide +kernel
theorem d_M_methods_350 : decode prog_9_method_40_code 350 = .ok (.iastore, 1) := by decide +kernel
theorem d_M_methods_351 : decode prog_9_method_40_code 351 = .ok (.aload_n 0, 1) := by decide +kernel
theorem d_M_methods_352 : decode prog_9_method_40_code 352 = .ok (.invokevirtual 55, 3) := by decide +kernel
theorem d_M_methods_355 : decode prog_9_method_40_code 355 = .ok (.ifCond .eq 45, 3) := by decide +kernel
theorem d_M_methods_358 : decode prog_9_method_40_code 358 = .ok (.aload_n 0, 1) := by decide +kernel
theorem d_M_methods_359 : decode prog_9_method_40_code 359 = .ok (.aload_n 0, 1) := by decide +kernel
theorem d_M_methods_360 : decode prog_9_method_40_code 360 = .ok (.aload_n 0, 1) := by decide +kernel
theorem d_M_methods_361 : decode prog_9_method_40_code 361 = .ok (.getfield 26, 3) := by decide +kernel
theorem d_M_methods_364 : decode prog_9_method_40_code 364 = .ok (.iload_n 2, 1) := by decide +kernel
theorem d_M_methods_365 : decode prog_9_method_40_code 365 = .ok (.iaload, 1) := by decide +kernel
theorem d_M_methods_366 : decode prog_9_method_40_code 366 = .ok (.invokevirtual 186, 3) := by decide +kernel
theorem d_M_methods_369 : decode prog_9_method_40_code 369 = .ok (.bipush 11, 2) := by decide +kernel
theorem d_M_methods_371 : decode prog_9_method_40_code 371 = .ok (.iload_n 1, 1) := by decide +kernel
theorem d_M_methods_372 : decode prog_9_method_40_code 372 = .ok (.invokevirtual 115, 3) := by decide +kernel
theorem d_M_methods_375 : decode prog_9_method_40_code 375 = .ok (.ifCond .eq 25, 3) := by decide +kernel
theorem d_M_methods_378 : decode prog_9_method_40_code 378 = .ok (.aload_n 0, 1) := by decide +kernel
theorem d_M_methods_379 : decode prog_9_method_40_code 379 = .ok (.aload_n 0, 1) := by decide +kernel
theorem d_M_methods_380 : decode prog_9_method_40_code 380 = .ok (.getfield 99, 3) := by decide +kernel
theorem d_M_methods_383 : decode prog_9_method_40_code 383 = .ok (.ifCond .ne 7, 3) := by decide +kernel
theorem d_M_methods_386 : decode prog_9_method_40_code 386 = .ok (.iconst 1, 1) := by decide +kernel
theorem d_M_methods_387 : decode prog_9_method_40_code 387 = .ok (.goto 4, 3) := by decide +kernel
theorem d_M_methods_390 : decode prog_9_method_40_code 390 = .ok (.iconst 0, 1) := by decide +kernel
theorem d_M_methods_391 : decode prog_9_method_40_code 391 = .ok (.bipush 12, 2) := by decide +kernel
theorem d_M_methods_393 : decode prog_9_method_40_code 393 = .ok (.iload_n 1, 1) := by decide +kernel
theorem d_M_methods_394 : decode prog_9_method_40_code 394 = .ok (.invokevirtual 115, 3) := by decide +kernel
theorem d_M_methods_397 : decode prog_9_method_40_code 397 = .ok (.ifCond .ne 4, 3) := by decide +kernel
theorem d_M_methods_400 : decode prog_9_method_40_code 400 = .ok (.return_, 1) := by decide +kernel
theorem d_M_methods_401 : decode prog_9_method_40_code 401 = .ok (.aload_n 0, 1) := by decide +kernel
theorem d_M_methods_402 : decode prog_9_method_40_code 402 = .ok (.getfield 106, 3) := by decide +kernel
theorem d_M_methods_405 : decode prog_9_method_40_code 405 = .ok (.istore 10, 2) := by decide +kernel
theorem d_M_methods_407 : decode prog_9_method_40_code 407 = .ok (.iload 8, 2) := by decide +kernel
theorem d_M_methods_409 : decode prog_9_method_40_code 409 = .ok (.ifCond .eq 44, 3) := by decide +kernel
theorem d_M_methods_412 : decode prog_9_method_40_code 412 = .ok (.aload_n 0, 1) := by decide +kernel
theorem d_M_methods_413 : decode prog_9_method_40_code 413 = .ok (.iload 5, 2) := by decide +kernel
theorem d_M_methods_415 : decode prog_9_method_40_code 415 = .ok (.ifCond .ne 29, 3) := by decide +kernel
theorem d_M_methods_418 : decode prog_9_method_40_code 418 = .ok (.aload_n 0, 1) := by decide +kernel
theorem d_M_methods_419 : decode prog_9_method_40_code 419 = .ok (.aload_n 0, 1) := by decide +kernel
theorem d_M_methods_420 : decode prog_9_method_40_code 420 = .ok (.getfield 26, 3) := by decide +kernel
theorem d_M_methods_423 : decode prog_9_method_40_code 423 = .ok (.iload_n 2, 1) := by decide +kernel
theorem d_M_methods_424 : decode prog_9_method_40_code 424 = .ok (.iaload, 1) := by decide +kernel
theorem d_M_methods_425 : decode prog_9_method_40_code 425 = .ok (.invokevirtual 195, 3) := by decide +kernel
theorem d_M_methods_428 : decode prog_9_method_40_code 428 = .ok (.ifCond .eq 16, 3) := by decide +kernel
theorem d_M_methods_431 : decode prog_9_method_40_code 431 = .ok (.iload 4, 2) := by decide +kernel
theorem d_M_methods_433 : decode prog_9_method_40_code 433 = .ok (.sipush 1048, 3) := by decide +kernel
theorem d_M_methods_436 : decode prog_9_method_40_code 436 = .ok (.iand, 1) := by decide +kernel
theorem d_M_methods_437 : decode prog_9_method_40_code 437 = .ok (.ifCond .ne 7, 3) := by decide +kernel
theorem d_M_methods_440 : decode prog_9_method_40_code 440 = .ok (.iconst 1, 1) := by decide +kernel
theorem d_M_methods_441 : decode prog_9_method_40_code 441 = .ok (.goto 4, 3) := by decide +kernel
theorem d_M_methods_444 : decode prog_9_method_40_code 444 = .ok (.iconst 0, 1) := by decide +kernel
theorem d_M_methods_445 : decode prog_9_method_40_code 445 = .ok (.bipush 17, 2) := by decide +kernel
theorem d_M_methods_447 : decode prog_9_method_40_code 447 = .ok (.iload 7, 2) := by decide +kernel
theorem d_M_methods_449 : decode prog_9_method_40_code 449 = .ok (.invokevirtual 115, 3) := by decide +kernel
theorem d_M_methods_452 : decode prog_9_method_40_code 452 = .ok (.pop, 1) := by decide +kernel
theorem d_M_methods_453 : decode prog_9_method_40_code 453 = .ok (.iload 9, 2) := by decide +kernel
theorem d_M_methods_455 : decode prog_9_method_40_code 455 = .ok (.ifCond .eq 43, 3) := by decide +kernel
theorem d_M_methods_458 : decode prog_9_method_40_code 458 = .ok (.aload_n 0, 1) := by decide +kernel
theorem d_M_methods_459 : decode prog_9_method_40_code 459 = .ok (.iload 4, 2) := by decide +kernel
theorem d_M_methods_461 : decode prog_9_method_40_code 461 = .ok (.bipush 8, 2) := by decide +kernel
theorem d_M_methods_463 : decode prog_9_method_40_code 463 = .ok (.if_icmp .ne 26, 3) := by decide +kernel
theorem d_M_methods_466 : decode prog_9_method_40_code 466 = .ok (.aload_n 0, 1) := by decide +kernel
theorem d_M_methods_467 : decode prog_9_method_40_code 467 = .ok (.aload_n 0, 1) := by decide +kernel
theorem d_M_methods_468 : decode prog_9_method_40_code 468 = .ok (.getfield 26, 3) := by decide +kernel
theorem d_M_methods_471 : decode prog_9_method_40_code 471 = .ok (.iload_n 2, 1) := by decide +kernel
theorem d_M_methods_472 : decode prog_9_method_40_code 472 = .ok (.iaload, 1) := by decide +kernel
theorem d_M_methods_473 : decode prog_9_method_40_code 473 = .ok (.iconst 3, 1) := by decide +kernel
theorem d_M_methods_474 : decode prog_9_method_40_code 474 = .ok (.ldc2_w 223, 3) := by decide +kernel
theorem d_M_methods_477 : decode prog_9_method_40_code 477 = .ok (.lconst 0, 1) := by decide +kernel
theorem d_M_methods_478 : decode prog_9_method_40_code 478 = .ok (.lconst 0, 1) := by decide +kernel
theorem d_M_methods_479 : decode prog_9_method_40_code 479 = .ok (.invokevirtual 180, 3) := by decide +kernel
theorem d_M_methods_482 : decode prog_9_method_40_code 482 = .ok (.ifCond .eq 7, 3) := by decide +kernel
theorem d_M_methods_485 : decode prog_9_method_40_code 485 = .ok (.iconst 1, 1) := by decide +kernel
theorem d_M_methods_486 : decode prog_9_method_40_code 486 = .ok (.goto 4, 3) := by decide +kernel
theorem d_M_methods_489 : decode prog_9_method_40_code 489 = .ok (.iconst 0, 1) := by decide +kernel
theorem d_M_methods_490 : decode prog_9_method_40_code 490 = .ok (.bipush 17, 2) := by decide +kernel
theorem d_M_methods_492 : decode prog_9_method_40_code 492 = .ok (.iload 7, 2) := by decide +kernel
theorem d_M_methods_494 : decode prog_9_method_40_code 494 = .ok (.invokevirtual 115, 3) := by decide +kernel
theorem d_M_methods_497 : decode prog_9_method_40_code 497 = .ok (.pop, 1) := by decide +kernel
theorem d_M_methods_498 : decode prog_9_method_40_code 498 = .ok (.iconst 0, 1) := by decide +kernel
theorem d_M_methods_499 : decode prog_9_method_40_code 499 = .ok (.istore 11, 2) := by decide +kernel
theorem d_M_methods_501 : decode prog_9_method_40_code 501 = .ok (.iload 11, 2) := by decide +kernel
theorem d_M_methods_503 : decode prog_9_method_40_code 503 = .ok (.iload_n 2, 1) := by decide +kernel
theorem d_M_methods_504 : decode prog_9_method_40_code 504 = .ok (.if_icmp .ge 62, 3) := by decide +kernel
theorem d_M_methods_507 : decode prog_9_method_40_code 507 = .ok (.aload_n 0, 1) := by decide +kernel
theorem d_M_methods_508 : decode prog_9_method_40_code 508 = .ok (.aload_n 0, 1) := by decide +kernel
theorem d_M_methods_509 : decode prog_9_method_40_code 509 = .ok (.aload_n 0, 1) := by decide +kernel
theorem d_M_methods_510 : decode prog_9_method_40_code 510 = .ok (.getfield 23, 3) := by decide +kernel
theorem d_M_methods_513 : decode prog_9_method_40_code 513 = .ok (.iload 11, 2) := by decide +kernel
theorem d_M_methods_515 : decode prog_9_method_40_code 515 = .ok (.iaload, 1) := by decide +kernel
theorem d_M_methods_516 : decode prog_9_method_40_code 516 = .ok (.aload_n 0, 1) := by decide +kernel
theorem d_M_methods_517 : decode prog_9_method_40_code 517 = .ok (.getfield 23, 3) := by decide +kernel
theorem d_M_methods_520 : decode prog_9_method_40_code 520 = .ok (.iload_n 2, 1) := by decide +kernel
theorem d_M_methods_521 : decode prog_9_method_40_code 521 = .ok (.iaload, 1) := by decide +kernel
theorem d_M_methods_522 : decode prog_9_method_40_code 522 = .ok (.invokevirtual 213, 3) := by decide +kernel
theorem d_M_methods_525 : decode prog_9_method_40_code 525 = .ok (.ifCond .eq 23, 3) := by decide +kernel
theorem d_M_methods_528 : decode prog_9_method_40_code 528 = .ok (.aload_n 0, 1) := by decide +kernel
theorem d_M_methods_529 : decode prog_9_method_40_code 529 = .ok (.aload_n 0, 1) := by decide +kernel
theorem d_M_methods_530 : decode prog_9_method_40_code 530 = .ok (.getfield 26, 3) := by decide +kernel
theorem d_M_methods_533 : decode prog_9_method_40_code 533 = .ok (.iload 11, 2) := by decide +kernel
theorem d_M_methods_535 : decode prog_9_method_40_code 535 = .ok (.iaload, 1) := by decide +kernel
theorem d_M_methods_536 : decode prog_9_method_40_code 536 = .ok (.aload_n 0, 1) := by decide +kernel
theorem d_M_methods_537 : decode prog_9_method_40_code 537 = .ok (.getfield 26, 3) := by decide +kernel
theorem d_M_methods_540 : decode prog_9_method_40_code 540 = .ok (.iload_n 2, 1) := by decide +kernel
theorem d_M_methods_541 : decode prog_9_method_40_code 541 = .ok (.iaload, 1) := by decide +kernel
theorem d_M_methods_542 : decode prog_9_method_40_code 542 = .ok (.invokevirtual 213, 3) := by decide +kernel
theorem d_M_methods_545 : decode prog_9_method_40_code 545 = .ok (.ifCond .ne 7, 3) := by decide +kernel
theorem d_M_methods_548 : decode prog_9_method_40_code 548 = .ok (.iconst 1, 1) := by decide +kernel
theorem d_M_methods_549 : decode prog_9_method_40_code 549 = .ok (.goto 4, 3) := by decide +kernel
theorem d_M_methods_552 : decode prog_9_method_40_code 552 = .ok (.iconst 0, 1) := by decide +kernel
theorem d_M_methods_553 : decode prog_9_method_40_code 553 = .ok (.bipush 16, 2) := by decide +kernel
theorem d_M_methods_555 : decode prog_9_method_40_code 555 = .ok (.iload_n 3, 1) := by decide +kernel
theorem d_M_methods_556 : decode prog_9_method_40_code 556 = .ok (.invokevirtual 115, 3) := by decide +kernel
theorem d_M_methods_559 : decode prog_9_method_40_code 559 = .ok (.pop, 1) := by decide +kernel
theorem d_M_methods_560 : decode prog_9_method_40_code 560 = .ok (.iinc 11 1, 3) := by decide +kernel
theorem d_M_methods_563 : decode prog_9_method_40_code 563 = .ok (.goto (-62), 3) := by decide +kernel
theorem d_M_methods_566 : decode prog_9_method_40_code 566 = .ok (.iconst 0, 1) := by decide +kernel
theorem d_M_methods_567 : decode prog_9_method_40_code 567 = .ok (.istore 11, 2) := by decide +kernel
theorem d_M_methods_569 : decode prog_9_method_40_code 569 = .ok (.iload 11, 2) := by decide +kernel
theorem d_M_methods_571 : decode prog_9_method_40_code 571 = .ok (.bipush 6, 2) := by decide +kernel
theorem d_M_methods_573 : decode prog_9_method_40_code 573 = .ok (.if_icmp .ge 22, 3) := by decide +kernel
theorem d_M_methods_576 : decode prog_9_method_40_code 576 = .ok (.aload_n 0, 1) := by decide +kernel
theorem d_M_methods_577 : decode prog_9_method_40_code 577 = .ok (.getfield 20, 3) := by decide +kernel
theorem d_M_methods_580 : decode prog_9_method_40_code 580 = .ok (.bipush 6, 2) := by decide +kernel
theorem d_M_methods_582 : decode prog_9_method_40_code 582 = .ok (.iload_n 2, 1) := by decide +kernel
theorem d_M_methods_583 : decode prog_9_method_40_code 583 = .ok (.imul, 1) := by decide +kernel
theorem d_M_methods_584 : decode prog_9_method_40_code 584 = .ok (.iload 11, 2) := by decide +kernel
theorem d_M_methods_586 : decode prog_9_method_40_code 586 = .ok (.iadd, 1) := by decide +kernel
theorem d_M_methods_587 : decode prog_9_method_40_code 587 = .ok (.iconst 0, 1) := by decide +kernel
theorem d_M_methods_588 : decode prog_9_method_40_code 588 = .ok (.iastore, 1) := by decide +kernel
theorem d_M_methods_589 : decode prog_9_method_40_code 589 = .ok (.iinc 11 1, 3) := by decide +kernel
theorem d_M_methods_592 : decode prog_9_method_40_code 592 = .ok (.goto (-23), 3) := by decide +kernel
theorem d_M_methods_595 : decode prog_9_method_40_code 595 = .ok (.aload_n 0, 1) := by decide +kernel
theorem d_M_methods_596 : decode prog_9_method_40_code 596 = .ok (.getfield 20, 3) := by decide +kernel
theorem d_M_methods_599 : decode prog_9_method_40_code 599 = .ok (.bipush 6, 2) := by decide +kernel
theorem d_M_methods_601 : decode prog_9_method_40_code 601 = .ok (.iload_n 2, 1) := by decide +kernel
theorem d_M_methods_602 : decode prog_9_method_40_code 602 = .ok (.imul, 1) := by decide +kernel
theorem d_M_methods_603 : decode prog_9_method_40_code 603 = .ok (.iconst 0, 1) := by decide +kernel
theorem d_M_methods_604 : decode prog_9_method_40_code 604 = .ok (.iadd, 1) := by decide +kernel
theorem d_M_methods_605 : decode prog_9_method_40_code 605 = .ok (.iload 4, 2) := by decide +kernel
theorem d_M_methods_607 : decode prog_9_method_40_code 607 = .ok (.iastore, 1) := by decide +kernel
theorem d_M_methods_608 : decode prog_9_method_40_code 608 = .ok (.aload_n 0, 1) := by decide +kernel
theorem d_M_methods_609 : decode prog_9_method_40_code 609 = .ok (.getfield 20, 3) := by decide +kernel
theorem d_M_methods_612 : decode prog_9_method_40_code 612 = .ok (.bipush 6, 2) := by decide +kernel
theorem d_M_methods_614 : decode prog_9_method_40_code 614 = .ok (.iload_n 2, 1) := by decide +kernel
theorem d_M_methods_615 : decode prog_9_method_40_code 615 = .ok (.imul, 1) := by decide +kernel
theorem d_M_methods_616 : decode prog_9_method_40_code 616 = .ok (.iconst 1, 1) := by decide +kernel
theorem d_M_methods_617 : decode prog_9_method_40_code 617 = .ok (.iadd, 1) := by decide +kernel
theorem d_M_methods_618 : decode prog_9_method_40_code 618 = .ok (.iload 10, 2) := by decide +kernel
theorem d_M_methods_620 : decode prog_9_method_40_code 620 = .ok (.iastore, 1) := by decide +kernel
theorem d_M_methods_621 : decode prog_9_method_40_code 621 = .ok (.aload_n 0, 1) := by decide +kernel
theorem d_M_methods_622 : decode prog_9_method_40_code 622 = .ok (.invokevirtual 55, 3) := by decide +kernel
theorem d_M_methods_625 : decode prog_9_method_40_code 625 = .ok (.ifCond .eq 12, 3) := by decide +kernel
theorem d_M_methods_628 : decode prog_9_method_40_code 628 = .ok (.aload_n 0, 1) := by decide +kernel
theorem d_M_methods_629 : decode prog_9_method_40_code 629 = .ok (.iconst 2, 1) := by decide +kernel
theorem d_M_methods_630 : decode prog_9_method_40_code 630 = .ok (.iload 4, 2) := by decide +kernel
theorem d_M_methods_632 : decode prog_9_method_40_code 632 = .ok (.iload_n 2, 1) := by decide +kernel
theorem d_M_methods_633 : decode prog_9_method_40_code 633 = .ok (.iload_n 3, 1) := by decide +kernel
theorem d_M_methods_634 : decode prog_9_method_40_code 634 = .ok (.invokevirtual 162, 3) := by decide +kernel
theorem d_M_methods_637 : decode prog_9_method_40_code 637 = .ok (.iinc 2 1, 3) := by decide +kernel
theorem d_M_methods_640 : decode prog_9_method_40_code 640 = .ok (.goto (-603), 3) := by decide +kernel
theorem d_M_methods_643 : decode prog_9_method_40_code 643 = .ok (.return_, 1) := by decide +kernel
theorem d_M_text_0 : decode prog_9_method_35_code 0 = .ok (.aload_n 0, 1) := by decide +kernel
theorem d_M_text_1 : decode prog_9_method_35_code 1 = .ok (.getfield 63, 3) := by decide +kernel
theorem d_M_text_4 : decode prog_9_method_35_code 4 = .ok (.istore_n 1, 1) := by decide +kernel
theorem d_M_text_5 : decode prog_9_method_35_code 5 = .ok (.aload_n 0, 1) := by decide +kernel
theorem d_M_text_6 : decode prog_9_method_35_code 6 = .ok (.invokevirtual 73, 3) := by decide +kernel
theorem d_M_text_9 : decode prog_9_method_35_code 9 = .ok (.istore_n 2, 1) := by decide +kernel
theorem d_M_text_10 : decode prog_9_method_35_code 10 = .ok (.aload_n 0, 1) := by decide +kernel
theorem d_M_text_11 : decode prog_9_method_35_code 11 = .ok (.invokevirtual 55, 3) := by decide +kernel
theorem d_M_text_14 : decode prog_9_method_35_code 14 = .ok (.ifCond .ne 4, 3) := by decide +kernel
theorem d_M_text_17 : decode prog_9_method_35_code 17 = .ok (.return_, 1) := by decide +kernel
theorem d_M_text_18 : decode prog_9_method_35_code 18 = .ok (.aload_n 0, 1) := by decide +kernel
theorem d_M_text_19 : decode prog_9_method_35_code 19 = .ok (.getfield 63, 3) := by decide +kernel
theorem d_M_text_22 : decode prog_9_method_35_code 22 = .ok (.iload_n 2, 1) := by decide +kernel
theorem d_M_text_23 : decode prog_9_method_35_code 23 = .ok (.iadd, 1) := by decide +kernel
theorem d_M_text_24 : decode prog_9_method_35_code 24 = .ok (.istore_n 3, 1) := by decide +kernel
theorem d_M_text_25 : decode prog_9_method_35_code 25 = .ok (.aload_n 0, 1) := by decide +kernel
theorem d_M_text_26 : decode prog_9_method_35_code 26 = .ok (.getfield 63, 3) := by decide +kernel
theorem d_M_text_29 : decode prog_9_method_35_code 29 = .ok (.iload_n 3, 1) := by decide +kernel
theorem d_M_text_30 : decode prog_9_method_35_code 30 = .ok (.if_icmp .ge 255, 3) := by decide +kernel
theorem d_M_text_33 : decode prog_9_method_35_code 33 = .ok (.aload_n 0, 1) := by decide +kernel
theorem d_M_text_34 : decode prog_9_method_35_code 34 = .ok (.invokevirtual 55, 3) := by decide +kernel
theorem d_M_text_37 : decode prog_9_method_35_code 37 = .ok (.ifCond .eq 248, 3) := by decide +kernel
theorem d_M_text_40 : decode prog_9_method_35_code 40 = .ok (.aload_n 0, 1) := by decide +kernel
theorem d_M_text_41 : decode prog_9_method_35_code 41 = .ok (.getfield 63, 3) := by decide +kernel
theorem d_M_text_44 : decode prog_9_method_35_code 44 = .ok (.istore 4, 2) := by decide +kernel
theorem d_M_text_46 : decode prog_9_method_35_code 46 = .ok (.aload_n 0, 1) := by decide +kernel
theorem d_M_text_47 : decode prog_9_method_35_code 47 = .ok (.invokevirtual 69, 3) := by decide +kernel
theorem d_M_text_50 : decode prog_9_method_35_code 50 = .ok (.istore 5, 2) := by decide +kernel
theorem d_M_text_52 : decode prog_9_method_35_code 52 = .ok (.aload_n 0, 1) := by decide +kernel
theorem d_M_text_53 : decode prog_9_method_35_code 53 = .ok (.invokevirtual 55, 3) := by decide +kernel
theorem d_M_text_56 : decode prog_9_method_35_code 56 = .ok (.ifCond .ne 4, 3) := by decide +kernel
theorem d_M_text_59 : decode prog_9_method_35_code 59 = .ok (.return_, 1) := by decide +kernel
theorem d_M_text_60 : decode prog_9_method_35_code 60 = .ok (.iload 5, 2) := by decide +kernel
theorem d_M_text_62 : decode prog_9_method_35_code 62 = .ok (.iconst 1, 1) := by decide +kernel
theorem d_M_text_63 : decode prog_9_method_35_code 63 = .ok (.if_icmp .lt 14, 3) := by decide +kernel
theorem d_M_text_66 : decode prog_9_method_35_code 66 = .ok (.iload 5, 2) := by decide +kernel
theorem d_M_text_68 : decode prog_9_method_35_code 68 = .ok (.bipush 127, 2) := by decide +kernel
theorem d_M_text_70 : decode prog_9_method_35_code 70 = .ok (.if_icmp .gt 7, 3) := by decide +kernel
theorem d_M_text_73 : decode prog_9_method_35_code 73 = .ok (.iconst 0, 1) := by decide +kernel
theorem d_M_text_74 : decode prog_9_method_35_code 74 = .ok (.goto 52, 3) := by decide +kernel
theorem d_M_text_77 : decode prog_9_method_35_code 77 = .ok (.iload 5, 2) := by decide +kernel
theorem d_M_text_79 : decode prog_9_method_35_code 79 = .ok (.sipush 192, 3) := by decide +kernel
theorem d_M_text_82 : decode prog_9_method_35_code 82 = .ok (.if_icmp .eq 19, 3) := by decide +kernel
theorem d_M_text_85 : decode prog_9_method_35_code 85 = .ok (.iload 5, 2) := by decide +kernel
theorem d_M_text_87 : decode prog_9_method_35_code 87 = .ok (.sipush 194, 3) := by decide +kernel
theorem d_M_text_90 : decode prog_9_method_35_code 90 = .ok (.if_icmp .lt 15, 3) := by decide +kernel
theorem d_M_text_93 : decode prog_9_method_35_code 93 = .ok (.iload 5, 2) := by decide +kernel
theorem d_M_text_95 : decode prog_9_method_35_code 95 = .ok (.sipush 223, 3) := by decide +kernel
theorem d_M_text_98 : decode prog_9_method_35_code 98 = .ok (.if_icmp .gt 7, 3) := by decide +kernel
theorem d_M_text_101 : decode prog_9_method_35_code 101 = .ok (.iconst 1, 1) := by decide +kernel
theorem d_M_text_102 : decode prog_9_method_35_code 102 = .ok (.goto 24, 3) := by decide +kernel
theorem d_M_text_105 : decode prog_9_method_35_code 105 = .ok (.iload 5, 2) := by decide +kernel
theorem d_M_text_107 : decode prog_9_method_35_code 107 = .ok (.sipush 224, 3) := by decide +kernel
theorem d_M_text_110 : decode prog_9_method_35_code 110 = .ok (.if_icmp .lt 15, 3) := by decide +kernel
theorem d_M_text_113 : decode prog_9_method_35_code 113 = .ok (.iload 5, 2) := by decide +kernel
theorem d_M_text_115 : decode prog_9_method_35_code 115 = .ok (.sipush 239, 3) := by decide +kernel
theorem d_M_text_118 : decode prog_9_method_35_code 118 = .ok (.if_icmp .gt 7, 3) := by decide +kernel
theorem d_M_text_121 : decode prog_9_method_35_code 121 = .ok (.iconst 2, 1) := by decide +kernel
theorem d_M_text_122 : decode prog_9_method_35_code 122 = .ok (.goto 4, 3) := by decide +kernel
theorem d_M_text_125 : decode prog_9_method_35_code 125 = .ok (.iconst (-1), 1) := by decide +kernel
theorem d_M_text_126 : decode prog_9_method_35_code 126 = .ok (.istore 6, 2) := by decide +kernel
theorem d_M_text_128 : decode prog_9_method_35_code 128 = .ok (.aload_n 0, 1) := by decide +kernel
theorem d_M_text_129 : decode prog_9_method_35_code 129 = .ok (.iload 6, 2) := by decide +kernel
theorem d_M_text_131 : decode prog_9_method_35_code 131 = .ok (.iconst (-1), 1) := by decide +kernel
theorem d_M_text_132 : decode prog_9_method_35_code 132 = .ok (.if_icmp .eq 7, 3) := by decide +kernel
theorem d_M_text_135 : decode prog_9_method_35_code 135 = .ok (.iconst 1, 1) := by decide +kernel
theorem d_M_text_136 : decode prog_9_method_35_code 136 = .ok (.goto 4, 3) := by decide +kernel
theorem d_M_text_139 : decode prog_9_method_35_code 139 = .ok (.iconst 0, 1) := by decide +kernel
theorem d_M_text_140 : decode prog_9_method_35_code 140 = .ok (.iconst 5, 1) := by decide +kernel
theorem d_M_text_141 : decode prog_9_method_35_code 141 = .ok (.iload 4, 2) := by decide +kernel
theorem d_M_text_143 : decode prog_9_method_35_code 143 = .ok (.invokevirtual 115, 3) := by decide +kernel
theorem d_M_text_146 : decode prog_9_method_35_code 146 = .ok (.ifCond .ne 4, 3) := by decide +kernel
theorem d_M_text_149 : decode prog_9_method_35_code 149 = .ok (.return_, 1) := by decide +kernel
theorem d_M_text_150 : decode prog_9_method_35_code 150 = .ok (.iconst 0, 1) := by decide +kernel
theorem d_M_text_151 : decode prog_9_method_35_code 151 = .ok (.istore 7, 2) := by decide +kernel
theorem d_M_text_153 : decode prog_9_method_35_code 153 = .ok (.iload 7, 2) := by decide +kernel
theorem d_M_text_155 : decode prog_9_method_35_code 155 = .ok (.iload 6, 2) := by decide +kernel
theorem d_M_text_157 : decode prog_9_method_35_code 157 = .ok (.if_icmp .ge 125, 3) := by decide +kernel
theorem d_M_text_160 : decode prog_9_method_35_code 160 = .ok (.aload_n 0, 1) := by decide +kernel
theorem d_M_text_161 : decode prog_9_method_35_code 161 = .ok (.aload_n 0, 1) := by decide +kernel
theorem d_M_text_162 : decode prog_9_method_35_code 162 = .ok (.getfield 63, 3) := by decide +kernel
theorem d_M_text_165 : decode prog_9_method_35_code 165 = .ok (.iload_n 3, 1) := by decide +kernel
theorem d_M_text_166 : decode prog_9_method_35_code 166 = .ok (.if_icmp .ge 7, 3) := by decide +kernel
theorem d_M_text_169 : decode prog_9_method_35_code 169 = .ok (.iconst 1, 1) := by decide +kernel
theorem d_M_text_170 : decode prog_9_method_35_code 170 = .ok (.goto 4, 3) := by decide +kernel
theorem d_M_text_173 : decode prog_9_method_35_code 173 = .ok (.iconst 0, 1) := by decide +kernel
theorem d_M_text_174 : decode prog_9_method_35_code 174 = .ok (.iconst 5, 1) := by decide +kernel
theorem d_M_text_175 : decode prog_9_method_35_code 175 = .ok (.iload_n 1, 1) := by decide +kernel
theorem d_M_text_176 : decode prog_9_method_35_code 176 = .ok (.invokevirtual 115, 3) := by decide +kernel
theorem d_M_text_179 : decode prog_9_method_35_code 179 = .ok (.ifCond .ne 4, 3) := by decide +kernel
theorem d_M_text_182 : decode prog_9_method_35_code 182 = .ok (.return_, 1) := by decide +kernel
theorem d_M_text_183 : decode prog_9_method_35_code 183 = .ok (.aload_n 0, 1) := by decide +kernel
theorem d_M_text_184 : decode prog_9_method_35_code 184 = .ok (.getfield 63, 3) := by decide +kernel
theorem d_M_text_187 : decode prog_9_method_35_code 187 = .ok (.istore 4, 2) := by decide +kernel
theorem d_M_text_189 : decode prog_9_method_35_code 189 = .ok (.aload_n 0, 1) := by decide +kernel
theorem d_M_text_190 : decode prog_9_method_35_code 190 = .ok (.invokevirtual 69, 3) := by decide +kernel
theorem d_M_text_193 : decode prog_9_method_35_code 193 = .ok (.istore 8, 2) := by decide +kernel
theorem d_M_text_195 : decode prog_9_method_35_code 195 = .ok (.aload_n 0, 1) := by decide +kernel
theorem d_M_text_196 : decode prog_9_method_35_code 196 = .ok (.invokevirtual 55, 3) := by decide +kernel
theorem d_M_text_199 : decode prog_9_method_35_code 199 = .ok (.ifCond .ne 4, 3) := by decide +kernel
theorem d_M_text_202 : decode prog_9_method_35_code 202 = .ok (.return_, 1) := by decide +kernel
theorem d_M_text_203 : decode prog_9_method_35_code 203 = .ok (.iload 8, 2) := by decide +kernel
theorem d_M_text_205 : decode prog_9_method_35_code 205 = .ok (.sipush 128, 3) := by decide +kernel
theorem d_M_text_208 : decode prog_9_method_35_code 208 = .ok (.if_icmp .lt 52, 3) := by decide +kernel
theorem d_M_text_211 : decode prog_9_method_35_code 211 = .ok (.iload 8, 2) := by decide +kernel
theorem d_M_text_213 : decode prog_9_method_35_code 213 = .ok (.sipush 191, 3) := by decide +kernel
theorem d_M_text_216 : decode prog_9_method_35_code 216 = .ok (.if_icmp .gt 44, 3) := by decide +kernel
theorem d_M_text_219 : decode prog_9_method_35_code 219 = .ok (.iload 5, 2) := by decide +kernel
theorem d_M_text_221 : decode prog_9_method_35_code 221 = .ok (.sipush 192, 3) := by decide +kernel
theorem d_M_text_224 : decode prog_9_method_35_code 224 = .ok (.if_icmp .ne 11, 3) := by decide +kernel
theorem d_M_text_227 : decode prog_9_method_35_code 227 = .ok (.iload 8, 2) := by decide +kernel
theorem d_M_text_229 : decode prog_9_method_35_code 229 = .ok (.sipush 128, 3) := by decide +kernel
theorem d_M_text_232 : decode prog_9_method_35_code 232 = .ok (.if_icmp .ne 28, 3) := by decide +kernel
theorem d_M_text_235 : decode prog_9_method_35_code 235 = .ok (.iload 5, 2) := by decide +kernel
theorem d_M_text_237 : decode prog_9_method_35_code 237 = .ok (.sipush 224, 3) := by decide +kernel
theorem d_M_text_240 : decode prog_9_method_35_code 240 = .ok (.if_icmp .ne 16, 3) := by decide +kernel
theorem d_M_text_243 : decode prog_9_method_35_code 243 = .ok (.iload 7, 2) := by decide +kernel
theorem d_M_text_245 : decode prog_9_method_35_code 245 = .ok (.ifCond .gt 11, 3) := by decide +kernel
theorem d_M_text_248 : decode prog_9_method_35_code 248 = .ok (.iload 8, 2) := by decide +kernel
theorem d_M_text_250 : decode prog_9_method_35_code 250 = .ok (.sipush 160, 3) := by decide +kernel
theorem d_M_text_253 : decode prog_9_method_35_code 253 = .ok (.if_icmp .lt 7, 3) := by decide +kernel
theorem d_M_text_256 : decode prog_9_method_35_code 256 = .ok (.iconst 1, 1) := by decide +kernel
theorem d_M_text_257 : decode prog_9_method_35_code 257 = .ok (.goto 4, 3) := by decide +kernel
theorem d_M_text_260 : decode prog_9_method_35_code 260 = .ok (.iconst 0, 1) := by decide +kernel
theorem d_M_text_261 : decode prog_9_method_35_code 261 = .ok (.istore 9, 2) := by decide +kernel
theorem d_M_text_263 : decode prog_9_method_35_code 263 = .ok (.aload_n 0, 1) := by decide +kernel
theorem d_M_text_264 : decode prog_9_method_35_code 264 = .ok (.iload 9, 2) := by decide +kernel
theorem d_M_text_266 : decode prog_9_method_35_code 266 = .ok (.iconst 5, 1) := by decide +kernel
theorem d_M_text_267 : decode prog_9_method_35_code 267 = .ok (.iload 4, 2) := by decide +kernel
theorem d_M_text_269 : decode prog_9_method_35_code 269 = .ok (.invokevirtual 115, 3) := by decide +kernel
theorem d_M_text_272 : decode prog_9_method_35_code 272 = .ok (.ifCond .ne 4, 3) := by decide +kernel
theorem d_M_text_275 : decode prog_9_method_35_code 275 = .ok (.return_, 1) := by decide +kernel
theorem d_M_text_276 : decode prog_9_method_35_code 276 = .ok (.iinc 7 1, 3) := by decide +kernel
theorem d_M_text_279 : decode prog_9_method_35_code 279 = .ok (.goto (-126), 3) := by decide +kernel
theorem d_M_text_282 : decode prog_9_method_35_code 282 = .ok (.goto (-257), 3) := by decide +kernel
theorem d_M_text_285 : decode prog_9_method_35_code 285 = .ok (.return_, 1) := by decide +kernel
theorem d_M_pool_0 : decode prog_9_method_34_code 0 = .ok (.aload_n 0, 1) := by decide +kernel
theorem d_M_pool_1 : decode prog_9_method_34_code 1 = .ok (.getfield 63, 3) := by decide +kernel
theorem d_M_pool_4 : decode prog_9_method_34_code 4 = .ok (.istore_n 1, 1) := by decide +kernel
theorem d_M_pool_5 : decode prog_9_method_34_code 5 = .ok (.aload_n 0, 1) := by decide +kernel
theorem d_M_pool_6 : decode prog_9_method_34_code 6 = .ok (.aload_n 0, 1) := by decide +kernel
theorem d_M_pool_7 : decode prog_9_method_34_code 7 = .ok (.invokevirtual 73, 3) := by decide +kernel
theorem d_M_pool_10 : decode prog_9_method_34_code 10 = .ok (.putfield 109, 3) := by decide +kernel
theorem d_M_pool_13 : decode prog_9_method_34_code 13 = .ok (.aload_n 0, 1) := by decide +kernel
theorem d_M_pool_14 : decode prog_9_method_34_code 14 = .ok (.aload_n 0, 1) := by decide +kernel
theorem d_M_pool_15 : decode prog_9_method_34_code 15 = .ok (.getfield 109, 3) := by decide +kernel
theorem d_M_pool_18 : decode prog_9_method_34_code 18 = .ok (.iconst 1, 1) := by decide +kernel
theorem d_M_pool_19 : decode prog_9_method_34_code 19 = .ok (.if_icmp .lt 17, 3) := by decide +kernel
theorem d_M_pool_22 : decode prog_9_method_34_code 22 = .ok (.aload_n 0, 1) := by decide +kernel
theorem d_M_pool_23 : decode prog_9_method_34_code 23 = .ok (.getfield 109, 3) := by decide +kernel
theorem d_M_pool_26 : decode prog_9_method_34_code 26 = .ok (.sipush 300, 3) := by decide +kernel
theorem d_M_pool_29 : decode prog_9_method_34_code 29 = .ok (.if_icmp .gt 7, 3) := by decide +kernel
theorem d_M_pool_32 : decode prog_9_method_34_code 32 = .ok (.iconst 1, 1) := by decide +kernel
theorem d_M_pool_33 : decode prog_9_method_34_code 33 = .ok (.goto 4, 3) := by decide +kernel
theorem d_M_pool_36 : decode prog_9_method_34_code 36 = .ok (.iconst 0, 1) := by decide +kernel
theorem d_M_pool_37 : decode prog_9_method_34_code 37 = .ok (.iconst 4, 1) := by decide +kernel
theorem d_M_pool_38 : decode prog_9_method_34_code 38 = .ok (.iload_n 1, 1) := by decide +kernel
theorem d_M_pool_39 : decode prog_9_method_34_code 39 = .ok (.invokevirtual 115, 3) := by decide +kernel
theorem d_M_pool_42 : decode prog_9_method_34_code 42 = .ok (.ifCond .ne 4, 3) := by decide +kernel
theorem d_M_pool_45 : decode prog_9_method_34_code 45 = .ok (.return_, 1) := by decide +kernel
theorem d_M_pool_46 : decode prog_9_method_34_code 46 = .ok (.iconst 1, 1) := by decide +kernel
theorem d_M_pool_47 : decode prog_9_method_34_code 47 = .ok (.istore_n 2, 1) := by decide +kernel
theorem d_M_pool_48 : decode prog_9_method_34_code 48 = .ok (.iload_n 2, 1) := by decide +kernel
theorem d_M_pool_49 : decode prog_9_method_34_code 49 = .ok (.aload_n 0, 1) := by decide +kernel
theorem d_M_pool_50 : decode prog_9_method_34_code 50 = .ok (.getfield 109, 3) := by decide +kernel
theorem d_M_pool_53 : decode prog_9_method_34_code 53 = .ok (.if_icmp .ge 246, 3) := by decide +kernel
theorem d_M_pool_56 : decode prog_9_method_34_code 56 = .ok (.aload_n 0, 1) := by decide +kernel
theorem d_M_pool_57 : decode prog_9_method_34_code 57 = .ok (.invokevirtual 55, 3) := by decide +kernel
theorem d_M_pool_60 : decode prog_9_method_34_code 60 = .ok (.ifCond .eq 239, 3) := by decide +kernel
theorem d_M_pool_63 : decode prog_9_method_34_code 63 = .ok (.aload_n 0, 1) := by decide +kernel
theorem d_M_pool_64 : decode prog_9_method_34_code 64 = .ok (.getfield 63, 3) := by decide +kernel
theorem d_M_pool_67 : decode prog_9_method_34_code 67 = .ok (.istore_n 3, 1) := by decide +kernel
theorem d_M_pool_68 : decode prog_9_method_34_code 68 = .ok (.aload_n 0, 1) := by decide +kernel
theorem d_M_pool_69 : decode prog_9_method_34_code 69 = .ok (.invokevirtual 69, 3) := by decide +kernel
theorem d_M_pool_72 : decode prog_9_method_34_code 72 = .ok (.istore 4, 2) := by decide +kernel
theorem d_M_pool_74 : decode prog_9_method_34_code 74 = .ok (.aload_n 0, 1) := by decide +kernel
theorem d_M_pool_75 : decode prog_9_method_34_code 75 = .ok (.invokevirtual 55, 3) := by decide +kernel
theorem d_M_pool_78 : decode prog_9_method_34_code 78 = .ok (.ifCond .ne 4, 3) := by decide +kernel
theorem d_M_pool_81 : decode prog_9_method_34_code 81 = .ok (.return_, 1) := by decide +kernel
theorem d_M_pool_82 : decode prog_9_method_34_code 82 = .ok (.aload_n 0, 1) := by decide +kernel
theorem d_M_pool_83 : decode prog_9_method_34_code 83 = .ok (.getfield 17, 3) := by decide +kernel
theorem d_M_pool_86 : decode prog_9_method_34_code 86 = .ok (.iload_n 2, 1) := by decide +kernel
theorem d_M_pool_87 : decode prog_9_method_34_code 87 = .ok (.iload_n 3, 1) := by decide +kernel
theorem d_M_pool_88 : decode prog_9_method_34_code 88 = .ok (.iastore, 1) := by decide +kernel
theorem d_M_pool_89 : decode prog_9_method_34_code 89 = .ok (.iload 4, 2) := by decide +kernel
theorem d_M_pool_91 : decode prog_9_method_34_code 91 = .ok (.tableswitch 168 1 20 #[93, 168, 100, 159, 108, 159, 143, 143, 151, 151, 151, 151, 168, 168, 159, 159, 159, 159, 159, 159], 93) := by decide +kernel
theorem d_M_pool_184 : decode prog_9_method_34_code 184 = .ok (.aload_n 0, 1) := by decide +kernel
theorem d_M_pool_185 : decode prog_9_method_34_code 185 = .ok (.invokevirtual 166, 3) := by decide +kernel
theorem d_M_pool_188 : decode prog_9_method_34_code 188 = .ok (.goto 80, 3) := by decide +kernel
theorem d_M_pool_191 : decode prog_9_method_34_code 191 = .ok (.aload_n 0, 1) := by decide +kernel
theorem d_M_pool_192 : decode prog_9_method_34_code 192 = .ok (.invokevirtual 140, 3) := by decide +kernel
theorem d_M_pool_195 : decode prog_9_method_34_code 195 = .ok (.pop2, 1) := by decide +kernel
theorem d_M_pool_196 : decode prog_9_method_34_code 196 = .ok (.goto 72, 3) := by decide +kernel
theorem d_M_pool_199 : decode prog_9_method_34_code 199 = .ok (.aload_n 0, 1) := by decide +kernel
theorem d_M_pool_200 : decode prog_9_method_34_code 200 = .ok (.invokevirtual 140, 3) := by decide +kernel
theorem d_M_pool_203 : decode prog_9_method_34_code 203 = .ok (.pop2, 1) := by decide +kernel
theorem d_M_pool_204 : decode prog_9_method_34_code 204 = .ok (.aload_n 0, 1) := by decide +kernel
theorem d_M_pool_205 : decode prog_9_method_34_code 205 = .ok (.invokevirtual 140, 3) := by decide +kernel
theorem d_M_pool_208 : decode prog_9_method_34_code 208 = .ok (.pop2, 1) := by decide +kernel
theorem d_M_pool_209 : decode prog_9_method_34_code 209 = .ok (.aload_n 0, 1) := by decide +kernel
theorem d_M_pool_210 : decode prog_9_method_34_code 210 = .ok (.iload_n 2, 1) := by decide +kernel
theorem d_M_pool_211 : decode prog_9_method_34_code 211 = .ok (.aload_n 0, 1) := by decide +kernel
theorem d_M_pool_212 : decode prog_9_method_34_code 212 = .ok (.getfield 109, 3) := by decide +kernel
theorem d_M_pool_215 : decode prog_9_method_34_code 215 = .ok (.iconst 1, 1) := by decide +kernel
theorem d_M_pool_216 : decode prog_9_method_34_code 216 = .ok (.isub, 1) := by decide +kernel
theorem d_M_pool_217 : decode prog_9_method_34_code 217 = .ok (.if_icmp .ge 7, 3) := by decide +kernel
theorem d_M_pool_220 : decode prog_9_method_34_code 220 = .ok (.iconst 1, 1) := by decide +kernel
theorem d_M_pool_221 : decode prog_9_method_34_code 221 = .ok (.goto 4, 3) := by decide +kernel
theorem d_M_pool_224 : decode prog_9_method_34_code 224 = .ok (.iconst 0, 1) := by decide +kernel
theorem d_M_pool_225 : decode prog_9_method_34_code 225 = .ok (.iconst 4, 1) := by decide +kernel
theorem d_M_pool_226 : decode prog_9_method_34_code 226 = .ok (.iload_n 3, 1) := by decide +kernel
theorem d_M_pool_227 : decode prog_9_method_34_code 227 = .ok (.invokevirtual 115, 3) := by decide +kernel
theorem d_M_pool_230 : decode prog_9_method_34_code 230 = .ok (.pop, 1) := by decide +kernel
theorem d_M_pool_231 : decode prog_9_method_34_code 231 = .ok (.goto 37, 3) := by decide +kernel
theorem d_M_pool_234 : decode prog_9_method_34_code 234 = .ok (.aload_n 0, 1) := by decide +kernel
theorem d_M_pool_235 : decode prog_9_method_34_code 235 = .ok (.invokevirtual 73, 3) := by decide +kernel
theorem d_M_pool_238 : decode prog_9_method_34_code 238 = .ok (.pop, 1) := by decide +kernel
theorem d_M_pool_239 : decode prog_9_method_34_code 239 = .ok (.goto 29, 3) := by decide +kernel
theorem d_M_pool_242 : decode prog_9_method_34_code 242 = .ok (.aload_n 0, 1) := by decide +kernel
theorem d_M_pool_243 : decode prog_9_method_34_code 243 = .ok (.invokevirtual 140, 3) := by decide +kernel
theorem d_M_pool_246 : decode prog_9_method_34_code 246 = .ok (.pop2, 1) := by decide +kernel
theorem d_M_pool_247 : decode prog_9_method_34_code 247 = .ok (.goto 21, 3) := by decide +kernel
theorem d_M_pool_250 : decode prog_9_method_34_code 250 = .ok (.aload_n 0, 1) := by decide +kernel
theorem d_M_pool_251 : decode prog_9_method_34_code 251 = .ok (.bipush 7, 2) := by decide +kernel
theorem d_M_pool_253 : decode prog_9_method_34_code 253 = .ok (.iload_n 3, 1) := by decide +kernel
theorem d_M_pool_254 : decode prog_9_method_34_code 254 = .ok (.invokevirtual 59, 3) := by decide +kernel
theorem d_M_pool_257 : decode prog_9_method_34_code 257 = .ok (.pop, 1) := by decide +kernel
theorem d_M_pool_258 : decode prog_9_method_34_code 258 = .ok (.return_, 1) := by decide +kernel
theorem d_M_pool_259 : decode prog_9_method_34_code 259 = .ok (.aload_n 0, 1) := by decide +kernel
theorem d_M_pool_260 : decode prog_9_method_34_code 260 = .ok (.bipush 6, 2) := by decide +kernel
theorem d_M_pool_262 : decode prog_9_method_34_code 262 = .ok (.iload_n 3, 1) := by decide +kernel
theorem d_M_pool_263 : decode prog_9_method_34_code 263 = .ok (.invokevirtual 59, 3) := by decide +kernel
theorem d_M_pool_266 : decode prog_9_method_34_code 266 = .ok (.pop, 1) := by decide +kernel
theorem d_M_pool_267 : decode prog_9_method_34_code 267 = .ok (.return_, 1) := by decide +kernel
theorem d_M_pool_268 : decode prog_9_method_34_code 268 = .ok (.aload_n 0, 1) := by decide +kernel
theorem d_M_pool_269 : decode prog_9_method_34_code 269 = .ok (.invokevirtual 55, 3) := by decide +kernel
theorem d_M_pool_272 : decode prog_9_method_34_code 272 = .ok (.ifCond .ne 4, 3) := by decide +kernel
theorem d_M_pool_275 : decode prog_9_method_34_code 275 = .ok (.return_, 1) := by decide +kernel
theorem d_M_pool_276 : decode prog_9_method_34_code 276 = .ok (.aload_n 0, 1) := by decide +kernel
theorem d_M_pool_277 : decode prog_9_method_34_code 277 = .ok (.getfield 13, 3) := by decide +kernel
theorem d_M_pool_280 : decode prog_9_method_34_code 280 = .ok (.iload_n 2, 1) := by decide +kernel
theorem d_M_pool_281 : decode prog_9_method_34_code 281 = .ok (.iload 4, 2) := by decide +kernel
theorem d_M_pool_283 : decode prog_9_method_34_code 283 = .ok (.iastore, 1) := by decide +kernel
theorem d_M_pool_284 : decode prog_9_method_34_code 284 = .ok (.iload 4, 2) := by decide +kernel
theorem d_M_pool_286 : decode prog_9_method_34_code 286 = .ok (.iconst 5, 1) := by decide +kernel
theorem d_M_pool_287 : decode prog_9_method_34_code 287 = .ok (.if_icmp .ne 6, 3) := by decide +kernel
theorem d_M_pool_290 : decode prog_9_method_34_code 290 = .ok (.iinc 2 1, 3) := by decide +kernel
theorem d_M_pool_293 : decode prog_9_method_34_code 293 = .ok (.iinc 2 1, 3) := by decide +kernel
theorem d_M_pool_296 : decode prog_9_method_34_code 296 = .ok (.goto (-248), 3) := by decide +kernel
theorem d_M_pool_299 : decode prog_9_method_34_code 299 = .ok (.return_, 1) := by decide +kernel
theorem d_M_refer_0 : decode prog_9_method_36_code 0 = .ok (.iconst 1, 1) := by decide +kernel
theorem d_M_refer_1 : decode prog_9_method_36_code 1 = .ok (.istore_n 1, 1) := by decide +kernel
theorem d_M_refer_2 : decode prog_9_method_36_code 2 = .ok (.iload_n 1, 1) := by decide +kernel
theorem d_M_refer_3 : decode prog_9_method_36_code 3 = .ok (.aload_n 0, 1) := by decide +kernel
theorem d_M_refer_4 : decode prog_9_method_36_code 4 = .ok (.getfield 109, 3) := by decide +kernel
theorem d_M_refer_7 : decode prog_9_method_36_code 7 = .ok (.if_icmp .ge 327, 3) := by decide +kernel
theorem d_M_refer_10 : decode prog_9_method_36_code 10 = .ok (.aload_n 0, 1) := by decide +kernel
theorem d_M_refer_11 : decode prog_9_method_36_code 11 = .ok (.invokevirtual 55, 3) := by decide +kernel
theorem d_M_refer_14 : decode prog_9_method_36_code 14 = .ok (.ifCond .eq 320, 3) := by decide +kernel
theorem d_M_refer_17 : decode prog_9_method_36_code 17 = .ok (.aload_n 0, 1) := by decide +kernel
theorem d_M_refer_18 : decode prog_9_method_36_code 18 = .ok (.getfield 17, 3) := by decide +kernel
theorem d_M_refer_21 : decode prog_9_method_36_code 21 = .ok (.iload_n 1, 1) := by decide +kernel
theorem d_M_refer_22 : decode prog_9_method_36_code 22 = .ok (.iaload, 1) := by decide +kernel
theorem d_M_refer_23 : decode prog_9_method_36_code 23 = .ok (.iconst 1, 1) := by decide +kernel
theorem d_M_refer_24 : decode prog_9_method_36_code 24 = .ok (.iadd, 1) := by decide +kernel
theorem d_M_refer_25 : decode prog_9_method_36_code 25 = .ok (.istore_n 2, 1) := by decide +kernel
theorem d_M_refer_26 : decode prog_9_method_36_code 26 = .ok (.aload_n 0, 1) := by decide +kernel
theorem d_M_refer_27 : decode prog_9_method_36_code 27 = .ok (.getfield 13, 3) := by decide +kernel
theorem d_M_refer_30 : decode prog_9_method_36_code 30 = .ok (.iload_n 1, 1) := by decide +kernel
theorem d_M_refer_31 : decode prog_9_method_36_code 31 = .ok (.iaload, 1) := by decide +kernel
theorem d_M_refer_32 : decode prog_9_method_36_code 32 = .ok (.bipush 7, 2) := by decide +kernel
theorem d_M_refer_34 : decode prog_9_method_36_code 34 = .ok (.if_icmp .eq 14, 3) := by decide +kernel
theorem d_M_refer_37 : decode prog_9_method_36_code 37 = .ok (.aload_n 0, 1) := by decide +kernel
theorem d_M_refer_38 : decode prog_9_method_36_code 38 = .ok (.getfield 13, 3) := by decide +kernel
theorem d_M_refer_41 : decode prog_9_method_36_code 41 = .ok (.iload_n 1, 1) := by decide +kernel
theorem d_M_refer_42 : decode prog_9_method_36_code 42 = .ok (.iaload, 1) := by decide +kernel
theorem d_M_refer_43 : decode prog_9_method_36_code 43 = .ok (.bipush 8, 2) := by decide +kernel
theorem d_M_refer_45 : decode prog_9_method_36_code 45 = .ok (.if_icmp .ne 107, 3) := by decide +kernel
theorem d_M_refer_48 : decode prog_9_method_36_code 48 = .ok (.aload_n 0, 1) := by decide +kernel
theorem d_M_refer_49 : decode prog_9_method_36_code 49 = .ok (.iload_n 2, 1) := by decide +kernel
theorem d_M_refer_50 : decode prog_9_method_36_code 50 = .ok (.invokevirtual 76, 3) := by decide +kernel
theorem d_M_refer_53 : decode prog_9_method_36_code 53 = .ok (.istore_n 3, 1) := by decide +kernel
theorem d_M_refer_54 : decode prog_9_method_36_code 54 = .ok (.aload_n 0, 1) := by decide +kernel
theorem d_M_refer_55 : decode prog_9_method_36_code 55 = .ok (.aload_n 0, 1) := by decide +kernel
theorem d_M_refer_56 : decode prog_9_method_36_code 56 = .ok (.iload_n 3, 1) := by decide +kernel
theorem d_M_refer_57 : decode prog_9_method_36_code 57 = .ok (.iconst 1, 1) := by decide +kernel
theorem d_M_refer_58 : decode prog_9_method_36_code 58 = .ok (.invokevirtual 112, 3) := by decide +kernel
theorem d_M_refer_61 : decode prog_9_method_36_code 61 = .ok (.bipush 8, 2) := by decide +kernel
theorem d_M_refer_63 : decode prog_9_method_36_code 63 = .ok (.iload_n 2, 1) := by decide +kernel
theorem d_M_refer_64 : decode prog_9_method_36_code 64 = .ok (.invokevirtual 115, 3) := by decide +kernel
theorem d_M_refer_67 : decode prog_9_method_36_code 67 = .ok (.ifCond .eq 261, 3) := by decide +kernel
theorem d_M_refer_70 : decode prog_9_method_36_code 70 = .ok (.aload_n 0, 1) := by decide +kernel
theorem d_M_refer_71 : decode prog_9_method_36_code 71 = .ok (.getfield 13, 3) := by decide +kernel
theorem d_M_refer_74 : decode prog_9_method_36_code 74 = .ok (.iload_n 1, 1) := by decide +kernel
theorem d_M_refer_75 : decode prog_9_method_36_code 75 = .ok (.iaload, 1) := by decide +kernel
theorem d_M_refer_76 : decode prog_9_method_36_code 76 = .ok (.bipush 8, 2) := by decide +kernel
theorem d_M_refer_78 : decode prog_9_method_36_code 78 = .ok (.if_icmp .ne 6, 3) := by decide +kernel
theorem d_M_refer_81 : decode prog_9_method_36_code 81 = .ok (.goto 247, 3) := by decide +kernel
theorem d_M_refer_84 : decode prog_9_method_36_code 84 = .ok (.aload_n 0, 1) := by decide +kernel
theorem d_M_refer_85 : decode prog_9_method_36_code 85 = .ok (.iconst 0, 1) := by decide +kernel
theorem d_M_refer_86 : decode prog_9_method_36_code 86 = .ok (.putfield 99, 3) := by decide +kernel
theorem d_M_refer_89 : decode prog_9_method_36_code 89 = .ok (.aload_n 0, 1) := by decide +kernel
theorem d_M_refer_90 : decode prog_9_method_36_code 90 = .ok (.iload_n 3, 1) := by decide +kernel
theorem d_M_refer_91 : decode prog_9_method_36_code 91 = .ok (.iconst 0, 1) := by decide +kernel
theorem d_M_refer_92 : decode prog_9_method_36_code 92 = .ok (.invokevirtual 86, 3) := by decide +kernel
theorem d_M_refer_95 : decode prog_9_method_36_code 95 = .ok (.bipush 91, 2) := by decide +kernel
theorem d_M_refer_97 : decode prog_9_method_36_code 97 = .ok (.if_icmp .ne 39, 3) := by decide +kernel
theorem d_M_refer_100 : decode prog_9_method_36_code 100 = .ok (.aload_n 0, 1) := by decide +kernel
theorem d_M_refer_101 : decode prog_9_method_36_code 101 = .ok (.aload_n 0, 1) := by decide +kernel
theorem d_M_refer_102 : decode prog_9_method_36_code 102 = .ok (.iload_n 3, 1) := by decide +kernel
theorem d_M_refer_103 : decode prog_9_method_36_code 103 = .ok (.invokevirtual 169, 3) := by decide +kernel
theorem d_M_refer_106 : decode prog_9_method_36_code 106 = .ok (.bipush 9, 2) := by decide +kernel
theorem d_M_refer_108 : decode prog_9_method_36_code 108 = .ok (.iload_n 2, 1) := by decide +kernel
theorem d_M_refer_109 : decode prog_9_method_36_code 109 = .ok (.invokevirtual 115, 3) := by decide +kernel
theorem d_M_refer_112 : decode prog_9_method_36_code 112 = .ok (.pop, 1) := by decide +kernel
theorem d_M_refer_113 : decode prog_9_method_36_code 113 = .ok (.aload_n 0, 1) := by decide +kernel
theorem d_M_refer_114 : decode prog_9_method_36_code 114 = .ok (.aload_n 0, 1) := by decide +kernel
theorem d_M_refer_115 : decode prog_9_method_36_code 115 = .ok (.getfield 99, 3) := by decide +kernel
theorem d_M_refer_118 : decode prog_9_method_36_code 118 = .ok (.ifCond .ne 7, 3) := by decide +kernel
theorem d_M_refer_121 : decode prog_9_method_36_code 121 = .ok (.iconst 1, 1) := by decide +kernel
theorem d_M_refer_122 : decode prog_9_method_36_code 122 = .ok (.goto 4, 3) := by decide +kernel
theorem d_M_refer_125 : decode prog_9_method_36_code 125 = .ok (.iconst 0, 1) := by decide +kernel
theorem d_M_refer_126 : decode prog_9_method_36_code 126 = .ok (.bipush 12, 2) := by decide +kernel
theorem d_M_refer_128 : decode prog_9_method_36_code 128 = .ok (.iload_n 2, 1) := by decide +kernel
theorem d_M_refer_129 : decode prog_9_method_36_code 129 = .ok (.invokevirtual 115, 3) := by decide +kernel
theorem d_M_refer_132 : decode prog_9_method_36_code 132 = .ok (.pop, 1) := by decide +kernel
theorem d_M_refer_133 : decode prog_9_method_36_code 133 = .ok (.goto 16, 3) := by decide +kernel
theorem d_M_refer_136 : decode prog_9_method_36_code 136 = .ok (.aload_n 0, 1) := by decide +kernel
theorem d_M_refer_137 : decode prog_9_method_36_code 137 = .ok (.aload_n 0, 1) := by decide +kernel
theorem d_M_refer_138 : decode prog_9_method_36_code 138 = .ok (.iload_n 3, 1) := by decide +kernel
theorem d_M_refer_139 : decode prog_9_method_36_code 139 = .ok (.invokevirtual 172, 3) := by decide +kernel
theorem d_M_refer_142 : decode prog_9_method_36_code 142 = .ok (.bipush 9, 2) := by decide +kernel
theorem d_M_refer_144 : decode prog_9_method_36_code 144 = .ok (.iload_n 2, 1) := by decide +kernel
theorem d_M_refer_145 : decode prog_9_method_36_code 145 = .ok (.invokevirtual 115, 3) := by decide +kernel
theorem d_M_refer_148 : decode prog_9_method_36_code 148 = .ok (.pop, 1) := by decide +kernel
theorem d_M_refer_149 : decode prog_9_method_36_code 149 = .ok (.goto 179, 3) := by decide +kernel
theorem d_M_refer_152 : decode prog_9_method_36_code 152 = .ok (.aload_n 0, 1) := by decide +kernel
theorem d_M_refer_153 : decode prog_9_method_36_code 153 = .ok (.getfield 13, 3) := by decide +kernel
theorem d_M_refer_156 : decode prog_9_method_36_code 156 = .ok (.iload_n 1, 1) := by decide +kernel
theorem d_M_refer_157 : decode prog_9_method_36_code 157 = .ok (.iaload, 1) := by decide +kernel
theorem d_M_refer_158 : decode prog_9_method_36_code 158 = .ok (.bipush 12, 2) := by decide +kernel
theorem d_M_refer_160 : decode prog_9_method_36_code 160 = .ok (.if_icmp .ne 168, 3) := by decide +kernel
theorem d_M_refer_163 : decode prog_9_method_36_code 163 = .ok (.aload_n 0, 1) := by decide +kernel
theorem d_M_refer_164 : decode prog_9_method_36_code 164 = .ok (.iload_n 2, 1) := by decide +kernel
theorem d_M_refer_165 : decode prog_9_method_36_code 165 = .ok (.invokevirtual 76, 3) := by decide +kernel
theorem d_M_refer_168 : decode prog_9_method_36_code 168 = .ok (.istore_n 3, 1) := by decide +kernel
theorem d_M_refer_169 : decode prog_9_method_36_code 169 = .ok (.aload_n 0, 1) := by decide +kernel
theorem d_M_refer_170 : decode prog_9_method_36_code 170 = .ok (.aload_n 0, 1) := by decide +kernel
theorem d_M_refer_171 : decode prog_9_method_36_code 171 = .ok (.iload_n 3, 1) := by decide +kernel
theorem d_M_refer_172 : decode prog_9_method_36_code 172 = .ok (.iconst 1, 1) := by decide +kernel
theorem d_M_refer_173 : decode prog_9_method_36_code 173 = .ok (.invokevirtual 112, 3) := by decide +kernel
theorem d_M_refer_176 : decode prog_9_method_36_code 176 = .ok (.bipush 8, 2) := by decide +kernel
theorem d_M_refer_178 : decode prog_9_method_36_code 178 = .ok (.iload_n 2, 1) := by decide +kernel
theorem d_M_refer_179 : decode prog_9_method_36_code 179 = .ok (.invokevirtual 115, 3) := by decide +kernel
theorem d_M_refer_182 : decode prog_9_method_36_code 182 = .ok (.ifCond .ne 4, 3) := by decide +kernel
theorem d_M_refer_185 : decode prog_9_method_36_code 185 = .ok (.return_, 1) := by decide +kernel
theorem d_M_refer_186 : decode prog_9_method_36_code 186 = .ok (.aload_n 0, 1) := by decide +kernel
theorem d_M_refer_187 : decode prog_9_method_36_code 187 = .ok (.aload_n 0, 1) := by decide +kernel
theorem d_M_refer_188 : decode prog_9_method_36_code 188 = .ok (.iload_n 3, 1) := by decide +kernel
theorem d_M_refer_189 : decode prog_9_method_36_code 189 = .ok (.invokevirtual 175, 3) := by decide +kernel
theorem d_M_refer_192 : decode prog_9_method_36_code 192 = .ok (.ifCond .ne 33, 3) := by decide +kernel
theorem d_M_refer_195 : decode prog_9_method_36_code 195 = .ok (.aload_n 0, 1) := by decide +kernel
theorem d_M_refer_196 : decode prog_9_method_36_code 196 = .ok (.iload_n 3, 1) := by decide +kernel
theorem d_M_refer_197 : decode prog_9_method_36_code 197 = .ok (.bipush 6, 2) := by decide +kernel
theorem d_M_refer_199 : decode prog_9_method_36_code 199 = .ok (.ldc2_w 178, 3) := by decide +kernel
theorem d_M_refer_202 : decode prog_9_method_36_code 202 = .ok (.lconst 0, 1) := by decide +kernel
theorem d_M_refer_203 : decode prog_9_method_36_code 203 = .ok (.lconst 0, 1) := by decide +kernel
theorem d_M_refer_204 : decode prog_9_method_36_code 204 = .ok (.invokevirtual 180, 3) := by decide +kernel
theorem d_M_refer_207 : decode prog_9_method_36_code 207 = .ok (.ifCond .ne 18, 3) := by decide +kernel
theorem d_M_refer_210 : decode prog_9_method_36_code 210 = .ok (.aload_n 0, 1) := by decide +kernel
theorem d_M_refer_211 : decode prog_9_method_36_code 211 = .ok (.iload_n 3, 1) := by decide +kernel
theorem d_M_refer_212 : decode prog_9_method_36_code 212 = .ok (.bipush 8, 2) := by decide +kernel
theorem d_M_refer_214 : decode prog_9_method_36_code 214 = .ok (.ldc2_w 184, 3) := by decide +kernel
theorem d_M_refer_217 : decode prog_9_method_36_code 217 = .ok (.lconst 0, 1) := by decide +kernel
theorem d_M_refer_218 : decode prog_9_method_36_code 218 = .ok (.lconst 0, 1) := by decide +kernel
theorem d_M_refer_219 : decode prog_9_method_36_code 219 = .ok (.invokevirtual 180, 3) := by decide +kernel
theorem d_M_refer_222 : decode prog_9_method_36_code 222 = .ok (.ifCond .eq 7, 3) := by decide +kernel
theorem d_M_refer_225 : decode prog_9_method_36_code 225 = .ok (.iconst 1, 1) := by decide +kernel
theorem d_M_refer_226 : decode prog_9_method_36_code 226 = .ok (.goto 4, 3) := by decide +kernel
theorem d_M_refer_229 : decode prog_9_method_36_code 229 = .ok (.iconst 0, 1) := by decide +kernel
theorem d_M_refer_230 : decode prog_9_method_36_code 230 = .ok (.bipush 9, 2) := by decide +kernel
theorem d_M_refer_232 : decode prog_9_method_36_code 232 = .ok (.iload_n 2, 1) := by decide +kernel
theorem d_M_refer_233 : decode prog_9_method_36_code 233 = .ok (.invokevirtual 115, 3) := by decide +kernel
theorem d_M_refer_236 : decode prog_9_method_36_code 236 = .ok (.ifCond .ne 4, 3) := by decide +kernel
theorem d_M_refer_239 : decode prog_9_method_36_code 239 = .ok (.return_, 1) := by decide +kernel
theorem d_M_refer_240 : decode prog_9_method_36_code 240 = .ok (.aload_n 0, 1) := by decide +kernel
theorem d_M_refer_241 : decode prog_9_method_36_code 241 = .ok (.iload_n 2, 1) := by decide +kernel
theorem d_M_refer_242 : decode prog_9_method_36_code 242 = .ok (.iconst 2, 1) := by decide +kernel
theorem d_M_refer_243 : decode prog_9_method_36_code 243 = .ok (.iadd, 1) := by decide +kernel
theorem d_M_refer_244 : decode prog_9_method_36_code 244 = .ok (.invokevirtual 76, 3) := by decide +kernel
theorem d_M_refer_247 : decode prog_9_method_36_code 247 = .ok (.istore 4, 2) := by decide +kernel
theorem d_M_refer_249 : decode prog_9_method_36_code 249 = .ok (.aload_n 0, 1) := by decide +kernel
theorem d_M_refer_250 : decode prog_9_method_36_code 250 = .ok (.aload_n 0, 1) := by decide +kernel
theorem d_M_refer_251 : decode prog_9_method_36_code 251 = .ok (.iload 4, 2) := by decide +kernel
theorem d_M_refer_253 : decode prog_9_method_36_code 253 = .ok (.iconst 1, 1) := by decide +kernel
theorem d_M_refer_254 : decode prog_9_method_36_code 254 = .ok (.invokevirtual 112, 3) := by decide +kernel
theorem d_M_refer_257 : decode prog_9_method_36_code 257 = .ok (.bipush 8, 2) := by decide +kernel
theorem d_M_refer_259 : decode prog_9_method_36_code 259 = .ok (.iload_n 2, 1) := by decide +kernel
theorem d_M_refer_260 : decode prog_9_method_36_code 260 = .ok (.iconst 2, 1) := by decide +kernel
theorem d_M_refer_261 : decode prog_9_method_36_code 261 = .ok (.iadd, 1) := by decide +kernel
theorem d_M_refer_262 : decode prog_9_method_36_code 262 = .ok (.invokevirtual 115, 3) := by decide +kernel
theorem d_M_refer_265 : decode prog_9_method_36_code 265 = .ok (.ifCond .ne 4, 3) := by decide +kernel
theorem d_M_refer_268 : decode prog_9_method_36_code 268 = .ok (.return_, 1) := by decide +kernel
theorem d_M_refer_269 : decode prog_9_method_36_code 269 = .ok (.aload_n 0, 1) := by decide +kernel
theorem d_M_refer_270 : decode prog_9_method_36_code 270 = .ok (.aload_n 0, 1) := by decide +kernel
theorem d_M_refer_271 : decode prog_9_method_36_code 271 = .ok (.iload 4, 2) := by decide +kernel
theorem d_M_refer_273 : decode prog_9_method_36_code 273 = .ok (.iconst 0, 1) := by decide +kernel
theorem d_M_refer_274 : decode prog_9_method_36_code 274 = .ok (.invokevirtual 86, 3) := by decide +kernel
theorem d_M_refer_277 : decode prog_9_method_36_code 277 = .ok (.bipush 40, 2) := by decide +kernel
theorem d_M_refer_279 : decode prog_9_method_36_code 279 = .ok (.if_icmp .ne 12, 3) := by decide +kernel
theorem d_M_refer_282 : decode prog_9_method_36_code 282 = .ok (.aload_n 0, 1) := by decide +kernel
theorem d_M_refer_283 : decode prog_9_method_36_code 283 = .ok (.iload 4, 2) := by decide +kernel
theorem d_M_refer_285 : decode prog_9_method_36_code 285 = .ok (.invokevirtual 186, 3) := by decide +kernel
theorem d_M_refer_288 : decode prog_9_method_36_code 288 = .ok (.goto 9, 3) := by decide +kernel
theorem d_M_refer_291 : decode prog_9_method_36_code 291 = .ok (.aload_n 0, 1) := by decide +kernel
theorem d_M_refer_292 : decode prog_9_method_36_code 292 = .ok (.iload 4, 2) := by decide +kernel
theorem d_M_refer_294 : decode prog_9_method_36_code 294 = .ok (.invokevirtual 169, 3) := by decide +kernel
theorem d_M_refer_297 : decode prog_9_method_36_code 297 = .ok (.bipush 11, 2) := by decide +kernel
theorem d_M_refer_299 : decode prog_9_method_36_code 299 = .ok (.iload_n 2, 1) := by decide +kernel
theorem d_M_refer_300 : decode prog_9_method_36_code 300 = .ok (.iconst 2, 1) := by decide +kernel
theorem d_M_refer_301 : decode prog_9_method_36_code 301 = .ok (.iadd, 1) := by decide +kernel
theorem d_M_refer_302 : decode prog_9_method_36_code 302 = .ok (.invokevirtual 115, 3) := by decide +kernel
theorem d_M_refer_305 : decode prog_9_method_36_code 305 = .ok (.pop, 1) := by decide +kernel
theorem d_M_refer_306 : decode prog_9_method_36_code 306 = .ok (.aload_n 0, 1) := by decide +kernel
theorem d_M_refer_307 : decode prog_9_method_36_code 307 = .ok (.aload_n 0, 1) := by decide +kernel
theorem d_M_refer_308 : decode prog_9_method_36_code 308 = .ok (.getfield 99, 3) := by decide +kernel
theorem d_M_refer_311 : decode prog_9_method_36_code 311 = .ok (.ifCond .ne 7, 3) := by decide +kernel
theorem d_M_refer_314 : decode prog_9_method_36_code 314 = .ok (.iconst 1, 1) := by decide +kernel
theorem d_M_refer_315 : decode prog_9_method_36_code 315 = .ok (.goto 4, 3) := by decide +kernel
theorem d_M_refer_318 : decode prog_9_method_36_code 318 = .ok (.iconst 0, 1) := by decide +kernel
theorem d_M_refer_319 : decode prog_9_method_36_code 319 = .ok (.bipush 12, 2) := by decide +kernel
theorem d_M_refer_321 : decode prog_9_method_36_code 321 = .ok (.iload_n 2, 1) := by decide +kernel
theorem d_M_refer_322 : decode prog_9_method_36_code 322 = .ok (.iconst 2, 1) := by decide +kernel
theorem d_M_refer_323 : decode prog_9_method_36_code 323 = .ok (.iadd, 1) := by decide +kernel
theorem d_M_refer_324 : decode prog_9_method_36_code 324 = .ok (.invokevirtual 115, 3) := by decide +kernel
theorem d_M_refer_327 : decode prog_9_method_36_code 327 = .ok (.pop, 1) := by decide +kernel
theorem d_M_refer_328 : decode prog_9_method_36_code 328 = .ok (.iinc 1 1, 3) := by decide +kernel
theorem d_M_refer_331 : decode prog_9_method_36_code 331 = .ok (.goto (-329), 3) := by decide +kernel
theorem d_M_refer_334 : decode prog_9_method_36_code 334 = .ok (.iconst 1, 1) := by decide +kernel
theorem d_M_refer_335 : decode prog_9_method_36_code 335 = .ok (.istore_n 1, 1) := by decide +kernel
theorem d_M_refer_336 : decode prog_9_method_36_code 336 = .ok (.iload_n 1, 1) := by decide +kernel
theorem d_M_refer_337 : decode prog_9_method_36_code 337 = .ok (.aload_n 0, 1) := by decide +kernel
theorem d_M_refer_338 : decode prog_9_method_36_code 338 = .ok (.getfield 109, 3) := by decide +kernel
theorem d_M_refer_341 : decode prog_9_method_36_code 341 = .ok (.if_icmp .ge 244, 3) := by decide +kernel
theorem d_M_refer_344 : decode prog_9_method_36_code 344 = .ok (.aload_n 0, 1) := by decide +kernel
theorem d_M_refer_345 : decode prog_9_method_36_code 345 = .ok (.invokevirtual 55, 3) := by decide +kernel
theorem d_M_refer_348 : decode prog_9_method_36_code 348 = .ok (.ifCond .eq 237, 3) := by decide +kernel
theorem d_M_refer_351 : decode prog_9_method_36_code 351 = .ok (.aload_n 0, 1) := by decide +kernel
theorem d_M_refer_352 : decode prog_9_method_36_code 352 = .ok (.getfield 13, 3) := by decide +kernel
theorem d_M_refer_355 : decode prog_9_method_36_code 355 = .ok (.iload_n 1, 1) := by decide +kernel
theorem d_M_refer_356 : decode prog_9_method_36_code 356 = .ok (.iaload, 1) := by decide +kernel
theorem d_M_refer_357 : decode prog_9_method_36_code 357 = .ok (.bipush 9, 2) := by decide +kernel
theorem d_M_refer_359 : decode prog_9_method_36_code 359 = .ok (.if_icmp .lt 220, 3) := by decide +kernel
theorem d_M_refer_362 : decode prog_9_method_36_code 362 = .ok (.aload_n 0, 1) := by decide +kernel
theorem d_M_refer_363 : decode prog_9_method_36_code 363 = .ok (.getfield 13, 3) := by decide +kernel
theorem d_M_refer_366 : decode prog_9_method_36_code 366 = .ok (.iload_n 1, 1) := by decide +kernel
theorem d_M_refer_367 : decode prog_9_method_36_code 367 = .ok (.iaload, 1) := by decide +kernel
theorem d_M_refer_368 : decode prog_9_method_36_code 368 = .ok (.bipush 11, 2) := by decide +kernel
theorem d_M_refer_370 : decode prog_9_method_36_code 370 = .ok (.if_icmp .le 6, 3) := by decide +kernel
theorem d_M_refer_373 : decode prog_9_method_36_code 373 = .ok (.goto 206, 3) := by decide +kernel
theorem d_M_refer_376 : decode prog_9_method_36_code 376 = .ok (.aload_n 0, 1) := by decide +kernel
theorem d_M_refer_377 : decode prog_9_method_36_code 377 = .ok (.getfield 17, 3) := by decide +kernel
theorem d_M_refer_380 : decode prog_9_method_36_code 380 = .ok (.iload_n 1, 1) := by decide +kernel
theorem d_M_refer_381 : decode prog_9_method_36_code 381 = .ok (.iaload, 1) := by decide +kernel
theorem d_M_refer_382 : decode prog_9_method_36_code 382 = .ok (.iconst 1, 1) := by decide +kernel
theorem d_M_refer_383 : decode prog_9_method_36_code 383 = .ok (.iadd, 1) := by decide +kernel
theorem d_M_refer_384 : decode prog_9_method_36_code 384 = .ok (.istore_n 2, 1) := by decide +kernel
theorem d_M_refer_385 : decode prog_9_method_36_code 385 = .ok (.aload_n 0, 1) := by decide +kernel
theorem d_M_refer_386 : decode prog_9_method_36_code 386 = .ok (.aload_n 0, 1) := by decide +kernel
theorem d_M_refer_387 : decode prog_9_method_36_code 387 = .ok (.aload_n 0, 1) := by decide +kernel
theorem d_M_refer_388 : decode prog_9_method_36_code 388 = .ok (.iload_n 2, 1) := by decide +kernel
theorem d_M_refer_389 : decode prog_9_method_36_code 389 = .ok (.invokevirtual 76, 3) := by decide +kernel
theorem d_M_refer_392 : decode prog_9_method_36_code 392 = .ok (.bipush 7, 2) := by decide +kernel
theorem d_M_refer_394 : decode prog_9_method_36_code 394 = .ok (.invokevirtual 112, 3) := by decide +kernel
theorem d_M_refer_397 : decode prog_9_method_36_code 397 = .ok (.bipush 8, 2) := by decide +kernel
theorem d_M_refer_399 : decode prog_9_method_36_code 399 = .ok (.iload_n 2, 1) := by decide +kernel
theorem d_M_refer_400 : decode prog_9_method_36_code 400 = .ok (.invokevirtual 115, 3) := by decide +kernel
theorem d_M_refer_403 : decode prog_9_method_36_code 403 = .ok (.ifCond .eq 28, 3) := by decide +kernel
theorem d_M_refer_406 : decode prog_9_method_36_code 406 = .ok (.aload_n 0, 1) := by decide +kernel
theorem d_M_refer_407 : decode prog_9_method_36_code 407 = .ok (.aload_n 0, 1) := by decide +kernel
theorem d_M_refer_408 : decode prog_9_method_36_code 408 = .ok (.aload_n 0, 1) := by decide +kernel
theorem d_M_refer_409 : decode prog_9_method_36_code 409 = .ok (.iload_n 2, 1) := by decide +kernel
theorem d_M_refer_410 : decode prog_9_method_36_code 410 = .ok (.iconst 2, 1) := by decide +kernel
theorem d_M_refer_411 : decode prog_9_method_36_code 411 = .ok (.iadd, 1) := by decide +kernel
theorem d_M_refer_412 : decode prog_9_method_36_code 412 = .ok (.invokevirtual 76, 3) := by decide +kernel
theorem d_M_refer_415 : decode prog_9_method_36_code 415 = .ok (.bipush 12, 2) := by decide +kernel
theorem d_M_refer_417 : decode prog_9_method_36_code 417 = .ok (.invokevirtual 112, 3) := by decide +kernel
theorem d_M_refer_420 : decode prog_9_method_36_code 420 = .ok (.bipush 8, 2) := by decide +kernel
theorem d_M_refer_422 : decode prog_9_method_36_code 422 = .ok (.iload_n 2, 1) := by decide +kernel
theorem d_M_refer_423 : decode prog_9_method_36_code 423 = .ok (.iconst 2, 1) := by decide +kernel
theorem d_M_refer_424 : decode prog_9_method_36_code 424 = .ok (.iadd, 1) := by decide +kernel
theorem d_M_refer_425 : decode prog_9_method_36_code 425 = .ok (.invokevirtual 115, 3) := by decide +kernel
theorem d_M_refer_428 : decode prog_9_method_36_code 428 = .ok (.ifCond .ne 4, 3) := by decide +kernel
theorem d_M_refer_431 : decode prog_9_method_36_code 431 = .ok (.return_, 1) := by decide +kernel
theorem d_M_refer_432 : decode prog_9_method_36_code 432 = .ok (.aload_n 0, 1) := by decide +kernel
theorem d_M_refer_433 : decode prog_9_method_36_code 433 = .ok (.aload_n 0, 1) := by decide +kernel
theorem d_M_refer_434 : decode prog_9_method_36_code 434 = .ok (.iload_n 1, 1) := by decide +kernel
theorem d_M_refer_435 : decode prog_9_method_36_code 435 = .ok (.invokevirtual 189, 3) := by decide +kernel
theorem d_M_refer_438 : decode prog_9_method_36_code 438 = .ok (.iconst 0, 1) := by decide +kernel
theorem d_M_refer_439 : decode prog_9_method_36_code 439 = .ok (.invokevirtual 86, 3) := by decide +kernel
theorem d_M_refer_442 : decode prog_9_method_36_code 442 = .ok (.bipush 40, 2) := by decide +kernel
theorem d_M_refer_444 : decode prog_9_method_36_code 444 = .ok (.if_icmp .ne 7, 3) := by decide +kernel
theorem d_M_refer_447 : decode prog_9_method_36_code 447 = .ok (.iconst 1, 1) := by decide +kernel
theorem d_M_refer_448 : decode prog_9_method_36_code 448 = .ok (.goto 4, 3) := by decide +kernel
theorem d_M_refer_451 : decode prog_9_method_36_code 451 = .ok (.iconst 0, 1) := by decide +kernel
theorem d_M_refer_452 : decode prog_9_method_36_code 452 = .ok (.istore_n 3, 1) := by decide +kernel
theorem d_M_refer_453 : decode prog_9_method_36_code 453 = .ok (.aload_n 0, 1) := by decide +kernel
theorem d_M_refer_454 : decode prog_9_method_36_code 454 = .ok (.aload_n 0, 1) := by decide +kernel
theorem d_M_refer_455 : decode prog_9_method_36_code 455 = .ok (.iload_n 1, 1) := by decide +kernel
theorem d_M_refer_456 : decode prog_9_method_36_code 456 = .ok (.invokevirtual 192, 3) := by decide +kernel
theorem d_M_refer_459 : decode prog_9_method_36_code 459 = .ok (.invokevirtual 175, 3) := by decide +kernel
theorem d_M_refer_462 : decode prog_9_method_36_code 462 = .ok (.istore 4, 2) := by decide +kernel
theorem d_M_refer_464 : decode prog_9_method_36_code 464 = .ok (.aload_n 0, 1) := by decide +kernel
theorem d_M_refer_465 : decode prog_9_method_36_code 465 = .ok (.getfield 13, 3) := by decide +kernel
theorem d_M_refer_468 : decode prog_9_method_36_code 468 = .ok (.iload_n 1, 1) := by decide +kernel
theorem d_M_refer_469 : decode prog_9_method_36_code 469 = .ok (.iaload, 1) := by decide +kernel
theorem d_M_refer_470 : decode prog_9_method_36_code 470 = .ok (.bipush 9, 2) := by decide +kernel
theorem d_M_refer_472 : decode prog_9_method_36_code 472 = .ok (.if_icmp .ne 20, 3) := by decide +kernel
theorem d_M_refer_475 : decode prog_9_method_36_code 475 = .ok (.iload 4, 2) := by decide +kernel
theorem d_M_refer_477 : decode prog_9_method_36_code 477 = .ok (.ifCond .eq 11, 3) := by decide +kernel
theorem d_M_refer_480 : decode prog_9_method_36_code 480 = .ok (.iload_n 3, 1) := by decide +kernel
theorem d_M_refer_481 : decode prog_9_method_36_code 481 = .ok (.ifCond .ne 7, 3) := by decide +kernel
theorem d_M_refer_484 : decode prog_9_method_36_code 484 = .ok (.iconst 1, 1) := by decide +kernel
theorem d_M_refer_485 : decode prog_9_method_36_code 485 = .ok (.goto 80, 3) := by decide +kernel
theorem d_M_refer_488 : decode prog_9_method_36_code 488 = .ok (.iconst 0, 1) := by decide +kernel
theorem d_M_refer_489 : decode prog_9_method_36_code 489 = .ok (.goto 76, 3) := by decide +kernel
theorem d_M_refer_492 : decode prog_9_method_36_code 492 = .ok (.aload_n 0, 1) := by decide +kernel
theorem d_M_refer_493 : decode prog_9_method_36_code 493 = .ok (.getfield 13, 3) := by decide +kernel
theorem d_M_refer_496 : decode prog_9_method_36_code 496 = .ok (.iload_n 1, 1) := by decide +kernel
theorem d_M_refer_497 : decode prog_9_method_36_code 497 = .ok (.iaload, 1) := by decide +kernel
theorem d_M_refer_498 : decode prog_9_method_36_code 498 = .ok (.bipush 11, 2) := by decide +kernel
theorem d_M_refer_500 : decode prog_9_method_36_code 500 = .ok (.if_icmp .ne 20, 3) := by decide +kernel
theorem d_M_refer_503 : decode prog_9_method_36_code 503 = .ok (.iload 4, 2) := by decide +kernel
theorem d_M_refer_505 : decode prog_9_method_36_code 505 = .ok (.ifCond .eq 11, 3) := by decide +kernel
theorem d_M_refer_508 : decode prog_9_method_36_code 508 = .ok (.iload_n 3, 1) := by decide +kernel
theorem d_M_refer_509 : decode prog_9_method_36_code 509 = .ok (.ifCond .eq 7, 3) := by decide +kernel
theorem d_M_refer_512 : decode prog_9_method_36_code 512 = .ok (.iconst 1, 1) := by decide +kernel
theorem d_M_refer_513 : decode prog_9_method_36_code 513 = .ok (.goto 52, 3) := by decide +kernel
theorem d_M_refer_516 : decode prog_9_method_36_code 516 = .ok (.iconst 0, 1) := by decide +kernel
theorem d_M_refer_517 : decode prog_9_method_36_code 517 = .ok (.goto 48, 3) := by decide +kernel
theorem d_M_refer_520 : decode prog_9_method_36_code 520 = .ok (.iload_n 3, 1) := by decide +kernel
theorem d_M_refer_521 : decode prog_9_method_36_code 521 = .ok (.ifCond .eq 43, 3) := by decide +kernel
theorem d_M_refer_524 : decode prog_9_method_36_code 524 = .ok (.iload 4, 2) := by decide +kernel
theorem d_M_refer_526 : decode prog_9_method_36_code 526 = .ok (.ifCond .ne 34, 3) := by decide +kernel
theorem d_M_refer_529 : decode prog_9_method_36_code 529 = .ok (.aload_n 0, 1) := by decide +kernel
theorem d_M_refer_530 : decode prog_9_method_36_code 530 = .ok (.aload_n 0, 1) := by decide +kernel
theorem d_M_refer_531 : decode prog_9_method_36_code 531 = .ok (.iload_n 1, 1) := by decide +kernel
theorem d_M_refer_532 : decode prog_9_method_36_code 532 = .ok (.invokevirtual 192, 3) := by decide +kernel
theorem d_M_refer_535 : decode prog_9_method_36_code 535 = .ok (.bipush 6, 2) := by decide +kernel
theorem d_M_refer_537 : decode prog_9_method_36_code 537 = .ok (.ldc2_w 178, 3) := by decide +kernel
theorem d_M_refer_540 : decode prog_9_method_36_code 540 = .ok (.lconst 0, 1) := by decide +kernel
theorem d_M_refer_541 : decode prog_9_method_36_code 541 = .ok (.lconst 0, 1) := by decide +kernel
theorem d_M_refer_542 : decode prog_9_method_36_code 542 = .ok (.invokevirtual 180, 3) := by decide +kernel
theorem d_M_refer_545 : decode prog_9_method_36_code 545 = .ok (.ifCond .eq 19, 3) := by decide +kernel
theorem d_M_refer_548 : decode prog_9_method_36_code 548 = .ok (.aload_n 0, 1) := by decide +kernel
theorem d_M_refer_549 : decode prog_9_method_36_code 549 = .ok (.aload_n 0, 1) := by decide +kernel
theorem d_M_refer_550 : decode prog_9_method_36_code 550 = .ok (.iload_n 1, 1) := by decide +kernel
theorem d_M_refer_551 : decode prog_9_method_36_code 551 = .ok (.invokevirtual 189, 3) := by decide +kernel
theorem d_M_refer_554 : decode prog_9_method_36_code 554 = .ok (.invokevirtual 195, 3) := by decide +kernel
theorem d_M_refer_557 : decode prog_9_method_36_code 557 = .ok (.ifCond .eq 7, 3) := by decide +kernel
theorem d_M_refer_560 : decode prog_9_method_36_code 560 = .ok (.iconst 1, 1) := by decide +kernel
theorem d_M_refer_561 : decode prog_9_method_36_code 561 = .ok (.goto 4, 3) := by decide +kernel
theorem d_M_refer_564 : decode prog_9_method_36_code 564 = .ok (.iconst 0, 1) := by decide +kernel
theorem d_M_refer_565 : decode prog_9_method_36_code 565 = .ok (.istore 5, 2) := by decide +kernel
theorem d_M_refer_567 : decode prog_9_method_36_code 567 = .ok (.aload_n 0, 1) := by decide +kernel
theorem d_M_refer_568 : decode prog_9_method_36_code 568 = .ok (.iload 5, 2) := by decide +kernel
theorem d_M_refer_570 : decode prog_9_method_36_code 570 = .ok (.bipush 10, 2) := by decide +kernel
theorem d_M_refer_572 : decode prog_9_method_36_code 572 = .ok (.iload_n 2, 1) := by decide +kernel
theorem d_M_refer_573 : decode prog_9_method_36_code 573 = .ok (.iconst 2, 1) := by decide +kernel
theorem d_M_refer_574 : decode prog_9_method_36_code 574 = .ok (.iadd, 1) := by decide +kernel
theorem d_M_refer_575 : decode prog_9_method_36_code 575 = .ok (.invokevirtual 115, 3) := by decide +kernel
theorem d_M_refer_578 : decode prog_9_method_36_code 578 = .ok (.pop, 1) := by decide +kernel
theorem d_M_refer_579 : decode prog_9_method_36_code 579 = .ok (.iinc 1 1, 3) := by decide +kernel
theorem d_M_refer_582 : decode prog_9_method_36_code 582 = .ok (.goto (-246), 3) := by decide +kernel
theorem d_M_refer_585 : decode prog_9_method_36_code 585 = .ok (.return_, 1) := by decide +kernel
theorem d_M_go_0 : decode prog_9_method_33_code 0 = .ok (.aload_n 0, 1) := by decide +kernel
theorem d_M_go_1 : decode prog_9_method_33_code 1 = .ok (.iload_n 1, 1) := by decide +kernel
theorem d_M_go_2 : decode prog_9_method_33_code 2 = .ok (.putfield 66, 3) := by decide +kernel
theorem d_M_go_5 : decode prog_9_method_33_code 5 = .ok (.aload_n 0, 1) := by decide +kernel
theorem d_M_go_6 : decode prog_9_method_33_code 6 = .ok (.iconst 0, 1) := by decide +kernel
theorem d_M_go_7 : decode prog_9_method_33_code 7 = .ok (.putfield 63, 3) := by decide +kernel
theorem d_M_go_10 : decode prog_9_method_33_code 10 = .ok (.aload_n 0, 1) := by decide +kernel
theorem d_M_go_11 : decode prog_9_method_33_code 11 = .ok (.iconst 0, 1) := by decide +kernel
theorem d_M_go_12 : decode prog_9_method_33_code 12 = .ok (.putfield 49, 3) := by decide +kernel
theorem d_M_go_15 : decode prog_9_method_33_code 15 = .ok (.aload_n 0, 1) := by decide +kernel
theorem d_M_go_16 : decode prog_9_method_33_code 16 = .ok (.iconst 0, 1) := by decide +kernel
theorem d_M_go_17 : decode prog_9_method_33_code 17 = .ok (.putfield 52, 3) := by decide +kernel
theorem d_M_go_20 : decode prog_9_method_33_code 20 = .ok (.iconst 0, 1) := by decide +kernel
theorem d_M_go_21 : decode prog_9_method_33_code 21 = .ok (.istore_n 2, 1) := by decide +kernel
theorem d_M_go_22 : decode prog_9_method_33_code 22 = .ok (.iload_n 2, 1) := by decide +kernel
theorem d_M_go_23 : decode prog_9_method_33_code 23 = .ok (.sipush 300, 3) := by decide +kernel
theorem d_M_go_26 : decode prog_9_method_33_code 26 = .ok (.if_icmp .ge 16, 3) := by decide +kernel
theorem d_M_go_29 : decode prog_9_method_33_code 29 = .ok (.aload_n 0, 1) := by decide +kernel
theorem d_M_go_30 : decode prog_9_method_33_code 30 = .ok (.getfield 13, 3) := by decide +kernel
theorem d_M_go_33 : decode prog_9_method_33_code 33 = .ok (.iload_n 2, 1) := by decide +kernel
theorem d_M_go_34 : decode prog_9_method_33_code 34 = .ok (.iconst 0, 1) := by decide +kernel
theorem d_M_go_35 : decode prog_9_method_33_code 35 = .ok (.iastore, 1) := by decide +kernel
theorem d_M_go_36 : decode prog_9_method_33_code 36 = .ok (.iinc 2 1, 3) := by decide +kernel
theorem d_M_go_39 : decode prog_9_method_33_code 39 = .ok (.goto (-17), 3) := by decide +kernel
theorem d_M_go_42 : decode prog_9_method_33_code 42 = .ok (.aload_n 0, 1) := by decide +kernel
theorem d_M_go_43 : decode prog_9_method_33_code 43 = .ok (.iconst 0, 1) := by decide +kernel
theorem d_M_go_44 : decode prog_9_method_33_code 44 = .ok (.putfield 119, 3) := by decide +kernel
theorem d_M_go_47 : decode prog_9_method_33_code 47 = .ok (.aload_n 0, 1) := by decide +kernel
theorem d_M_go_48 : decode prog_9_method_33_code 48 = .ok (.iconst 0, 1) := by decide +kernel
theorem d_M_go_49 : decode prog_9_method_33_code 49 = .ok (.putfield 122, 3) := by decide +kernel
theorem d_M_go_52 : decode prog_9_method_33_code 52 = .ok (.aload_n 0, 1) := by decide +kernel
theorem d_M_go_53 : decode prog_9_method_33_code 53 = .ok (.iconst 0, 1) := by decide +kernel
theorem d_M_go_54 : decode prog_9_method_33_code 54 = .ok (.putfield 125, 3) := by decide +kernel
theorem d_M_go_57 : decode prog_9_method_33_code 57 = .ok (.aload_n 0, 1) := by decide +kernel
theorem d_M_go_58 : decode prog_9_method_33_code 58 = .ok (.iconst 0, 1) := by decide +kernel
theorem d_M_go_59 : decode prog_9_method_33_code 59 = .ok (.putfield 128, 3) := by decide +kernel
theorem d_M_go_62 : decode prog_9_method_33_code 62 = .ok (.aload_n 0, 1) := by decide +kernel
theorem d_M_go_63 : decode prog_9_method_33_code 63 = .ok (.iconst 0, 1) := by decide +kernel
theorem d_M_go_64 : decode prog_9_method_33_code 64 = .ok (.putfield 131, 3) := by decide +kernel
theorem d_M_go_67 : decode prog_9_method_33_code 67 = .ok (.aload_n 0, 1) := by decide +kernel
theorem d_M_go_68 : decode prog_9_method_33_code 68 = .ok (.iconst 0, 1) := by decide +kernel
theorem d_M_go_69 : decode prog_9_method_33_code 69 = .ok (.putfield 134, 3) := by decide +kernel
theorem d_M_go_72 : decode prog_9_method_33_code 72 = .ok (.aload_n 0, 1) := by decide +kernel
theorem d_M_go_73 : decode prog_9_method_33_code 73 = .ok (.iconst 0, 1) := by decide +kernel
theorem d_M_go_74 : decode prog_9_method_33_code 74 = .ok (.putfield 137, 3) := by decide +kernel
theorem d_M_go_77 : decode prog_9_method_33_code 77 = .ok (.aload_n 0, 1) := by decide +kernel
theorem d_M_go_78 : decode prog_9_method_33_code 78 = .ok (.aload_n 0, 1) := by decide +kernel
theorem d_M_go_79 : decode prog_9_method_33_code 79 = .ok (.invokevirtual 140, 3) := by decide +kernel
theorem d_M_go_82 : decode prog_9_method_33_code 82 = .ok (.ldc2_w 144, 3) := by decide +kernel
theorem d_M_go_85 : decode prog_9_method_33_code 85 = .ok (.lcmp, 1) := by decide +kernel
theorem d_M_go_86 : decode prog_9_method_33_code 86 = .ok (.ifCond .ne 7, 3) := by decide +kernel
theorem d_M_go_89 : decode prog_9_method_33_code 89 = .ok (.iconst 1, 1) := by decide +kernel
theorem d_M_go_90 : decode prog_9_method_33_code 90 = .ok (.goto 4, 3) := by decide +kernel
theorem d_M_go_93 : decode prog_9_method_33_code 93 = .ok (.iconst 0, 1) := by decide +kernel
theorem d_M_go_94 : decode prog_9_method_33_code 94 = .ok (.iconst 2, 1) := by decide +kernel
theorem d_M_go_95 : decode prog_9_method_33_code 95 = .ok (.iconst 0, 1) := by decide +kernel
theorem d_M_go_96 : decode prog_9_method_33_code 96 = .ok (.invokevirtual 115, 3) := by decide +kernel
theorem d_M_go_99 : decode prog_9_method_33_code 99 = .ok (.pop, 1) := by decide +kernel
theorem d_M_go_100 : decode prog_9_method_33_code 100 = .ok (.aload_n 0, 1) := by decide +kernel
theorem d_M_go_101 : decode prog_9_method_33_code 101 = .ok (.aload_n 0, 1) := by decide +kernel
theorem d_M_go_102 : decode prog_9_method_33_code 102 = .ok (.invokevirtual 73, 3) := by decide +kernel
theorem d_M_go_105 : decode prog_9_method_33_code 105 = .ok (.ifCond .ne 7, 3) := by decide +kernel
theorem d_M_go_108 : decode prog_9_method_33_code 108 = .ok (.iconst 1, 1) := by decide +kernel
theorem d_M_go_109 : decode prog_9_method_33_code 109 = .ok (.goto 4, 3) := by decide +kernel
theorem d_M_go_112 : decode prog_9_method_33_code 112 = .ok (.iconst 0, 1) := by decide +kernel
theorem d_M_go_113 : decode prog_9_method_33_code 113 = .ok (.iconst 3, 1) := by decide +kernel
theorem d_M_go_114 : decode prog_9_method_33_code 114 = .ok (.iconst 4, 1) := by decide +kernel
theorem d_M_go_115 : decode prog_9_method_33_code 115 = .ok (.invokevirtual 115, 3) := by decide +kernel
theorem d_M_go_118 : decode prog_9_method_33_code 118 = .ok (.pop, 1) := by decide +kernel
theorem d_M_go_119 : decode prog_9_method_33_code 119 = .ok (.aload_n 0, 1) := by decide +kernel
theorem d_M_go_120 : decode prog_9_method_33_code 120 = .ok (.aload_n 0, 1) := by decide +kernel
theorem d_M_go_121 : decode prog_9_method_33_code 121 = .ok (.invokevirtual 73, 3) := by decide +kernel
theorem d_M_go_124 : decode prog_9_method_33_code 124 = .ok (.putfield 146, 3) := by decide +kernel
theorem d_M_go_127 : decode prog_9_method_33_code 127 = .ok (.aload_n 0, 1) := by decide +kernel
theorem d_M_go_128 : decode prog_9_method_33_code 128 = .ok (.aload_n 0, 1) := by decide +kernel
theorem d_M_go_129 : decode prog_9_method_33_code 129 = .ok (.getfield 146, 3) := by decide +kernel
theorem d_M_go_132 : decode prog_9_method_33_code 132 = .ok (.bipush 45, 2) := by decide +kernel
theorem d_M_go_134 : decode prog_9_method_33_code 134 = .ok (.if_icmp .lt 16, 3) := by decide +kernel
theorem d_M_go_137 : decode prog_9_method_33_code 137 = .ok (.aload_n 0, 1) := by decide +kernel
theorem d_M_go_138 : decode prog_9_method_33_code 138 = .ok (.getfield 146, 3) := by decide +kernel
theorem d_M_go_141 : decode prog_9_method_33_code 141 = .ok (.bipush 61, 2) := by decide +kernel
theorem d_M_go_143 : decode prog_9_method_33_code 143 = .ok (.if_icmp .gt 7, 3) := by decide +kernel
theorem d_M_go_146 : decode prog_9_method_33_code 146 = .ok (.iconst 1, 1) := by decide +kernel
theorem d_M_go_147 : decode prog_9_method_33_code 147 = .ok (.goto 4, 3) := by decide +kernel
theorem d_M_go_150 : decode prog_9_method_33_code 150 = .ok (.iconst 0, 1) := by decide +kernel
theorem d_M_go_151 : decode prog_9_method_33_code 151 = .ok (.iconst 3, 1) := by decide +kernel
theorem d_M_go_152 : decode prog_9_method_33_code 152 = .ok (.bipush 6, 2) := by decide +kernel
theorem d_M_go_154 : decode prog_9_method_33_code 154 = .ok (.invokevirtual 115, 3) := by decide +kernel
theorem d_M_go_157 : decode prog_9_method_33_code 157 = .ok (.pop, 1) := by decide +kernel
theorem d_M_go_158 : decode prog_9_method_33_code 158 = .ok (.aload_n 0, 1) := by decide +kernel
theorem d_M_go_159 : decode prog_9_method_33_code 159 = .ok (.invokevirtual 55, 3) := by decide +kernel
theorem d_M_go_162 : decode prog_9_method_33_code 162 = .ok (.ifCond .eq 7, 3) := by decide +kernel
theorem d_M_go_165 : decode prog_9_method_33_code 165 = .ok (.aload_n 0, 1) := by decide +kernel
theorem d_M_go_166 : decode prog_9_method_33_code 166 = .ok (.invokevirtual 149, 3) := by decide +kernel
theorem d_M_go_169 : decode prog_9_method_33_code 169 = .ok (.aload_n 0, 1) := by decide +kernel
theorem d_M_go_170 : decode prog_9_method_33_code 170 = .ok (.invokevirtual 55, 3) := by decide +kernel
theorem d_M_go_173 : decode prog_9_method_33_code 173 = .ok (.ifCond .eq 7, 3) := by decide +kernel
theorem d_M_go_176 : decode prog_9_method_33_code 176 = .ok (.aload_n 0, 1) := by decide +kernel
theorem d_M_go_177 : decode prog_9_method_33_code 177 = .ok (.invokevirtual 152, 3) := by decide +kernel
theorem d_M_go_180 : decode prog_9_method_33_code 180 = .ok (.aload_n 0, 1) := by decide +kernel
theorem d_M_go_181 : decode prog_9_method_33_code 181 = .ok (.invokevirtual 55, 3) := by decide +kernel
theorem d_M_go_184 : decode prog_9_method_33_code 184 = .ok (.ifCond .eq 7, 3) := by decide +kernel
theorem d_M_go_187 : decode prog_9_method_33_code 187 = .ok (.aload_n 0, 1) := by decide +kernel
theorem d_M_go_188 : decode prog_9_method_33_code 188 = .ok (.invokevirtual 155, 3) := by decide +kernel
theorem d_M_go_191 : decode prog_9_method_33_code 191 = .ok (.aload_n 0, 1) := by decide +kernel
theorem d_M_go_192 : decode prog_9_method_33_code 192 = .ok (.invokevirtual 55, 3) := by decide +kernel
theorem d_M_go_195 : decode prog_9_method_33_code 195 = .ok (.ifCond .eq 7, 3) := by decide +kernel
theorem d_M_go_198 : decode prog_9_method_33_code 198 = .ok (.aload_n 0, 1) := by decide +kernel
theorem d_M_go_199 : decode prog_9_method_33_code 199 = .ok (.invokevirtual 158, 3) := by decide +kernel
theorem d_M_go_202 : decode prog_9_method_33_code 202 = .ok (.aload_n 0, 1) := by decide +kernel
theorem d_M_go_203 : decode prog_9_method_33_code 203 = .ok (.invokevirtual 55, 3) := by decide +kernel
theorem d_M_go_206 : decode prog_9_method_33_code 206 = .ok (.ifCond .eq 7, 3) := by decide +kernel
theorem d_M_go_209 : decode prog_9_method_33_code 209 = .ok (.aload_n 0, 1) := by decide +kernel
theorem d_M_go_210 : decode prog_9_method_33_code 210 = .ok (.invokevirtual 160, 3) := by decide +kernel
theorem d_M_go_213 : decode prog_9_method_33_code 213 = .ok (.aload_n 0, 1) := by decide +kernel
theorem d_M_go_214 : decode prog_9_method_33_code 214 = .ok (.invokevirtual 55, 3) := by decide +kernel
theorem d_M_go_217 : decode prog_9_method_33_code 217 = .ok (.ifCond .eq 11, 3) := by decide +kernel
theorem d_M_go_220 : decode prog_9_method_33_code 220 = .ok (.aload_n 0, 1) := by decide +kernel
theorem d_M_go_221 : decode prog_9_method_33_code 221 = .ok (.iconst 3, 1) := by decide +kernel
theorem d_M_go_222 : decode prog_9_method_33_code 222 = .ok (.iconst 0, 1) := by decide +kernel
theorem d_M_go_223 : decode prog_9_method_33_code 223 = .ok (.iconst 0, 1) := by decide +kernel
theorem d_M_go_224 : decode prog_9_method_33_code 224 = .ok (.iconst 0, 1) := by decide +kernel
theorem d_M_go_225 : decode prog_9_method_33_code 225 = .ok (.invokevirtual 162, 3) := by decide +kernel
theorem d_M_go_228 : decode prog_9_method_33_code 228 = .ok (.aload_n 0, 1) := by decide +kernel
theorem d_M_go_229 : decode prog_9_method_33_code 229 = .ok (.aload_n 0, 1) := by decide +kernel
theorem d_M_go_230 : decode prog_9_method_33_code 230 = .ok (.getfield 63, 3) := by decide +kernel
theorem d_M_go_233 : decode prog_9_method_33_code 233 = .ok (.aload_n 0, 1) := by decide +kernel
theorem d_M_go_234 : decode prog_9_method_33_code 234 = .ok (.getfield 66, 3) := by decide +kernel
theorem d_M_go_237 : decode prog_9_method_33_code 237 = .ok (.if_icmp .ne 7, 3) := by decide +kernel
theorem d_M_go_240 : decode prog_9_method_33_code 240 = .ok (.iconst 1, 1) := by decide +kernel
theorem d_M_go_241 : decode prog_9_method_33_code 241 = .ok (.goto 4, 3) := by decide +kernel
theorem d_M_go_244 : decode prog_9_method_33_code 244 = .ok (.iconst 0, 1) := by decide +kernel
theorem d_M_go_245 : decode prog_9_method_33_code 245 = .ok (.bipush 29, 2) := by decide +kernel
theorem d_M_go_247 : decode prog_9_method_33_code 247 = .ok (.aload_n 0, 1) := by decide +kernel
theorem d_M_go_248 : decode prog_9_method_33_code 248 = .ok (.getfield 63, 3) := by decide +kernel
theorem d_M_go_251 : decode prog_9_method_33_code 251 = .ok (.invokevirtual 115, 3) := by decide +kernel
theorem d_M_go_254 : decode prog_9_method_33_code 254 = .ok (.pop, 1) := by decide +kernel
theorem d_M_go_255 : decode prog_9_method_33_code 255 = .ok (.return_, 1) := by decide +kernel
theorem d_M_judge_0 : decode prog_9_method_60_code 0 = .ok (.aload_n 0, 1) := by decide +kernel
theorem d_M_judge_1 : decode prog_9_method_60_code 1 = .ok (.aload_n 0, 1) := by decide +kernel
theorem d_M_judge_2 : decode prog_9_method_60_code 2 = .ok (.getfield 45, 3) := by decide +kernel
theorem d_M_judge_5 : decode prog_9_method_60_code 5 = .ok (.invokevirtual 317, 3) := by decide +kernel
theorem d_M_judge_8 : decode prog_9_method_60_code 8 = .ok (.aload_n 0, 1) := by decide +kernel
theorem d_M_judge_9 : decode prog_9_method_60_code 9 = .ok (.aload_n 0, 1) := by decide +kernel
theorem d_M_judge_10 : decode prog_9_method_60_code 10 = .ok (.getfield 49, 3) := by decide +kernel
theorem d_M_judge_13 : decode prog_9_method_60_code 13 = .ok (.putfield 320, 3) := by decide +kernel
theorem d_M_judge_16 : decode prog_9_method_60_code 16 = .ok (.aload_n 0, 1) := by decide +kernel
theorem d_M_judge_17 : decode prog_9_method_60_code 17 = .ok (.aload_n 0, 1) := by decide +kernel
theorem d_M_judge_18 : decode prog_9_method_60_code 18 = .ok (.getfield 49, 3) := by decide +kernel
theorem d_M_judge_21 : decode prog_9_method_60_code 21 = .ok (.ifCond .ne 7, 3) := by decide +kernel
theorem d_M_judge_24 : decode prog_9_method_60_code 24 = .ok (.iconst 1, 1) := by decide +kernel
theorem d_M_judge_25 : decode prog_9_method_60_code 25 = .ok (.goto 4, 3) := by decide +kernel
theorem d_M_judge_28 : decode prog_9_method_60_code 28 = .ok (.iconst 0, 1) := by decide +kernel
theorem d_M_judge_29 : decode prog_9_method_60_code 29 = .ok (.putfield 323, 3) := by decide +kernel
theorem d_M_judge_32 : decode prog_9_method_60_code 32 = .ok (.aload_n 0, 1) := by decide +kernel
theorem d_M_judge_33 : decode prog_9_method_60_code 33 = .ok (.getfield 323, 3) := by decide +kernel
theorem d_M_judge_36 : decode prog_9_method_60_code 36 = .ok (.ifCond .ne 10, 3) := by decide +kernel
theorem d_M_judge_39 : decode prog_9_method_60_code 39 = .ok (.iconst 1, 1) := by decide +kernel
theorem d_M_judge_40 : decode prog_9_method_60_code 40 = .ok (.aload_n 0, 1) := by decide +kernel
theorem d_M_judge_41 : decode prog_9_method_60_code 41 = .ok (.getfield 52, 3) := by decide +kernel
theorem d_M_judge_44 : decode prog_9_method_60_code 44 = .ok (.iadd, 1) := by decide +kernel
theorem d_M_judge_45 : decode prog_9_method_60_code 45 = .ok (.ireturn, 1) := by decide +kernel
theorem d_M_judge_46 : decode prog_9_method_60_code 46 = .ok (.aload_n 0, 1) := by decide +kernel
theorem d_M_judge_47 : decode prog_9_method_60_code 47 = .ok (.getfield 36, 3) := by decide +kernel
theorem d_M_judge_50 : decode prog_9_method_60_code 50 = .ok (.iconst 0, 1) := by decide +kernel
theorem d_M_judge_51 : decode prog_9_method_60_code 51 = .ok (.aload_n 0, 1) := by decide +kernel
theorem d_M_judge_52 : decode prog_9_method_60_code 52 = .ok (.getfield 109, 3) := by decide +kernel
theorem d_M_judge_55 : decode prog_9_method_60_code 55 = .ok (.iastore, 1) := by decide +kernel
theorem d_M_judge_56 : decode prog_9_method_60_code 56 = .ok (.aload_n 0, 1) := by decide +kernel
theorem d_M_judge_57 : decode prog_9_method_60_code 57 = .ok (.getfield 36, 3) := by decide +kernel
theorem d_M_judge_60 : decode prog_9_method_60_code 60 = .ok (.iconst 1, 1) := by decide +kernel
theorem d_M_judge_61 : decode prog_9_method_60_code 61 = .ok (.aload_n 0, 1) := by decide +kernel
theorem d_M_judge_62 : decode prog_9_method_60_code 62 = .ok (.getfield 125, 3) := by decide +kernel
theorem d_M_judge_65 : decode prog_9_method_60_code 65 = .ok (.iastore, 1) := by decide +kernel
theorem d_M_judge_66 : decode prog_9_method_60_code 66 = .ok (.aload_n 0, 1) := by decide +kernel
theorem d_M_judge_67 : decode prog_9_method_60_code 67 = .ok (.getfield 36, 3) := by decide +kernel
theorem d_M_judge_70 : decode prog_9_method_60_code 70 = .ok (.iconst 2, 1) := by decide +kernel
theorem d_M_judge_71 : decode prog_9_method_60_code 71 = .ok (.aload_n 0, 1) := by decide +kernel
theorem d_M_judge_72 : decode prog_9_method_60_code 72 = .ok (.getfield 119, 3) := by decide +kernel
theorem d_M_judge_75 : decode prog_9_method_60_code 75 = .ok (.iastore, 1) := by decide +kernel
theorem d_M_judge_76 : decode prog_9_method_60_code 76 = .ok (.aload_n 0, 1) := by decide +kernel
theorem d_M_judge_77 : decode prog_9_method_60_code 77 = .ok (.getfield 36, 3) := by decide +kernel
theorem d_M_judge_80 : decode prog_9_method_60_code 80 = .ok (.iconst 3, 1) := by decide +kernel
theorem d_M_judge_81 : decode prog_9_method_60_code 81 = .ok (.aload_n 0, 1) := by decide +kernel
theorem d_M_judge_82 : decode prog_9_method_60_code 82 = .ok (.getfield 122, 3) := by decide +kernel
theorem d_M_judge_85 : decode prog_9_method_60_code 85 = .ok (.iastore, 1) := by decide +kernel
theorem d_M_judge_86 : decode prog_9_method_60_code 86 = .ok (.aload_n 0, 1) := by decide +kernel
theorem d_M_judge_87 : decode prog_9_method_60_code 87 = .ok (.getfield 36, 3) := by decide +kernel
theorem d_M_judge_90 : decode prog_9_method_60_code 90 = .ok (.iconst 4, 1) := by decide +kernel
theorem d_M_judge_91 : decode prog_9_method_60_code 91 = .ok (.aload_n 0, 1) := by decide +kernel
theorem d_M_judge_92 : decode prog_9_method_60_code 92 = .ok (.getfield 128, 3) := by decide +kernel
theorem d_M_judge_95 : decode prog_9_method_60_code 95 = .ok (.iastore, 1) := by decide +kernel
theorem d_M_judge_96 : decode prog_9_method_60_code 96 = .ok (.aload_n 0, 1) := by decide +kernel
theorem d_M_judge_97 : decode prog_9_method_60_code 97 = .ok (.getfield 36, 3) := by decide +kernel
theorem d_M_judge_100 : decode prog_9_method_60_code 100 = .ok (.iconst 5, 1) := by decide +kernel
theorem d_M_judge_101 : decode prog_9_method_60_code 101 = .ok (.aload_n 0, 1) := by decide +kernel
theorem d_M_judge_102 : decode prog_9_method_60_code 102 = .ok (.getfield 131, 3) := by decide +kernel
theorem d_M_judge_105 : decode prog_9_method_60_code 105 = .ok (.iastore, 1) := by decide +kernel
theorem d_M_judge_106 : decode prog_9_method_60_code 106 = .ok (.aload_n 0, 1) := by decide +kernel
theorem d_M_judge_107 : decode prog_9_method_60_code 107 = .ok (.getfield 36, 3) := by decide +kernel
theorem d_M_judge_110 : decode prog_9_method_60_code 110 = .ok (.bipush 6, 2) := by decide +kernel
theorem d_M_judge_112 : decode prog_9_method_60_code 112 = .ok (.aload_n 0, 1) := by decide +kernel
theorem d_M_judge_113 : decode prog_9_method_60_code 113 = .ok (.getfield 134, 3) := by decide +kernel
theorem d_M_judge_116 : decode prog_9_method_60_code 116 = .ok (.iastore, 1) := by decide +kernel
theorem d_M_judge_117 : decode prog_9_method_60_code 117 = .ok (.aload_n 0, 1) := by decide +kernel
theorem d_M_judge_118 : decode prog_9_method_60_code 118 = .ok (.getfield 36, 3) := by decide +kernel
theorem d_M_judge_121 : decode prog_9_method_60_code 121 = .ok (.bipush 7, 2) := by decide +kernel
theorem d_M_judge_123 : decode prog_9_method_60_code 123 = .ok (.aload_n 0, 1) := by decide +kernel
theorem d_M_judge_124 : decode prog_9_method_60_code 124 = .ok (.getfield 137, 3) := by decide +kernel
theorem d_M_judge_127 : decode prog_9_method_60_code 127 = .ok (.iastore, 1) := by decide +kernel
theorem d_M_judge_128 : decode prog_9_method_60_code 128 = .ok (.aload_n 0, 1) := by decide +kernel
theorem d_M_judge_129 : decode prog_9_method_60_code 129 = .ok (.getfield 36, 3) := by decide +kernel
theorem d_M_judge_132 : decode prog_9_method_60_code 132 = .ok (.bipush 8, 2) := by decide +kernel
theorem d_M_judge_134 : decode prog_9_method_60_code 134 = .ok (.aload_n 0, 1) := by decide +kernel
theorem d_M_judge_135 : decode prog_9_method_60_code 135 = .ok (.getfield 198, 3) := by decide +kernel
theorem d_M_judge_138 : decode prog_9_method_60_code 138 = .ok (.iastore, 1) := by decide +kernel
theorem d_M_judge_139 : decode prog_9_method_60_code 139 = .ok (.iconst 0, 1) := by decide +kernel
theorem d_M_judge_140 : decode prog_9_method_60_code 140 = .ok (.istore_n 1, 1) := by decide +kernel
theorem d_M_judge_141 : decode prog_9_method_60_code 141 = .ok (.iload_n 1, 1) := by decide +kernel
theorem d_M_judge_142 : decode prog_9_method_60_code 142 = .ok (.bipush 60, 2) := by decide +kernel
theorem d_M_judge_144 : decode prog_9_method_60_code 144 = .ok (.if_icmp .ge 45, 3) := by decide +kernel
theorem d_M_judge_147 : decode prog_9_method_60_code 147 = .ok (.iconst 0, 1) := by decide +kernel
theorem d_M_judge_148 : decode prog_9_method_60_code 148 = .ok (.istore_n 2, 1) := by decide +kernel
theorem d_M_judge_149 : decode prog_9_method_60_code 149 = .ok (.iload_n 2, 1) := by decide +kernel
theorem d_M_judge_150 : decode prog_9_method_60_code 150 = .ok (.bipush 6, 2) := by decide +kernel
theorem d_M_judge_152 : decode prog_9_method_60_code 152 = .ok (.if_icmp .ge 31, 3) := by decide +kernel
theorem d_M_judge_155 : decode prog_9_method_60_code 155 = .ok (.aload_n 0, 1) := by decide +kernel
theorem d_M_judge_156 : decode prog_9_method_60_code 156 = .ok (.getfield 39, 3) := by decide +kernel
theorem d_M_judge_159 : decode prog_9_method_60_code 159 = .ok (.bipush 6, 2) := by decide +kernel
theorem d_M_judge_161 : decode prog_9_method_60_code 161 = .ok (.iload_n 1, 1) := by decide +kernel
theorem d_M_judge_162 : decode prog_9_method_60_code 162 = .ok (.imul, 1) := by decide +kernel
theorem d_M_judge_163 : decode prog_9_method_60_code 163 = .ok (.iload_n 2, 1) := by decide +kernel
theorem d_M_judge_164 : decode prog_9_method_60_code 164 = .ok (.iadd, 1) := by decide +kernel
theorem d_M_judge_165 : decode prog_9_method_60_code 165 = .ok (.aload_n 0, 1) := by decide +kernel
theorem d_M_judge_166 : decode prog_9_method_60_code 166 = .ok (.getfield 20, 3) := by decide +kernel
theorem d_M_judge_169 : decode prog_9_method_60_code 169 = .ok (.bipush 6, 2) := by decide +kernel
theorem d_M_judge_171 : decode prog_9_method_60_code 171 = .ok (.iload_n 1, 1) := by decide +kernel
theorem d_M_judge_172 : decode prog_9_method_60_code 172 = .ok (.imul, 1) := by decide +kernel
theorem d_M_judge_173 : decode prog_9_method_60_code 173 = .ok (.iload_n 2, 1) := by decide +kernel
theorem d_M_judge_174 : decode prog_9_method_60_code 174 = .ok (.iadd, 1) := by decide +kernel
theorem d_M_judge_175 : decode prog_9_method_60_code 175 = .ok (.iaload, 1) := by decide +kernel
theorem d_M_judge_176 : decode prog_9_method_60_code 176 = .ok (.iastore, 1) := by decide +kernel
theorem d_M_judge_177 : decode prog_9_method_60_code 177 = .ok (.iinc 2 1, 3) := by decide +kernel
theorem d_M_judge_180 : decode prog_9_method_60_code 180 = .ok (.goto (-31), 3) := by decide +kernel
theorem d_M_judge_183 : decode prog_9_method_60_code 183 = .ok (.iinc 1 1, 3) := by decide +kernel
theorem d_M_judge_186 : decode prog_9_method_60_code 186 = .ok (.goto (-45), 3) := by decide +kernel
theorem d_M_judge_189 : decode prog_9_method_60_code 189 = .ok (.iconst 0, 1) := by decide +kernel
theorem d_M_judge_190 : decode prog_9_method_60_code 190 = .ok (.istore_n 1, 1) := by decide +kernel
theorem d_M_judge_191 : decode prog_9_method_60_code 191 = .ok (.iload_n 1, 1) := by decide +kernel
theorem d_M_judge_192 : decode prog_9_method_60_code 192 = .ok (.sipush 300, 3) := by decide +kernel
theorem d_M_judge_195 : decode prog_9_method_60_code 195 = .ok (.if_icmp .ge 21, 3) := by decide +kernel
theorem d_M_judge_198 : decode prog_9_method_60_code 198 = .ok (.aload_n 0, 1) := by decide +kernel
theorem d_M_judge_199 : decode prog_9_method_60_code 199 = .ok (.getfield 42, 3) := by decide +kernel
theorem d_M_judge_202 : decode prog_9_method_60_code 202 = .ok (.iload_n 1, 1) := by decide +kernel
theorem d_M_judge_203 : decode prog_9_method_60_code 203 = .ok (.aload_n 0, 1) := by decide +kernel
theorem d_M_judge_204 : decode prog_9_method_60_code 204 = .ok (.getfield 13, 3) := by decide +kernel
theorem d_M_judge_207 : decode prog_9_method_60_code 207 = .ok (.iload_n 1, 1) := by decide +kernel
theorem d_M_judge_208 : decode prog_9_method_60_code 208 = .ok (.iaload, 1) := by decide +kernel
theorem d_M_judge_209 : decode prog_9_method_60_code 209 = .ok (.iastore, 1) := by decide +kernel
theorem d_M_judge_210 : decode prog_9_method_60_code 210 = .ok (.iinc 1 1, 3) := by decide +kernel
theorem d_M_judge_213 : decode prog_9_method_60_code 213 = .ok (.goto (-22), 3) := by decide +kernel
theorem d_M_judge_216 : decode prog_9_method_60_code 216 = .ok (.iconst 0, 1) := by decide +kernel
theorem d_M_judge_217 : decode prog_9_method_60_code 217 = .ok (.ireturn, 1) := by decide +kernel
theorem d_M_rule_0 : decode prog_9_method_61_code 0 = .ok (.aload_n 0, 1) := by decide +kernel
theorem d_M_rule_1 : decode prog_9_method_61_code 1 = .ok (.getfield 320, 3) := by decide +kernel
theorem d_M_rule_4 : decode prog_9_method_61_code 4 = .ok (.ireturn, 1) := by decide +kernel
theorem d_M_told_0 : decode prog_9_method_62_code 0 = .ok (.aload_n 0, 1) := by decide +kernel
theorem d_M_told_1 : decode prog_9_method_62_code 1 = .ok (.getfield 323, 3) := by decide +kernel
theorem d_M_told_4 : decode prog_9_method_62_code 4 = .ok (.ifCond .eq 13, 3) := by decide +kernel
theorem d_M_told_7 : decode prog_9_method_62_code 7 = .ok (.iload_n 1, 1) := by decide +kernel
theorem d_M_told_8 : decode prog_9_method_62_code 8 = .ok (.ifCond .lt 9, 3) := by decide +kernel
theorem d_M_told_11 : decode prog_9_method_62_code 11 = .ok (.iload_n 1, 1) := by decide +kernel
theorem d_M_told_12 : decode prog_9_method_62_code 12 = .ok (.bipush 8, 2) := by decide +kernel
theorem d_M_told_14 : decode prog_9_method_62_code 14 = .ok (.if_icmp .le 7, 3) := by decide +kernel
theorem d_M_told_17 : decode prog_9_method_62_code 17 = .ok (.iconst (-1), 1) := by decide +kernel
theorem d_M_told_18 : decode prog_9_method_62_code 18 = .ok (.goto 9, 3) := by decide +kernel
theorem d_M_told_21 : decode prog_9_method_62_code 21 = .ok (.aload_n 0, 1) := by decide +kernel
theorem d_M_told_22 : decode prog_9_method_62_code 22 = .ok (.getfield 36, 3) := by decide +kernel
theorem d_M_told_25 : decode prog_9_method_62_code 25 = .ok (.iload_n 1, 1) := by decide +kernel
theorem d_M_told_26 : decode prog_9_method_62_code 26 = .ok (.iaload, 1) := by decide +kernel
theorem d_M_told_27 : decode prog_9_method_62_code 27 = .ok (.ireturn, 1) := by decide +kernel
theorem d_M_method_0 : decode prog_9_method_63_code 0 = .ok (.aload_n 0, 1) := by decide +kernel
theorem d_M_method_1 : decode prog_9_method_63_code 1 = .ok (.getfield 323, 3) := by decide +kernel
theorem d_M_method_4 : decode prog_9_method_63_code 4 = .ok (.ifCond .eq 26, 3) := by decide +kernel
theorem d_M_method_7 : decode prog_9_method_63_code 7 = .ok (.iload_n 1, 1) := by decide +kernel
theorem d_M_method_8 : decode prog_9_method_63_code 8 = .ok (.ifCond .lt 22, 3) := by decide +kernel
theorem d_M_method_11 : decode prog_9_method_63_code 11 = .ok (.iload_n 1, 1) := by decide +kernel
theorem d_M_method_12 : decode prog_9_method_63_code 12 = .ok (.aload_n 0, 1) := by decide +kernel
theorem d_M_method_13 : decode prog_9_method_63_code 13 = .ok (.getfield 36, 3) := by decide +kernel
theorem d_M_method_16 : decode prog_9_method_63_code 16 = .ok (.iconst 3, 1) := by decide +kernel
theorem d_M_method_17 : decode prog_9_method_63_code 17 = .ok (.iaload, 1) := by decide +kernel
theorem d_M_method_18 : decode prog_9_method_63_code 18 = .ok (.if_icmp .ge 12, 3) := by decide +kernel
theorem d_M_method_21 : decode prog_9_method_63_code 21 = .ok (.iload_n 2, 1) := by decide +kernel
theorem d_M_method_22 : decode prog_9_method_63_code 22 = .ok (.ifCond .lt 8, 3) := by decide +kernel
theorem d_M_method_25 : decode prog_9_method_63_code 25 = .ok (.iload_n 2, 1) := by decide +kernel
theorem d_M_method_26 : decode prog_9_method_63_code 26 = .ok (.iconst 5, 1) := by decide +kernel
theorem d_M_method_27 : decode prog_9_method_63_code 27 = .ok (.if_icmp .le 7, 3) := by decide +kernel
theorem d_M_method_30 : decode prog_9_method_63_code 30 = .ok (.iconst (-1), 1) := by decide +kernel
theorem d_M_method_31 : decode prog_9_method_63_code 31 = .ok (.goto 14, 3) := by decide +kernel
theorem d_M_method_34 : decode prog_9_method_63_code 34 = .ok (.aload_n 0, 1) := by decide +kernel
theorem d_M_method_35 : decode prog_9_method_63_code 35 = .ok (.getfield 39, 3) := by decide +kernel
theorem d_M_method_38 : decode prog_9_method_63_code 38 = .ok (.bipush 6, 2) := by decide +kernel
theorem d_M_method_40 : decode prog_9_method_63_code 40 = .ok (.iload_n 1, 1) := by decide +kernel
theorem d_M_method_41 : decode prog_9_method_63_code 41 = .ok (.imul, 1) := by decide +kernel
theorem d_M_method_42 : decode prog_9_method_63_code 42 = .ok (.iload_n 2, 1) := by decide +kernel
theorem d_M_method_43 : decode prog_9_method_63_code 43 = .ok (.iadd, 1) := by decide +kernel
theorem d_M_method_44 : decode prog_9_method_63_code 44 = .ok (.iaload, 1) := by decide +kernel
theorem d_M_method_45 : decode prog_9_method_63_code 45 = .ok (.ireturn, 1) := by decide +kernel
theorem d_M_entry_0 : decode prog_9_method_64_code 0 = .ok (.aload_n 0, 1) := by decide +kernel
theorem d_M_entry_1 : decode prog_9_method_64_code 1 = .ok (.getfield 323, 3) := by decide +kernel
theorem d_M_entry_4 : decode prog_9_method_64_code 4 = .ok (.ifCond .eq 18, 3) := by decide +kernel
theorem d_M_entry_7 : decode prog_9_method_64_code 7 = .ok (.iload_n 1, 1) := by decide +kernel
theorem d_M_entry_8 : decode prog_9_method_64_code 8 = .ok (.iconst 1, 1) := by decide +kernel
theorem d_M_entry_9 : decode prog_9_method_64_code 9 = .ok (.if_icmp .lt 13, 3) := by decide +kernel
theorem d_M_entry_12 : decode prog_9_method_64_code 12 = .ok (.iload_n 1, 1) := by decide +kernel
theorem d_M_entry_13 : decode prog_9_method_64_code 13 = .ok (.aload_n 0, 1) := by decide +kernel
theorem d_M_entry_14 : decode prog_9_method_64_code 14 = .ok (.getfield 36, 3) := by decide +kernel
theorem d_M_entry_17 : decode prog_9_method_64_code 17 = .ok (.iconst 0, 1) := by decide +kernel
theorem d_M_entry_18 : decode prog_9_method_64_code 18 = .ok (.iaload, 1) := by decide +kernel
theorem d_M_entry_19 : decode prog_9_method_64_code 19 = .ok (.if_icmp .lt 7, 3) := by decide +kernel
theorem d_M_entry_22 : decode prog_9_method_64_code 22 = .ok (.iconst (-1), 1) := by decide +kernel
theorem d_M_entry_23 : decode prog_9_method_64_code 23 = .ok (.goto 9, 3) := by decide +kernel
theorem d_M_entry_26 : decode prog_9_method_64_code 26 = .ok (.aload_n 0, 1) := by decide +kernel
theorem d_M_entry_27 : decode prog_9_method_64_code 27 = .ok (.getfield 42, 3) := by decide +kernel
theorem d_M_entry_30 : decode prog_9_method_64_code 30 = .ok (.iload_n 1, 1) := by decide +kernel
theorem d_M_entry_31 : decode prog_9_method_64_code 31 = .ok (.iaload, 1) := by decide +kernel
theorem d_M_entry_32 : decode prog_9_method_64_code 32 = .ok (.ireturn, 1) := by decide +kernel
theorem d_M_guarded_0 : decode prog_9_method_65_code 0 = .ok (.iload_n 1, 1) := by decide +kernel
theorem d_M_guarded_1 : decode prog_9_method_65_code 1 = .ok (.iconst 1, 1) := by decide +kernel
theorem d_M_guarded_2 : decode prog_9_method_65_code 2 = .ok (.if_icmp .lt 10, 3) := by decide +kernel
theorem d_M_guarded_5 : decode prog_9_method_65_code 5 = .ok (.iload_n 1, 1) := by decide +kernel
theorem d_M_guarded_6 : decode prog_9_method_65_code 6 = .ok (.sipush 255, 3) := by decide +kernel
theorem d_M_guarded_9 : decode prog_9_method_65_code 9 = .ok (.if_icmp .le 5, 3) := by decide +kernel
theorem d_M_guarded_12 : decode prog_9_method_65_code 12 = .ok (.iconst (-1), 1) := by decide +kernel
theorem d_M_guarded_13 : decode prog_9_method_65_code 13 = .ok (.ireturn, 1) := by decide +kernel
theorem d_M_guarded_14 : decode prog_9_method_65_code 14 = .ok (.aload_n 0, 1) := by decide +kernel
theorem d_M_guarded_15 : decode prog_9_method_65_code 15 = .ok (.aload_n 0, 1) := by decide +kernel
theorem d_M_guarded_16 : decode prog_9_method_65_code 16 = .ok (.getfield 45, 3) := by decide +kernel
theorem d_M_guarded_19 : decode prog_9_method_65_code 19 = .ok (.invokevirtual 317, 3) := by decide +kernel
theorem d_M_guarded_22 : decode prog_9_method_65_code 22 = .ok (.aload_n 0, 1) := by decide +kernel
theorem d_M_guarded_23 : decode prog_9_method_65_code 23 = .ok (.getfield 49, 3) := by decide +kernel
theorem d_M_guarded_26 : decode prog_9_method_65_code 26 = .ok (.ifCond .eq 5, 3) := by decide +kernel
theorem d_M_guarded_29 : decode prog_9_method_65_code 29 = .ok (.iconst (-1), 1) := by decide +kernel
theorem d_M_guarded_30 : decode prog_9_method_65_code 30 = .ok (.ireturn, 1) := by decide +kernel
theorem d_M_guarded_31 : decode prog_9_method_65_code 31 = .ok (.iconst 0, 1) := by decide +kernel
theorem d_M_guarded_32 : decode prog_9_method_65_code 32 = .ok (.istore_n 2, 1) := by decide +kernel
theorem d_M_guarded_33 : decode prog_9_method_65_code 33 = .ok (.iconst 0, 1) := by decide +kernel
theorem d_M_guarded_34 : decode prog_9_method_65_code 34 = .ok (.istore_n 3, 1) := by decide +kernel
theorem d_M_guarded_35 : decode prog_9_method_65_code 35 = .ok (.iload_n 3, 1) := by decide +kernel
theorem d_M_guarded_36 : decode prog_9_method_65_code 36 = .ok (.aload_n 0, 1) := by decide +kernel
theorem d_M_guarded_37 : decode prog_9_method_65_code 37 = .ok (.getfield 45, 3) := by decide +kernel
theorem d_M_guarded_40 : decode prog_9_method_65_code 40 = .ok (.if_icmp .ge 56, 3) := by decide +kernel
theorem d_M_guarded_43 : decode prog_9_method_65_code 43 = .ok (.aload_n 0, 1) := by decide +kernel
theorem d_M_guarded_44 : decode prog_9_method_65_code 44 = .ok (.getfield 7, 3) := by decide +kernel
theorem d_M_guarded_47 : decode prog_9_method_65_code 47 = .ok (.iload_n 3, 1) := by decide +kernel
theorem d_M_guarded_48 : decode prog_9_method_65_code 48 = .ok (.dup2, 1) := by decide +kernel
theorem d_M_guarded_49 : decode prog_9_method_65_code 49 = .ok (.baload, 1) := by decide +kernel
theorem d_M_guarded_50 : decode prog_9_method_65_code 50 = .ok (.iload_n 1, 1) := by decide +kernel
theorem d_M_guarded_51 : decode prog_9_method_65_code 51 = .ok (.i2b, 1) := by decide +kernel
theorem d_M_guarded_52 : decode prog_9_method_65_code 52 = .ok (.ixor, 1) := by decide +kernel
theorem d_M_guarded_53 : decode prog_9_method_65_code 53 = .ok (.i2b, 1) := by decide +kernel
theorem d_M_guarded_54 : decode prog_9_method_65_code 54 = .ok (.bastore, 1) := by decide +kernel
theorem d_M_guarded_55 : decode prog_9_method_65_code 55 = .ok (.aload_n 0, 1) := by decide +kernel
theorem d_M_guarded_56 : decode prog_9_method_65_code 56 = .ok (.aload_n 0, 1) := by decide +kernel
theorem d_M_guarded_57 : decode prog_9_method_65_code 57 = .ok (.getfield 45, 3) := by decide +kernel
theorem d_M_guarded_60 : decode prog_9_method_65_code 60 = .ok (.invokevirtual 317, 3) := by decide +kernel
theorem d_M_guarded_63 : decode prog_9_method_65_code 63 = .ok (.iload_n 2, 1) := by decide +kernel
theorem d_M_guarded_64 : decode prog_9_method_65_code 64 = .ok (.aload_n 0, 1) := by decide +kernel
theorem d_M_guarded_65 : decode prog_9_method_65_code 65 = .ok (.getfield 49, 3) := by decide +kernel
theorem d_M_guarded_68 : decode prog_9_method_65_code 68 = .ok (.ifCond .eq 7, 3) := by decide +kernel
theorem d_M_guarded_71 : decode prog_9_method_65_code 71 = .ok (.iconst 1, 1) := by decide +kernel
theorem d_M_guarded_72 : decode prog_9_method_65_code 72 = .ok (.goto 4, 3) := by decide +kernel
theorem d_M_guarded_75 : decode prog_9_method_65_code 75 = .ok (.iconst 0, 1) := by decide +kernel
theorem d_M_guarded_76 : decode prog_9_method_65_code 76 = .ok (.iadd, 1) := by decide +kernel
theorem d_M_guarded_77 : decode prog_9_method_65_code 77 = .ok (.istore_n 2, 1) := by decide +kernel
theorem d_M_guarded_78 : decode prog_9_method_65_code 78 = .ok (.aload_n 0, 1) := by decide +kernel
theorem d_M_guarded_79 : decode prog_9_method_65_code 79 = .ok (.getfield 7, 3) := by decide +kernel
theorem d_M_guarded_82 : decode prog_9_method_65_code 82 = .ok (.iload_n 3, 1) := by decide +kernel
theorem d_M_guarded_83 : decode prog_9_method_65_code 83 = .ok (.dup2, 1) := by decide +kernel
theorem d_M_guarded_84 : decode prog_9_method_65_code 84 = .ok (.baload, 1) := by decide +kernel
theorem d_M_guarded_85 : decode prog_9_method_65_code 85 = .ok (.iload_n 1, 1) := by decide +kernel
theorem d_M_guarded_86 : decode prog_9_method_65_code 86 = .ok (.i2b, 1) := by decide +kernel
theorem d_M_guarded_87 : decode prog_9_method_65_code 87 = .ok (.ixor, 1) := by decide +kernel
theorem d_M_guarded_88 : decode prog_9_method_65_code 88 = .ok (.i2b, 1) := by decide +kernel
theorem d_M_guarded_89 : decode prog_9_method_65_code 89 = .ok (.bastore, 1) := by decide +kernel
theorem d_M_guarded_90 : decode prog_9_method_65_code 90 = .ok (.iinc 3 1, 3) := by decide +kernel
theorem d_M_guarded_93 : decode prog_9_method_65_code 93 = .ok (.goto (-58), 3) := by decide +kernel
theorem d_M_guarded_96 : decode prog_9_method_65_code 96 = .ok (.iload_n 2, 1) := by decide +kernel
theorem d_M_guarded_97 : decode prog_9_method_65_code 97 = .ok (.ireturn, 1) := by decide +kernel
theorem d_M_beginnings_0 : decode prog_9_method_66_code 0 = .ok (.aload_n 0, 1) := by decide +kernel
theorem d_M_beginnings_1 : decode prog_9_method_66_code 1 = .ok (.aload_n 0, 1) := by decide +kernel
theorem d_M_beginnings_2 : decode prog_9_method_66_code 2 = .ok (.getfield 45, 3) := by decide +kernel
theorem d_M_beginnings_5 : decode prog_9_method_66_code 5 = .ok (.invokevirtual 317, 3) := by decide +kernel
theorem d_M_beginnings_8 : decode prog_9_method_66_code 8 = .ok (.aload_n 0, 1) := by decide +kernel
theorem d_M_beginnings_9 : decode prog_9_method_66_code 9 = .ok (.getfield 49, 3) := by decide +kernel
theorem d_M_beginnings_12 : decode prog_9_method_66_code 12 = .ok (.ifCond .eq 5, 3) := by decide +kernel
theorem d_M_beginnings_15 : decode prog_9_method_66_code 15 = .ok (.iconst (-1), 1) := by decide +kernel
theorem d_M_beginnings_16 : decode prog_9_method_66_code 16 = .ok (.ireturn, 1) := by decide +kernel
theorem d_M_beginnings_17 : decode prog_9_method_66_code 17 = .ok (.iconst 0, 1) := by decide +kernel
theorem d_M_beginnings_18 : decode prog_9_method_66_code 18 = .ok (.istore_n 1, 1) := by decide +kernel
theorem d_M_beginnings_19 : decode prog_9_method_66_code 19 = .ok (.iconst 0, 1) := by decide +kernel
theorem d_M_beginnings_20 : decode prog_9_method_66_code 20 = .ok (.istore_n 2, 1) := by decide +kernel
theorem d_M_beginnings_21 : decode prog_9_method_66_code 21 = .ok (.iload_n 2, 1) := by decide +kernel
theorem d_M_beginnings_22 : decode prog_9_method_66_code 22 = .ok (.aload_n 0, 1) := by decide +kernel
theorem d_M_beginnings_23 : decode prog_9_method_66_code 23 = .ok (.getfield 45, 3) := by decide +kernel
theorem d_M_beginnings_26 : decode prog_9_method_66_code 26 = .ok (.if_icmp .ge 38, 3) := by decide +kernel
theorem d_M_beginnings_29 : decode prog_9_method_66_code 29 = .ok (.aload_n 0, 1) := by decide +kernel
theorem d_M_beginnings_30 : decode prog_9_method_66_code 30 = .ok (.iload_n 2, 1) := by decide +kernel
theorem d_M_beginnings_31 : decode prog_9_method_66_code 31 = .ok (.invokevirtual 317, 3) := by decide +kernel
theorem d_M_beginnings_34 : decode prog_9_method_66_code 34 = .ok (.iload_n 1, 1) := by decide +kernel
theorem d_M_beginnings_35 : decode prog_9_method_66_code 35 = .ok (.aload_n 0, 1) := by decide +kernel
theorem d_M_beginnings_36 : decode prog_9_method_66_code 36 = .ok (.getfield 49, 3) := by decide +kernel
theorem d_M_beginnings_39 : decode prog_9_method_66_code 39 = .ok (.iconst 1, 1) := by decide +kernel
theorem d_M_beginnings_40 : decode prog_9_method_66_code 40 = .ok (.if_icmp .ne 15, 3) := by decide +kernel
theorem d_M_beginnings_43 : decode prog_9_method_66_code 43 = .ok (.aload_n 0, 1) := by decide +kernel
theorem d_M_beginnings_44 : decode prog_9_method_66_code 44 = .ok (.getfield 52, 3) := by decide +kernel
theorem d_M_beginnings_47 : decode prog_9_method_66_code 47 = .ok (.iload_n 2, 1) := by decide +kernel
theorem d_M_beginnings_48 : decode prog_9_method_66_code 48 = .ok (.if_icmp .ne 7, 3) := by decide +kernel
theorem d_M_beginnings_51 : decode prog_9_method_66_code 51 = .ok (.iconst 1, 1) := by decide +kernel
theorem d_M_beginnings_52 : decode prog_9_method_66_code 52 = .ok (.goto 4, 3) := by decide +kernel
theorem d_M_beginnings_55 : decode prog_9_method_66_code 55 = .ok (.iconst 0, 1) := by decide +kernel
theorem d_M_beginnings_56 : decode prog_9_method_66_code 56 = .ok (.iadd, 1) := by decide +kernel
theorem d_M_beginnings_57 : decode prog_9_method_66_code 57 = .ok (.istore_n 1, 1) := by decide +kernel
theorem d_M_beginnings_58 : decode prog_9_method_66_code 58 = .ok (.iinc 2 1, 3) := by decide +kernel
theorem d_M_beginnings_61 : decode prog_9_method_66_code 61 = .ok (.goto (-40), 3) := by decide +kernel
theorem d_M_beginnings_64 : decode prog_9_method_66_code 64 = .ok (.iload_n 1, 1) := by decide +kernel
theorem d_M_beginnings_65 : decode prog_9_method_66_code 65 = .ok (.ireturn, 1) := by decide +kernel
def rm_M_thrown : Room := { frames := 4, cells := 0, slots := 0, locals := 86 }
noncomputable def f_M_thrown_L7 (x1 : Int32) (x2 : Int32) : Nat → St → Int32 → Option (St)
  | 0, _, _ => none
  | n + 1, u, x3 => if x2 ≤ x3 then (some (u)) else (cI (f_M_ok u) fun r6 u4 => if r6 = 0 then (some (u4)) else (cI (f_M_number u4 7) fun r9 u7 => f_M_thrown_L7 x1 x2 n u7 (x3 + 1)))
noncomputable def f_M_thrown (u : St) (x1 : Int32) : Option (St) := cI (f_M_u2 u) fun r3 u1 => cT (f_M_thrown_L7 x1 r3 FU u1 0) fun (u10 : St) => gd ((6 * x1) + 5) 360 (bnd (sa u10 3 ((6 * x1) + 5).toNatClampNeg r3) fun u11 => some u11)
set_option maxHeartbeats 4000000 in
set_option maxRecDepth 100000 in
theorem w_M_thrown_L7 {Z : zT} {D : va_G} {cs : Nat → ClassId} {a : Nat → Nat} {p : Program} {l : Launch} {e : Env} {s : State} {m : MethodId} {args : Array Value} {below : List Frame} {meth : Method} {c : Code} {Q : State → Prop}  {u2 : St} {x1 : Int32} {x2 : Int32} (C : Cx clA R_M prog_9_method_42_code 4 D cs (mW a cs) Z p s m args c) (hE : ∀ (H : Heap) (locs : List Loc) (ls : Array Slot), Dy clA D (mW a cs) s H locs u2 → lv_has ls 4 [(0, .ref (a 0)), (1, .int x1), (2, .int x2)] → W p l e rm_M_thrown s m args below meth c H locs 0 0 Q (F0 m 32 ls [])) : ∀ (n : Nat) (u : St) (x3 : Int32) (H : Heap) (locs : List Loc) (ls : Array Slot), f_M_thrown_L7 x1 x2 n u x3 = some u2 → Dy clA D (mW a cs) s H locs u → lv_has ls 4 [(0, .ref (a 0)), (1, .int x1), (2, .int x2), (3, .int x3)] → W p l e rm_M_thrown s m args below meth c H locs 0 0 Q (F0 m 7 ls []) := by
  have hx := C.1.1
  have hb := C.1.2.1
  intro n
  induction n with
  | zero =>
    intro u x3 H locs ls hk I hl
    rw [f_M_thrown_L7] at hk
    cases hk
  | succ n ih =>
    intro u x3 H locs ls hk I hl
    rw [f_M_thrown_L7] at hk
    refine lv_iload_n hx hb d_M_thrown_7 rfl (lv_at hl 3 rfl) ?_
    refine lv_iload_n hx hb d_M_thrown_8 rfl (lv_at hl 2 rfl) ?_
    refine lv_icmp_ge (tgt := 32) hx hb d_M_thrown_9 (by decide) (fun hc => ?_) (fun hc => ?_)
    · replace hk := it_u hc hk
      cases hk
      exact hE _ _ _ I (lv_sub hl [0, 1, 2] rfl)
    · replace hk := ie_u hc hk
      refine lv_aload_n hx hb d_M_thrown_12 rfl (lv_at hl 0 rfl) ?_
      obtain ⟨r6, u4, h5, hk⟩ := cI_u hk
      refine go_I I (call_runV (rest := []) C I (c_M_ok C.2.2.2.1 C.2.2.2.2.1 l h5 _) wd_M_ok (q0 := 0) (ci := 7) rfl rfl k_834 ⟨rfl, rfl⟩ ⟨by decide, by decide⟩ rfl hl.1 rfl (Nat.le_of_ble_eq_true rfl) d_M_thrown_13) (fun H locs I => ?_)
      refine lv_if_eq (tgt := 32) hx hb d_M_thrown_16 (by decide) (fun hc => ?_) (fun hc => ?_)
      · replace hk := it_u hc hk
        cases hk
        exact hE _ _ _ I (lv_sub hl [0, 1, 2] rfl)
      · replace hk := ie_u hc hk
        refine lv_aload_n hx hb d_M_thrown_19 rfl (lv_at hl 0 rfl) ?_
        refine lv_bipush (v := 7) hx hb d_M_thrown_20 (by decide) ?_
        obtain ⟨r9, u7, h8, hk⟩ := cI_u hk
        refine go_I I (call_runV (rest := []) C I (c_M_number C.2.2.2.1 C.2.2.2.2.1 l h8 _) wd_M_number (q0 := 0) (ci := 7) rfl rfl k_929 ⟨rfl, rfl⟩ ⟨by decide, by decide⟩ rfl hl.1 rfl (Nat.le_of_ble_eq_true rfl) d_M_thrown_22) (fun H locs I => ?_)
        refine lv_pop hx hb d_M_thrown_25 rfl ?_
        refine lv_iinc (v := (x3 + 1)) (lv' := [(3, .int (x3 + 1)), (0, .ref (a 0)), (1, .int x1), (2, .int x2)]) hx hb d_M_thrown_26 hl (k := 3) rfl rfl (by decide) rfl (fun ls hl => ?_)
        refine lv_goto (tgt := 7) hx hb d_M_thrown_29 (by decide) ?_
        exact ih u7 (x3 + 1) _ _ _ hk I (lv_sub hl [1, 2, 3, 0] rfl)
set_option maxHeartbeats 4000000 in
set_option maxRecDepth 100000 in
theorem c_M_thrown {Z : zT} {D : va_G} {cs : Nat → ClassId} {a : Nat → Nat} (hw : wD (mW a cs)) (hz : zOK Z) (l : Launch) {u : St} {x1 : Int32} {u' : St} (hk : f_M_thrown u x1 = some u') : KV clA D cs (mW a cs) Z l y_M_thrown (.code y_M_thrown prog_9_method_42_code 4 (Option.none : Option Jvm.ClassFile.FieldType)) rm_M_thrown [.ref (a 0), .int x1] u u' := by
  unfold f_M_thrown at hk
  refine KV.of (by decide) (Nat.le_of_ble_eq_true rfl) hw hz ?_
  intro p e s m args below meth c Q C I hQ ls hl
  have hl : lv_has ls 4 [(0, .ref (a 0)), (1, .int x1)] := hl
  have hx := C.1.1
  have hb := C.1.2.1
  refine lv_aload_n hx hb d_M_thrown_0 rfl (lv_at hl 0 rfl) ?_
  obtain ⟨r3, u1, h2, hk⟩ := cI_u hk
  refine go_I I (call_runV (rest := []) C I (c_M_u2 C.2.2.2.1 C.2.2.2.2.1 l h2 _) wd_M_u2 (q0 := 0) (ci := 7) rfl rfl k_826 ⟨rfl, rfl⟩ ⟨by decide, by decide⟩ rfl hl.1 rfl (Nat.le_of_ble_eq_true rfl) d_M_thrown_1) (fun H locs I => ?_)
  refine lv_istore_n (lv' := [(2, .int r3), (0, .ref (a 0)), (1, .int x1)]) hx hb d_M_thrown_4 rfl hl (by decide) rfl (fun ls hl => ?_)
  refine lv_iconst (v := 0) hx hb d_M_thrown_5 (by decide) ?_
  refine lv_istore_n (lv' := [(3, .int 0), (2, .int r3), (0, .ref (a 0)), (1, .int x1)]) hx hb d_M_thrown_6 rfl hl (by decide) rfl (fun ls hl => ?_)
  obtain ⟨u10, hj12, hk⟩ := cT_u hk
  refine w_M_thrown_L7 C (fun H locs ls I hl => ?_) FU u1 0 _ _ _ hj12 I (lv_sub hl [2, 3, 1, 0] rfl)
  refine lv_aload_n hx hb d_M_thrown_32 rfl (lv_at hl 0 rfl) ?_
  refine g_M_facts C I k_713 d_M_thrown_33 ?_
  refine lv_bipush (v := 6) hx hb d_M_thrown_36 (by decide) ?_
  refine lv_iload_n hx hb d_M_thrown_38 rfl (lv_at hl 1 rfl) ?_
  refine lv_imul hx hb d_M_thrown_39 ?_
  refine lv_iconst (v := 5) hx hb d_M_thrown_40 (by decide) ?_
  refine lv_iadd hx hb d_M_thrown_41 ?_
  refine lv_iload_n hx hb d_M_thrown_42 rfl (lv_at hl 2 rfl) ?_
  obtain ⟨hi, hk⟩ := gd_u hk
  refine s_M_facts C I hi d_M_thrown_43 (fun H locs I => ?_)
  obtain ⟨u11, hu, hk⟩ := bnd_u hk
  rw [hu] at I
  clear hu
  exact hQ _ _ _ _ _ I hk d_M_thrown_44
def rm_M_value : Room := { frames := 4, cells := 0, slots := 0, locals := 97 }
noncomputable def f_M_value (u : St) (x1 : Int32) : Option (St) := cI (f_M_textSize u x1) fun r3 u1 => cT (if r3 = 1 then (cI (f_M_letter u1 x1 0) fun r19 u17 => some (r19, u17)) else (some (0, u1))) fun (p20 : Int32 × St) => cT (if p20.1 = 74 then (some (5, p20.2)) else (if p20.1 = 0 then (cI (f_M_is p20.2 x1 18 5506320655478385761 7955379302255716718 26427) fun r14 u12 => if r14 = 0 then (some ((-1), u12)) else (some (8, u12))) else (some (3, p20.2)))) fun (p15 : Int32 × St) => cI (f_M_number p15.2 p15.1) fun r10 u8 => some u8
set_option maxHeartbeats 4000000 in
set_option maxRecDepth 100000 in
theorem c_M_value {Z : zT} {D : va_G} {cs : Nat → ClassId} {a : Nat → Nat} (hw : wD (mW a cs)) (hz : zOK Z) (l : Launch) {u : St} {x1 : Int32} {u' : St} (hk : f_M_value u x1 = some u') : KV clA D cs (mW a cs) Z l y_M_value (.code y_M_value prog_9_method_43_code 4 (Option.none : Option Jvm.ClassFile.FieldType)) rm_M_value [.ref (a 0), .int x1] u u' := by
  unfold f_M_value at hk
  refine KV.of (by decide) (Nat.le_of_ble_eq_true rfl) hw hz ?_
  intro p e s m args below meth c Q C I hQ ls hl
  have hl : lv_has ls 4 [(0, .ref (a 0)), (1, .int x1)] := hl
  have hx := C.1.1
  have hb := C.1.2.1
  refine lv_aload_n hx hb d_M_value_0 rfl (lv_at hl 0 rfl) ?_
  refine lv_iload_n hx hb d_M_value_1 rfl (lv_at hl 1 rfl) ?_
  obtain ⟨r3, u1, h2, hk⟩ := cI_u hk
  refine go_I I (call_runV (rest := []) C I (c_M_textSize C.2.2.2.1 C.2.2.2.2.1 l h2 _) wd_M_textSize (q0 := 0) (ci := 7) rfl rfl k_871 ⟨rfl, rfl⟩ ⟨by decide, by decide⟩ rfl hl.1 rfl (Nat.le_of_ble_eq_true rfl) d_M_value_2) (fun H locs I => ?_)
  refine lv_iconst (v := 1) hx hb d_M_value_5 (by decide) ?_
  obtain ⟨⟨z4, u5⟩, hj16, hk⟩ := cT_u hk
  have Khj16 : ∀ (H : Heap) (locs : List Loc) (ls : Array Slot), Dy clA D (mW a cs) s H locs u5 → lv_has ls 4 [(0, .ref (a 0)), (1, .int x1)] → W p l e rm_M_value s m args below meth c H locs 0 0 Q (F0 m 19 ls [.int z4]) := by
    intro H locs ls I hl
    refine lv_istore_n (lv' := [(2, .int z4), (0, .ref (a 0)), (1, .int x1)]) hx hb d_M_value_19 rfl hl (by decide) rfl (fun ls hl => ?_)
    refine lv_iload_n hx hb d_M_value_20 rfl (lv_at hl 0 rfl) ?_
    refine lv_bipush (v := 74) hx hb d_M_value_21 (by decide) ?_
    obtain ⟨⟨z6, u7⟩, hj11, hk⟩ := cT_u hk
    have Khj11 : ∀ (H : Heap) (locs : List Loc) (ls : Array Slot), Dy clA D (mW a cs) s H locs u7 → lv_has ls 4 [(0, .ref (a 0))] → W p l e rm_M_value s m args below meth c H locs 0 0 Q (F0 m 63 ls [.int z6]) := by
      intro H locs ls I hl
      refine lv_istore_n (lv' := [(3, .int z6), (0, .ref (a 0))]) hx hb d_M_value_63 rfl hl (by decide) rfl (fun ls hl => ?_)
      refine lv_aload_n hx hb d_M_value_64 rfl (lv_at hl 1 rfl) ?_
      refine lv_iload_n hx hb d_M_value_65 rfl (lv_at hl 0 rfl) ?_
      obtain ⟨r10, u8, h9, hk⟩ := cI_u hk
      refine go_I I (call_runV (rest := []) C I (c_M_number C.2.2.2.1 C.2.2.2.2.1 l h9 _) wd_M_number (q0 := 0) (ci := 7) rfl rfl k_929 ⟨rfl, rfl⟩ ⟨by decide, by decide⟩ rfl hl.1 rfl (Nat.le_of_ble_eq_true rfl) d_M_value_66) (fun H locs I => ?_)
      refine lv_pop hx hb d_M_value_69 rfl ?_
      exact hQ _ _ _ _ _ I hk d_M_value_70
    refine lv_icmp_ne (tgt := 30) hx hb d_M_value_23 (by decide) (fun hc => ?_) (fun hc => ?_)
    · replace hj11 := ie_u hc hj11
      refine lv_iload_n hx hb d_M_value_30 rfl (lv_at hl 0 rfl) ?_
      refine lv_if_eq (tgt := 38) hx hb d_M_value_31 (by decide) (fun hc => ?_) (fun hc => ?_)
      · replace hj11 := it_u hc hj11
        refine lv_aload_n hx hb d_M_value_38 rfl (lv_at hl 1 rfl) ?_
        refine lv_iload_n hx hb d_M_value_39 rfl (lv_at hl 2 rfl) ?_
        refine lv_bipush (v := 18) hx hb d_M_value_40 (by decide) ?_
        refine lv_ldc2 hx hb C.1.2.2.2 (C.2.1 _ k_973) d_M_value_42 ?_
        refine lv_ldc2 hx hb C.1.2.2.2 (C.2.1 _ k_974) d_M_value_45 ?_
        refine lv_ldc2 hx hb C.1.2.2.2 (C.2.1 _ k_975) d_M_value_48 ?_
        obtain ⟨r14, u12, h13, hj11⟩ := cI_u hj11
        refine go_I I (call_runV (rest := []) C I (c_M_is C.2.2.2.1 C.2.2.2.2.1 l h13 _) wd_M_is (q0 := 0) (ci := 7) rfl rfl k_903 ⟨rfl, rfl⟩ ⟨by decide, by decide⟩ rfl hl.1 rfl (Nat.le_of_ble_eq_true rfl) d_M_value_51) (fun H locs I => ?_)
        refine lv_if_eq (tgt := 62) hx hb d_M_value_54 (by decide) (fun hc => ?_) (fun hc => ?_)
        · replace hj11 := it_u hc hj11
          refine lv_iconst (v := (-1)) hx hb d_M_value_62 (by decide) ?_
          cases hj11
          exact Khj11 _ _ _ I (lv_sub hl [1] rfl)
        · replace hj11 := ie_u hc hj11
          refine lv_bipush (v := 8) hx hb d_M_value_57 (by decide) ?_
          refine lv_goto (tgt := 63) hx hb d_M_value_59 (by decide) ?_
          cases hj11
          exact Khj11 _ _ _ I (lv_sub hl [1] rfl)
      · replace hj11 := ie_u hc hj11
        refine lv_iconst (v := 3) hx hb d_M_value_34 (by decide) ?_
        refine lv_goto (tgt := 63) hx hb d_M_value_35 (by decide) ?_
        cases hj11
        exact Khj11 _ _ _ I (lv_sub hl [1] rfl)
    · replace hj11 := it_u hc hj11
      refine lv_iconst (v := 5) hx hb d_M_value_26 (by decide) ?_
      refine lv_goto (tgt := 63) hx hb d_M_value_27 (by decide) ?_
      cases hj11
      exact Khj11 _ _ _ I (lv_sub hl [1] rfl)
  refine lv_icmp_ne (tgt := 18) hx hb d_M_value_6 (by decide) (fun hc => ?_) (fun hc => ?_)
  · replace hj16 := ie_u hc hj16
    refine lv_iconst (v := 0) hx hb d_M_value_18 (by decide) ?_
    cases hj16
    exact Khj16 _ _ _ I (lv_sub hl [0, 1] rfl)
  · replace hj16 := it_u hc hj16
    refine lv_aload_n hx hb d_M_value_9 rfl (lv_at hl 0 rfl) ?_
    refine lv_iload_n hx hb d_M_value_10 rfl (lv_at hl 1 rfl) ?_
    refine lv_iconst (v := 0) hx hb d_M_value_11 (by decide) ?_
    obtain ⟨r19, u17, h18, hj16⟩ := cI_u hj16
    refine go_I I (call_runV (rest := []) C I (c_M_letter C.2.2.2.1 C.2.2.2.2.1 l h18 _) wd_M_letter (q0 := 0) (ci := 7) rfl rfl k_867 ⟨rfl, rfl⟩ ⟨by decide, by decide⟩ rfl hl.1 rfl (Nat.le_of_ble_eq_true rfl) d_M_value_12) (fun H locs I => ?_)
    refine lv_goto (tgt := 19) hx hb d_M_value_15 (by decide) ?_
    cases hj16
    exact Khj16 _ _ _ I (lv_sub hl [0, 1] rfl)
def rm_M_attributes : Room := { frames := 10, cells := 0, slots := 0, locals := 240 }
noncomputable def f_M_attributes_L15 (kx : St → Int32 → Option (St)) (x1 : Int32) (x2 : Int32) (x3 : Int32) (x4 : Int32) (x5 : Int32) : Nat → St → Int32 → Int32 → Int32 → Option (St)
  | 0, _, _, _, _ => none
  | n + 1, u, x6, x7, x8 => if x5 ≤ x8 then (kx u x6) else (cI (f_M_ok u) fun r6 u4 => if r6 = 0 then (kx u4 x6) else (cI (f_M_number u4 1) fun r9 u7 => cJ (f_M_u4 u7) fun r12 u10 => cI (f_M_ok u10) fun r15 u13 => if r15 = 0 then (some u13) else (cT (if x1 = 1 then (cI (f_M_is u13 r9 13 4859223965108891252 371001685349 0) fun r55 u53 => if r55 = 0 then (some (0, u53)) else (if (x2 &&& 8) = 0 then (some (0, u53)) else (some (1, u53)))) else (if x1 = 2 then (cI (f_M_is u13 r9 4 1131373669 0 0) fun r52 u50 => if r52 = 0 then (some (0, u50)) else (if (x2 &&& 1024) = 0 then (some (1, u50)) else (some (0, u50)))) else (cI (f_M_is u13 r9 10 6012153161717204585 27749 0) fun r49 u47 => some (r49, u47)))) fun (p56 : Int32 × St) => cT (if x1 = 2 then (cI (f_M_is p56.2 r9 10 5005860273151830383 28275 0) fun r44 u42 => if r44 = 0 then (some (0, u42)) else (some (1, u42))) else (some (0, p56.2))) fun (p45 : Int32 × St) => bnd (if p56.1 = 0 then (if p45.1 = 0 then (0) else (if x7 = 0 then (1) else (0))) else (if x6 = 0 then (1) else (if p45.1 = 0 then (0) else (if x7 = 0 then (1) else (0))))) fun (z20 : Int32) => cI (f_M_must p45.2 z20 19 (u4.1 2)) fun r23 u21 => if r23 = 0 then (some u21) else (cT (if p45.1 = 0 then (if x1 = 1 then (cV (f_M_value u21 x3) fun u36 => some (u36)) else (if x1 = 2 then (cV (f_M_code u21 x2 x3) fun u34 => some (u34)) else (cI (f_M_number u21 1) fun r33 u31 => some (u31)))) else (cV (f_M_thrown u21 x3) fun u38 => some (u38))) fun (u24 : St) => bnd (if (lg_cmp ((u24.1 2) - (u21.1 2)).toInt64 r12) = 0 then (1) else (0)) fun (z25 : Int32) => cI (f_M_must u24 z25 18 (u7.1 2)) fun r28 u26 => f_M_attributes_L15 kx x1 x2 x3 x4 x5 n u26 (x6 ||| p56.1) (x7 ||| p45.1) (x8 + 1)))))
noncomputable def f_M_attributes (u : St) (x1 : Int32) (x2 : Int32) (x3 : Int32) (x4 : Int32) : Option (St) := cI (f_M_u2 u) fun r3 u1 => f_M_attributes_L15 (fun u57 z58 => cT (if x1 = 2 then (bnd (if z58 = 0 then (if (x2 &&& 1024) = 0 then (0) else (1)) else (1)) fun (z61 : Int32) => cI (f_M_must u57 z61 20 x4) fun r64 u62 => some (u62)) else (some (u57))) fun (u59 : St) => some u59) x1 x2 x3 x4 r3 FU u1 0 0 0
set_option maxHeartbeats 4000000 in
set_option maxRecDepth 100000 in
theorem w_M_attributes_L15 {Z : zT} {D : va_G} {cs : Nat → ClassId} {a : Nat → Nat} {p : Program} {l : Launch} {e : Env} {s : State} {m : MethodId} {args : Array Value} {below : List Frame} {meth : Method} {c : Code} {Q : State → Prop} {F : St} {kx : St → Int32 → Option (St)} {x1 : Int32} {x2 : Int32} {x3 : Int32} {x4 : Int32} {x5 : Int32} (C : Cx clA R_M prog_9_method_41_code 17 D cs (mW a cs) Z p s m args c) (hE : ∀ (u2 : St) (o6 : Int32) (H : Heap) (locs : List Loc) (ls : Array Slot), kx u2 o6 = some F → Dy clA D (mW a cs) s H locs u2 → lv_has ls 17 [(0, .ref (a 0)), (1, .int x1), (2, .int x2), (4, .int x4), (6, .int o6)] → W p l e rm_M_attributes s m args below meth c H locs 0 0 Q (F0 m 320 ls [])) (hQ : ∀ (H : Heap) (locs : List Loc) (pc : Nat) (ls : Array Slot) (u1 : St), Dy clA D (mW a cs) s H locs u1 → some u1 = some F → decode prog_9_method_41_code pc = .ok (.return_, 1) → W p l e rm_M_attributes s m args below meth c H locs 0 0 Q (F0 m pc ls [])): ∀ (n : Nat) (u : St) (x6 : Int32) (x7 : Int32) (x8 : Int32) (H : Heap) (locs : List Loc) (ls : Array Slot), f_M_attributes_L15 kx x1 x2 x3 x4 x5 n u x6 x7 x8 = some F → Dy clA D (mW a cs) s H locs u → lv_has ls 17 [(0, .ref (a 0)), (1, .int x1), (2, .int x2), (3, .int x3), (4, .int x4), (5, .int x5), (6, .int x6), (7, .int x7), (8, .int x8)] → W p l e rm_M_attributes s m args below meth c H locs 0 0 Q (F0 m 15 ls []) := by
  have hx := C.1.1
  have hb := C.1.2.1
  intro n
  induction n with
  | zero =>
    intro u x6 x7 x8 H locs ls hk I hl
    rw [f_M_attributes_L15] at hk
    cases hk
  | succ n ih =>
    intro u x6 x7 x8 H locs ls hk I hl
    rw [f_M_attributes_L15] at hk
    refine lv_iload hx hb d_M_attributes_15 (lv_at hl 8 rfl) ?_
    refine lv_iload hx hb d_M_attributes_17 (lv_at hl 5 rfl) ?_
    refine lv_icmp_ge (tgt := 320) hx hb d_M_attributes_19 (by decide) (fun hc => ?_) (fun hc => ?_)
    · replace hk := it_u hc hk
      exact hE u x6 _ _ _ hk I (lv_sub hl [0, 1, 2, 4, 6] rfl)
    · replace hk := ie_u hc hk
      refine lv_aload_n hx hb d_M_attributes_22 rfl (lv_at hl 0 rfl) ?_
      obtain ⟨r6, u4, h5, hk⟩ := cI_u hk
      refine go_I I (call_runV (rest := []) C I (c_M_ok C.2.2.2.1 C.2.2.2.2.1 l h5 _) wd_M_ok (q0 := 0) (ci := 7) rfl rfl k_834 ⟨rfl, rfl⟩ ⟨by decide, by decide⟩ rfl hl.1 rfl (Nat.le_of_ble_eq_true rfl) d_M_attributes_23) (fun H locs I => ?_)
      refine lv_if_eq (tgt := 320) hx hb d_M_attributes_26 (by decide) (fun hc => ?_) (fun hc => ?_)
      · replace hk := it_u hc hk
        exact hE u4 x6 _ _ _ hk I (lv_sub hl [0, 1, 2, 4, 6] rfl)
      · replace hk := ie_u hc hk
        refine lv_aload_n hx hb d_M_attributes_29 rfl (lv_at hl 0 rfl) ?_
        refine g_M_at C I k_697 d_M_attributes_30 ?_
        refine lv_istore (lv' := [(9, .int (u4.1 2)), (0, .ref (a 0)), (1, .int x1), (2, .int x2), (3, .int x3), (4, .int x4), (5, .int x5), (6, .int x6), (7, .int x7), (8, .int x8)]) hx hb d_M_attributes_33 hl (by decide) rfl (fun ls hl => ?_)
        refine lv_aload_n hx hb d_M_attributes_35 rfl (lv_at hl 1 rfl) ?_
        refine lv_iconst (v := 1) hx hb d_M_attributes_36 (by decide) ?_
        obtain ⟨r9, u7, h8, hk⟩ := cI_u hk
        refine go_I I (call_runV (rest := []) C I (c_M_number C.2.2.2.1 C.2.2.2.2.1 l h8 _) wd_M_number (q0 := 0) (ci := 7) rfl rfl k_929 ⟨rfl, rfl⟩ ⟨by decide, by decide⟩ rfl hl.1 rfl (Nat.le_of_ble_eq_true rfl) d_M_attributes_37) (fun H locs I => ?_)
        refine lv_istore (lv' := [(10, .int r9), (9, .int (u4.1 2)), (0, .ref (a 0)), (1, .int x1), (2, .int x2), (3, .int x3), (4, .int x4), (5, .int x5), (6, .int x6), (7, .int x7), (8, .int x8)]) hx hb d_M_attributes_40 hl (by decide) rfl (fun ls hl => ?_)
        refine lv_aload_n hx hb d_M_attributes_42 rfl (lv_at hl 2 rfl) ?_
        refine g_M_at C I k_697 d_M_attributes_43 ?_
        refine lv_istore (lv' := [(11, .int (u7.1 2)), (10, .int r9), (9, .int (u4.1 2)), (0, .ref (a 0)), (1, .int x1), (2, .int x2), (3, .int x3), (4, .int x4), (5, .int x5), (6, .int x6), (7, .int x7), (8, .int x8)]) hx hb d_M_attributes_46 hl (by decide) rfl (fun ls hl => ?_)
        refine lv_aload_n hx hb d_M_attributes_48 rfl (lv_at hl 3 rfl) ?_
        obtain ⟨r12, u10, h11, hk⟩ := cJ_u hk
        refine go_J I (call_runV (rest := []) C I (c_M_u4 C.2.2.2.1 C.2.2.2.2.1 l h11 _) wd_M_u4 (q0 := 0) (ci := 7) rfl rfl k_822 ⟨rfl, rfl⟩ ⟨by decide, by decide⟩ rfl hl.1 rfl (Nat.le_of_ble_eq_true rfl) d_M_attributes_49) (fun H locs I => ?_)
        refine lv_lstore (lv' := [(12, .long r12), (11, .int (u7.1 2)), (10, .int r9), (9, .int (u4.1 2)), (0, .ref (a 0)), (1, .int x1), (2, .int x2), (3, .int x3), (4, .int x4), (5, .int x5), (6, .int x6), (7, .int x7), (8, .int x8)]) hx hb d_M_attributes_52 hl (by decide) rfl (fun ls hl => ?_)
        refine lv_aload_n hx hb d_M_attributes_54 rfl (lv_at hl 4 rfl) ?_
        obtain ⟨r15, u13, h14, hk⟩ := cI_u hk
        refine go_I I (call_runV (rest := []) C I (c_M_ok C.2.2.2.1 C.2.2.2.2.1 l h14 _) wd_M_ok (q0 := 0) (ci := 7) rfl rfl k_834 ⟨rfl, rfl⟩ ⟨by decide, by decide⟩ rfl hl.1 rfl (Nat.le_of_ble_eq_true rfl) d_M_attributes_55) (fun H locs I => ?_)
        refine lv_if_ne (tgt := 62) hx hb d_M_attributes_58 (by decide) (fun hc => ?_) (fun hc => ?_)
        · replace hk := ie_u hc hk
          refine lv_iload_n hx hb d_M_attributes_62 rfl (lv_at hl 5 rfl) ?_
          refine lv_iconst (v := 1) hx hb d_M_attributes_63 (by decide) ?_
          obtain ⟨⟨z16, u17⟩, hj46, hk⟩ := cT_u hk
          have Khj46 : ∀ (H : Heap) (locs : List Loc) (ls : Array Slot), Dy clA D (mW a cs) s H locs u17 → lv_has ls 17 [(0, .ref (a 0)), (1, .int x1), (2, .int x2), (3, .int x3), (4, .int x4), (5, .int x5), (6, .int x6), (7, .int x7), (8, .int x8), (9, .int (u4.1 2)), (10, .int r9), (11, .int (u7.1 2)), (12, .long r12)] → W p l e rm_M_attributes s m args below meth c H locs 0 0 Q (F0 m 151 ls [.int z16]) := by
            intro H locs ls I hl
            refine lv_istore (lv' := [(14, .int z16), (0, .ref (a 0)), (1, .int x1), (2, .int x2), (3, .int x3), (4, .int x4), (5, .int x5), (6, .int x6), (7, .int x7), (8, .int x8), (9, .int (u4.1 2)), (10, .int r9), (11, .int (u7.1 2)), (12, .long r12)]) hx hb d_M_attributes_151 hl (by decide) rfl (fun ls hl => ?_)
            refine lv_iload_n hx hb d_M_attributes_153 rfl (lv_at hl 2 rfl) ?_
            refine lv_iconst (v := 2) hx hb d_M_attributes_154 (by decide) ?_
            obtain ⟨⟨z18, u19⟩, hj41, hk⟩ := cT_u hk
            have Khj41 : ∀ (H : Heap) (locs : List Loc) (ls : Array Slot), Dy clA D (mW a cs) s H locs u19 → lv_has ls 17 [(0, .ref (a 0)), (1, .int x1), (2, .int x2), (3, .int x3), (4, .int x4), (5, .int x5), (6, .int x6), (7, .int x7), (8, .int x8), (9, .int (u4.1 2)), (11, .int (u7.1 2)), (12, .long r12), (14, .int z16)] → W p l e rm_M_attributes s m args below meth c H locs 0 0 Q (F0 m 181 ls [.int z18]) := by
              intro H locs ls I hl
              refine lv_istore (lv' := [(15, .int z18), (0, .ref (a 0)), (1, .int x1), (2, .int x2), (3, .int x3), (4, .int x4), (5, .int x5), (6, .int x6), (7, .int x7), (8, .int x8), (9, .int (u4.1 2)), (11, .int (u7.1 2)), (12, .long r12), (14, .int z16)]) hx hb d_M_attributes_181 hl (by decide) rfl (fun ls hl => ?_)
              refine lv_aload_n hx hb d_M_attributes_183 rfl (lv_at hl 1 rfl) ?_
              refine lv_iload hx hb d_M_attributes_184 (lv_at hl 13 rfl) ?_
              obtain ⟨z20, hj40, hk⟩ := bnd_u hk
              have Khj40 : ∀ (H : Heap) (locs : List Loc) (ls : Array Slot), Dy clA D (mW a cs) s H locs u19 → lv_has ls 17 [(0, .ref (a 0)), (1, .int x1), (2, .int x2), (3, .int x3), (4, .int x4), (5, .int x5), (6, .int x6), (7, .int x7), (8, .int x8), (9, .int (u4.1 2)), (11, .int (u7.1 2)), (12, .long r12), (14, .int z16), (15, .int z18)] → W p l e rm_M_attributes s m args below meth c H locs 0 0 Q (F0 m 209 ls [.int z20, .ref (a 0)]) := by
                intro H locs ls I hl
                refine lv_bipush (v := 19) hx hb d_M_attributes_209 (by decide) ?_
                refine lv_iload hx hb d_M_attributes_211 (lv_at hl 9 rfl) ?_
                obtain ⟨r23, u21, h22, hk⟩ := cI_u hk
                refine go_I I (call_runV (rest := []) C I (c_M_must C.2.2.2.1 C.2.2.2.2.1 l h22 _) wd_M_must (q0 := 0) (ci := 7) rfl rfl k_843 ⟨rfl, rfl⟩ ⟨by decide, by decide⟩ rfl hl.1 rfl (Nat.le_of_ble_eq_true rfl) d_M_attributes_213) (fun H locs I => ?_)
                refine lv_if_ne (tgt := 220) hx hb d_M_attributes_216 (by decide) (fun hc => ?_) (fun hc => ?_)
                · replace hk := ie_u hc hk
                  refine lv_iload hx hb d_M_attributes_220 (lv_at hl 6 rfl) ?_
                  refine lv_iload hx hb d_M_attributes_222 (lv_at hl 12 rfl) ?_
                  refine lv_ior hx hb d_M_attributes_224 ?_
                  refine lv_istore (lv' := [(6, .int (x6 ||| z16)), (0, .ref (a 0)), (1, .int x1), (2, .int x2), (3, .int x3), (4, .int x4), (5, .int x5), (7, .int x7), (8, .int x8), (9, .int (u4.1 2)), (11, .int (u7.1 2)), (12, .long r12), (14, .int z16), (15, .int z18)]) hx hb d_M_attributes_225 hl (by decide) rfl (fun ls hl => ?_)
                  refine lv_iload hx hb d_M_attributes_227 (lv_at hl 7 rfl) ?_
                  refine lv_iload hx hb d_M_attributes_229 (lv_at hl 13 rfl) ?_
                  refine lv_ior hx hb d_M_attributes_231 ?_
                  refine lv_istore (lv' := [(7, .int (x7 ||| z18)), (6, .int (x6 ||| z16)), (0, .ref (a 0)), (1, .int x1), (2, .int x2), (3, .int x3), (4, .int x4), (5, .int x5), (8, .int x8), (9, .int (u4.1 2)), (11, .int (u7.1 2)), (12, .long r12), (14, .int z16), (15, .int z18)]) hx hb d_M_attributes_232 hl (by decide) rfl (fun ls hl => ?_)
                  refine lv_aload_n hx hb d_M_attributes_234 rfl (lv_at hl 2 rfl) ?_
                  refine g_M_at C I k_697 d_M_attributes_235 ?_
                  refine lv_istore (lv' := [(16, .int (u21.1 2)), (7, .int (x7 ||| z18)), (6, .int (x6 ||| z16)), (0, .ref (a 0)), (1, .int x1), (2, .int x2), (3, .int x3), (4, .int x4), (5, .int x5), (8, .int x8), (9, .int (u4.1 2)), (11, .int (u7.1 2)), (12, .long r12), (14, .int z16), (15, .int z18)]) hx hb d_M_attributes_238 hl (by decide) rfl (fun ls hl => ?_)
                  refine lv_iload hx hb d_M_attributes_240 (lv_at hl 14 rfl) ?_
                  obtain ⟨u24, hj30, hk⟩ := cT_u hk
                  have Khj30 : ∀ (H : Heap) (locs : List Loc) (ls : Array Slot), Dy clA D (mW a cs) s H locs u24 → lv_has ls 17 [(0, .ref (a 0)), (1, .int x1), (2, .int x2), (3, .int x3), (4, .int x4), (5, .int x5), (6, .int (x6 ||| z16)), (7, .int (x7 ||| z18)), (8, .int x8), (11, .int (u7.1 2)), (12, .long r12), (16, .int (u21.1 2))] → W p l e rm_M_attributes s m args below meth c H locs 0 0 Q (F0 m 286 ls []) := by
                    intro H locs ls I hl
                    refine lv_aload_n hx hb d_M_attributes_286 rfl (lv_at hl 0 rfl) ?_
                    refine lv_aload_n hx hb d_M_attributes_287 rfl (lv_at hl 0 rfl) ?_
                    refine g_M_at C I k_697 d_M_attributes_288 ?_
                    refine lv_iload hx hb d_M_attributes_291 (lv_at hl 11 rfl) ?_
                    refine lv_isub hx hb d_M_attributes_293 ?_
                    refine lv_i2l (v := ((u24.1 2) - (u21.1 2)).toInt64) hx hb d_M_attributes_294 rfl ?_
                    refine lv_lload hx hb d_M_attributes_295 (lv_at hl 10 rfl) ?_
                    refine W.lcmp hx hb d_M_attributes_297 ?_
                    obtain ⟨z25, hj29, hk⟩ := bnd_u hk
                    have Khj29 : ∀ (H : Heap) (locs : List Loc) (ls : Array Slot), Dy clA D (mW a cs) s H locs u24 → lv_has ls 17 [(0, .ref (a 0)), (1, .int x1), (2, .int x2), (3, .int x3), (4, .int x4), (5, .int x5), (6, .int (x6 ||| z16)), (7, .int (x7 ||| z18)), (8, .int x8), (11, .int (u7.1 2))] → W p l e rm_M_attributes s m args below meth c H locs 0 0 Q (F0 m 306 ls [.int z25, .ref (a 0)]) := by
                      intro H locs ls I hl
                      refine lv_bipush (v := 18) hx hb d_M_attributes_306 (by decide) ?_
                      refine lv_iload hx hb d_M_attributes_308 (lv_at hl 9 rfl) ?_
                      obtain ⟨r28, u26, h27, hk⟩ := cI_u hk
                      refine go_I I (call_runV (rest := []) C I (c_M_must C.2.2.2.1 C.2.2.2.2.1 l h27 _) wd_M_must (q0 := 0) (ci := 7) rfl rfl k_843 ⟨rfl, rfl⟩ ⟨by decide, by decide⟩ rfl hl.1 rfl (Nat.le_of_ble_eq_true rfl) d_M_attributes_310) (fun H locs I => ?_)
                      refine lv_pop hx hb d_M_attributes_313 rfl ?_
                      refine lv_iinc (v := (x8 + 1)) (lv' := [(8, .int (x8 + 1)), (0, .ref (a 0)), (1, .int x1), (2, .int x2), (3, .int x3), (4, .int x4), (5, .int x5), (6, .int (x6 ||| z16)), (7, .int (x7 ||| z18)), (11, .int (u7.1 2))]) hx hb d_M_attributes_314 hl (k := 8) rfl rfl (by decide) rfl (fun ls hl => ?_)
                      refine lv_goto (tgt := 15) hx hb d_M_attributes_317 (by decide) ?_
                      exact ih u26 (x6 ||| z16) (x7 ||| z18) (x8 + 1) _ _ _ hk I (lv_sub hl [1, 2, 3, 4, 5, 6, 7, 8, 0] rfl)
                    refine lv_if_ne (tgt := 305) hx hb d_M_attributes_298 (by decide) (fun hc => ?_) (fun hc => ?_)
                    · replace hj29 := ie_u hc hj29
                      refine lv_iconst (v := 0) hx hb d_M_attributes_305 (by decide) ?_
                      cases hj29
                      exact Khj29 _ _ _ I (lv_sub hl [0, 1, 2, 3, 4, 5, 6, 7, 8, 9] rfl)
                    · replace hj29 := it_u hc hj29
                      refine lv_iconst (v := 1) hx hb d_M_attributes_301 (by decide) ?_
                      refine lv_goto (tgt := 306) hx hb d_M_attributes_302 (by decide) ?_
                      cases hj29
                      exact Khj29 _ _ _ I (lv_sub hl [0, 1, 2, 3, 4, 5, 6, 7, 8, 9] rfl)
                  refine lv_if_eq (tgt := 253) hx hb d_M_attributes_242 (by decide) (fun hc => ?_) (fun hc => ?_)
                  · replace hj30 := it_u hc hj30
                    refine lv_iload_n hx hb d_M_attributes_253 rfl (lv_at hl 4 rfl) ?_
                    refine lv_iconst (v := 1) hx hb d_M_attributes_254 (by decide) ?_
                    refine lv_icmp_ne (tgt := 266) hx hb d_M_attributes_255 (by decide) (fun hc => ?_) (fun hc => ?_)
                    · replace hj30 := ie_u hc hj30
                      refine lv_iload_n hx hb d_M_attributes_266 rfl (lv_at hl 4 rfl) ?_
                      refine lv_iconst (v := 2) hx hb d_M_attributes_267 (by decide) ?_
                      refine lv_icmp_ne (tgt := 280) hx hb d_M_attributes_268 (by decide) (fun hc => ?_) (fun hc => ?_)
                      · replace hj30 := ie_u hc hj30
                        refine lv_aload_n hx hb d_M_attributes_280 rfl (lv_at hl 3 rfl) ?_
                        refine lv_iconst (v := 1) hx hb d_M_attributes_281 (by decide) ?_
                        obtain ⟨r33, u31, h32, hj30⟩ := cI_u hj30
                        refine go_I I (call_runV (rest := []) C I (c_M_number C.2.2.2.1 C.2.2.2.2.1 l h32 _) wd_M_number (q0 := 0) (ci := 7) rfl rfl k_929 ⟨rfl, rfl⟩ ⟨by decide, by decide⟩ rfl hl.1 rfl (Nat.le_of_ble_eq_true rfl) d_M_attributes_282) (fun H locs I => ?_)
                        refine lv_pop hx hb d_M_attributes_285 rfl ?_
                        cases hj30
                        exact Khj30 _ _ _ I (lv_sub hl [3, 4, 5, 6, 7, 8, 2, 1, 9, 11, 12, 0] rfl)
                      · replace hj30 := it_u hc hj30
                        refine lv_aload_n hx hb d_M_attributes_271 rfl (lv_at hl 3 rfl) ?_
                        refine lv_iload_n hx hb d_M_attributes_272 rfl (lv_at hl 5 rfl) ?_
                        refine lv_iload_n hx hb d_M_attributes_273 rfl (lv_at hl 6 rfl) ?_
                        obtain ⟨u34, h35, hj30⟩ := cV_u hj30
                        refine go_V I (call_runV (rest := []) C I (c_M_code C.2.2.2.1 C.2.2.2.2.1 l h35 _) wd_M_code (q0 := 0) (ci := 7) rfl rfl k_976 ⟨rfl, rfl⟩ ⟨by decide, by decide⟩ rfl hl.1 rfl (Nat.le_of_ble_eq_true rfl) d_M_attributes_274) (fun H locs I => ?_)
                        refine lv_goto (tgt := 286) hx hb d_M_attributes_277 (by decide) ?_
                        cases hj30
                        exact Khj30 _ _ _ I (lv_sub hl [3, 4, 5, 6, 7, 8, 2, 1, 9, 11, 12, 0] rfl)
                    · replace hj30 := it_u hc hj30
                      refine lv_aload_n hx hb d_M_attributes_258 rfl (lv_at hl 3 rfl) ?_
                      refine lv_iload_n hx hb d_M_attributes_259 rfl (lv_at hl 6 rfl) ?_
                      obtain ⟨u36, h37, hj30⟩ := cV_u hj30
                      refine go_V I (call_runV (rest := []) C I (c_M_value C.2.2.2.1 C.2.2.2.2.1 l h37 _) wd_M_value (q0 := 0) (ci := 7) rfl rfl k_969 ⟨rfl, rfl⟩ ⟨by decide, by decide⟩ rfl hl.1 rfl (Nat.le_of_ble_eq_true rfl) d_M_attributes_260) (fun H locs I => ?_)
                      refine lv_goto (tgt := 286) hx hb d_M_attributes_263 (by decide) ?_
                      cases hj30
                      exact Khj30 _ _ _ I (lv_sub hl [3, 4, 5, 6, 7, 8, 2, 1, 9, 11, 12, 0] rfl)
                  · replace hj30 := ie_u hc hj30
                    refine lv_aload_n hx hb d_M_attributes_245 rfl (lv_at hl 3 rfl) ?_
                    refine lv_iload_n hx hb d_M_attributes_246 rfl (lv_at hl 6 rfl) ?_
                    obtain ⟨u38, h39, hj30⟩ := cV_u hj30
                    refine go_V I (call_runV (rest := []) C I (c_M_thrown C.2.2.2.1 C.2.2.2.2.1 l h39 _) wd_M_thrown (q0 := 0) (ci := 7) rfl rfl k_965 ⟨rfl, rfl⟩ ⟨by decide, by decide⟩ rfl hl.1 rfl (Nat.le_of_ble_eq_true rfl) d_M_attributes_247) (fun H locs I => ?_)
                    refine lv_goto (tgt := 286) hx hb d_M_attributes_250 (by decide) ?_
                    cases hj30
                    exact Khj30 _ _ _ I (lv_sub hl [3, 4, 5, 6, 7, 8, 2, 1, 9, 11, 12, 0] rfl)
                · replace hk := it_u hc hk
                  exact hQ _ _ _ _ _ I hk d_M_attributes_219
              refine lv_if_eq (tgt := 194) hx hb d_M_attributes_186 (by decide) (fun hc => ?_) (fun hc => ?_)
              · replace hj40 := it_u hc hj40
                refine lv_iload hx hb d_M_attributes_194 (lv_at hl 0 rfl) ?_
                refine lv_if_eq (tgt := 208) hx hb d_M_attributes_196 (by decide) (fun hc => ?_) (fun hc => ?_)
                · replace hj40 := it_u hc hj40
                  refine lv_iconst (v := 0) hx hb d_M_attributes_208 (by decide) ?_
                  cases hj40
                  exact Khj40 _ _ _ I (lv_sub hl [1, 2, 3, 4, 5, 6, 7, 8, 9, 10, 11, 12, 13, 0] rfl)
                · replace hj40 := ie_u hc hj40
                  refine lv_iload hx hb d_M_attributes_199 (lv_at hl 8 rfl) ?_
                  refine lv_if_ne (tgt := 208) hx hb d_M_attributes_201 (by decide) (fun hc => ?_) (fun hc => ?_)
                  · replace hj40 := ie_u hc hj40
                    refine lv_iconst (v := 0) hx hb d_M_attributes_208 (by decide) ?_
                    cases hj40
                    exact Khj40 _ _ _ I (lv_sub hl [1, 2, 3, 4, 5, 6, 7, 8, 9, 10, 11, 12, 13, 0] rfl)
                  · replace hj40 := it_u hc hj40
                    refine lv_iconst (v := 1) hx hb d_M_attributes_204 (by decide) ?_
                    refine lv_goto (tgt := 209) hx hb d_M_attributes_205 (by decide) ?_
                    cases hj40
                    exact Khj40 _ _ _ I (lv_sub hl [1, 2, 3, 4, 5, 6, 7, 8, 9, 10, 11, 12, 13, 0] rfl)
              · replace hj40 := ie_u hc hj40
                refine lv_iload hx hb d_M_attributes_189 (lv_at hl 7 rfl) ?_
                refine lv_if_eq (tgt := 204) hx hb d_M_attributes_191 (by decide) (fun hc => ?_) (fun hc => ?_)
                · replace hj40 := it_u hc hj40
                  refine lv_iconst (v := 1) hx hb d_M_attributes_204 (by decide) ?_
                  refine lv_goto (tgt := 209) hx hb d_M_attributes_205 (by decide) ?_
                  cases hj40
                  exact Khj40 _ _ _ I (lv_sub hl [1, 2, 3, 4, 5, 6, 7, 8, 9, 10, 11, 12, 13, 0] rfl)
                · replace hj40 := ie_u hc hj40
                  refine lv_iload hx hb d_M_attributes_194 (lv_at hl 0 rfl) ?_
                  refine lv_if_eq (tgt := 208) hx hb d_M_attributes_196 (by decide) (fun hc => ?_) (fun hc => ?_)
                  · replace hj40 := it_u hc hj40
                    refine lv_iconst (v := 0) hx hb d_M_attributes_208 (by decide) ?_
                    cases hj40
                    exact Khj40 _ _ _ I (lv_sub hl [1, 2, 3, 4, 5, 6, 7, 8, 9, 10, 11, 12, 13, 0] rfl)
                  · replace hj40 := ie_u hc hj40
                    refine lv_iload hx hb d_M_attributes_199 (lv_at hl 8 rfl) ?_
                    refine lv_if_ne (tgt := 208) hx hb d_M_attributes_201 (by decide) (fun hc => ?_) (fun hc => ?_)
                    · replace hj40 := ie_u hc hj40
                      refine lv_iconst (v := 0) hx hb d_M_attributes_208 (by decide) ?_
                      cases hj40
                      exact Khj40 _ _ _ I (lv_sub hl [1, 2, 3, 4, 5, 6, 7, 8, 9, 10, 11, 12, 13, 0] rfl)
                    · replace hj40 := it_u hc hj40
                      refine lv_iconst (v := 1) hx hb d_M_attributes_204 (by decide) ?_
                      refine lv_goto (tgt := 209) hx hb d_M_attributes_205 (by decide) ?_
                      cases hj40
                      exact Khj40 _ _ _ I (lv_sub hl [1, 2, 3, 4, 5, 6, 7, 8, 9, 10, 11, 12, 13, 0] rfl)
            refine lv_icmp_ne (tgt := 180) hx hb d_M_attributes_155 (by decide) (fun hc => ?_) (fun hc => ?_)
            · replace hj41 := ie_u hc hj41
              refine lv_iconst (v := 0) hx hb d_M_attributes_180 (by decide) ?_
              cases hj41
              exact Khj41 _ _ _ I (lv_sub hl [1, 2, 3, 4, 5, 6, 7, 8, 9, 10, 12, 13, 0] rfl)
            · replace hj41 := it_u hc hj41
              refine lv_aload_n hx hb d_M_attributes_158 rfl (lv_at hl 1 rfl) ?_
              refine lv_iload hx hb d_M_attributes_159 (lv_at hl 11 rfl) ?_
              refine lv_bipush (v := 10) hx hb d_M_attributes_161 (by decide) ?_
              refine lv_ldc2 hx hb C.1.2.2.2 (C.2.1 _ k_963) d_M_attributes_163 ?_
              refine lv_ldc2 hx hb C.1.2.2.2 (C.2.1 _ k_964) d_M_attributes_166 ?_
              refine lv_lconst (v := 0) hx hb d_M_attributes_169 (by decide) ?_
              obtain ⟨r44, u42, h43, hj41⟩ := cI_u hj41
              refine go_I I (call_runV (rest := []) C I (c_M_is C.2.2.2.1 C.2.2.2.2.1 l h43 _) wd_M_is (q0 := 0) (ci := 7) rfl rfl k_903 ⟨rfl, rfl⟩ ⟨by decide, by decide⟩ rfl hl.1 rfl (Nat.le_of_ble_eq_true rfl) d_M_attributes_170) (fun H locs I => ?_)
              refine lv_if_eq (tgt := 180) hx hb d_M_attributes_173 (by decide) (fun hc => ?_) (fun hc => ?_)
              · replace hj41 := it_u hc hj41
                refine lv_iconst (v := 0) hx hb d_M_attributes_180 (by decide) ?_
                cases hj41
                exact Khj41 _ _ _ I (lv_sub hl [1, 2, 3, 4, 5, 6, 7, 8, 9, 10, 12, 13, 0] rfl)
              · replace hj41 := ie_u hc hj41
                refine lv_iconst (v := 1) hx hb d_M_attributes_176 (by decide) ?_
                refine lv_goto (tgt := 181) hx hb d_M_attributes_177 (by decide) ?_
                cases hj41
                exact Khj41 _ _ _ I (lv_sub hl [1, 2, 3, 4, 5, 6, 7, 8, 9, 10, 12, 13, 0] rfl)
          refine lv_icmp_ne (tgt := 100) hx hb d_M_attributes_64 (by decide) (fun hc => ?_) (fun hc => ?_)
          · replace hj46 := ie_u hc hj46
            refine lv_iload_n hx hb d_M_attributes_100 rfl (lv_at hl 5 rfl) ?_
            refine lv_iconst (v := 2) hx hb d_M_attributes_101 (by decide) ?_
            refine lv_icmp_ne (tgt := 136) hx hb d_M_attributes_102 (by decide) (fun hc => ?_) (fun hc => ?_)
            · replace hj46 := ie_u hc hj46
              refine lv_aload_n hx hb d_M_attributes_136 rfl (lv_at hl 4 rfl) ?_
              refine lv_iload hx hb d_M_attributes_137 (lv_at hl 2 rfl) ?_
              refine lv_bipush (v := 10) hx hb d_M_attributes_139 (by decide) ?_
              refine lv_ldc2 hx hb C.1.2.2.2 (C.2.1 _ k_961) d_M_attributes_141 ?_
              refine lv_ldc2 hx hb C.1.2.2.2 (C.2.1 _ k_962) d_M_attributes_144 ?_
              refine lv_lconst (v := 0) hx hb d_M_attributes_147 (by decide) ?_
              obtain ⟨r49, u47, h48, hj46⟩ := cI_u hj46
              refine go_I I (call_runV (rest := []) C I (c_M_is C.2.2.2.1 C.2.2.2.2.1 l h48 _) wd_M_is (q0 := 0) (ci := 7) rfl rfl k_903 ⟨rfl, rfl⟩ ⟨by decide, by decide⟩ rfl hl.1 rfl (Nat.le_of_ble_eq_true rfl) d_M_attributes_148) (fun H locs I => ?_)
              cases hj46
              exact Khj46 _ _ _ I (lv_sub hl [4, 5, 6, 7, 8, 9, 10, 11, 12, 3, 2, 1, 0] rfl)
            · replace hj46 := it_u hc hj46
              refine lv_aload_n hx hb d_M_attributes_105 rfl (lv_at hl 4 rfl) ?_
              refine lv_iload hx hb d_M_attributes_106 (lv_at hl 2 rfl) ?_
              refine lv_iconst (v := 4) hx hb d_M_attributes_108 (by decide) ?_
              refine lv_ldc2 hx hb C.1.2.2.2 (C.2.1 _ k_960) d_M_attributes_109 ?_
              refine lv_lconst (v := 0) hx hb d_M_attributes_112 (by decide) ?_
              refine lv_lconst (v := 0) hx hb d_M_attributes_113 (by decide) ?_
              obtain ⟨r52, u50, h51, hj46⟩ := cI_u hj46
              refine go_I I (call_runV (rest := []) C I (c_M_is C.2.2.2.1 C.2.2.2.2.1 l h51 _) wd_M_is (q0 := 0) (ci := 7) rfl rfl k_903 ⟨rfl, rfl⟩ ⟨by decide, by decide⟩ rfl hl.1 rfl (Nat.le_of_ble_eq_true rfl) d_M_attributes_114) (fun H locs I => ?_)
              refine lv_if_eq (tgt := 132) hx hb d_M_attributes_117 (by decide) (fun hc => ?_) (fun hc => ?_)
              · replace hj46 := it_u hc hj46
                refine lv_iconst (v := 0) hx hb d_M_attributes_132 (by decide) ?_
                refine lv_goto (tgt := 151) hx hb d_M_attributes_133 (by decide) ?_
                cases hj46
                exact Khj46 _ _ _ I (lv_sub hl [4, 5, 6, 7, 8, 9, 10, 11, 12, 3, 2, 1, 0] rfl)
              · replace hj46 := ie_u hc hj46
                refine lv_iload_n hx hb d_M_attributes_120 rfl (lv_at hl 6 rfl) ?_
                refine lv_sipush (v := 1024) hx hb d_M_attributes_121 (by decide) ?_
                refine lv_iand hx hb d_M_attributes_124 ?_
                refine lv_if_ne (tgt := 132) hx hb d_M_attributes_125 (by decide) (fun hc => ?_) (fun hc => ?_)
                · replace hj46 := ie_u hc hj46
                  refine lv_iconst (v := 0) hx hb d_M_attributes_132 (by decide) ?_
                  refine lv_goto (tgt := 151) hx hb d_M_attributes_133 (by decide) ?_
                  cases hj46
                  exact Khj46 _ _ _ I (lv_sub hl [4, 5, 6, 7, 8, 9, 10, 11, 12, 3, 2, 1, 0] rfl)
                · replace hj46 := it_u hc hj46
                  refine lv_iconst (v := 1) hx hb d_M_attributes_128 (by decide) ?_
                  refine lv_goto (tgt := 151) hx hb d_M_attributes_129 (by decide) ?_
                  cases hj46
                  exact Khj46 _ _ _ I (lv_sub hl [4, 5, 6, 7, 8, 9, 10, 11, 12, 3, 2, 1, 0] rfl)
          · replace hj46 := it_u hc hj46
            refine lv_aload_n hx hb d_M_attributes_67 rfl (lv_at hl 4 rfl) ?_
            refine lv_iload hx hb d_M_attributes_68 (lv_at hl 2 rfl) ?_
            refine lv_bipush (v := 13) hx hb d_M_attributes_70 (by decide) ?_
            refine lv_ldc2 hx hb C.1.2.2.2 (C.2.1 _ k_958) d_M_attributes_72 ?_
            refine lv_ldc2 hx hb C.1.2.2.2 (C.2.1 _ k_959) d_M_attributes_75 ?_
            refine lv_lconst (v := 0) hx hb d_M_attributes_78 (by decide) ?_
            obtain ⟨r55, u53, h54, hj46⟩ := cI_u hj46
            refine go_I I (call_runV (rest := []) C I (c_M_is C.2.2.2.1 C.2.2.2.2.1 l h54 _) wd_M_is (q0 := 0) (ci := 7) rfl rfl k_903 ⟨rfl, rfl⟩ ⟨by decide, by decide⟩ rfl hl.1 rfl (Nat.le_of_ble_eq_true rfl) d_M_attributes_79) (fun H locs I => ?_)
            refine lv_if_eq (tgt := 96) hx hb d_M_attributes_82 (by decide) (fun hc => ?_) (fun hc => ?_)
            · replace hj46 := it_u hc hj46
              refine lv_iconst (v := 0) hx hb d_M_attributes_96 (by decide) ?_
              refine lv_goto (tgt := 151) hx hb d_M_attributes_97 (by decide) ?_
              cases hj46
              exact Khj46 _ _ _ I (lv_sub hl [4, 5, 6, 7, 8, 9, 10, 11, 12, 3, 2, 1, 0] rfl)
            · replace hj46 := ie_u hc hj46
              refine lv_iload_n hx hb d_M_attributes_85 rfl (lv_at hl 6 rfl) ?_
              refine lv_bipush (v := 8) hx hb d_M_attributes_86 (by decide) ?_
              refine lv_iand hx hb d_M_attributes_88 ?_
              refine lv_if_eq (tgt := 96) hx hb d_M_attributes_89 (by decide) (fun hc => ?_) (fun hc => ?_)
              · replace hj46 := it_u hc hj46
                refine lv_iconst (v := 0) hx hb d_M_attributes_96 (by decide) ?_
                refine lv_goto (tgt := 151) hx hb d_M_attributes_97 (by decide) ?_
                cases hj46
                exact Khj46 _ _ _ I (lv_sub hl [4, 5, 6, 7, 8, 9, 10, 11, 12, 3, 2, 1, 0] rfl)
              · replace hj46 := ie_u hc hj46
                refine lv_iconst (v := 1) hx hb d_M_attributes_92 (by decide) ?_
                refine lv_goto (tgt := 151) hx hb d_M_attributes_93 (by decide) ?_
                cases hj46
                exact Khj46 _ _ _ I (lv_sub hl [4, 5, 6, 7, 8, 9, 10, 11, 12, 3, 2, 1, 0] rfl)
        · replace hk := it_u hc hk
          exact hQ _ _ _ _ _ I hk d_M_attributes_61
set_option maxHeartbeats 4000000 in
set_option maxRecDepth 100000 in
theorem c_M_attributes {Z : zT} {D : va_G} {cs : Nat → ClassId} {a : Nat → Nat} (hw : wD (mW a cs)) (hz : zOK Z) (l : Launch) {u : St} {x1 : Int32} {x2 : Int32} {x3 : Int32} {x4 : Int32} {u' : St} (hk : f_M_attributes u x1 x2 x3 x4 = some u') : KV clA D cs (mW a cs) Z l y_M_attributes (.code y_M_attributes prog_9_method_41_code 17 (Option.none : Option Jvm.ClassFile.FieldType)) rm_M_attributes [.ref (a 0), .int x1, .int x2, .int x3, .int x4] u u' := by
  unfold f_M_attributes at hk
  refine KV.of (by decide) (Nat.le_of_ble_eq_true rfl) hw hz ?_
  intro p e s m args below meth c Q C I hQ ls hl
  have hl : lv_has ls 17 [(0, .ref (a 0)), (1, .int x1), (2, .int x2), (3, .int x3), (4, .int x4)] := hl
  have hx := C.1.1
  have hb := C.1.2.1
  refine lv_aload_n hx hb d_M_attributes_0 rfl (lv_at hl 0 rfl) ?_
  obtain ⟨r3, u1, h2, hk⟩ := cI_u hk
  refine go_I I (call_runV (rest := []) C I (c_M_u2 C.2.2.2.1 C.2.2.2.2.1 l h2 _) wd_M_u2 (q0 := 0) (ci := 7) rfl rfl k_826 ⟨rfl, rfl⟩ ⟨by decide, by decide⟩ rfl hl.1 rfl (Nat.le_of_ble_eq_true rfl) d_M_attributes_1) (fun H locs I => ?_)
  refine lv_istore (lv' := [(5, .int r3), (0, .ref (a 0)), (1, .int x1), (2, .int x2), (3, .int x3), (4, .int x4)]) hx hb d_M_attributes_4 hl (by decide) rfl (fun ls hl => ?_)
  refine lv_iconst (v := 0) hx hb d_M_attributes_6 (by decide) ?_
  refine lv_istore (lv' := [(6, .int 0), (5, .int r3), (0, .ref (a 0)), (1, .int x1), (2, .int x2), (3, .int x3), (4, .int x4)]) hx hb d_M_attributes_7 hl (by decide) rfl (fun ls hl => ?_)
  refine lv_iconst (v := 0) hx hb d_M_attributes_9 (by decide) ?_
  refine lv_istore (lv' := [(7, .int 0), (6, .int 0), (5, .int r3), (0, .ref (a 0)), (1, .int x1), (2, .int x2), (3, .int x3), (4, .int x4)]) hx hb d_M_attributes_10 hl (by decide) rfl (fun ls hl => ?_)
  refine lv_iconst (v := 0) hx hb d_M_attributes_12 (by decide) ?_
  refine lv_istore (lv' := [(8, .int 0), (7, .int 0), (6, .int 0), (5, .int r3), (0, .ref (a 0)), (1, .int x1), (2, .int x2), (3, .int x3), (4, .int x4)]) hx hb d_M_attributes_13 hl (by decide) rfl (fun ls hl => ?_)
  refine w_M_attributes_L15 C (fun u57 z58 H locs ls hk I hl => ?_) hQ FU u1 0 0 0 _ _ _ hk I (lv_sub hl [4, 5, 6, 7, 8, 3, 2, 1, 0] rfl)
  refine lv_iload_n hx hb d_M_attributes_320 rfl (lv_at hl 1 rfl) ?_
  refine lv_iconst (v := 2) hx hb d_M_attributes_321 (by decide) ?_
  obtain ⟨u59, hj60, hk⟩ := cT_u hk
  have Khj60 : ∀ (H : Heap) (locs : List Loc) (ls : Array Slot), Dy clA D (mW a cs) s H locs u59 → lv_has ls 17 [] → W p l e rm_M_attributes s m args below meth c H locs 0 0 Q (F0 m 352 ls []) := by
    intro H locs ls I hl
    exact hQ _ _ _ _ _ I hk d_M_attributes_352
  refine lv_icmp_ne (tgt := 352) hx hb d_M_attributes_322 (by decide) (fun hc => ?_) (fun hc => ?_)
  · replace hj60 := ie_u hc hj60
    cases hj60
    exact Khj60 _ _ _ I (lv_sub hl [] rfl)
  · replace hj60 := it_u hc hj60
    refine lv_aload_n hx hb d_M_attributes_325 rfl (lv_at hl 0 rfl) ?_
    refine lv_iload hx hb d_M_attributes_326 (lv_at hl 4 rfl) ?_
    obtain ⟨z61, hj65, hj60⟩ := bnd_u hj60
    have Khj65 : ∀ (H : Heap) (locs : List Loc) (ls : Array Slot), Dy clA D (mW a cs) s H locs u57 → lv_has ls 17 [(4, .int x4)] → W p l e rm_M_attributes s m args below meth c H locs 0 0 Q (F0 m 344 ls [.int z61, .ref (a 0)]) := by
      intro H locs ls I hl
      refine lv_bipush (v := 20) hx hb d_M_attributes_344 (by decide) ?_
      refine lv_iload hx hb d_M_attributes_346 (lv_at hl 0 rfl) ?_
      obtain ⟨r64, u62, h63, hj60⟩ := cI_u hj60
      refine go_I I (call_runV (rest := []) C I (c_M_must C.2.2.2.1 C.2.2.2.2.1 l h63 _) wd_M_must (q0 := 0) (ci := 7) rfl rfl k_843 ⟨rfl, rfl⟩ ⟨by decide, by decide⟩ rfl hl.1 rfl (Nat.le_of_ble_eq_true rfl) d_M_attributes_348) (fun H locs I => ?_)
      refine lv_pop hx hb d_M_attributes_351 rfl ?_
      cases hj60
      exact Khj60 _ _ _ I (lv_sub hl [] rfl)
    refine lv_if_ne (tgt := 339) hx hb d_M_attributes_328 (by decide) (fun hc => ?_) (fun hc => ?_)
    · replace hj65 := ie_u hc hj65
      refine lv_iconst (v := 1) hx hb d_M_attributes_339 (by decide) ?_
      refine lv_goto (tgt := 344) hx hb d_M_attributes_340 (by decide) ?_
      cases hj65
      exact Khj65 _ _ _ I (lv_sub hl [3] rfl)
    · replace hj65 := it_u hc hj65
      refine lv_iload_n hx hb d_M_attributes_331 rfl (lv_at hl 2 rfl) ?_
      refine lv_sipush (v := 1024) hx hb d_M_attributes_332 (by decide) ?_
      refine lv_iand hx hb d_M_attributes_335 ?_
      refine lv_if_eq (tgt := 343) hx hb d_M_attributes_336 (by decide) (fun hc => ?_) (fun hc => ?_)
      · replace hj65 := it_u hc hj65
        refine lv_iconst (v := 0) hx hb d_M_attributes_343 (by decide) ?_
        cases hj65
        exact Khj65 _ _ _ I (lv_sub hl [3] rfl)
      · replace hj65 := ie_u hc hj65
        refine lv_iconst (v := 1) hx hb d_M_attributes_339 (by decide) ?_
        refine lv_goto (tgt := 344) hx hb d_M_attributes_340 (by decide) ?_
        cases hj65
        exact Khj65 _ _ _ I (lv_sub hl [3] rfl)
def rm_M_oneOf : Room := { frames := 0, cells := 0, slots := 0, locals := 0 }
noncomputable def f_M_oneOf (u : St) (x0 : Int32) : Option (Int32 × St) := bnd (if ((x0 &&& 7) &&& ((x0 &&& 7) - 1)) = 0 then (1) else (0)) fun (z1 : Int32) => gb z1 (some (z1, u))
set_option maxHeartbeats 4000000 in
set_option maxRecDepth 100000 in
theorem c_M_oneOf {Z : zT} {D : va_G} {cs : Nat → ClassId} {a : Nat → Nat} (hw : wD (mW a cs)) (hz : zOK Z) (l : Launch) {u : St} {x0 : Int32} {r : Int32} {u' : St} (hk : f_M_oneOf u x0 = some (r, u')) : KI clA D cs (mW a cs) Z l y_M_oneOf (.code y_M_oneOf prog_9_method_38_code 1 (Option.some Jvm.ClassFile.FieldType.boolean)) rm_M_oneOf [.int x0] u r u' := by
  unfold f_M_oneOf at hk
  refine KZ.of (by decide) (Nat.le_of_ble_eq_true rfl) hw hz ?_
  intro p e s m args below meth c Q C I hQ ls hl
  have hl : lv_has ls 1 [(0, .int x0)] := hl
  have hx := C.1.1
  have hb := C.1.2.1
  refine lv_iload_n hx hb d_M_oneOf_0 rfl (lv_at hl 0 rfl) ?_
  refine lv_bipush (v := 7) hx hb d_M_oneOf_1 (by decide) ?_
  refine lv_iand hx hb d_M_oneOf_3 ?_
  refine lv_iload_n hx hb d_M_oneOf_4 rfl (lv_at hl 0 rfl) ?_
  refine lv_bipush (v := 7) hx hb d_M_oneOf_5 (by decide) ?_
  refine lv_iand hx hb d_M_oneOf_7 ?_
  refine lv_iconst (v := 1) hx hb d_M_oneOf_8 (by decide) ?_
  refine lv_isub hx hb d_M_oneOf_9 ?_
  refine lv_iand hx hb d_M_oneOf_10 ?_
  obtain ⟨z1, hj2, hk⟩ := bnd_u hk
  have Khj2 : ∀ (H : Heap) (locs : List Loc) (ls : Array Slot), Dy clA D (mW a cs) s H locs u → lv_has ls 1 [] → W p l e rm_M_oneOf s m args below meth c H locs 0 0 Q (F0 m 19 ls [.int z1]) := by
    intro H locs ls I hl
    exact hQ _ _ _ _ _ _ I hk d_M_oneOf_19
  refine lv_if_ne (tgt := 18) hx hb d_M_oneOf_11 (by decide) (fun hc => ?_) (fun hc => ?_)
  · replace hj2 := ie_u hc hj2
    refine lv_iconst (v := 0) hx hb d_M_oneOf_18 (by decide) ?_
    cases hj2
    exact Khj2 _ _ _ I (lv_sub hl [] rfl)
  · replace hj2 := it_u hc hj2
    refine lv_iconst (v := 1) hx hb d_M_oneOf_14 (by decide) ?_
    refine lv_goto (tgt := 19) hx hb d_M_oneOf_15 (by decide) ?_
    cases hj2
    exact Khj2 _ _ _ I (lv_sub hl [] rfl)
def rm_M_fields : Room := { frames := 11, cells := 0, slots := 0, locals := 276 }
noncomputable def f_M_fields_L231 (x2 : Int32) (x3 : Int32) (x4 : Int32) : Nat → St → Int32 → Option (St)
  | 0, _, _ => none
  | n + 1, u, x6 => if x2 ≤ x6 then (some (u)) else (gd x6 60 (gd x2 60 (cI (f_M_same u (u.2 4 x6.toNatClampNeg) (u.2 4 x2.toNatClampNeg)) fun r52 u50 => cT (if r52 = 0 then (some (1, u50)) else (gd x6 60 (gd x2 60 (cI (f_M_same u50 (u50.2 5 x6.toNatClampNeg) (u50.2 5 x2.toNatClampNeg)) fun r61 u59 => if r61 = 0 then (some (1, u59)) else (some (0, u59)))))) fun (p62 : Int32 × St) => cI (f_M_must p62.2 p62.1 16 x3) fun r57 u55 => f_M_fields_L231 x2 x3 x4 n u55 (x6 + 1))))
noncomputable def f_M_fields_L37 (kx : St → Option (St)) : Nat → St → Int32 → Option (St)
  | 0, _, _ => none
  | n + 1, u, x2 => if (u.1 10) ≤ x2 then (kx u) else (cI (f_M_ok u) fun r11 u9 => if r11 = 0 then (kx u9) else (cI (f_M_u2 u9) fun r14 u12 => cT (if (r14 &&& (-160)) = 0 then (cI (f_M_oneOf u12 r14) fun r76 u74 => if r76 = 0 then (some (0, u74)) else (if ((u74.1 7) &&& 512) = 0 then (some (1, u74)) else (if r14 = 25 then (some (1, u74)) else (some (0, u74))))) else (some (0, u12))) fun (p77 : Int32 × St) => cI (f_M_must p77.2 p77.1 13 (u9.1 2)) fun r19 u17 => if r19 = 0 then (some u17) else (cI (f_M_number u17 1) fun r22 u20 => gd x2 60 (bnd (sa u20 4 x2.toNatClampNeg r22) fun u23 => cI (f_M_ok u23) fun r26 u24 => if r26 = 0 then (some u24) else (gd x2 60 (cI (f_M_isPlainName u24 (u24.2 4 x2.toNatClampNeg)) fun r29 u27 => cI (f_M_must u27 r29 9 (u17.1 2)) fun r32 u30 => if r32 = 0 then (some u30) else (cI (f_M_number u30 1) fun r35 u33 => gd x2 60 (bnd (sa u33 5 x2.toNatClampNeg r35) fun u36 => cI (f_M_ok u36) fun r39 u37 => if r39 = 0 then (some u37) else (gd x2 60 (cI (f_M_isField u37 (u37.2 5 x2.toNatClampNeg)) fun r42 u40 => cI (f_M_must u40 r42 11 (u30.1 2)) fun r45 u43 => if r45 = 0 then (some u43) else (bnd (if (u43.1 18) = 0 then (1) else (0)) fun (z46 : Int32) => cI (f_M_must u43 z46 12 (u30.1 2)) fun r49 u47 => if r49 = 0 then (some u47) else (cT (f_M_fields_L231 x2 (u9.1 2) r14 FU u47 0) fun (u63 : St) => cI (f_M_ok u63) fun r66 u64 => cT (if r66 = 0 then (some (u64)) else (gd x2 60 (cV (f_M_attributes u64 1 r14 (u64.2 5 x2.toNatClampNeg) 0) fun u69 => some (u69)))) fun (u67 : St) => f_M_fields_L37 kx n u67 (x2 + 1)))))))))))))
noncomputable def f_M_fields (u : St) : Option (St) := cI (f_M_u2 u) fun r3 u1 => bnd (sv u1 10 r3) fun u4 => bnd (if 60 < (u4.1 10) then (0) else (1)) fun (z5 : Int32) => cI (f_M_must u4 z5 15 (u.1 2)) fun r8 u6 => f_M_fields_L37 (fun u78 => some u78) FU u6 0
set_option maxHeartbeats 4000000 in
set_option maxRecDepth 100000 in
theorem w_M_fields_L231 {Z : zT} {D : va_G} {cs : Nat → ClassId} {a : Nat → Nat} {p : Program} {l : Launch} {e : Env} {s : State} {m : MethodId} {args : Array Value} {below : List Frame} {meth : Method} {c : Code} {Q : State → Prop}  {u2 : St} {x2 : Int32} {x3 : Int32} {x4 : Int32} (C : Cx clA R_M prog_9_method_39_code 7 D cs (mW a cs) Z p s m args c) (hE : ∀ (H : Heap) (locs : List Loc) (ls : Array Slot), Dy clA D (mW a cs) s H locs u2 → lv_has ls 7 [(0, .ref (a 0)), (2, .int x2), (4, .int x4)] → W p l e rm_M_fields s m args below meth c H locs 0 0 Q (F0 m 296 ls [])) : ∀ (n : Nat) (u : St) (x6 : Int32) (H : Heap) (locs : List Loc) (ls : Array Slot), f_M_fields_L231 x2 x3 x4 n u x6 = some u2 → Dy clA D (mW a cs) s H locs u → lv_has ls 7 [(0, .ref (a 0)), (2, .int x2), (3, .int x3), (4, .int x4), (6, .int x6)] → W p l e rm_M_fields s m args below meth c H locs 0 0 Q (F0 m 231 ls []) := by
  have hx := C.1.1
  have hb := C.1.2.1
  intro n
  induction n with
  | zero =>
    intro u x6 H locs ls hk I hl
    rw [f_M_fields_L231] at hk
    cases hk
  | succ n ih =>
    intro u x6 H locs ls hk I hl
    rw [f_M_fields_L231] at hk
    refine lv_iload hx hb d_M_fields_231 (lv_at hl 4 rfl) ?_
    refine lv_iload_n hx hb d_M_fields_233 rfl (lv_at hl 1 rfl) ?_
    refine lv_icmp_ge (tgt := 296) hx hb d_M_fields_234 (by decide) (fun hc => ?_) (fun hc => ?_)
    · replace hk := it_u hc hk
      cases hk
      exact hE _ _ _ I (lv_sub hl [0, 1, 3] rfl)
    · replace hk := ie_u hc hk
      refine lv_aload_n hx hb d_M_fields_237 rfl (lv_at hl 0 rfl) ?_
      refine lv_aload_n hx hb d_M_fields_238 rfl (lv_at hl 0 rfl) ?_
      refine lv_aload_n hx hb d_M_fields_239 rfl (lv_at hl 0 rfl) ?_
      refine g_M_names C I k_714 d_M_fields_240 ?_
      refine lv_iload hx hb d_M_fields_243 (lv_at hl 4 rfl) ?_
      obtain ⟨hi, hk⟩ := gd_u hk
      refine l_M_names C I hi d_M_fields_245 ?_
      refine lv_aload_n hx hb d_M_fields_246 rfl (lv_at hl 0 rfl) ?_
      refine g_M_names C I k_714 d_M_fields_247 ?_
      refine lv_iload_n hx hb d_M_fields_250 rfl (lv_at hl 1 rfl) ?_
      obtain ⟨hi, hk⟩ := gd_u hk
      refine l_M_names C I hi d_M_fields_251 ?_
      obtain ⟨r52, u50, h51, hk⟩ := cI_u hk
      refine go_I I (call_runV (rest := [.ref (a 0)]) C I (c_M_same C.2.2.2.1 C.2.2.2.2.1 l h51 _) wd_M_same (q0 := 0) (ci := 7) rfl rfl k_941 ⟨rfl, rfl⟩ ⟨by decide, by decide⟩ rfl hl.1 rfl (Nat.le_of_ble_eq_true rfl) d_M_fields_252) (fun H locs I => ?_)
      obtain ⟨⟨z53, u54⟩, hj58, hk⟩ := cT_u hk
      have Khj58 : ∀ (H : Heap) (locs : List Loc) (ls : Array Slot), Dy clA D (mW a cs) s H locs u54 → lv_has ls 7 [(0, .ref (a 0)), (2, .int x2), (3, .int x3), (4, .int x4), (6, .int x6)] → W p l e rm_M_fields s m args below meth c H locs 0 0 Q (F0 m 283 ls [.int z53, .ref (a 0)]) := by
        intro H locs ls I hl
        refine lv_bipush (v := 16) hx hb d_M_fields_283 (by decide) ?_
        refine lv_iload_n hx hb d_M_fields_285 rfl (lv_at hl 2 rfl) ?_
        obtain ⟨r57, u55, h56, hk⟩ := cI_u hk
        refine go_I I (call_runV (rest := []) C I (c_M_must C.2.2.2.1 C.2.2.2.2.1 l h56 _) wd_M_must (q0 := 0) (ci := 7) rfl rfl k_843 ⟨rfl, rfl⟩ ⟨by decide, by decide⟩ rfl hl.1 rfl (Nat.le_of_ble_eq_true rfl) d_M_fields_286) (fun H locs I => ?_)
        refine lv_pop hx hb d_M_fields_289 rfl ?_
        refine lv_iinc (v := (x6 + 1)) (lv' := [(6, .int (x6 + 1)), (0, .ref (a 0)), (2, .int x2), (3, .int x3), (4, .int x4)]) hx hb d_M_fields_290 hl (k := 4) rfl rfl (by decide) rfl (fun ls hl => ?_)
        refine lv_goto (tgt := 231) hx hb d_M_fields_293 (by decide) ?_
        exact ih u55 (x6 + 1) _ _ _ hk I (lv_sub hl [1, 2, 3, 4, 0] rfl)
      refine lv_if_eq (tgt := 278) hx hb d_M_fields_255 (by decide) (fun hc => ?_) (fun hc => ?_)
      · replace hj58 := it_u hc hj58
        refine lv_iconst (v := 1) hx hb d_M_fields_278 (by decide) ?_
        refine lv_goto (tgt := 283) hx hb d_M_fields_279 (by decide) ?_
        cases hj58
        exact Khj58 _ _ _ I (lv_sub hl [0, 1, 2, 3, 4] rfl)
      · replace hj58 := ie_u hc hj58
        refine lv_aload_n hx hb d_M_fields_258 rfl (lv_at hl 0 rfl) ?_
        refine lv_aload_n hx hb d_M_fields_259 rfl (lv_at hl 0 rfl) ?_
        refine g_M_types C I k_715 d_M_fields_260 ?_
        refine lv_iload hx hb d_M_fields_263 (lv_at hl 4 rfl) ?_
        obtain ⟨hi, hj58⟩ := gd_u hj58
        refine l_M_types C I hi d_M_fields_265 ?_
        refine lv_aload_n hx hb d_M_fields_266 rfl (lv_at hl 0 rfl) ?_
        refine g_M_types C I k_715 d_M_fields_267 ?_
        refine lv_iload_n hx hb d_M_fields_270 rfl (lv_at hl 1 rfl) ?_
        obtain ⟨hi, hj58⟩ := gd_u hj58
        refine l_M_types C I hi d_M_fields_271 ?_
        obtain ⟨r61, u59, h60, hj58⟩ := cI_u hj58
        refine go_I I (call_runV (rest := [.ref (a 0)]) C I (c_M_same C.2.2.2.1 C.2.2.2.2.1 l h60 _) wd_M_same (q0 := 0) (ci := 7) rfl rfl k_941 ⟨rfl, rfl⟩ ⟨by decide, by decide⟩ rfl hl.1 rfl (Nat.le_of_ble_eq_true rfl) d_M_fields_272) (fun H locs I => ?_)
        refine lv_if_ne (tgt := 282) hx hb d_M_fields_275 (by decide) (fun hc => ?_) (fun hc => ?_)
        · replace hj58 := ie_u hc hj58
          refine lv_iconst (v := 0) hx hb d_M_fields_282 (by decide) ?_
          cases hj58
          exact Khj58 _ _ _ I (lv_sub hl [0, 1, 2, 3, 4] rfl)
        · replace hj58 := it_u hc hj58
          refine lv_iconst (v := 1) hx hb d_M_fields_278 (by decide) ?_
          refine lv_goto (tgt := 283) hx hb d_M_fields_279 (by decide) ?_
          cases hj58
          exact Khj58 _ _ _ I (lv_sub hl [0, 1, 2, 3, 4] rfl)
set_option maxHeartbeats 4000000 in
set_option maxRecDepth 100000 in
theorem w_M_fields_L37 {Z : zT} {D : va_G} {cs : Nat → ClassId} {a : Nat → Nat} {p : Program} {l : Launch} {e : Env} {s : State} {m : MethodId} {args : Array Value} {below : List Frame} {meth : Method} {c : Code} {Q : State → Prop} {F : St} {kx : St → Option (St)} (C : Cx clA R_M prog_9_method_39_code 7 D cs (mW a cs) Z p s m args c) (hE : ∀ (u2 : St) (H : Heap) (locs : List Loc) (ls : Array Slot), kx u2 = some F → Dy clA D (mW a cs) s H locs u2 → lv_has ls 7 [] → W p l e rm_M_fields s m args below meth c H locs 0 0 Q (F0 m 323 ls [])) (hQ : ∀ (H : Heap) (locs : List Loc) (pc : Nat) (ls : Array Slot) (u1 : St), Dy clA D (mW a cs) s H locs u1 → some u1 = some F → decode prog_9_method_39_code pc = .ok (.return_, 1) → W p l e rm_M_fields s m args below meth c H locs 0 0 Q (F0 m pc ls [])): ∀ (n : Nat) (u : St) (x2 : Int32) (H : Heap) (locs : List Loc) (ls : Array Slot), f_M_fields_L37 kx n u x2 = some F → Dy clA D (mW a cs) s H locs u → lv_has ls 7 [(0, .ref (a 0)), (2, .int x2)] → W p l e rm_M_fields s m args below meth c H locs 0 0 Q (F0 m 37 ls []) := by
  have hx := C.1.1
  have hb := C.1.2.1
  intro n
  induction n with
  | zero =>
    intro u x2 H locs ls hk I hl
    rw [f_M_fields_L37] at hk
    cases hk
  | succ n ih =>
    intro u x2 H locs ls hk I hl
    rw [f_M_fields_L37] at hk
    refine lv_iload_n hx hb d_M_fields_37 rfl (lv_at hl 1 rfl) ?_
    refine lv_aload_n hx hb d_M_fields_38 rfl (lv_at hl 0 rfl) ?_
    refine g_M_fields C I k_707 d_M_fields_39 ?_
    refine lv_icmp_ge (tgt := 323) hx hb d_M_fields_42 (by decide) (fun hc => ?_) (fun hc => ?_)
    · replace hk := it_u hc hk
      exact hE u _ _ _ hk I (lv_sub hl [] rfl)
    · replace hk := ie_u hc hk
      refine lv_aload_n hx hb d_M_fields_45 rfl (lv_at hl 0 rfl) ?_
      obtain ⟨r11, u9, h10, hk⟩ := cI_u hk
      refine go_I I (call_runV (rest := []) C I (c_M_ok C.2.2.2.1 C.2.2.2.2.1 l h10 _) wd_M_ok (q0 := 0) (ci := 7) rfl rfl k_834 ⟨rfl, rfl⟩ ⟨by decide, by decide⟩ rfl hl.1 rfl (Nat.le_of_ble_eq_true rfl) d_M_fields_46) (fun H locs I => ?_)
      refine lv_if_eq (tgt := 323) hx hb d_M_fields_49 (by decide) (fun hc => ?_) (fun hc => ?_)
      · replace hk := it_u hc hk
        exact hE u9 _ _ _ hk I (lv_sub hl [] rfl)
      · replace hk := ie_u hc hk
        refine lv_aload_n hx hb d_M_fields_52 rfl (lv_at hl 0 rfl) ?_
        refine g_M_at C I k_697 d_M_fields_53 ?_
        refine lv_istore_n (lv' := [(3, .int (u9.1 2)), (0, .ref (a 0)), (2, .int x2)]) hx hb d_M_fields_56 rfl hl (by decide) rfl (fun ls hl => ?_)
        refine lv_aload_n hx hb d_M_fields_57 rfl (lv_at hl 1 rfl) ?_
        obtain ⟨r14, u12, h13, hk⟩ := cI_u hk
        refine go_I I (call_runV (rest := []) C I (c_M_u2 C.2.2.2.1 C.2.2.2.2.1 l h13 _) wd_M_u2 (q0 := 0) (ci := 7) rfl rfl k_826 ⟨rfl, rfl⟩ ⟨by decide, by decide⟩ rfl hl.1 rfl (Nat.le_of_ble_eq_true rfl) d_M_fields_58) (fun H locs I => ?_)
        refine lv_istore (lv' := [(4, .int r14), (3, .int (u9.1 2)), (0, .ref (a 0)), (2, .int x2)]) hx hb d_M_fields_61 hl (by decide) rfl (fun ls hl => ?_)
        refine lv_iload hx hb d_M_fields_63 (lv_at hl 0 rfl) ?_
        refine lv_sipush (v := (-160)) hx hb d_M_fields_65 (by decide) ?_
        refine lv_iand hx hb d_M_fields_68 ?_
        obtain ⟨⟨z15, u16⟩, hj73, hk⟩ := cT_u hk
        have Khj73 : ∀ (H : Heap) (locs : List Loc) (ls : Array Slot), Dy clA D (mW a cs) s H locs u16 → lv_has ls 7 [(0, .ref (a 0)), (2, .int x2), (3, .int (u9.1 2)), (4, .int r14)] → W p l e rm_M_fields s m args below meth c H locs 0 0 Q (F0 m 103 ls [.int z15]) := by
          intro H locs ls I hl
          refine lv_istore (lv' := [(5, .int z15), (0, .ref (a 0)), (2, .int x2), (3, .int (u9.1 2)), (4, .int r14)]) hx hb d_M_fields_103 hl (by decide) rfl (fun ls hl => ?_)
          refine lv_aload_n hx hb d_M_fields_105 rfl (lv_at hl 1 rfl) ?_
          refine lv_iload hx hb d_M_fields_106 (lv_at hl 0 rfl) ?_
          refine lv_bipush (v := 13) hx hb d_M_fields_108 (by decide) ?_
          refine lv_iload_n hx hb d_M_fields_110 rfl (lv_at hl 3 rfl) ?_
          obtain ⟨r19, u17, h18, hk⟩ := cI_u hk
          refine go_I I (call_runV (rest := []) C I (c_M_must C.2.2.2.1 C.2.2.2.2.1 l h18 _) wd_M_must (q0 := 0) (ci := 7) rfl rfl k_843 ⟨rfl, rfl⟩ ⟨by decide, by decide⟩ rfl hl.1 rfl (Nat.le_of_ble_eq_true rfl) d_M_fields_111) (fun H locs I => ?_)
          refine lv_if_ne (tgt := 118) hx hb d_M_fields_114 (by decide) (fun hc => ?_) (fun hc => ?_)
          · replace hk := ie_u hc hk
            refine lv_aload_n hx hb d_M_fields_118 rfl (lv_at hl 1 rfl) ?_
            refine g_M_at C I k_697 d_M_fields_119 ?_
            refine lv_istore_n (lv' := [(1, .int (u17.1 2)), (5, .int z15), (0, .ref (a 0)), (2, .int x2), (3, .int (u9.1 2)), (4, .int r14)]) hx hb d_M_fields_122 rfl hl (by decide) rfl (fun ls hl => ?_)
            refine lv_aload_n hx hb d_M_fields_123 rfl (lv_at hl 2 rfl) ?_
            refine g_M_names C I k_714 d_M_fields_124 ?_
            refine lv_iload_n hx hb d_M_fields_127 rfl (lv_at hl 3 rfl) ?_
            refine lv_aload_n hx hb d_M_fields_128 rfl (lv_at hl 2 rfl) ?_
            refine lv_iconst (v := 1) hx hb d_M_fields_129 (by decide) ?_
            obtain ⟨r22, u20, h21, hk⟩ := cI_u hk
            refine go_I I (call_runV (rest := [.int x2, .ref (a 5)]) C I (c_M_number C.2.2.2.1 C.2.2.2.2.1 l h21 _) wd_M_number (q0 := 0) (ci := 7) rfl rfl k_929 ⟨rfl, rfl⟩ ⟨by decide, by decide⟩ rfl hl.1 rfl (Nat.le_of_ble_eq_true rfl) d_M_fields_130) (fun H locs I => ?_)
            obtain ⟨hi, hk⟩ := gd_u hk
            refine s_M_names C I hi d_M_fields_133 (fun H locs I => ?_)
            obtain ⟨u23, hu, hk⟩ := bnd_u hk
            rw [hu] at I
            clear hu
            refine lv_aload_n hx hb d_M_fields_134 rfl (lv_at hl 2 rfl) ?_
            obtain ⟨r26, u24, h25, hk⟩ := cI_u hk
            refine go_I I (call_runV (rest := []) C I (c_M_ok C.2.2.2.1 C.2.2.2.2.1 l h25 _) wd_M_ok (q0 := 0) (ci := 7) rfl rfl k_834 ⟨rfl, rfl⟩ ⟨by decide, by decide⟩ rfl hl.1 rfl (Nat.le_of_ble_eq_true rfl) d_M_fields_135) (fun H locs I => ?_)
            refine lv_if_eq (tgt := 161) hx hb d_M_fields_138 (by decide) (fun hc => ?_) (fun hc => ?_)
            · replace hk := it_u hc hk
              exact hQ _ _ _ _ _ I hk d_M_fields_161
            · replace hk := ie_u hc hk
              refine lv_aload_n hx hb d_M_fields_141 rfl (lv_at hl 2 rfl) ?_
              refine lv_aload_n hx hb d_M_fields_142 rfl (lv_at hl 2 rfl) ?_
              refine lv_aload_n hx hb d_M_fields_143 rfl (lv_at hl 2 rfl) ?_
              refine g_M_names C I k_714 d_M_fields_144 ?_
              refine lv_iload_n hx hb d_M_fields_147 rfl (lv_at hl 3 rfl) ?_
              obtain ⟨hi, hk⟩ := gd_u hk
              refine l_M_names C I hi d_M_fields_148 ?_
              obtain ⟨r29, u27, h28, hk⟩ := cI_u hk
              refine go_I I (call_runV (rest := [.ref (a 0)]) C I (c_M_isPlainName C.2.2.2.1 C.2.2.2.2.1 l h28 _) wd_M_isPlainName (q0 := 0) (ci := 7) rfl rfl k_898 ⟨rfl, rfl⟩ ⟨by decide, by decide⟩ rfl hl.1 rfl (Nat.le_of_ble_eq_true rfl) d_M_fields_149) (fun H locs I => ?_)
              refine lv_bipush (v := 9) hx hb d_M_fields_152 (by decide) ?_
              refine lv_iload_n hx hb d_M_fields_154 rfl (lv_at hl 0 rfl) ?_
              obtain ⟨r32, u30, h31, hk⟩ := cI_u hk
              refine go_I I (call_runV (rest := []) C I (c_M_must C.2.2.2.1 C.2.2.2.2.1 l h31 _) wd_M_must (q0 := 0) (ci := 7) rfl rfl k_843 ⟨rfl, rfl⟩ ⟨by decide, by decide⟩ rfl hl.1 rfl (Nat.le_of_ble_eq_true rfl) d_M_fields_155) (fun H locs I => ?_)
              refine lv_if_ne (tgt := 162) hx hb d_M_fields_158 (by decide) (fun hc => ?_) (fun hc => ?_)
              · replace hk := ie_u hc hk
                refine lv_aload_n hx hb d_M_fields_162 rfl (lv_at hl 2 rfl) ?_
                refine g_M_at C I k_697 d_M_fields_163 ?_
                refine lv_istore_n (lv' := [(1, .int (u30.1 2)), (5, .int z15), (0, .ref (a 0)), (2, .int x2), (3, .int (u9.1 2)), (4, .int r14)]) hx hb d_M_fields_166 rfl hl (by decide) rfl (fun ls hl => ?_)
                refine lv_aload_n hx hb d_M_fields_167 rfl (lv_at hl 2 rfl) ?_
                refine g_M_types C I k_715 d_M_fields_168 ?_
                refine lv_iload_n hx hb d_M_fields_171 rfl (lv_at hl 3 rfl) ?_
                refine lv_aload_n hx hb d_M_fields_172 rfl (lv_at hl 2 rfl) ?_
                refine lv_iconst (v := 1) hx hb d_M_fields_173 (by decide) ?_
                obtain ⟨r35, u33, h34, hk⟩ := cI_u hk
                refine go_I I (call_runV (rest := [.int x2, .ref (a 6)]) C I (c_M_number C.2.2.2.1 C.2.2.2.2.1 l h34 _) wd_M_number (q0 := 0) (ci := 7) rfl rfl k_929 ⟨rfl, rfl⟩ ⟨by decide, by decide⟩ rfl hl.1 rfl (Nat.le_of_ble_eq_true rfl) d_M_fields_174) (fun H locs I => ?_)
                obtain ⟨hi, hk⟩ := gd_u hk
                refine s_M_types C I hi d_M_fields_177 (fun H locs I => ?_)
                obtain ⟨u36, hu, hk⟩ := bnd_u hk
                rw [hu] at I
                clear hu
                refine lv_aload_n hx hb d_M_fields_178 rfl (lv_at hl 2 rfl) ?_
                obtain ⟨r39, u37, h38, hk⟩ := cI_u hk
                refine go_I I (call_runV (rest := []) C I (c_M_ok C.2.2.2.1 C.2.2.2.2.1 l h38 _) wd_M_ok (q0 := 0) (ci := 7) rfl rfl k_834 ⟨rfl, rfl⟩ ⟨by decide, by decide⟩ rfl hl.1 rfl (Nat.le_of_ble_eq_true rfl) d_M_fields_179) (fun H locs I => ?_)
                refine lv_if_eq (tgt := 227) hx hb d_M_fields_182 (by decide) (fun hc => ?_) (fun hc => ?_)
                · replace hk := it_u hc hk
                  exact hQ _ _ _ _ _ I hk d_M_fields_227
                · replace hk := ie_u hc hk
                  refine lv_aload_n hx hb d_M_fields_185 rfl (lv_at hl 2 rfl) ?_
                  refine lv_aload_n hx hb d_M_fields_186 rfl (lv_at hl 2 rfl) ?_
                  refine lv_aload_n hx hb d_M_fields_187 rfl (lv_at hl 2 rfl) ?_
                  refine g_M_types C I k_715 d_M_fields_188 ?_
                  refine lv_iload_n hx hb d_M_fields_191 rfl (lv_at hl 3 rfl) ?_
                  obtain ⟨hi, hk⟩ := gd_u hk
                  refine l_M_types C I hi d_M_fields_192 ?_
                  obtain ⟨r42, u40, h41, hk⟩ := cI_u hk
                  refine go_I I (call_runV (rest := [.ref (a 0)]) C I (c_M_isField C.2.2.2.1 C.2.2.2.2.1 l h41 _) wd_M_isField (q0 := 0) (ci := 7) rfl rfl k_879 ⟨rfl, rfl⟩ ⟨by decide, by decide⟩ rfl hl.1 rfl (Nat.le_of_ble_eq_true rfl) d_M_fields_193) (fun H locs I => ?_)
                  refine lv_bipush (v := 11) hx hb d_M_fields_196 (by decide) ?_
                  refine lv_iload_n hx hb d_M_fields_198 rfl (lv_at hl 0 rfl) ?_
                  obtain ⟨r45, u43, h44, hk⟩ := cI_u hk
                  refine go_I I (call_runV (rest := []) C I (c_M_must C.2.2.2.1 C.2.2.2.2.1 l h44 _) wd_M_must (q0 := 0) (ci := 7) rfl rfl k_843 ⟨rfl, rfl⟩ ⟨by decide, by decide⟩ rfl hl.1 rfl (Nat.le_of_ble_eq_true rfl) d_M_fields_199) (fun H locs I => ?_)
                  refine lv_if_eq (tgt := 227) hx hb d_M_fields_202 (by decide) (fun hc => ?_) (fun hc => ?_)
                  · replace hk := it_u hc hk
                    exact hQ _ _ _ _ _ I hk d_M_fields_227
                  · replace hk := ie_u hc hk
                    refine lv_aload_n hx hb d_M_fields_205 rfl (lv_at hl 2 rfl) ?_
                    refine lv_aload_n hx hb d_M_fields_206 rfl (lv_at hl 2 rfl) ?_
                    refine g_M_real C I k_723 d_M_fields_207 ?_
                    obtain ⟨z46, hj72, hk⟩ := bnd_u hk
                    have Khj72 : ∀ (H : Heap) (locs : List Loc) (ls : Array Slot), Dy clA D (mW a cs) s H locs u43 → lv_has ls 7 [(0, .ref (a 0)), (1, .int (u30.1 2)), (2, .int x2), (3, .int (u9.1 2)), (4, .int r14)] → W p l e rm_M_fields s m args below meth c H locs 0 0 Q (F0 m 218 ls [.int z46, .ref (a 0)]) := by
                      intro H locs ls I hl
                      refine lv_bipush (v := 12) hx hb d_M_fields_218 (by decide) ?_
                      refine lv_iload_n hx hb d_M_fields_220 rfl (lv_at hl 1 rfl) ?_
                      obtain ⟨r49, u47, h48, hk⟩ := cI_u hk
                      refine go_I I (call_runV (rest := []) C I (c_M_must C.2.2.2.1 C.2.2.2.2.1 l h48 _) wd_M_must (q0 := 0) (ci := 7) rfl rfl k_843 ⟨rfl, rfl⟩ ⟨by decide, by decide⟩ rfl hl.1 rfl (Nat.le_of_ble_eq_true rfl) d_M_fields_221) (fun H locs I => ?_)
                      refine lv_if_ne (tgt := 228) hx hb d_M_fields_224 (by decide) (fun hc => ?_) (fun hc => ?_)
                      · replace hk := ie_u hc hk
                        refine lv_iconst (v := 0) hx hb d_M_fields_228 (by decide) ?_
                        refine lv_istore (lv' := [(6, .int 0), (0, .ref (a 0)), (1, .int (u30.1 2)), (2, .int x2), (3, .int (u9.1 2)), (4, .int r14)]) hx hb d_M_fields_229 hl (by decide) rfl (fun ls hl => ?_)
                        obtain ⟨u63, hj71, hk⟩ := cT_u hk
                        refine w_M_fields_L231 C (fun H locs ls I hl => ?_) FU u47 0 _ _ _ hj71 I (lv_sub hl [1, 3, 4, 5, 0] rfl)
                        refine lv_aload_n hx hb d_M_fields_296 rfl (lv_at hl 0 rfl) ?_
                        obtain ⟨r66, u64, h65, hk⟩ := cI_u hk
                        refine go_I I (call_runV (rest := []) C I (c_M_ok C.2.2.2.1 C.2.2.2.2.1 l h65 _) wd_M_ok (q0 := 0) (ci := 7) rfl rfl k_834 ⟨rfl, rfl⟩ ⟨by decide, by decide⟩ rfl hl.1 rfl (Nat.le_of_ble_eq_true rfl) d_M_fields_297) (fun H locs I => ?_)
                        obtain ⟨u67, hj68, hk⟩ := cT_u hk
                        have Khj68 : ∀ (H : Heap) (locs : List Loc) (ls : Array Slot), Dy clA D (mW a cs) s H locs u67 → lv_has ls 7 [(0, .ref (a 0)), (2, .int x2)] → W p l e rm_M_fields s m args below meth c H locs 0 0 Q (F0 m 317 ls []) := by
                          intro H locs ls I hl
                          refine lv_iinc (v := (x2 + 1)) (lv' := [(2, .int (x2 + 1)), (0, .ref (a 0))]) hx hb d_M_fields_317 hl (k := 1) rfl rfl (by decide) rfl (fun ls hl => ?_)
                          refine lv_goto (tgt := 37) hx hb d_M_fields_320 (by decide) ?_
                          exact ih u67 (x2 + 1) _ _ _ hk I (lv_sub hl [1, 0] rfl)
                        refine lv_if_eq (tgt := 317) hx hb d_M_fields_300 (by decide) (fun hc => ?_) (fun hc => ?_)
                        · replace hj68 := it_u hc hj68
                          cases hj68
                          exact Khj68 _ _ _ I (lv_sub hl [0, 1] rfl)
                        · replace hj68 := ie_u hc hj68
                          refine lv_aload_n hx hb d_M_fields_303 rfl (lv_at hl 0 rfl) ?_
                          refine lv_iconst (v := 1) hx hb d_M_fields_304 (by decide) ?_
                          refine lv_iload hx hb d_M_fields_305 (lv_at hl 2 rfl) ?_
                          refine lv_aload_n hx hb d_M_fields_307 rfl (lv_at hl 0 rfl) ?_
                          refine g_M_types C I k_715 d_M_fields_308 ?_
                          refine lv_iload_n hx hb d_M_fields_311 rfl (lv_at hl 1 rfl) ?_
                          obtain ⟨hi, hj68⟩ := gd_u hj68
                          refine l_M_types C I hi d_M_fields_312 ?_
                          refine lv_iconst (v := 0) hx hb d_M_fields_313 (by decide) ?_
                          obtain ⟨u69, h70, hj68⟩ := cV_u hj68
                          refine go_V I (call_runV (rest := []) C I (c_M_attributes C.2.2.2.1 C.2.2.2.2.1 l h70 _) wd_M_attributes (q0 := 0) (ci := 7) rfl rfl k_954 ⟨rfl, rfl⟩ ⟨by decide, by decide⟩ rfl hl.1 rfl (Nat.le_of_ble_eq_true rfl) d_M_fields_314) (fun H locs I => ?_)
                          cases hj68
                          exact Khj68 _ _ _ I (lv_sub hl [0, 1] rfl)
                      · replace hk := it_u hc hk
                        exact hQ _ _ _ _ _ I hk d_M_fields_227
                    refine lv_if_ne (tgt := 217) hx hb d_M_fields_210 (by decide) (fun hc => ?_) (fun hc => ?_)
                    · replace hj72 := ie_u hc hj72
                      refine lv_iconst (v := 0) hx hb d_M_fields_217 (by decide) ?_
                      cases hj72
                      exact Khj72 _ _ _ I (lv_sub hl [2, 0, 3, 4, 5] rfl)
                    · replace hj72 := it_u hc hj72
                      refine lv_iconst (v := 1) hx hb d_M_fields_213 (by decide) ?_
                      refine lv_goto (tgt := 218) hx hb d_M_fields_214 (by decide) ?_
                      cases hj72
                      exact Khj72 _ _ _ I (lv_sub hl [2, 0, 3, 4, 5] rfl)
              · replace hk := it_u hc hk
                exact hQ _ _ _ _ _ I hk d_M_fields_161
          · replace hk := it_u hc hk
            exact hQ _ _ _ _ _ I hk d_M_fields_117
        refine lv_if_ne (tgt := 102) hx hb d_M_fields_69 (by decide) (fun hc => ?_) (fun hc => ?_)
        · replace hj73 := ie_u hc hj73
          refine lv_iconst (v := 0) hx hb d_M_fields_102 (by decide) ?_
          cases hj73
          exact Khj73 _ _ _ I (lv_sub hl [2, 3, 1, 0] rfl)
        · replace hj73 := it_u hc hj73
          refine lv_iload hx hb d_M_fields_72 (lv_at hl 0 rfl) ?_
          obtain ⟨r76, u74, h75, hj73⟩ := cI_u hj73
          refine go_I I (call_runS (rest := []) C I (c_M_oneOf C.2.2.2.1 C.2.2.2.2.1 l h75 _) wd_M_oneOf k_951 ⟨rfl, rfl⟩ ⟨by decide, by decide⟩ rfl hl.1 rfl (Nat.le_of_ble_eq_true rfl) d_M_fields_74) (fun H locs I => ?_)
          refine lv_if_eq (tgt := 102) hx hb d_M_fields_77 (by decide) (fun hc => ?_) (fun hc => ?_)
          · replace hj73 := it_u hc hj73
            refine lv_iconst (v := 0) hx hb d_M_fields_102 (by decide) ?_
            cases hj73
            exact Khj73 _ _ _ I (lv_sub hl [2, 3, 1, 0] rfl)
          · replace hj73 := ie_u hc hj73
            refine lv_aload_n hx hb d_M_fields_80 rfl (lv_at hl 2 rfl) ?_
            refine g_M_flags C I k_704 d_M_fields_81 ?_
            refine lv_sipush (v := 512) hx hb d_M_fields_84 (by decide) ?_
            refine lv_iand hx hb d_M_fields_87 ?_
            refine lv_if_eq (tgt := 98) hx hb d_M_fields_88 (by decide) (fun hc => ?_) (fun hc => ?_)
            · replace hj73 := it_u hc hj73
              refine lv_iconst (v := 1) hx hb d_M_fields_98 (by decide) ?_
              refine lv_goto (tgt := 103) hx hb d_M_fields_99 (by decide) ?_
              cases hj73
              exact Khj73 _ _ _ I (lv_sub hl [2, 3, 1, 0] rfl)
            · replace hj73 := ie_u hc hj73
              refine lv_iload hx hb d_M_fields_91 (lv_at hl 0 rfl) ?_
              refine lv_bipush (v := 25) hx hb d_M_fields_93 (by decide) ?_
              refine lv_icmp_ne (tgt := 102) hx hb d_M_fields_95 (by decide) (fun hc => ?_) (fun hc => ?_)
              · replace hj73 := ie_u hc hj73
                refine lv_iconst (v := 0) hx hb d_M_fields_102 (by decide) ?_
                cases hj73
                exact Khj73 _ _ _ I (lv_sub hl [2, 3, 1, 0] rfl)
              · replace hj73 := it_u hc hj73
                refine lv_iconst (v := 1) hx hb d_M_fields_98 (by decide) ?_
                refine lv_goto (tgt := 103) hx hb d_M_fields_99 (by decide) ?_
                cases hj73
                exact Khj73 _ _ _ I (lv_sub hl [2, 3, 1, 0] rfl)
set_option maxHeartbeats 4000000 in
set_option maxRecDepth 100000 in
theorem c_M_fields {Z : zT} {D : va_G} {cs : Nat → ClassId} {a : Nat → Nat} (hw : wD (mW a cs)) (hz : zOK Z) (l : Launch) {u : St} {u' : St} (hk : f_M_fields u = some u') : KV clA D cs (mW a cs) Z l y_M_fields (.code y_M_fields prog_9_method_39_code 7 (Option.none : Option Jvm.ClassFile.FieldType)) rm_M_fields [.ref (a 0)] u u' := by
  unfold f_M_fields at hk
  refine KV.of (by decide) (Nat.le_of_ble_eq_true rfl) hw hz ?_
  intro p e s m args below meth c Q C I hQ ls hl
  have hl : lv_has ls 7 [(0, .ref (a 0))] := hl
  have hx := C.1.1
  have hb := C.1.2.1
  refine lv_aload_n hx hb d_M_fields_0 rfl (lv_at hl 0 rfl) ?_
  refine g_M_at C I k_697 d_M_fields_1 ?_
  refine lv_istore_n (lv' := [(1, .int (u.1 2)), (0, .ref (a 0))]) hx hb d_M_fields_4 rfl hl (by decide) rfl (fun ls hl => ?_)
  refine lv_aload_n hx hb d_M_fields_5 rfl (lv_at hl 1 rfl) ?_
  refine lv_aload_n hx hb d_M_fields_6 rfl (lv_at hl 1 rfl) ?_
  obtain ⟨r3, u1, h2, hk⟩ := cI_u hk
  refine go_I I (call_runV (rest := [.ref (a 0)]) C I (c_M_u2 C.2.2.2.1 C.2.2.2.2.1 l h2 _) wd_M_u2 (q0 := 0) (ci := 7) rfl rfl k_826 ⟨rfl, rfl⟩ ⟨by decide, by decide⟩ rfl hl.1 rfl (Nat.le_of_ble_eq_true rfl) d_M_fields_7) (fun H locs I => ?_)
  refine p_M_fields C I k_707 d_M_fields_10 (fun H locs I => ?_)
  obtain ⟨u4, hu, hk⟩ := bnd_u hk
  rw [hu] at I
  clear hu
  refine lv_aload_n hx hb d_M_fields_13 rfl (lv_at hl 1 rfl) ?_
  refine lv_aload_n hx hb d_M_fields_14 rfl (lv_at hl 1 rfl) ?_
  refine g_M_fields C I k_707 d_M_fields_15 ?_
  refine lv_bipush (v := 60) hx hb d_M_fields_18 (by decide) ?_
  obtain ⟨z5, hj79, hk⟩ := bnd_u hk
  have Khj79 : ∀ (H : Heap) (locs : List Loc) (ls : Array Slot), Dy clA D (mW a cs) s H locs u4 → lv_has ls 7 [(0, .ref (a 0)), (1, .int (u.1 2))] → W p l e rm_M_fields s m args below meth c H locs 0 0 Q (F0 m 28 ls [.int z5, .ref (a 0)]) := by
    intro H locs ls I hl
    refine lv_bipush (v := 15) hx hb d_M_fields_28 (by decide) ?_
    refine lv_iload_n hx hb d_M_fields_30 rfl (lv_at hl 1 rfl) ?_
    obtain ⟨r8, u6, h7, hk⟩ := cI_u hk
    refine go_I I (call_runV (rest := []) C I (c_M_must C.2.2.2.1 C.2.2.2.2.1 l h7 _) wd_M_must (q0 := 0) (ci := 7) rfl rfl k_843 ⟨rfl, rfl⟩ ⟨by decide, by decide⟩ rfl hl.1 rfl (Nat.le_of_ble_eq_true rfl) d_M_fields_31) (fun H locs I => ?_)
    refine lv_pop hx hb d_M_fields_34 rfl ?_
    refine lv_iconst (v := 0) hx hb d_M_fields_35 (by decide) ?_
    refine lv_istore_n (lv' := [(2, .int 0), (0, .ref (a 0)), (1, .int (u.1 2))]) hx hb d_M_fields_36 rfl hl (by decide) rfl (fun ls hl => ?_)
    refine w_M_fields_L37 C (fun u78 H locs ls hk I hl => ?_) hQ FU u6 0 _ _ _ hk I (lv_sub hl [1, 0] rfl)
    exact hQ _ _ _ _ _ I hk d_M_fields_323
  refine lv_icmp_gt (tgt := 27) hx hb d_M_fields_20 (by decide) (fun hc => ?_) (fun hc => ?_)
  · replace hj79 := it_u hc hj79
    refine lv_iconst (v := 0) hx hb d_M_fields_27 (by decide) ?_
    cases hj79
    exact Khj79 _ _ _ I (lv_sub hl [1, 0] rfl)
  · replace hj79 := ie_u hc hj79
    refine lv_iconst (v := 1) hx hb d_M_fields_23 (by decide) ?_
    refine lv_goto (tgt := 28) hx hb d_M_fields_24 (by decide) ?_
    cases hj79
    exact Khj79 _ _ _ I (lv_sub hl [1, 0] rfl)
def rm_M_head : Room := { frames := 4, cells := 0, slots := 0, locals := 97 }
noncomputable def f_M_head_L378 (x1 : Int32) (x4 : Int32) : Nat → St → Int32 → Option (St)
  | 0, _, _ => none
  | n + 1, u, x5 => if x4 ≤ x5 then (some (u)) else (gd x5 20 (cI (f_M_textOf u (u.2 6 x5.toNatClampNeg)) fun r82 u80 => gd x4 20 (cI (f_M_textOf u80 (u80.2 6 x4.toNatClampNeg)) fun r85 u83 => cI (f_M_same u83 r82 r85) fun r88 u86 => bnd (if r88 = 0 then (1) else (0)) fun (z89 : Int32) => cI (f_M_must u86 z89 16 x1) fun r92 u90 => f_M_head_L378 x1 x4 n u90 (x5 + 1))))
noncomputable def f_M_head_L304 (kx : St → Option (St)) : Nat → St → Int32 → Option (St)
  | 0, _, _ => none
  | n + 1, u, x4 => if (u.1 9) ≤ x4 then (kx u) else (cI (f_M_ok u) fun r65 u63 => if r65 = 0 then (kx u63) else (cI (f_M_number u63 7) fun r68 u66 => gd x4 20 (bnd (sa u66 6 x4.toNatClampNeg r68) fun u69 => cI (f_M_ok u69) fun r72 u70 => if r72 = 0 then (some u70) else (gd x4 20 (cI (f_M_isArray u70 (u70.2 6 x4.toNatClampNeg)) fun r75 u73 => bnd (if r75 = 0 then (1) else (0)) fun (z76 : Int32) => cI (f_M_must u73 z76 9 (u63.1 2)) fun r79 u77 => if r79 = 0 then (some u77) else (cT (f_M_head_L378 (u63.1 2) x4 FU u77 0) fun (u94 : St) => f_M_head_L304 kx n u94 (x4 + 1)))))))
noncomputable def f_M_head (u : St) : Option (St) := cI (f_M_u2 u) fun r3 u1 => bnd (sv u1 7 r3) fun u4 => bnd (if ((u4.1 7) &&& (-1586)) = 0 then (if ((u4.1 7) &&& 1040) = 1040 then (0) else (1)) else (0)) fun (z5 : Int32) => cT (if ((u4.1 7) &&& 512) = 0 then (some (z5)) else (bnd (if ((u4.1 7) &&& 1024) = 0 then (0) else (if ((u4.1 7) &&& 48) = 0 then (1) else (0))) fun (z111 : Int32) => some ((z5 &&& z111)))) fun (z6 : Int32) => cI (f_M_must u4 z6 13 (u.1 2)) fun r9 u7 => if r9 = 0 then (some u7) else (cI (f_M_number u7 7) fun r12 u10 => bnd (sv u10 8 r12) fun u13 => cI (f_M_ok u13) fun r16 u14 => if r16 = 0 then (some u14) else (cI (f_M_isArray u14 (u14.1 8)) fun r19 u17 => bnd (if r19 = 0 then (1) else (0)) fun (z20 : Int32) => cI (f_M_must u17 z20 9 (u7.1 2)) fun r23 u21 => if r23 = 0 then (some u21) else (cI (f_M_number u21 7) fun r26 u24 => cI (f_M_ok u24) fun r29 u27 => if r29 = 0 then (some u27) else (cI (f_M_isArray u27 r26) fun r32 u30 => bnd (if r32 = 0 then (1) else (0)) fun (z33 : Int32) => cI (f_M_must u30 z33 9 (u21.1 2)) fun r36 u34 => if r36 = 0 then (some u34) else (cI (f_M_textOf u34 (u34.1 8)) fun r39 u37 => cI (f_M_textOf u37 r26) fun r42 u40 => cI (f_M_same u40 r39 r42) fun r45 u43 => bnd (if r45 = 0 then (1) else (0)) fun (z46 : Int32) => cI (f_M_must u43 z46 14 (u21.1 2)) fun r49 u47 => cT (if ((u47.1 7) &&& 512) = 0 then (some (1, u47)) else (cI (f_M_textOf u47 r26) fun r102 u100 => cI (f_M_is u100 r102 16 7665538200540832110 7435248793922397044 0) fun r105 u103 => if r105 = 0 then (some (0, u103)) else (some (1, u103)))) fun (p106 : Int32 × St) => cI (f_M_must p106.2 p106.1 14 (u21.1 2)) fun r54 u52 => cI (f_M_u2 u52) fun r57 u55 => bnd (sv u55 9 r57) fun u58 => bnd (if 20 < (u58.1 9) then (0) else (1)) fun (z59 : Int32) => cI (f_M_must u58 z59 15 (u52.1 2)) fun r62 u60 => f_M_head_L304 (fun u97 => some u97) FU u60 0)))))
set_option maxHeartbeats 4000000 in
set_option maxRecDepth 100000 in
theorem w_M_head_L378 {Z : zT} {D : va_G} {cs : Nat → ClassId} {a : Nat → Nat} {p : Program} {l : Launch} {e : Env} {s : State} {m : MethodId} {args : Array Value} {below : List Frame} {meth : Method} {c : Code} {Q : State → Prop}  {u2 : St} {x1 : Int32} {x4 : Int32} (C : Cx clA R_M prog_9_method_37_code 6 D cs (mW a cs) Z p s m args c) (hE : ∀ (H : Heap) (locs : List Loc) (ls : Array Slot), Dy clA D (mW a cs) s H locs u2 → lv_has ls 6 [(0, .ref (a 0)), (4, .int x4)] → W p l e rm_M_head s m args below meth c H locs 0 0 Q (F0 m 433 ls [])) : ∀ (n : Nat) (u : St) (x5 : Int32) (H : Heap) (locs : List Loc) (ls : Array Slot), f_M_head_L378 x1 x4 n u x5 = some u2 → Dy clA D (mW a cs) s H locs u → lv_has ls 6 [(0, .ref (a 0)), (1, .int x1), (4, .int x4), (5, .int x5)] → W p l e rm_M_head s m args below meth c H locs 0 0 Q (F0 m 378 ls []) := by
  have hx := C.1.1
  have hb := C.1.2.1
  intro n
  induction n with
  | zero =>
    intro u x5 H locs ls hk I hl
    rw [f_M_head_L378] at hk
    cases hk
  | succ n ih =>
    intro u x5 H locs ls hk I hl
    rw [f_M_head_L378] at hk
    refine lv_iload hx hb d_M_head_378 (lv_at hl 3 rfl) ?_
    refine lv_iload hx hb d_M_head_380 (lv_at hl 2 rfl) ?_
    refine lv_icmp_ge (tgt := 433) hx hb d_M_head_382 (by decide) (fun hc => ?_) (fun hc => ?_)
    · replace hk := it_u hc hk
      cases hk
      exact hE _ _ _ I (lv_sub hl [0, 2] rfl)
    · replace hk := ie_u hc hk
      refine lv_aload_n hx hb d_M_head_385 rfl (lv_at hl 0 rfl) ?_
      refine lv_aload_n hx hb d_M_head_386 rfl (lv_at hl 0 rfl) ?_
      refine lv_aload_n hx hb d_M_head_387 rfl (lv_at hl 0 rfl) ?_
      refine lv_aload_n hx hb d_M_head_388 rfl (lv_at hl 0 rfl) ?_
      refine g_M_tops C I k_716 d_M_head_389 ?_
      refine lv_iload hx hb d_M_head_392 (lv_at hl 3 rfl) ?_
      obtain ⟨hi, hk⟩ := gd_u hk
      refine l_M_tops C I hi d_M_head_394 ?_
      obtain ⟨r82, u80, h81, hk⟩ := cI_u hk
      refine go_I I (call_runV (rest := [.ref (a 0), .ref (a 0)]) C I (c_M_textOf C.2.2.2.1 C.2.2.2.2.1 l h81 _) wd_M_textOf (q0 := 0) (ci := 7) rfl rfl k_937 ⟨rfl, rfl⟩ ⟨by decide, by decide⟩ rfl hl.1 rfl (Nat.le_of_ble_eq_true rfl) d_M_head_395) (fun H locs I => ?_)
      refine lv_aload_n hx hb d_M_head_398 rfl (lv_at hl 0 rfl) ?_
      refine lv_aload_n hx hb d_M_head_399 rfl (lv_at hl 0 rfl) ?_
      refine g_M_tops C I k_716 d_M_head_400 ?_
      refine lv_iload hx hb d_M_head_403 (lv_at hl 2 rfl) ?_
      obtain ⟨hi, hk⟩ := gd_u hk
      refine l_M_tops C I hi d_M_head_405 ?_
      obtain ⟨r85, u83, h84, hk⟩ := cI_u hk
      refine go_I I (call_runV (rest := [.int r82, .ref (a 0), .ref (a 0)]) C I (c_M_textOf C.2.2.2.1 C.2.2.2.2.1 l h84 _) wd_M_textOf (q0 := 0) (ci := 7) rfl rfl k_937 ⟨rfl, rfl⟩ ⟨by decide, by decide⟩ rfl hl.1 rfl (Nat.le_of_ble_eq_true rfl) d_M_head_406) (fun H locs I => ?_)
      obtain ⟨r88, u86, h87, hk⟩ := cI_u hk
      refine go_I I (call_runV (rest := [.ref (a 0)]) C I (c_M_same C.2.2.2.1 C.2.2.2.2.1 l h87 _) wd_M_same (q0 := 0) (ci := 7) rfl rfl k_941 ⟨rfl, rfl⟩ ⟨by decide, by decide⟩ rfl hl.1 rfl (Nat.le_of_ble_eq_true rfl) d_M_head_409) (fun H locs I => ?_)
      obtain ⟨z89, hj93, hk⟩ := bnd_u hk
      have Khj93 : ∀ (H : Heap) (locs : List Loc) (ls : Array Slot), Dy clA D (mW a cs) s H locs u86 → lv_has ls 6 [(0, .ref (a 0)), (1, .int x1), (4, .int x4), (5, .int x5)] → W p l e rm_M_head s m args below meth c H locs 0 0 Q (F0 m 420 ls [.int z89, .ref (a 0)]) := by
        intro H locs ls I hl
        refine lv_bipush (v := 16) hx hb d_M_head_420 (by decide) ?_
        refine lv_iload_n hx hb d_M_head_422 rfl (lv_at hl 1 rfl) ?_
        obtain ⟨r92, u90, h91, hk⟩ := cI_u hk
        refine go_I I (call_runV (rest := []) C I (c_M_must C.2.2.2.1 C.2.2.2.2.1 l h91 _) wd_M_must (q0 := 0) (ci := 7) rfl rfl k_843 ⟨rfl, rfl⟩ ⟨by decide, by decide⟩ rfl hl.1 rfl (Nat.le_of_ble_eq_true rfl) d_M_head_423) (fun H locs I => ?_)
        refine lv_pop hx hb d_M_head_426 rfl ?_
        refine lv_iinc (v := (x5 + 1)) (lv' := [(5, .int (x5 + 1)), (0, .ref (a 0)), (1, .int x1), (4, .int x4)]) hx hb d_M_head_427 hl (k := 3) rfl rfl (by decide) rfl (fun ls hl => ?_)
        refine lv_goto (tgt := 378) hx hb d_M_head_430 (by decide) ?_
        exact ih u90 (x5 + 1) _ _ _ hk I (lv_sub hl [1, 2, 3, 0] rfl)
      refine lv_if_ne (tgt := 419) hx hb d_M_head_412 (by decide) (fun hc => ?_) (fun hc => ?_)
      · replace hj93 := ie_u hc hj93
        refine lv_iconst (v := 0) hx hb d_M_head_419 (by decide) ?_
        cases hj93
        exact Khj93 _ _ _ I (lv_sub hl [0, 1, 2, 3] rfl)
      · replace hj93 := it_u hc hj93
        refine lv_iconst (v := 1) hx hb d_M_head_415 (by decide) ?_
        refine lv_goto (tgt := 420) hx hb d_M_head_416 (by decide) ?_
        cases hj93
        exact Khj93 _ _ _ I (lv_sub hl [0, 1, 2, 3] rfl)
set_option maxHeartbeats 4000000 in
set_option maxRecDepth 100000 in
theorem w_M_head_L304 {Z : zT} {D : va_G} {cs : Nat → ClassId} {a : Nat → Nat} {p : Program} {l : Launch} {e : Env} {s : State} {m : MethodId} {args : Array Value} {below : List Frame} {meth : Method} {c : Code} {Q : State → Prop} {F : St} {kx : St → Option (St)} (C : Cx clA R_M prog_9_method_37_code 6 D cs (mW a cs) Z p s m args c) (hE : ∀ (u2 : St) (H : Heap) (locs : List Loc) (ls : Array Slot), kx u2 = some F → Dy clA D (mW a cs) s H locs u2 → lv_has ls 6 [] → W p l e rm_M_head s m args below meth c H locs 0 0 Q (F0 m 439 ls [])) (hQ : ∀ (H : Heap) (locs : List Loc) (pc : Nat) (ls : Array Slot) (u1 : St), Dy clA D (mW a cs) s H locs u1 → some u1 = some F → decode prog_9_method_37_code pc = .ok (.return_, 1) → W p l e rm_M_head s m args below meth c H locs 0 0 Q (F0 m pc ls [])): ∀ (n : Nat) (u : St) (x4 : Int32) (H : Heap) (locs : List Loc) (ls : Array Slot), f_M_head_L304 kx n u x4 = some F → Dy clA D (mW a cs) s H locs u → lv_has ls 6 [(0, .ref (a 0)), (4, .int x4)] → W p l e rm_M_head s m args below meth c H locs 0 0 Q (F0 m 304 ls []) := by
  have hx := C.1.1
  have hb := C.1.2.1
  intro n
  induction n with
  | zero =>
    intro u x4 H locs ls hk I hl
    rw [f_M_head_L304] at hk
    cases hk
  | succ n ih =>
    intro u x4 H locs ls hk I hl
    rw [f_M_head_L304] at hk
    refine lv_iload hx hb d_M_head_304 (lv_at hl 1 rfl) ?_
    refine lv_aload_n hx hb d_M_head_306 rfl (lv_at hl 0 rfl) ?_
    refine g_M_interfaces C I k_706 d_M_head_307 ?_
    refine lv_icmp_ge (tgt := 439) hx hb d_M_head_310 (by decide) (fun hc => ?_) (fun hc => ?_)
    · replace hk := it_u hc hk
      exact hE u _ _ _ hk I (lv_sub hl [] rfl)
    · replace hk := ie_u hc hk
      refine lv_aload_n hx hb d_M_head_313 rfl (lv_at hl 0 rfl) ?_
      obtain ⟨r65, u63, h64, hk⟩ := cI_u hk
      refine go_I I (call_runV (rest := []) C I (c_M_ok C.2.2.2.1 C.2.2.2.2.1 l h64 _) wd_M_ok (q0 := 0) (ci := 7) rfl rfl k_834 ⟨rfl, rfl⟩ ⟨by decide, by decide⟩ rfl hl.1 rfl (Nat.le_of_ble_eq_true rfl) d_M_head_314) (fun H locs I => ?_)
      refine lv_if_eq (tgt := 439) hx hb d_M_head_317 (by decide) (fun hc => ?_) (fun hc => ?_)
      · replace hk := it_u hc hk
        exact hE u63 _ _ _ hk I (lv_sub hl [] rfl)
      · replace hk := ie_u hc hk
        refine lv_aload_n hx hb d_M_head_320 rfl (lv_at hl 0 rfl) ?_
        refine g_M_at C I k_697 d_M_head_321 ?_
        refine lv_istore_n (lv' := [(1, .int (u63.1 2)), (0, .ref (a 0)), (4, .int x4)]) hx hb d_M_head_324 rfl hl (by decide) rfl (fun ls hl => ?_)
        refine lv_aload_n hx hb d_M_head_325 rfl (lv_at hl 1 rfl) ?_
        refine g_M_tops C I k_716 d_M_head_326 ?_
        refine lv_iload hx hb d_M_head_329 (lv_at hl 2 rfl) ?_
        refine lv_aload_n hx hb d_M_head_331 rfl (lv_at hl 1 rfl) ?_
        refine lv_bipush (v := 7) hx hb d_M_head_332 (by decide) ?_
        obtain ⟨r68, u66, h67, hk⟩ := cI_u hk
        refine go_I I (call_runV (rest := [.int x4, .ref (a 7)]) C I (c_M_number C.2.2.2.1 C.2.2.2.2.1 l h67 _) wd_M_number (q0 := 0) (ci := 7) rfl rfl k_929 ⟨rfl, rfl⟩ ⟨by decide, by decide⟩ rfl hl.1 rfl (Nat.le_of_ble_eq_true rfl) d_M_head_334) (fun H locs I => ?_)
        obtain ⟨hi, hk⟩ := gd_u hk
        refine s_M_tops C I hi d_M_head_337 (fun H locs I => ?_)
        obtain ⟨u69, hu, hk⟩ := bnd_u hk
        rw [hu] at I
        clear hu
        refine lv_aload_n hx hb d_M_head_338 rfl (lv_at hl 1 rfl) ?_
        obtain ⟨r72, u70, h71, hk⟩ := cI_u hk
        refine go_I I (call_runV (rest := []) C I (c_M_ok C.2.2.2.1 C.2.2.2.2.1 l h71 _) wd_M_ok (q0 := 0) (ci := 7) rfl rfl k_834 ⟨rfl, rfl⟩ ⟨by decide, by decide⟩ rfl hl.1 rfl (Nat.le_of_ble_eq_true rfl) d_M_head_339) (fun H locs I => ?_)
        refine lv_if_eq (tgt := 374) hx hb d_M_head_342 (by decide) (fun hc => ?_) (fun hc => ?_)
        · replace hk := it_u hc hk
          exact hQ _ _ _ _ _ I hk d_M_head_374
        · replace hk := ie_u hc hk
          refine lv_aload_n hx hb d_M_head_345 rfl (lv_at hl 1 rfl) ?_
          refine lv_aload_n hx hb d_M_head_346 rfl (lv_at hl 1 rfl) ?_
          refine lv_aload_n hx hb d_M_head_347 rfl (lv_at hl 1 rfl) ?_
          refine g_M_tops C I k_716 d_M_head_348 ?_
          refine lv_iload hx hb d_M_head_351 (lv_at hl 2 rfl) ?_
          obtain ⟨hi, hk⟩ := gd_u hk
          refine l_M_tops C I hi d_M_head_353 ?_
          obtain ⟨r75, u73, h74, hk⟩ := cI_u hk
          refine go_I I (call_runV (rest := [.ref (a 0)]) C I (c_M_isArray C.2.2.2.1 C.2.2.2.2.1 l h74 _) wd_M_isArray (q0 := 0) (ci := 7) rfl rfl k_933 ⟨rfl, rfl⟩ ⟨by decide, by decide⟩ rfl hl.1 rfl (Nat.le_of_ble_eq_true rfl) d_M_head_354) (fun H locs I => ?_)
          obtain ⟨z76, hj96, hk⟩ := bnd_u hk
          have Khj96 : ∀ (H : Heap) (locs : List Loc) (ls : Array Slot), Dy clA D (mW a cs) s H locs u73 → lv_has ls 6 [(0, .ref (a 0)), (1, .int (u63.1 2)), (4, .int x4)] → W p l e rm_M_head s m args below meth c H locs 0 0 Q (F0 m 365 ls [.int z76, .ref (a 0)]) := by
            intro H locs ls I hl
            refine lv_bipush (v := 9) hx hb d_M_head_365 (by decide) ?_
            refine lv_iload_n hx hb d_M_head_367 rfl (lv_at hl 1 rfl) ?_
            obtain ⟨r79, u77, h78, hk⟩ := cI_u hk
            refine go_I I (call_runV (rest := []) C I (c_M_must C.2.2.2.1 C.2.2.2.2.1 l h78 _) wd_M_must (q0 := 0) (ci := 7) rfl rfl k_843 ⟨rfl, rfl⟩ ⟨by decide, by decide⟩ rfl hl.1 rfl (Nat.le_of_ble_eq_true rfl) d_M_head_368) (fun H locs I => ?_)
            refine lv_if_ne (tgt := 375) hx hb d_M_head_371 (by decide) (fun hc => ?_) (fun hc => ?_)
            · replace hk := ie_u hc hk
              refine lv_iconst (v := 0) hx hb d_M_head_375 (by decide) ?_
              refine lv_istore (lv' := [(5, .int 0), (0, .ref (a 0)), (1, .int (u63.1 2)), (4, .int x4)]) hx hb d_M_head_376 hl (by decide) rfl (fun ls hl => ?_)
              obtain ⟨u94, hj95, hk⟩ := cT_u hk
              refine w_M_head_L378 C (fun H locs ls I hl => ?_) FU u77 0 _ _ _ hj95 I (lv_sub hl [1, 2, 3, 0] rfl)
              refine lv_iinc (v := (x4 + 1)) (lv' := [(4, .int (x4 + 1)), (0, .ref (a 0))]) hx hb d_M_head_433 hl (k := 1) rfl rfl (by decide) rfl (fun ls hl => ?_)
              refine lv_goto (tgt := 304) hx hb d_M_head_436 (by decide) ?_
              exact ih u94 (x4 + 1) _ _ _ hk I (lv_sub hl [1, 0] rfl)
            · replace hk := it_u hc hk
              exact hQ _ _ _ _ _ I hk d_M_head_374
          refine lv_if_ne (tgt := 364) hx hb d_M_head_357 (by decide) (fun hc => ?_) (fun hc => ?_)
          · replace hj96 := ie_u hc hj96
            refine lv_iconst (v := 0) hx hb d_M_head_364 (by decide) ?_
            cases hj96
            exact Khj96 _ _ _ I (lv_sub hl [1, 0, 2] rfl)
          · replace hj96 := it_u hc hj96
            refine lv_iconst (v := 1) hx hb d_M_head_360 (by decide) ?_
            refine lv_goto (tgt := 365) hx hb d_M_head_361 (by decide) ?_
            cases hj96
            exact Khj96 _ _ _ I (lv_sub hl [1, 0, 2] rfl)
set_option maxHeartbeats 4000000 in
set_option maxRecDepth 100000 in
theorem c_M_head {Z : zT} {D : va_G} {cs : Nat → ClassId} {a : Nat → Nat} (hw : wD (mW a cs)) (hz : zOK Z) (l : Launch) {u : St} {u' : St} (hk : f_M_head u = some u') : KV clA D cs (mW a cs) Z l y_M_head (.code y_M_head prog_9_method_37_code 6 (Option.none : Option Jvm.ClassFile.FieldType)) rm_M_head [.ref (a 0)] u u' := by
  unfold f_M_head at hk
  refine KV.of (by decide) (Nat.le_of_ble_eq_true rfl) hw hz ?_
  intro p e s m args below meth c Q C I hQ ls hl
  have hl : lv_has ls 6 [(0, .ref (a 0))] := hl
  have hx := C.1.1
  have hb := C.1.2.1
  refine lv_aload_n hx hb d_M_head_0 rfl (lv_at hl 0 rfl) ?_
  refine g_M_at C I k_697 d_M_head_1 ?_
  refine lv_istore_n (lv' := [(1, .int (u.1 2)), (0, .ref (a 0))]) hx hb d_M_head_4 rfl hl (by decide) rfl (fun ls hl => ?_)
  refine lv_aload_n hx hb d_M_head_5 rfl (lv_at hl 1 rfl) ?_
  refine lv_aload_n hx hb d_M_head_6 rfl (lv_at hl 1 rfl) ?_
  obtain ⟨r3, u1, h2, hk⟩ := cI_u hk
  refine go_I I (call_runV (rest := [.ref (a 0)]) C I (c_M_u2 C.2.2.2.1 C.2.2.2.2.1 l h2 _) wd_M_u2 (q0 := 0) (ci := 7) rfl rfl k_826 ⟨rfl, rfl⟩ ⟨by decide, by decide⟩ rfl hl.1 rfl (Nat.le_of_ble_eq_true rfl) d_M_head_7) (fun H locs I => ?_)
  refine p_M_flags C I k_704 d_M_head_10 (fun H locs I => ?_)
  obtain ⟨u4, hu, hk⟩ := bnd_u hk
  rw [hu] at I
  clear hu
  refine lv_aload_n hx hb d_M_head_13 rfl (lv_at hl 1 rfl) ?_
  refine g_M_flags C I k_704 d_M_head_14 ?_
  refine lv_sipush (v := (-1586)) hx hb d_M_head_17 (by decide) ?_
  refine lv_iand hx hb d_M_head_20 ?_
  obtain ⟨z5, hj113, hk⟩ := bnd_u hk
  have Khj113 : ∀ (H : Heap) (locs : List Loc) (ls : Array Slot), Dy clA D (mW a cs) s H locs u4 → lv_has ls 6 [(0, .ref (a 0)), (1, .int (u.1 2))] → W p l e rm_M_head s m args below meth c H locs 0 0 Q (F0 m 43 ls [.int z5]) := by
    intro H locs ls I hl
    refine lv_istore_n (lv' := [(2, .int z5), (0, .ref (a 0)), (1, .int (u.1 2))]) hx hb d_M_head_43 rfl hl (by decide) rfl (fun ls hl => ?_)
    refine lv_aload_n hx hb d_M_head_44 rfl (lv_at hl 1 rfl) ?_
    refine g_M_flags C I k_704 d_M_head_45 ?_
    refine lv_sipush (v := 512) hx hb d_M_head_48 (by decide) ?_
    refine lv_iand hx hb d_M_head_51 ?_
    obtain ⟨z6, hj110, hk⟩ := cT_u hk
    have Khj110 : ∀ (H : Heap) (locs : List Loc) (ls : Array Slot), Dy clA D (mW a cs) s H locs u4 → lv_has ls 6 [(0, .ref (a 0)), (1, .int (u.1 2)), (2, .int z6)] → W p l e rm_M_head s m args below meth c H locs 0 0 Q (F0 m 84 ls []) := by
      intro H locs ls I hl
      refine lv_aload_n hx hb d_M_head_84 rfl (lv_at hl 0 rfl) ?_
      refine lv_iload_n hx hb d_M_head_85 rfl (lv_at hl 2 rfl) ?_
      refine lv_bipush (v := 13) hx hb d_M_head_86 (by decide) ?_
      refine lv_iload_n hx hb d_M_head_88 rfl (lv_at hl 1 rfl) ?_
      obtain ⟨r9, u7, h8, hk⟩ := cI_u hk
      refine go_I I (call_runV (rest := []) C I (c_M_must C.2.2.2.1 C.2.2.2.2.1 l h8 _) wd_M_must (q0 := 0) (ci := 7) rfl rfl k_843 ⟨rfl, rfl⟩ ⟨by decide, by decide⟩ rfl hl.1 rfl (Nat.le_of_ble_eq_true rfl) d_M_head_89) (fun H locs I => ?_)
      refine lv_if_ne (tgt := 96) hx hb d_M_head_92 (by decide) (fun hc => ?_) (fun hc => ?_)
      · replace hk := ie_u hc hk
        refine lv_aload_n hx hb d_M_head_96 rfl (lv_at hl 0 rfl) ?_
        refine g_M_at C I k_697 d_M_head_97 ?_
        refine lv_istore_n (lv' := [(1, .int (u7.1 2)), (0, .ref (a 0)), (2, .int z6)]) hx hb d_M_head_100 rfl hl (by decide) rfl (fun ls hl => ?_)
        refine lv_aload_n hx hb d_M_head_101 rfl (lv_at hl 1 rfl) ?_
        refine lv_aload_n hx hb d_M_head_102 rfl (lv_at hl 1 rfl) ?_
        refine lv_bipush (v := 7) hx hb d_M_head_103 (by decide) ?_
        obtain ⟨r12, u10, h11, hk⟩ := cI_u hk
        refine go_I I (call_runV (rest := [.ref (a 0)]) C I (c_M_number C.2.2.2.1 C.2.2.2.2.1 l h11 _) wd_M_number (q0 := 0) (ci := 7) rfl rfl k_929 ⟨rfl, rfl⟩ ⟨by decide, by decide⟩ rfl hl.1 rfl (Nat.le_of_ble_eq_true rfl) d_M_head_105) (fun H locs I => ?_)
        refine p_M_self C I k_705 d_M_head_108 (fun H locs I => ?_)
        obtain ⟨u13, hu, hk⟩ := bnd_u hk
        rw [hu] at I
        clear hu
        refine lv_aload_n hx hb d_M_head_111 rfl (lv_at hl 1 rfl) ?_
        obtain ⟨r16, u14, h15, hk⟩ := cI_u hk
        refine go_I I (call_runV (rest := []) C I (c_M_ok C.2.2.2.1 C.2.2.2.2.1 l h15 _) wd_M_ok (q0 := 0) (ci := 7) rfl rfl k_834 ⟨rfl, rfl⟩ ⟨by decide, by decide⟩ rfl hl.1 rfl (Nat.le_of_ble_eq_true rfl) d_M_head_112) (fun H locs I => ?_)
        refine lv_if_eq (tgt := 144) hx hb d_M_head_115 (by decide) (fun hc => ?_) (fun hc => ?_)
        · replace hk := it_u hc hk
          exact hQ _ _ _ _ _ I hk d_M_head_144
        · replace hk := ie_u hc hk
          refine lv_aload_n hx hb d_M_head_118 rfl (lv_at hl 1 rfl) ?_
          refine lv_aload_n hx hb d_M_head_119 rfl (lv_at hl 1 rfl) ?_
          refine lv_aload_n hx hb d_M_head_120 rfl (lv_at hl 1 rfl) ?_
          refine g_M_self C I k_705 d_M_head_121 ?_
          obtain ⟨r19, u17, h18, hk⟩ := cI_u hk
          refine go_I I (call_runV (rest := [.ref (a 0)]) C I (c_M_isArray C.2.2.2.1 C.2.2.2.2.1 l h18 _) wd_M_isArray (q0 := 0) (ci := 7) rfl rfl k_933 ⟨rfl, rfl⟩ ⟨by decide, by decide⟩ rfl hl.1 rfl (Nat.le_of_ble_eq_true rfl) d_M_head_124) (fun H locs I => ?_)
          obtain ⟨z20, hj109, hk⟩ := bnd_u hk
          have Khj109 : ∀ (H : Heap) (locs : List Loc) (ls : Array Slot), Dy clA D (mW a cs) s H locs u17 → lv_has ls 6 [(0, .ref (a 0)), (1, .int (u7.1 2))] → W p l e rm_M_head s m args below meth c H locs 0 0 Q (F0 m 135 ls [.int z20, .ref (a 0)]) := by
            intro H locs ls I hl
            refine lv_bipush (v := 9) hx hb d_M_head_135 (by decide) ?_
            refine lv_iload_n hx hb d_M_head_137 rfl (lv_at hl 1 rfl) ?_
            obtain ⟨r23, u21, h22, hk⟩ := cI_u hk
            refine go_I I (call_runV (rest := []) C I (c_M_must C.2.2.2.1 C.2.2.2.2.1 l h22 _) wd_M_must (q0 := 0) (ci := 7) rfl rfl k_843 ⟨rfl, rfl⟩ ⟨by decide, by decide⟩ rfl hl.1 rfl (Nat.le_of_ble_eq_true rfl) d_M_head_138) (fun H locs I => ?_)
            refine lv_if_ne (tgt := 145) hx hb d_M_head_141 (by decide) (fun hc => ?_) (fun hc => ?_)
            · replace hk := ie_u hc hk
              refine lv_aload_n hx hb d_M_head_145 rfl (lv_at hl 0 rfl) ?_
              refine g_M_at C I k_697 d_M_head_146 ?_
              refine lv_istore_n (lv' := [(1, .int (u21.1 2)), (0, .ref (a 0))]) hx hb d_M_head_149 rfl hl (by decide) rfl (fun ls hl => ?_)
              refine lv_aload_n hx hb d_M_head_150 rfl (lv_at hl 1 rfl) ?_
              refine lv_bipush (v := 7) hx hb d_M_head_151 (by decide) ?_
              obtain ⟨r26, u24, h25, hk⟩ := cI_u hk
              refine go_I I (call_runV (rest := []) C I (c_M_number C.2.2.2.1 C.2.2.2.2.1 l h25 _) wd_M_number (q0 := 0) (ci := 7) rfl rfl k_929 ⟨rfl, rfl⟩ ⟨by decide, by decide⟩ rfl hl.1 rfl (Nat.le_of_ble_eq_true rfl) d_M_head_153) (fun H locs I => ?_)
              refine lv_istore_n (lv' := [(3, .int r26), (1, .int (u21.1 2)), (0, .ref (a 0))]) hx hb d_M_head_156 rfl hl (by decide) rfl (fun ls hl => ?_)
              refine lv_aload_n hx hb d_M_head_157 rfl (lv_at hl 2 rfl) ?_
              obtain ⟨r29, u27, h28, hk⟩ := cI_u hk
              refine go_I I (call_runV (rest := []) C I (c_M_ok C.2.2.2.1 C.2.2.2.2.1 l h28 _) wd_M_ok (q0 := 0) (ci := 7) rfl rfl k_834 ⟨rfl, rfl⟩ ⟨by decide, by decide⟩ rfl hl.1 rfl (Nat.le_of_ble_eq_true rfl) d_M_head_158) (fun H locs I => ?_)
              refine lv_if_eq (tgt := 187) hx hb d_M_head_161 (by decide) (fun hc => ?_) (fun hc => ?_)
              · replace hk := it_u hc hk
                exact hQ _ _ _ _ _ I hk d_M_head_187
              · replace hk := ie_u hc hk
                refine lv_aload_n hx hb d_M_head_164 rfl (lv_at hl 2 rfl) ?_
                refine lv_aload_n hx hb d_M_head_165 rfl (lv_at hl 2 rfl) ?_
                refine lv_iload_n hx hb d_M_head_166 rfl (lv_at hl 0 rfl) ?_
                obtain ⟨r32, u30, h31, hk⟩ := cI_u hk
                refine go_I I (call_runV (rest := [.ref (a 0)]) C I (c_M_isArray C.2.2.2.1 C.2.2.2.2.1 l h31 _) wd_M_isArray (q0 := 0) (ci := 7) rfl rfl k_933 ⟨rfl, rfl⟩ ⟨by decide, by decide⟩ rfl hl.1 rfl (Nat.le_of_ble_eq_true rfl) d_M_head_167) (fun H locs I => ?_)
                obtain ⟨z33, hj108, hk⟩ := bnd_u hk
                have Khj108 : ∀ (H : Heap) (locs : List Loc) (ls : Array Slot), Dy clA D (mW a cs) s H locs u30 → lv_has ls 6 [(0, .ref (a 0)), (1, .int (u21.1 2)), (3, .int r26)] → W p l e rm_M_head s m args below meth c H locs 0 0 Q (F0 m 178 ls [.int z33, .ref (a 0)]) := by
                  intro H locs ls I hl
                  refine lv_bipush (v := 9) hx hb d_M_head_178 (by decide) ?_
                  refine lv_iload_n hx hb d_M_head_180 rfl (lv_at hl 1 rfl) ?_
                  obtain ⟨r36, u34, h35, hk⟩ := cI_u hk
                  refine go_I I (call_runV (rest := []) C I (c_M_must C.2.2.2.1 C.2.2.2.2.1 l h35 _) wd_M_must (q0 := 0) (ci := 7) rfl rfl k_843 ⟨rfl, rfl⟩ ⟨by decide, by decide⟩ rfl hl.1 rfl (Nat.le_of_ble_eq_true rfl) d_M_head_181) (fun H locs I => ?_)
                  refine lv_if_ne (tgt := 188) hx hb d_M_head_184 (by decide) (fun hc => ?_) (fun hc => ?_)
                  · replace hk := ie_u hc hk
                    refine lv_aload_n hx hb d_M_head_188 rfl (lv_at hl 0 rfl) ?_
                    refine lv_aload_n hx hb d_M_head_189 rfl (lv_at hl 0 rfl) ?_
                    refine lv_aload_n hx hb d_M_head_190 rfl (lv_at hl 0 rfl) ?_
                    refine lv_aload_n hx hb d_M_head_191 rfl (lv_at hl 0 rfl) ?_
                    refine g_M_self C I k_705 d_M_head_192 ?_
                    obtain ⟨r39, u37, h38, hk⟩ := cI_u hk
                    refine go_I I (call_runV (rest := [.ref (a 0), .ref (a 0)]) C I (c_M_textOf C.2.2.2.1 C.2.2.2.2.1 l h38 _) wd_M_textOf (q0 := 0) (ci := 7) rfl rfl k_937 ⟨rfl, rfl⟩ ⟨by decide, by decide⟩ rfl hl.1 rfl (Nat.le_of_ble_eq_true rfl) d_M_head_195) (fun H locs I => ?_)
                    refine lv_aload_n hx hb d_M_head_198 rfl (lv_at hl 0 rfl) ?_
                    refine lv_iload_n hx hb d_M_head_199 rfl (lv_at hl 2 rfl) ?_
                    obtain ⟨r42, u40, h41, hk⟩ := cI_u hk
                    refine go_I I (call_runV (rest := [.int r39, .ref (a 0), .ref (a 0)]) C I (c_M_textOf C.2.2.2.1 C.2.2.2.2.1 l h41 _) wd_M_textOf (q0 := 0) (ci := 7) rfl rfl k_937 ⟨rfl, rfl⟩ ⟨by decide, by decide⟩ rfl hl.1 rfl (Nat.le_of_ble_eq_true rfl) d_M_head_200) (fun H locs I => ?_)
                    obtain ⟨r45, u43, h44, hk⟩ := cI_u hk
                    refine go_I I (call_runV (rest := [.ref (a 0)]) C I (c_M_same C.2.2.2.1 C.2.2.2.2.1 l h44 _) wd_M_same (q0 := 0) (ci := 7) rfl rfl k_941 ⟨rfl, rfl⟩ ⟨by decide, by decide⟩ rfl hl.1 rfl (Nat.le_of_ble_eq_true rfl) d_M_head_203) (fun H locs I => ?_)
                    obtain ⟨z46, hj107, hk⟩ := bnd_u hk
                    have Khj107 : ∀ (H : Heap) (locs : List Loc) (ls : Array Slot), Dy clA D (mW a cs) s H locs u43 → lv_has ls 6 [(0, .ref (a 0)), (1, .int (u21.1 2)), (3, .int r26)] → W p l e rm_M_head s m args below meth c H locs 0 0 Q (F0 m 214 ls [.int z46, .ref (a 0)]) := by
                      intro H locs ls I hl
                      refine lv_bipush (v := 14) hx hb d_M_head_214 (by decide) ?_
                      refine lv_iload_n hx hb d_M_head_216 rfl (lv_at hl 1 rfl) ?_
                      obtain ⟨r49, u47, h48, hk⟩ := cI_u hk
                      refine go_I I (call_runV (rest := []) C I (c_M_must C.2.2.2.1 C.2.2.2.2.1 l h48 _) wd_M_must (q0 := 0) (ci := 7) rfl rfl k_843 ⟨rfl, rfl⟩ ⟨by decide, by decide⟩ rfl hl.1 rfl (Nat.le_of_ble_eq_true rfl) d_M_head_217) (fun H locs I => ?_)
                      refine lv_pop hx hb d_M_head_220 rfl ?_
                      refine lv_aload_n hx hb d_M_head_221 rfl (lv_at hl 0 rfl) ?_
                      refine lv_aload_n hx hb d_M_head_222 rfl (lv_at hl 0 rfl) ?_
                      refine g_M_flags C I k_704 d_M_head_223 ?_
                      refine lv_sipush (v := 512) hx hb d_M_head_226 (by decide) ?_
                      refine lv_iand hx hb d_M_head_229 ?_
                      obtain ⟨⟨z50, u51⟩, hj99, hk⟩ := cT_u hk
                      have Khj99 : ∀ (H : Heap) (locs : List Loc) (ls : Array Slot), Dy clA D (mW a cs) s H locs u51 → lv_has ls 6 [(0, .ref (a 0)), (1, .int (u21.1 2))] → W p l e rm_M_head s m args below meth c H locs 0 0 Q (F0 m 259 ls [.int z50, .ref (a 0)]) := by
                        intro H locs ls I hl
                        refine lv_bipush (v := 14) hx hb d_M_head_259 (by decide) ?_
                        refine lv_iload_n hx hb d_M_head_261 rfl (lv_at hl 1 rfl) ?_
                        obtain ⟨r54, u52, h53, hk⟩ := cI_u hk
                        refine go_I I (call_runV (rest := []) C I (c_M_must C.2.2.2.1 C.2.2.2.2.1 l h53 _) wd_M_must (q0 := 0) (ci := 7) rfl rfl k_843 ⟨rfl, rfl⟩ ⟨by decide, by decide⟩ rfl hl.1 rfl (Nat.le_of_ble_eq_true rfl) d_M_head_262) (fun H locs I => ?_)
                        refine lv_pop hx hb d_M_head_265 rfl ?_
                        refine lv_aload_n hx hb d_M_head_266 rfl (lv_at hl 0 rfl) ?_
                        refine g_M_at C I k_697 d_M_head_267 ?_
                        refine lv_istore_n (lv' := [(1, .int (u52.1 2)), (0, .ref (a 0))]) hx hb d_M_head_270 rfl hl (by decide) rfl (fun ls hl => ?_)
                        refine lv_aload_n hx hb d_M_head_271 rfl (lv_at hl 1 rfl) ?_
                        refine lv_aload_n hx hb d_M_head_272 rfl (lv_at hl 1 rfl) ?_
                        obtain ⟨r57, u55, h56, hk⟩ := cI_u hk
                        refine go_I I (call_runV (rest := [.ref (a 0)]) C I (c_M_u2 C.2.2.2.1 C.2.2.2.2.1 l h56 _) wd_M_u2 (q0 := 0) (ci := 7) rfl rfl k_826 ⟨rfl, rfl⟩ ⟨by decide, by decide⟩ rfl hl.1 rfl (Nat.le_of_ble_eq_true rfl) d_M_head_273) (fun H locs I => ?_)
                        refine p_M_interfaces C I k_706 d_M_head_276 (fun H locs I => ?_)
                        obtain ⟨u58, hu, hk⟩ := bnd_u hk
                        rw [hu] at I
                        clear hu
                        refine lv_aload_n hx hb d_M_head_279 rfl (lv_at hl 1 rfl) ?_
                        refine lv_aload_n hx hb d_M_head_280 rfl (lv_at hl 1 rfl) ?_
                        refine g_M_interfaces C I k_706 d_M_head_281 ?_
                        refine lv_bipush (v := 20) hx hb d_M_head_284 (by decide) ?_
                        obtain ⟨z59, hj98, hk⟩ := bnd_u hk
                        have Khj98 : ∀ (H : Heap) (locs : List Loc) (ls : Array Slot), Dy clA D (mW a cs) s H locs u58 → lv_has ls 6 [(0, .ref (a 0)), (1, .int (u52.1 2))] → W p l e rm_M_head s m args below meth c H locs 0 0 Q (F0 m 294 ls [.int z59, .ref (a 0)]) := by
                          intro H locs ls I hl
                          refine lv_bipush (v := 15) hx hb d_M_head_294 (by decide) ?_
                          refine lv_iload_n hx hb d_M_head_296 rfl (lv_at hl 1 rfl) ?_
                          obtain ⟨r62, u60, h61, hk⟩ := cI_u hk
                          refine go_I I (call_runV (rest := []) C I (c_M_must C.2.2.2.1 C.2.2.2.2.1 l h61 _) wd_M_must (q0 := 0) (ci := 7) rfl rfl k_843 ⟨rfl, rfl⟩ ⟨by decide, by decide⟩ rfl hl.1 rfl (Nat.le_of_ble_eq_true rfl) d_M_head_297) (fun H locs I => ?_)
                          refine lv_pop hx hb d_M_head_300 rfl ?_
                          refine lv_iconst (v := 0) hx hb d_M_head_301 (by decide) ?_
                          refine lv_istore (lv' := [(4, .int 0), (0, .ref (a 0)), (1, .int (u52.1 2))]) hx hb d_M_head_302 hl (by decide) rfl (fun ls hl => ?_)
                          refine w_M_head_L304 C (fun u97 H locs ls hk I hl => ?_) hQ FU u60 0 _ _ _ hk I (lv_sub hl [1, 0] rfl)
                          exact hQ _ _ _ _ _ I hk d_M_head_439
                        refine lv_icmp_gt (tgt := 293) hx hb d_M_head_286 (by decide) (fun hc => ?_) (fun hc => ?_)
                        · replace hj98 := it_u hc hj98
                          refine lv_iconst (v := 0) hx hb d_M_head_293 (by decide) ?_
                          cases hj98
                          exact Khj98 _ _ _ I (lv_sub hl [1, 0] rfl)
                        · replace hj98 := ie_u hc hj98
                          refine lv_iconst (v := 1) hx hb d_M_head_289 (by decide) ?_
                          refine lv_goto (tgt := 294) hx hb d_M_head_290 (by decide) ?_
                          cases hj98
                          exact Khj98 _ _ _ I (lv_sub hl [1, 0] rfl)
                      refine lv_if_eq (tgt := 254) hx hb d_M_head_230 (by decide) (fun hc => ?_) (fun hc => ?_)
                      · replace hj99 := it_u hc hj99
                        refine lv_iconst (v := 1) hx hb d_M_head_254 (by decide) ?_
                        refine lv_goto (tgt := 259) hx hb d_M_head_255 (by decide) ?_
                        cases hj99
                        exact Khj99 _ _ _ I (lv_sub hl [0, 1] rfl)
                      · replace hj99 := ie_u hc hj99
                        refine lv_aload_n hx hb d_M_head_233 rfl (lv_at hl 0 rfl) ?_
                        refine lv_aload_n hx hb d_M_head_234 rfl (lv_at hl 0 rfl) ?_
                        refine lv_iload_n hx hb d_M_head_235 rfl (lv_at hl 2 rfl) ?_
                        obtain ⟨r102, u100, h101, hj99⟩ := cI_u hj99
                        refine go_I I (call_runV (rest := [.ref (a 0), .ref (a 0)]) C I (c_M_textOf C.2.2.2.1 C.2.2.2.2.1 l h101 _) wd_M_textOf (q0 := 0) (ci := 7) rfl rfl k_937 ⟨rfl, rfl⟩ ⟨by decide, by decide⟩ rfl hl.1 rfl (Nat.le_of_ble_eq_true rfl) d_M_head_236) (fun H locs I => ?_)
                        refine lv_bipush (v := 16) hx hb d_M_head_239 (by decide) ?_
                        refine lv_ldc2 hx hb C.1.2.2.2 (C.2.1 _ k_945) d_M_head_241 ?_
                        refine lv_ldc2 hx hb C.1.2.2.2 (C.2.1 _ k_946) d_M_head_244 ?_
                        refine lv_lconst (v := 0) hx hb d_M_head_247 (by decide) ?_
                        obtain ⟨r105, u103, h104, hj99⟩ := cI_u hj99
                        refine go_I I (call_runV (rest := [.ref (a 0)]) C I (c_M_is C.2.2.2.1 C.2.2.2.2.1 l h104 _) wd_M_is (q0 := 0) (ci := 7) rfl rfl k_903 ⟨rfl, rfl⟩ ⟨by decide, by decide⟩ rfl hl.1 rfl (Nat.le_of_ble_eq_true rfl) d_M_head_248) (fun H locs I => ?_)
                        refine lv_if_eq (tgt := 258) hx hb d_M_head_251 (by decide) (fun hc => ?_) (fun hc => ?_)
                        · replace hj99 := it_u hc hj99
                          refine lv_iconst (v := 0) hx hb d_M_head_258 (by decide) ?_
                          cases hj99
                          exact Khj99 _ _ _ I (lv_sub hl [0, 1] rfl)
                        · replace hj99 := ie_u hc hj99
                          refine lv_iconst (v := 1) hx hb d_M_head_254 (by decide) ?_
                          refine lv_goto (tgt := 259) hx hb d_M_head_255 (by decide) ?_
                          cases hj99
                          exact Khj99 _ _ _ I (lv_sub hl [0, 1] rfl)
                    refine lv_if_ne (tgt := 213) hx hb d_M_head_206 (by decide) (fun hc => ?_) (fun hc => ?_)
                    · replace hj107 := ie_u hc hj107
                      refine lv_iconst (v := 0) hx hb d_M_head_213 (by decide) ?_
                      cases hj107
                      exact Khj107 _ _ _ I (lv_sub hl [0, 1, 2] rfl)
                    · replace hj107 := it_u hc hj107
                      refine lv_iconst (v := 1) hx hb d_M_head_209 (by decide) ?_
                      refine lv_goto (tgt := 214) hx hb d_M_head_210 (by decide) ?_
                      cases hj107
                      exact Khj107 _ _ _ I (lv_sub hl [0, 1, 2] rfl)
                  · replace hk := it_u hc hk
                    exact hQ _ _ _ _ _ I hk d_M_head_187
                refine lv_if_ne (tgt := 177) hx hb d_M_head_170 (by decide) (fun hc => ?_) (fun hc => ?_)
                · replace hj108 := ie_u hc hj108
                  refine lv_iconst (v := 0) hx hb d_M_head_177 (by decide) ?_
                  cases hj108
                  exact Khj108 _ _ _ I (lv_sub hl [2, 1, 0] rfl)
                · replace hj108 := it_u hc hj108
                  refine lv_iconst (v := 1) hx hb d_M_head_173 (by decide) ?_
                  refine lv_goto (tgt := 178) hx hb d_M_head_174 (by decide) ?_
                  cases hj108
                  exact Khj108 _ _ _ I (lv_sub hl [2, 1, 0] rfl)
            · replace hk := it_u hc hk
              exact hQ _ _ _ _ _ I hk d_M_head_144
          refine lv_if_ne (tgt := 134) hx hb d_M_head_127 (by decide) (fun hc => ?_) (fun hc => ?_)
          · replace hj109 := ie_u hc hj109
            refine lv_iconst (v := 0) hx hb d_M_head_134 (by decide) ?_
            cases hj109
            exact Khj109 _ _ _ I (lv_sub hl [1, 0] rfl)
          · replace hj109 := it_u hc hj109
            refine lv_iconst (v := 1) hx hb d_M_head_130 (by decide) ?_
            refine lv_goto (tgt := 135) hx hb d_M_head_131 (by decide) ?_
            cases hj109
            exact Khj109 _ _ _ I (lv_sub hl [1, 0] rfl)
      · replace hk := it_u hc hk
        exact hQ _ _ _ _ _ I hk d_M_head_95
    refine lv_if_eq (tgt := 84) hx hb d_M_head_52 (by decide) (fun hc => ?_) (fun hc => ?_)
    · replace hj110 := it_u hc hj110
      cases hj110
      exact Khj110 _ _ _ I (lv_sub hl [1, 2, 0] rfl)
    · replace hj110 := ie_u hc hj110
      refine lv_iload_n hx hb d_M_head_55 rfl (lv_at hl 0 rfl) ?_
      refine lv_aload_n hx hb d_M_head_56 rfl (lv_at hl 1 rfl) ?_
      refine g_M_flags C I k_704 d_M_head_57 ?_
      refine lv_sipush (v := 1024) hx hb d_M_head_60 (by decide) ?_
      refine lv_iand hx hb d_M_head_63 ?_
      obtain ⟨z111, hj112, hj110⟩ := bnd_u hj110
      have Khj112 : ∀ (H : Heap) (locs : List Loc) (ls : Array Slot), Dy clA D (mW a cs) s H locs u4 → lv_has ls 6 [(0, .ref (a 0)), (1, .int (u.1 2))] → W p l e rm_M_head s m args below meth c H locs 0 0 Q (F0 m 82 ls [.int z111, .int z5]) := by
        intro H locs ls I hl
        refine lv_iand hx hb d_M_head_82 ?_
        refine lv_istore_n (lv' := [(2, .int (z5 &&& z111)), (0, .ref (a 0)), (1, .int (u.1 2))]) hx hb d_M_head_83 rfl hl (by decide) rfl (fun ls hl => ?_)
        cases hj110
        exact Khj110 _ _ _ I (lv_sub hl [1, 2, 0] rfl)
      refine lv_if_eq (tgt := 81) hx hb d_M_head_64 (by decide) (fun hc => ?_) (fun hc => ?_)
      · replace hj112 := it_u hc hj112
        refine lv_iconst (v := 0) hx hb d_M_head_81 (by decide) ?_
        cases hj112
        exact Khj112 _ _ _ I (lv_sub hl [1, 2] rfl)
      · replace hj112 := ie_u hc hj112
        refine lv_aload_n hx hb d_M_head_67 rfl (lv_at hl 1 rfl) ?_
        refine g_M_flags C I k_704 d_M_head_68 ?_
        refine lv_bipush (v := 48) hx hb d_M_head_71 (by decide) ?_
        refine lv_iand hx hb d_M_head_73 ?_
        refine lv_if_ne (tgt := 81) hx hb d_M_head_74 (by decide) (fun hc => ?_) (fun hc => ?_)
        · replace hj112 := ie_u hc hj112
          refine lv_iconst (v := 0) hx hb d_M_head_81 (by decide) ?_
          cases hj112
          exact Khj112 _ _ _ I (lv_sub hl [1, 2] rfl)
        · replace hj112 := it_u hc hj112
          refine lv_iconst (v := 1) hx hb d_M_head_77 (by decide) ?_
          refine lv_goto (tgt := 82) hx hb d_M_head_78 (by decide) ?_
          cases hj112
          exact Khj112 _ _ _ I (lv_sub hl [1, 2] rfl)
  refine lv_if_ne (tgt := 42) hx hb d_M_head_21 (by decide) (fun hc => ?_) (fun hc => ?_)
  · replace hj113 := ie_u hc hj113
    refine lv_iconst (v := 0) hx hb d_M_head_42 (by decide) ?_
    cases hj113
    exact Khj113 _ _ _ I (lv_sub hl [1, 0] rfl)
  · replace hj113 := it_u hc hj113
    refine lv_aload_n hx hb d_M_head_24 rfl (lv_at hl 1 rfl) ?_
    refine g_M_flags C I k_704 d_M_head_25 ?_
    refine lv_sipush (v := 1040) hx hb d_M_head_28 (by decide) ?_
    refine lv_iand hx hb d_M_head_31 ?_
    refine lv_sipush (v := 1040) hx hb d_M_head_32 (by decide) ?_
    refine lv_icmp_eq (tgt := 42) hx hb d_M_head_35 (by decide) (fun hc => ?_) (fun hc => ?_)
    · replace hj113 := it_u hc hj113
      refine lv_iconst (v := 0) hx hb d_M_head_42 (by decide) ?_
      cases hj113
      exact Khj113 _ _ _ I (lv_sub hl [1, 0] rfl)
    · replace hj113 := ie_u hc hj113
      refine lv_iconst (v := 1) hx hb d_M_head_38 (by decide) ?_
      refine lv_goto (tgt := 43) hx hb d_M_head_39 (by decide) ?_
      cases hj113
      exact Khj113 _ _ _ I (lv_sub hl [1, 0] rfl)
def rm_M_methods : Room := { frames := 11, cells := 0, slots := 0, locals := 276 }
noncomputable def f_M_methods_L501 (x2 : Int32) (x3 : Int32) (x4 : Int32) (x10 : Int32) : Nat → St → Int32 → Option (St)
  | 0, _, _ => none
  | n + 1, u, x11 => if x2 ≤ x11 then (some (u)) else (gd x11 60 (gd x2 60 (cI (f_M_same u (u.2 4 x11.toNatClampNeg) (u.2 4 x2.toNatClampNeg)) fun r66 u64 => cT (if r66 = 0 then (some (1, u64)) else (gd x11 60 (gd x2 60 (cI (f_M_same u64 (u64.2 5 x11.toNatClampNeg) (u64.2 5 x2.toNatClampNeg)) fun r75 u73 => if r75 = 0 then (some (1, u73)) else (some (0, u73)))))) fun (p76 : Int32 × St) => cI (f_M_must p76.2 p76.1 16 x3) fun r71 u69 => f_M_methods_L501 x2 x3 x4 x10 n u69 (x11 + 1))))
noncomputable def f_M_methods_L569 (x2 : Int32) (x3 : Int32) (x4 : Int32) (x10 : Int32) : Nat → St → Int32 → Option (St)
  | 0, _, _ => none
  | n + 1, u, x11 => if 6 ≤ x11 then (some (u)) else (gd ((6 * x2) + x11) 360 (bnd (sa u 3 ((6 * x2) + x11).toNatClampNeg 0) fun u78 => f_M_methods_L569 x2 x3 x4 x10 n u78 (x11 + 1)))
noncomputable def f_M_methods_L37 (kx : St → Option (St)) : Nat → St → Int32 → Option (St)
  | 0, _, _ => none
  | n + 1, u, x2 => if (u.1 11) ≤ x2 then (kx u) else (cI (f_M_ok u) fun r11 u9 => if r11 = 0 then (kx u9) else (cI (f_M_u2 u9) fun r14 u12 => bnd (if ((u12.1 7) &&& 512) = 0 then (0) else (1)) fun (z15 : Int32) => cT (if (r14 &&& (-1056)) = 0 then (cI (f_M_oneOf u12 r14) fun r136 u134 => if r136 = 0 then (some (0, u134)) else (if (r14 &&& 1024) = 0 then (some (1, u134)) else (if (r14 &&& 26) = 0 then (some (1, u134)) else (some (0, u134))))) else (some (0, u12))) fun (p137 : Int32 × St) => cT (if z15 = 0 then (some (p137.1)) else (bnd (if (r14 &&& 3) = 0 then (0) else (if (r14 &&& 3) = 3 then (0) else (if (r14 &&& 20) = 0 then (1) else (0)))) fun (z131 : Int32) => some ((p137.1 &&& z131)))) fun (z18 : Int32) => bnd (if ((p137.2.1 7) &&& 1024) = 0 then (if (r14 &&& 1024) = 0 then (1) else (0)) else (1)) fun (z19 : Int32) => cI (f_M_must p137.2 (z18 &&& z19) 13 (u9.1 2)) fun r22 u20 => if r22 = 0 then (some u20) else (cI (f_M_number u20 1) fun r25 u23 => gd x2 60 (bnd (sa u23 4 x2.toNatClampNeg r25) fun u26 => cI (f_M_ok u26) fun r29 u27 => cT (if r29 = 0 then (some (0, u27)) else (gd x2 60 (cI (f_M_is u27 (u27.2 4 x2.toNatClampNeg) 6 66423521637438 0 0) fun r127 u125 => if r127 = 0 then (some (0, u125)) else (some (1, u125))))) fun (p128 : Int32 × St) => cI (f_M_ok p128.2) fun r34 u32 => cT (if r34 = 0 then (some (0, u32)) else (gd x2 60 (cI (f_M_is u32 (u32.2 4 x2.toNatClampNeg) 8 4351440865049801790 0 0) fun r122 u120 => if r122 = 0 then (some (0, u120)) else (some (1, u120))))) fun (p123 : Int32 × St) => cI (f_M_ok p123.2) fun r39 u37 => if r39 = 0 then (some u37) else (cT (if p128.1 = 0 then (if p123.1 = 0 then (gd x2 60 (cI (f_M_isPlainName u37 (u37.2 4 x2.toNatClampNeg)) fun r117 u115 => if r117 = 0 then (some (0, u115)) else (some (1, u115)))) else (some (1, u37))) else (some (1, u37))) fun (p118 : Int32 × St) => cI (f_M_must p118.2 p118.1 9 (u20.1 2)) fun r44 u42 => if r44 = 0 then (some u42) else (cI (f_M_number u42 1) fun r47 u45 => gd x2 60 (bnd (sa u45 5 x2.toNatClampNeg r47) fun u48 => cI (f_M_ok u48) fun r51 u49 => if r51 = 0 then (some u49) else (gd x2 60 (cI (f_M_isMethod u49 (u49.2 5 x2.toNatClampNeg)) fun r54 u52 => cI (f_M_must u52 r54 11 (u42.1 2)) fun r57 u55 => if r57 = 0 then (some u55) else (bnd (if (u55.1 18) = 0 then (1) else (0)) fun (z58 : Int32) => cI (f_M_must u55 z58 12 (u42.1 2)) fun r61 u59 => if r61 = 0 then (some u59) else (cT (if p128.1 = 0 then (some (u59)) else (cT (if z15 = 0 then (gd x2 60 (cI (f_M_isVoid u59 (u59.2 5 x2.toNatClampNeg)) fun r111 u109 => if r111 = 0 then (some (0, u109)) else (if (r14 &&& 1048) = 0 then (some (1, u109)) else (some (0, u109))))) else (some (0, u59))) fun (p112 : Int32 × St) => cI (f_M_must p112.2 p112.1 17 (u20.1 2)) fun r107 u105 => some (u105))) fun (u62 : St) => cT (if p123.1 = 0 then (some (u62)) else (cT (if r14 = 8 then (gd x2 60 (cI (f_M_is u62 (u62.2 5 x2.toNatClampNeg) 3 2632022 0 0) fun r100 u98 => if r100 = 0 then (some (0, u98)) else (some (1, u98)))) else (some (0, u62))) fun (p101 : Int32 × St) => cI (f_M_must p101.2 p101.1 17 (u20.1 2)) fun r96 u94 => some (u94))) fun (u63 : St) => cT (f_M_methods_L501 x2 (u9.1 2) r14 (u59.1 19) FU u63 0) fun (u77 : St) => cT (f_M_methods_L569 x2 (u9.1 2) r14 (u59.1 19) FU u77 0) fun (u79 : St) => gd ((6 * x2) + 0) 360 (bnd (sa u79 3 ((6 * x2) + 0).toNatClampNeg r14) fun u80 => gd ((6 * x2) + 1) 360 (bnd (sa u80 3 ((6 * x2) + 1).toNatClampNeg (u59.1 19)) fun u81 => cI (f_M_ok u81) fun r84 u82 => cT (if r84 = 0 then (some (u82)) else (cV (f_M_attributes u82 2 r14 x2 (u9.1 2)) fun u87 => some (u87))) fun (u85 : St) => f_M_methods_L37 kx n u85 (x2 + 1))))))))))))))
noncomputable def f_M_methods (u : St) : Option (St) := cI (f_M_u2 u) fun r3 u1 => bnd (sv u1 11 r3) fun u4 => bnd (if 60 < (u4.1 11) then (0) else (1)) fun (z5 : Int32) => cI (f_M_must u4 z5 15 (u.1 2)) fun r8 u6 => f_M_methods_L37 (fun u139 => some u139) FU u6 0
set_option maxHeartbeats 4000000 in
set_option maxRecDepth 100000 in
theorem w_M_methods_L501 {Z : zT} {D : va_G} {cs : Nat → ClassId} {a : Nat → Nat} {p : Program} {l : Launch} {e : Env} {s : State} {m : MethodId} {args : Array Value} {below : List Frame} {meth : Method} {c : Code} {Q : State → Prop}  {u2 : St} {x2 : Int32} {x3 : Int32} {x4 : Int32} {x10 : Int32} (C : Cx clA R_M prog_9_method_40_code 12 D cs (mW a cs) Z p s m args c) (hE : ∀ (H : Heap) (locs : List Loc) (ls : Array Slot), Dy clA D (mW a cs) s H locs u2 → lv_has ls 12 [(0, .ref (a 0)), (2, .int x2), (3, .int x3), (4, .int x4), (10, .int x10)] → W p l e rm_M_methods s m args below meth c H locs 0 0 Q (F0 m 566 ls [])) : ∀ (n : Nat) (u : St) (x11 : Int32) (H : Heap) (locs : List Loc) (ls : Array Slot), f_M_methods_L501 x2 x3 x4 x10 n u x11 = some u2 → Dy clA D (mW a cs) s H locs u → lv_has ls 12 [(0, .ref (a 0)), (2, .int x2), (3, .int x3), (4, .int x4), (10, .int x10), (11, .int x11)] → W p l e rm_M_methods s m args below meth c H locs 0 0 Q (F0 m 501 ls []) := by
  have hx := C.1.1
  have hb := C.1.2.1
  intro n
  induction n with
  | zero =>
    intro u x11 H locs ls hk I hl
    rw [f_M_methods_L501] at hk
    cases hk
  | succ n ih =>
    intro u x11 H locs ls hk I hl
    rw [f_M_methods_L501] at hk
    refine lv_iload hx hb d_M_methods_501 (lv_at hl 5 rfl) ?_
    refine lv_iload_n hx hb d_M_methods_503 rfl (lv_at hl 1 rfl) ?_
    refine lv_icmp_ge (tgt := 566) hx hb d_M_methods_504 (by decide) (fun hc => ?_) (fun hc => ?_)
    · replace hk := it_u hc hk
      cases hk
      exact hE _ _ _ I (lv_sub hl [0, 1, 2, 3, 4] rfl)
    · replace hk := ie_u hc hk
      refine lv_aload_n hx hb d_M_methods_507 rfl (lv_at hl 0 rfl) ?_
      refine lv_aload_n hx hb d_M_methods_508 rfl (lv_at hl 0 rfl) ?_
      refine lv_aload_n hx hb d_M_methods_509 rfl (lv_at hl 0 rfl) ?_
      refine g_M_names C I k_714 d_M_methods_510 ?_
      refine lv_iload hx hb d_M_methods_513 (lv_at hl 5 rfl) ?_
      obtain ⟨hi, hk⟩ := gd_u hk
      refine l_M_names C I hi d_M_methods_515 ?_
      refine lv_aload_n hx hb d_M_methods_516 rfl (lv_at hl 0 rfl) ?_
      refine g_M_names C I k_714 d_M_methods_517 ?_
      refine lv_iload_n hx hb d_M_methods_520 rfl (lv_at hl 1 rfl) ?_
      obtain ⟨hi, hk⟩ := gd_u hk
      refine l_M_names C I hi d_M_methods_521 ?_
      obtain ⟨r66, u64, h65, hk⟩ := cI_u hk
      refine go_I I (call_runV (rest := [.ref (a 0)]) C I (c_M_same C.2.2.2.1 C.2.2.2.2.1 l h65 _) wd_M_same (q0 := 0) (ci := 7) rfl rfl k_941 ⟨rfl, rfl⟩ ⟨by decide, by decide⟩ rfl hl.1 rfl (Nat.le_of_ble_eq_true rfl) d_M_methods_522) (fun H locs I => ?_)
      obtain ⟨⟨z67, u68⟩, hj72, hk⟩ := cT_u hk
      have Khj72 : ∀ (H : Heap) (locs : List Loc) (ls : Array Slot), Dy clA D (mW a cs) s H locs u68 → lv_has ls 12 [(0, .ref (a 0)), (2, .int x2), (3, .int x3), (4, .int x4), (10, .int x10), (11, .int x11)] → W p l e rm_M_methods s m args below meth c H locs 0 0 Q (F0 m 553 ls [.int z67, .ref (a 0)]) := by
        intro H locs ls I hl
        refine lv_bipush (v := 16) hx hb d_M_methods_553 (by decide) ?_
        refine lv_iload_n hx hb d_M_methods_555 rfl (lv_at hl 2 rfl) ?_
        obtain ⟨r71, u69, h70, hk⟩ := cI_u hk
        refine go_I I (call_runV (rest := []) C I (c_M_must C.2.2.2.1 C.2.2.2.2.1 l h70 _) wd_M_must (q0 := 0) (ci := 7) rfl rfl k_843 ⟨rfl, rfl⟩ ⟨by decide, by decide⟩ rfl hl.1 rfl (Nat.le_of_ble_eq_true rfl) d_M_methods_556) (fun H locs I => ?_)
        refine lv_pop hx hb d_M_methods_559 rfl ?_
        refine lv_iinc (v := (x11 + 1)) (lv' := [(11, .int (x11 + 1)), (0, .ref (a 0)), (2, .int x2), (3, .int x3), (4, .int x4), (10, .int x10)]) hx hb d_M_methods_560 hl (k := 5) rfl rfl (by decide) rfl (fun ls hl => ?_)
        refine lv_goto (tgt := 501) hx hb d_M_methods_563 (by decide) ?_
        exact ih u69 (x11 + 1) _ _ _ hk I (lv_sub hl [1, 2, 3, 4, 5, 0] rfl)
      refine lv_if_eq (tgt := 548) hx hb d_M_methods_525 (by decide) (fun hc => ?_) (fun hc => ?_)
      · replace hj72 := it_u hc hj72
        refine lv_iconst (v := 1) hx hb d_M_methods_548 (by decide) ?_
        refine lv_goto (tgt := 553) hx hb d_M_methods_549 (by decide) ?_
        cases hj72
        exact Khj72 _ _ _ I (lv_sub hl [0, 1, 2, 3, 4, 5] rfl)
      · replace hj72 := ie_u hc hj72
        refine lv_aload_n hx hb d_M_methods_528 rfl (lv_at hl 0 rfl) ?_
        refine lv_aload_n hx hb d_M_methods_529 rfl (lv_at hl 0 rfl) ?_
        refine g_M_types C I k_715 d_M_methods_530 ?_
        refine lv_iload hx hb d_M_methods_533 (lv_at hl 5 rfl) ?_
        obtain ⟨hi, hj72⟩ := gd_u hj72
        refine l_M_types C I hi d_M_methods_535 ?_
        refine lv_aload_n hx hb d_M_methods_536 rfl (lv_at hl 0 rfl) ?_
        refine g_M_types C I k_715 d_M_methods_537 ?_
        refine lv_iload_n hx hb d_M_methods_540 rfl (lv_at hl 1 rfl) ?_
        obtain ⟨hi, hj72⟩ := gd_u hj72
        refine l_M_types C I hi d_M_methods_541 ?_
        obtain ⟨r75, u73, h74, hj72⟩ := cI_u hj72
        refine go_I I (call_runV (rest := [.ref (a 0)]) C I (c_M_same C.2.2.2.1 C.2.2.2.2.1 l h74 _) wd_M_same (q0 := 0) (ci := 7) rfl rfl k_941 ⟨rfl, rfl⟩ ⟨by decide, by decide⟩ rfl hl.1 rfl (Nat.le_of_ble_eq_true rfl) d_M_methods_542) (fun H locs I => ?_)
        refine lv_if_ne (tgt := 552) hx hb d_M_methods_545 (by decide) (fun hc => ?_) (fun hc => ?_)
        · replace hj72 := ie_u hc hj72
          refine lv_iconst (v := 0) hx hb d_M_methods_552 (by decide) ?_
          cases hj72
          exact Khj72 _ _ _ I (lv_sub hl [0, 1, 2, 3, 4, 5] rfl)
        · replace hj72 := it_u hc hj72
          refine lv_iconst (v := 1) hx hb d_M_methods_548 (by decide) ?_
          refine lv_goto (tgt := 553) hx hb d_M_methods_549 (by decide) ?_
          cases hj72
          exact Khj72 _ _ _ I (lv_sub hl [0, 1, 2, 3, 4, 5] rfl)
set_option maxHeartbeats 4000000 in
set_option maxRecDepth 100000 in
theorem w_M_methods_L569 {Z : zT} {D : va_G} {cs : Nat → ClassId} {a : Nat → Nat} {p : Program} {l : Launch} {e : Env} {s : State} {m : MethodId} {args : Array Value} {below : List Frame} {meth : Method} {c : Code} {Q : State → Prop}  {u2 : St} {x2 : Int32} {x3 : Int32} {x4 : Int32} {x10 : Int32} (C : Cx clA R_M prog_9_method_40_code 12 D cs (mW a cs) Z p s m args c) (hE : ∀ (H : Heap) (locs : List Loc) (ls : Array Slot), Dy clA D (mW a cs) s H locs u2 → lv_has ls 12 [(0, .ref (a 0)), (2, .int x2), (3, .int x3), (4, .int x4), (10, .int x10)] → W p l e rm_M_methods s m args below meth c H locs 0 0 Q (F0 m 595 ls [])) : ∀ (n : Nat) (u : St) (x11 : Int32) (H : Heap) (locs : List Loc) (ls : Array Slot), f_M_methods_L569 x2 x3 x4 x10 n u x11 = some u2 → Dy clA D (mW a cs) s H locs u → lv_has ls 12 [(0, .ref (a 0)), (2, .int x2), (3, .int x3), (4, .int x4), (10, .int x10), (11, .int x11)] → W p l e rm_M_methods s m args below meth c H locs 0 0 Q (F0 m 569 ls []) := by
  have hx := C.1.1
  have hb := C.1.2.1
  intro n
  induction n with
  | zero =>
    intro u x11 H locs ls hk I hl
    rw [f_M_methods_L569] at hk
    cases hk
  | succ n ih =>
    intro u x11 H locs ls hk I hl
    rw [f_M_methods_L569] at hk
    refine lv_iload hx hb d_M_methods_569 (lv_at hl 5 rfl) ?_
    refine lv_bipush (v := 6) hx hb d_M_methods_571 (by decide) ?_
    refine lv_icmp_ge (tgt := 595) hx hb d_M_methods_573 (by decide) (fun hc => ?_) (fun hc => ?_)
    · replace hk := it_u hc hk
      cases hk
      exact hE _ _ _ I (lv_sub hl [0, 1, 2, 3, 4] rfl)
    · replace hk := ie_u hc hk
      refine lv_aload_n hx hb d_M_methods_576 rfl (lv_at hl 0 rfl) ?_
      refine g_M_facts C I k_713 d_M_methods_577 ?_
      refine lv_bipush (v := 6) hx hb d_M_methods_580 (by decide) ?_
      refine lv_iload_n hx hb d_M_methods_582 rfl (lv_at hl 1 rfl) ?_
      refine lv_imul hx hb d_M_methods_583 ?_
      refine lv_iload hx hb d_M_methods_584 (lv_at hl 5 rfl) ?_
      refine lv_iadd hx hb d_M_methods_586 ?_
      refine lv_iconst (v := 0) hx hb d_M_methods_587 (by decide) ?_
      obtain ⟨hi, hk⟩ := gd_u hk
      refine s_M_facts C I hi d_M_methods_588 (fun H locs I => ?_)
      obtain ⟨u78, hu, hk⟩ := bnd_u hk
      rw [hu] at I
      clear hu
      refine lv_iinc (v := (x11 + 1)) (lv' := [(11, .int (x11 + 1)), (0, .ref (a 0)), (2, .int x2), (3, .int x3), (4, .int x4), (10, .int x10)]) hx hb d_M_methods_589 hl (k := 5) rfl rfl (by decide) rfl (fun ls hl => ?_)
      refine lv_goto (tgt := 569) hx hb d_M_methods_592 (by decide) ?_
      exact ih u78 (x11 + 1) _ _ _ hk I (lv_sub hl [1, 2, 3, 4, 5, 0] rfl)
set_option maxHeartbeats 4000000 in
set_option maxRecDepth 100000 in
theorem w_M_methods_L37 {Z : zT} {D : va_G} {cs : Nat → ClassId} {a : Nat → Nat} {p : Program} {l : Launch} {e : Env} {s : State} {m : MethodId} {args : Array Value} {below : List Frame} {meth : Method} {c : Code} {Q : State → Prop} {F : St} {kx : St → Option (St)} (C : Cx clA R_M prog_9_method_40_code 12 D cs (mW a cs) Z p s m args c) (hE : ∀ (u2 : St) (H : Heap) (locs : List Loc) (ls : Array Slot), kx u2 = some F → Dy clA D (mW a cs) s H locs u2 → lv_has ls 12 [] → W p l e rm_M_methods s m args below meth c H locs 0 0 Q (F0 m 643 ls [])) (hQ : ∀ (H : Heap) (locs : List Loc) (pc : Nat) (ls : Array Slot) (u1 : St), Dy clA D (mW a cs) s H locs u1 → some u1 = some F → decode prog_9_method_40_code pc = .ok (.return_, 1) → W p l e rm_M_methods s m args below meth c H locs 0 0 Q (F0 m pc ls [])): ∀ (n : Nat) (u : St) (x2 : Int32) (H : Heap) (locs : List Loc) (ls : Array Slot), f_M_methods_L37 kx n u x2 = some F → Dy clA D (mW a cs) s H locs u → lv_has ls 12 [(0, .ref (a 0)), (2, .int x2)] → W p l e rm_M_methods s m args below meth c H locs 0 0 Q (F0 m 37 ls []) := by
  have hx := C.1.1
  have hb := C.1.2.1
  intro n
  induction n with
  | zero =>
    intro u x2 H locs ls hk I hl
    rw [f_M_methods_L37] at hk
    cases hk
  | succ n ih =>
    intro u x2 H locs ls hk I hl
    rw [f_M_methods_L37] at hk
    refine lv_iload_n hx hb d_M_methods_37 rfl (lv_at hl 1 rfl) ?_
    refine lv_aload_n hx hb d_M_methods_38 rfl (lv_at hl 0 rfl) ?_
    refine g_M_methods C I k_708 d_M_methods_39 ?_
    refine lv_icmp_ge (tgt := 643) hx hb d_M_methods_42 (by decide) (fun hc => ?_) (fun hc => ?_)
    · replace hk := it_u hc hk
      exact hE u _ _ _ hk I (lv_sub hl [] rfl)
    · replace hk := ie_u hc hk
      refine lv_aload_n hx hb d_M_methods_45 rfl (lv_at hl 0 rfl) ?_
      obtain ⟨r11, u9, h10, hk⟩ := cI_u hk
      refine go_I I (call_runV (rest := []) C I (c_M_ok C.2.2.2.1 C.2.2.2.2.1 l h10 _) wd_M_ok (q0 := 0) (ci := 7) rfl rfl k_834 ⟨rfl, rfl⟩ ⟨by decide, by decide⟩ rfl hl.1 rfl (Nat.le_of_ble_eq_true rfl) d_M_methods_46) (fun H locs I => ?_)
      refine lv_if_eq (tgt := 643) hx hb d_M_methods_49 (by decide) (fun hc => ?_) (fun hc => ?_)
      · replace hk := it_u hc hk
        exact hE u9 _ _ _ hk I (lv_sub hl [] rfl)
      · replace hk := ie_u hc hk
        refine lv_aload_n hx hb d_M_methods_52 rfl (lv_at hl 0 rfl) ?_
        refine g_M_at C I k_697 d_M_methods_53 ?_
        refine lv_istore_n (lv' := [(3, .int (u9.1 2)), (0, .ref (a 0)), (2, .int x2)]) hx hb d_M_methods_56 rfl hl (by decide) rfl (fun ls hl => ?_)
        refine lv_aload_n hx hb d_M_methods_57 rfl (lv_at hl 1 rfl) ?_
        obtain ⟨r14, u12, h13, hk⟩ := cI_u hk
        refine go_I I (call_runV (rest := []) C I (c_M_u2 C.2.2.2.1 C.2.2.2.2.1 l h13 _) wd_M_u2 (q0 := 0) (ci := 7) rfl rfl k_826 ⟨rfl, rfl⟩ ⟨by decide, by decide⟩ rfl hl.1 rfl (Nat.le_of_ble_eq_true rfl) d_M_methods_58) (fun H locs I => ?_)
        refine lv_istore (lv' := [(4, .int r14), (3, .int (u9.1 2)), (0, .ref (a 0)), (2, .int x2)]) hx hb d_M_methods_61 hl (by decide) rfl (fun ls hl => ?_)
        refine lv_aload_n hx hb d_M_methods_63 rfl (lv_at hl 2 rfl) ?_
        refine g_M_flags C I k_704 d_M_methods_64 ?_
        refine lv_sipush (v := 512) hx hb d_M_methods_67 (by decide) ?_
        refine lv_iand hx hb d_M_methods_70 ?_
        obtain ⟨z15, hj138, hk⟩ := bnd_u hk
        have Khj138 : ∀ (H : Heap) (locs : List Loc) (ls : Array Slot), Dy clA D (mW a cs) s H locs u12 → lv_has ls 12 [(0, .ref (a 0)), (2, .int x2), (3, .int (u9.1 2)), (4, .int r14)] → W p l e rm_M_methods s m args below meth c H locs 0 0 Q (F0 m 79 ls [.int z15]) := by
          intro H locs ls I hl
          refine lv_istore (lv' := [(5, .int z15), (0, .ref (a 0)), (2, .int x2), (3, .int (u9.1 2)), (4, .int r14)]) hx hb d_M_methods_79 hl (by decide) rfl (fun ls hl => ?_)
          refine lv_iload hx hb d_M_methods_81 (lv_at hl 4 rfl) ?_
          refine lv_sipush (v := (-1056)) hx hb d_M_methods_83 (by decide) ?_
          refine lv_iand hx hb d_M_methods_86 ?_
          obtain ⟨⟨z16, u17⟩, hj133, hk⟩ := cT_u hk
          have Khj133 : ∀ (H : Heap) (locs : List Loc) (ls : Array Slot), Dy clA D (mW a cs) s H locs u17 → lv_has ls 12 [(0, .ref (a 0)), (2, .int x2), (3, .int (u9.1 2)), (4, .int r14), (5, .int z15)] → W p l e rm_M_methods s m args below meth c H locs 0 0 Q (F0 m 120 ls [.int z16]) := by
            intro H locs ls I hl
            refine lv_istore (lv' := [(6, .int z16), (0, .ref (a 0)), (2, .int x2), (3, .int (u9.1 2)), (4, .int r14), (5, .int z15)]) hx hb d_M_methods_120 hl (by decide) rfl (fun ls hl => ?_)
            refine lv_iload hx hb d_M_methods_122 (lv_at hl 5 rfl) ?_
            obtain ⟨z18, hj130, hk⟩ := cT_u hk
            have Khj130 : ∀ (H : Heap) (locs : List Loc) (ls : Array Slot), Dy clA D (mW a cs) s H locs u17 → lv_has ls 12 [(0, .ref (a 0)), (2, .int x2), (3, .int (u9.1 2)), (4, .int r14), (5, .int z15), (6, .int z18)] → W p l e rm_M_methods s m args below meth c H locs 0 0 Q (F0 m 160 ls []) := by
              intro H locs ls I hl
              refine lv_iload hx hb d_M_methods_160 (lv_at hl 5 rfl) ?_
              refine lv_aload_n hx hb d_M_methods_162 rfl (lv_at hl 0 rfl) ?_
              refine g_M_flags C I k_704 d_M_methods_163 ?_
              refine lv_sipush (v := 1024) hx hb d_M_methods_166 (by decide) ?_
              refine lv_iand hx hb d_M_methods_169 ?_
              obtain ⟨z19, hj129, hk⟩ := bnd_u hk
              have Khj129 : ∀ (H : Heap) (locs : List Loc) (ls : Array Slot), Dy clA D (mW a cs) s H locs u17 → lv_has ls 12 [(0, .ref (a 0)), (2, .int x2), (3, .int (u9.1 2)), (4, .int r14), (5, .int z15)] → W p l e rm_M_methods s m args below meth c H locs 0 0 Q (F0 m 187 ls [.int z19, .int z18]) := by
                intro H locs ls I hl
                refine lv_iand hx hb d_M_methods_187 ?_
                refine lv_istore (lv' := [(6, .int (z18 &&& z19)), (0, .ref (a 0)), (2, .int x2), (3, .int (u9.1 2)), (4, .int r14), (5, .int z15)]) hx hb d_M_methods_188 hl (by decide) rfl (fun ls hl => ?_)
                refine lv_aload_n hx hb d_M_methods_190 rfl (lv_at hl 1 rfl) ?_
                refine lv_iload hx hb d_M_methods_191 (lv_at hl 0 rfl) ?_
                refine lv_bipush (v := 13) hx hb d_M_methods_193 (by decide) ?_
                refine lv_iload_n hx hb d_M_methods_195 rfl (lv_at hl 3 rfl) ?_
                obtain ⟨r22, u20, h21, hk⟩ := cI_u hk
                refine go_I I (call_runV (rest := []) C I (c_M_must C.2.2.2.1 C.2.2.2.2.1 l h21 _) wd_M_must (q0 := 0) (ci := 7) rfl rfl k_843 ⟨rfl, rfl⟩ ⟨by decide, by decide⟩ rfl hl.1 rfl (Nat.le_of_ble_eq_true rfl) d_M_methods_196) (fun H locs I => ?_)
                refine lv_if_ne (tgt := 203) hx hb d_M_methods_199 (by decide) (fun hc => ?_) (fun hc => ?_)
                · replace hk := ie_u hc hk
                  refine lv_aload_n hx hb d_M_methods_203 rfl (lv_at hl 1 rfl) ?_
                  refine g_M_at C I k_697 d_M_methods_204 ?_
                  refine lv_istore (lv' := [(7, .int (u20.1 2)), (6, .int (z18 &&& z19)), (0, .ref (a 0)), (2, .int x2), (3, .int (u9.1 2)), (4, .int r14), (5, .int z15)]) hx hb d_M_methods_207 hl (by decide) rfl (fun ls hl => ?_)
                  refine lv_aload_n hx hb d_M_methods_209 rfl (lv_at hl 2 rfl) ?_
                  refine g_M_names C I k_714 d_M_methods_210 ?_
                  refine lv_iload_n hx hb d_M_methods_213 rfl (lv_at hl 3 rfl) ?_
                  refine lv_aload_n hx hb d_M_methods_214 rfl (lv_at hl 2 rfl) ?_
                  refine lv_iconst (v := 1) hx hb d_M_methods_215 (by decide) ?_
                  obtain ⟨r25, u23, h24, hk⟩ := cI_u hk
                  refine go_I I (call_runV (rest := [.int x2, .ref (a 5)]) C I (c_M_number C.2.2.2.1 C.2.2.2.2.1 l h24 _) wd_M_number (q0 := 0) (ci := 7) rfl rfl k_929 ⟨rfl, rfl⟩ ⟨by decide, by decide⟩ rfl hl.1 rfl (Nat.le_of_ble_eq_true rfl) d_M_methods_216) (fun H locs I => ?_)
                  obtain ⟨hi, hk⟩ := gd_u hk
                  refine s_M_names C I hi d_M_methods_219 (fun H locs I => ?_)
                  obtain ⟨u26, hu, hk⟩ := bnd_u hk
                  rw [hu] at I
                  clear hu
                  refine lv_aload_n hx hb d_M_methods_220 rfl (lv_at hl 2 rfl) ?_
                  obtain ⟨r29, u27, h28, hk⟩ := cI_u hk
                  refine go_I I (call_runV (rest := []) C I (c_M_ok C.2.2.2.1 C.2.2.2.2.1 l h28 _) wd_M_ok (q0 := 0) (ci := 7) rfl rfl k_834 ⟨rfl, rfl⟩ ⟨by decide, by decide⟩ rfl hl.1 rfl (Nat.le_of_ble_eq_true rfl) d_M_methods_221) (fun H locs I => ?_)
                  obtain ⟨⟨z30, u31⟩, hj124, hk⟩ := cT_u hk
                  have Khj124 : ∀ (H : Heap) (locs : List Loc) (ls : Array Slot), Dy clA D (mW a cs) s H locs u31 → lv_has ls 12 [(0, .ref (a 0)), (2, .int x2), (3, .int (u9.1 2)), (4, .int r14), (5, .int z15), (7, .int (u20.1 2))] → W p l e rm_M_methods s m args below meth c H locs 0 0 Q (F0 m 252 ls [.int z30]) := by
                    intro H locs ls I hl
                    refine lv_istore (lv' := [(8, .int z30), (0, .ref (a 0)), (2, .int x2), (3, .int (u9.1 2)), (4, .int r14), (5, .int z15), (7, .int (u20.1 2))]) hx hb d_M_methods_252 hl (by decide) rfl (fun ls hl => ?_)
                    refine lv_aload_n hx hb d_M_methods_254 rfl (lv_at hl 1 rfl) ?_
                    obtain ⟨r34, u32, h33, hk⟩ := cI_u hk
                    refine go_I I (call_runV (rest := []) C I (c_M_ok C.2.2.2.1 C.2.2.2.2.1 l h33 _) wd_M_ok (q0 := 0) (ci := 7) rfl rfl k_834 ⟨rfl, rfl⟩ ⟨by decide, by decide⟩ rfl hl.1 rfl (Nat.le_of_ble_eq_true rfl) d_M_methods_255) (fun H locs I => ?_)
                    obtain ⟨⟨z35, u36⟩, hj119, hk⟩ := cT_u hk
                    have Khj119 : ∀ (H : Heap) (locs : List Loc) (ls : Array Slot), Dy clA D (mW a cs) s H locs u36 → lv_has ls 12 [(0, .ref (a 0)), (2, .int x2), (3, .int (u9.1 2)), (4, .int r14), (5, .int z15), (7, .int (u20.1 2)), (8, .int z30)] → W p l e rm_M_methods s m args below meth c H locs 0 0 Q (F0 m 286 ls [.int z35]) := by
                      intro H locs ls I hl
                      refine lv_istore (lv' := [(9, .int z35), (0, .ref (a 0)), (2, .int x2), (3, .int (u9.1 2)), (4, .int r14), (5, .int z15), (7, .int (u20.1 2)), (8, .int z30)]) hx hb d_M_methods_286 hl (by decide) rfl (fun ls hl => ?_)
                      refine lv_aload_n hx hb d_M_methods_288 rfl (lv_at hl 1 rfl) ?_
                      obtain ⟨r39, u37, h38, hk⟩ := cI_u hk
                      refine go_I I (call_runV (rest := []) C I (c_M_ok C.2.2.2.1 C.2.2.2.2.1 l h38 _) wd_M_ok (q0 := 0) (ci := 7) rfl rfl k_834 ⟨rfl, rfl⟩ ⟨by decide, by decide⟩ rfl hl.1 rfl (Nat.le_of_ble_eq_true rfl) d_M_methods_289) (fun H locs I => ?_)
                      refine lv_if_eq (tgt := 334) hx hb d_M_methods_292 (by decide) (fun hc => ?_) (fun hc => ?_)
                      · replace hk := it_u hc hk
                        exact hQ _ _ _ _ _ I hk d_M_methods_334
                      · replace hk := ie_u hc hk
                        refine lv_aload_n hx hb d_M_methods_295 rfl (lv_at hl 1 rfl) ?_
                        refine lv_iload hx hb d_M_methods_296 (lv_at hl 7 rfl) ?_
                        obtain ⟨⟨z40, u41⟩, hj114, hk⟩ := cT_u hk
                        have Khj114 : ∀ (H : Heap) (locs : List Loc) (ls : Array Slot), Dy clA D (mW a cs) s H locs u41 → lv_has ls 12 [(0, .ref (a 0)), (2, .int x2), (3, .int (u9.1 2)), (4, .int r14), (5, .int z15), (7, .int (u20.1 2)), (8, .int z30), (9, .int z35)] → W p l e rm_M_methods s m args below meth c H locs 0 0 Q (F0 m 324 ls [.int z40, .ref (a 0)]) := by
                          intro H locs ls I hl
                          refine lv_bipush (v := 9) hx hb d_M_methods_324 (by decide) ?_
                          refine lv_iload hx hb d_M_methods_326 (lv_at hl 5 rfl) ?_
                          obtain ⟨r44, u42, h43, hk⟩ := cI_u hk
                          refine go_I I (call_runV (rest := []) C I (c_M_must C.2.2.2.1 C.2.2.2.2.1 l h43 _) wd_M_must (q0 := 0) (ci := 7) rfl rfl k_843 ⟨rfl, rfl⟩ ⟨by decide, by decide⟩ rfl hl.1 rfl (Nat.le_of_ble_eq_true rfl) d_M_methods_328) (fun H locs I => ?_)
                          refine lv_if_ne (tgt := 335) hx hb d_M_methods_331 (by decide) (fun hc => ?_) (fun hc => ?_)
                          · replace hk := ie_u hc hk
                            refine lv_aload_n hx hb d_M_methods_335 rfl (lv_at hl 0 rfl) ?_
                            refine g_M_at C I k_697 d_M_methods_336 ?_
                            refine lv_istore_n (lv' := [(1, .int (u42.1 2)), (0, .ref (a 0)), (2, .int x2), (3, .int (u9.1 2)), (4, .int r14), (5, .int z15), (7, .int (u20.1 2)), (8, .int z30), (9, .int z35)]) hx hb d_M_methods_339 rfl hl (by decide) rfl (fun ls hl => ?_)
                            refine lv_aload_n hx hb d_M_methods_340 rfl (lv_at hl 1 rfl) ?_
                            refine g_M_types C I k_715 d_M_methods_341 ?_
                            refine lv_iload_n hx hb d_M_methods_344 rfl (lv_at hl 2 rfl) ?_
                            refine lv_aload_n hx hb d_M_methods_345 rfl (lv_at hl 1 rfl) ?_
                            refine lv_iconst (v := 1) hx hb d_M_methods_346 (by decide) ?_
                            obtain ⟨r47, u45, h46, hk⟩ := cI_u hk
                            refine go_I I (call_runV (rest := [.int x2, .ref (a 6)]) C I (c_M_number C.2.2.2.1 C.2.2.2.2.1 l h46 _) wd_M_number (q0 := 0) (ci := 7) rfl rfl k_929 ⟨rfl, rfl⟩ ⟨by decide, by decide⟩ rfl hl.1 rfl (Nat.le_of_ble_eq_true rfl) d_M_methods_347) (fun H locs I => ?_)
                            obtain ⟨hi, hk⟩ := gd_u hk
                            refine s_M_types C I hi d_M_methods_350 (fun H locs I => ?_)
                            obtain ⟨u48, hu, hk⟩ := bnd_u hk
                            rw [hu] at I
                            clear hu
                            refine lv_aload_n hx hb d_M_methods_351 rfl (lv_at hl 1 rfl) ?_
                            obtain ⟨r51, u49, h50, hk⟩ := cI_u hk
                            refine go_I I (call_runV (rest := []) C I (c_M_ok C.2.2.2.1 C.2.2.2.2.1 l h50 _) wd_M_ok (q0 := 0) (ci := 7) rfl rfl k_834 ⟨rfl, rfl⟩ ⟨by decide, by decide⟩ rfl hl.1 rfl (Nat.le_of_ble_eq_true rfl) d_M_methods_352) (fun H locs I => ?_)
                            refine lv_if_eq (tgt := 400) hx hb d_M_methods_355 (by decide) (fun hc => ?_) (fun hc => ?_)
                            · replace hk := it_u hc hk
                              exact hQ _ _ _ _ _ I hk d_M_methods_400
                            · replace hk := ie_u hc hk
                              refine lv_aload_n hx hb d_M_methods_358 rfl (lv_at hl 1 rfl) ?_
                              refine lv_aload_n hx hb d_M_methods_359 rfl (lv_at hl 1 rfl) ?_
                              refine lv_aload_n hx hb d_M_methods_360 rfl (lv_at hl 1 rfl) ?_
                              refine g_M_types C I k_715 d_M_methods_361 ?_
                              refine lv_iload_n hx hb d_M_methods_364 rfl (lv_at hl 2 rfl) ?_
                              obtain ⟨hi, hk⟩ := gd_u hk
                              refine l_M_types C I hi d_M_methods_365 ?_
                              obtain ⟨r54, u52, h53, hk⟩ := cI_u hk
                              refine go_I I (call_runV (rest := [.ref (a 0)]) C I (c_M_isMethod C.2.2.2.1 C.2.2.2.2.1 l h53 _) wd_M_isMethod (q0 := 0) (ci := 7) rfl rfl k_909 ⟨rfl, rfl⟩ ⟨by decide, by decide⟩ rfl hl.1 rfl (Nat.le_of_ble_eq_true rfl) d_M_methods_366) (fun H locs I => ?_)
                              refine lv_bipush (v := 11) hx hb d_M_methods_369 (by decide) ?_
                              refine lv_iload_n hx hb d_M_methods_371 rfl (lv_at hl 0 rfl) ?_
                              obtain ⟨r57, u55, h56, hk⟩ := cI_u hk
                              refine go_I I (call_runV (rest := []) C I (c_M_must C.2.2.2.1 C.2.2.2.2.1 l h56 _) wd_M_must (q0 := 0) (ci := 7) rfl rfl k_843 ⟨rfl, rfl⟩ ⟨by decide, by decide⟩ rfl hl.1 rfl (Nat.le_of_ble_eq_true rfl) d_M_methods_372) (fun H locs I => ?_)
                              refine lv_if_eq (tgt := 400) hx hb d_M_methods_375 (by decide) (fun hc => ?_) (fun hc => ?_)
                              · replace hk := it_u hc hk
                                exact hQ _ _ _ _ _ I hk d_M_methods_400
                              · replace hk := ie_u hc hk
                                refine lv_aload_n hx hb d_M_methods_378 rfl (lv_at hl 1 rfl) ?_
                                refine lv_aload_n hx hb d_M_methods_379 rfl (lv_at hl 1 rfl) ?_
                                refine g_M_real C I k_723 d_M_methods_380 ?_
                                obtain ⟨z58, hj113, hk⟩ := bnd_u hk
                                have Khj113 : ∀ (H : Heap) (locs : List Loc) (ls : Array Slot), Dy clA D (mW a cs) s H locs u55 → lv_has ls 12 [(0, .ref (a 0)), (1, .int (u42.1 2)), (2, .int x2), (3, .int (u9.1 2)), (4, .int r14), (5, .int z15), (7, .int (u20.1 2)), (8, .int z30), (9, .int z35)] → W p l e rm_M_methods s m args below meth c H locs 0 0 Q (F0 m 391 ls [.int z58, .ref (a 0)]) := by
                                  intro H locs ls I hl
                                  refine lv_bipush (v := 12) hx hb d_M_methods_391 (by decide) ?_
                                  refine lv_iload_n hx hb d_M_methods_393 rfl (lv_at hl 1 rfl) ?_
                                  obtain ⟨r61, u59, h60, hk⟩ := cI_u hk
                                  refine go_I I (call_runV (rest := []) C I (c_M_must C.2.2.2.1 C.2.2.2.2.1 l h60 _) wd_M_must (q0 := 0) (ci := 7) rfl rfl k_843 ⟨rfl, rfl⟩ ⟨by decide, by decide⟩ rfl hl.1 rfl (Nat.le_of_ble_eq_true rfl) d_M_methods_394) (fun H locs I => ?_)
                                  refine lv_if_ne (tgt := 401) hx hb d_M_methods_397 (by decide) (fun hc => ?_) (fun hc => ?_)
                                  · replace hk := ie_u hc hk
                                    refine lv_aload_n hx hb d_M_methods_401 rfl (lv_at hl 0 rfl) ?_
                                    refine g_M_slots C I k_724 d_M_methods_402 ?_
                                    refine lv_istore (lv' := [(10, .int (u59.1 19)), (0, .ref (a 0)), (1, .int (u42.1 2)), (2, .int x2), (3, .int (u9.1 2)), (4, .int r14), (5, .int z15), (7, .int (u20.1 2)), (8, .int z30), (9, .int z35)]) hx hb d_M_methods_405 hl (by decide) rfl (fun ls hl => ?_)
                                    refine lv_iload hx hb d_M_methods_407 (lv_at hl 8 rfl) ?_
                                    obtain ⟨u62, hj102, hk⟩ := cT_u hk
                                    have Khj102 : ∀ (H : Heap) (locs : List Loc) (ls : Array Slot), Dy clA D (mW a cs) s H locs u62 → lv_has ls 12 [(0, .ref (a 0)), (2, .int x2), (3, .int (u9.1 2)), (4, .int r14), (7, .int (u20.1 2)), (9, .int z35), (10, .int (u59.1 19))] → W p l e rm_M_methods s m args below meth c H locs 0 0 Q (F0 m 453 ls []) := by
                                      intro H locs ls I hl
                                      refine lv_iload hx hb d_M_methods_453 (lv_at hl 5 rfl) ?_
                                      obtain ⟨u63, hj91, hk⟩ := cT_u hk
                                      have Khj91 : ∀ (H : Heap) (locs : List Loc) (ls : Array Slot), Dy clA D (mW a cs) s H locs u63 → lv_has ls 12 [(0, .ref (a 0)), (2, .int x2), (3, .int (u9.1 2)), (4, .int r14), (10, .int (u59.1 19))] → W p l e rm_M_methods s m args below meth c H locs 0 0 Q (F0 m 498 ls []) := by
                                        intro H locs ls I hl
                                        refine lv_iconst (v := 0) hx hb d_M_methods_498 (by decide) ?_
                                        refine lv_istore (lv' := [(11, .int 0), (0, .ref (a 0)), (2, .int x2), (3, .int (u9.1 2)), (4, .int r14), (10, .int (u59.1 19))]) hx hb d_M_methods_499 hl (by decide) rfl (fun ls hl => ?_)
                                        obtain ⟨u77, hj90, hk⟩ := cT_u hk
                                        refine w_M_methods_L501 C (fun H locs ls I hl => ?_) FU u63 0 _ _ _ hj90 I (lv_sub hl [1, 2, 3, 4, 5, 0] rfl)
                                        refine lv_iconst (v := 0) hx hb d_M_methods_566 (by decide) ?_
                                        refine lv_istore (lv' := [(11, .int 0), (0, .ref (a 0)), (2, .int x2), (3, .int (u9.1 2)), (4, .int r14), (10, .int (u59.1 19))]) hx hb d_M_methods_567 hl (by decide) rfl (fun ls hl => ?_)
                                        obtain ⟨u79, hj89, hk⟩ := cT_u hk
                                        refine w_M_methods_L569 C (fun H locs ls I hl => ?_) FU u77 0 _ _ _ hj89 I (lv_sub hl [1, 2, 3, 4, 5, 0] rfl)
                                        refine lv_aload_n hx hb d_M_methods_595 rfl (lv_at hl 0 rfl) ?_
                                        refine g_M_facts C I k_713 d_M_methods_596 ?_
                                        refine lv_bipush (v := 6) hx hb d_M_methods_599 (by decide) ?_
                                        refine lv_iload_n hx hb d_M_methods_601 rfl (lv_at hl 1 rfl) ?_
                                        refine lv_imul hx hb d_M_methods_602 ?_
                                        refine lv_iconst (v := 0) hx hb d_M_methods_603 (by decide) ?_
                                        refine lv_iadd hx hb d_M_methods_604 ?_
                                        refine lv_iload hx hb d_M_methods_605 (lv_at hl 3 rfl) ?_
                                        obtain ⟨hi, hk⟩ := gd_u hk
                                        refine s_M_facts C I hi d_M_methods_607 (fun H locs I => ?_)
                                        obtain ⟨u80, hu, hk⟩ := bnd_u hk
                                        rw [hu] at I
                                        clear hu
                                        refine lv_aload_n hx hb d_M_methods_608 rfl (lv_at hl 0 rfl) ?_
                                        refine g_M_facts C I k_713 d_M_methods_609 ?_
                                        refine lv_bipush (v := 6) hx hb d_M_methods_612 (by decide) ?_
                                        refine lv_iload_n hx hb d_M_methods_614 rfl (lv_at hl 1 rfl) ?_
                                        refine lv_imul hx hb d_M_methods_615 ?_
                                        refine lv_iconst (v := 1) hx hb d_M_methods_616 (by decide) ?_
                                        refine lv_iadd hx hb d_M_methods_617 ?_
                                        refine lv_iload hx hb d_M_methods_618 (lv_at hl 4 rfl) ?_
                                        obtain ⟨hi, hk⟩ := gd_u hk
                                        refine s_M_facts C I hi d_M_methods_620 (fun H locs I => ?_)
                                        obtain ⟨u81, hu, hk⟩ := bnd_u hk
                                        rw [hu] at I
                                        clear hu
                                        refine lv_aload_n hx hb d_M_methods_621 rfl (lv_at hl 0 rfl) ?_
                                        obtain ⟨r84, u82, h83, hk⟩ := cI_u hk
                                        refine go_I I (call_runV (rest := []) C I (c_M_ok C.2.2.2.1 C.2.2.2.2.1 l h83 _) wd_M_ok (q0 := 0) (ci := 7) rfl rfl k_834 ⟨rfl, rfl⟩ ⟨by decide, by decide⟩ rfl hl.1 rfl (Nat.le_of_ble_eq_true rfl) d_M_methods_622) (fun H locs I => ?_)
                                        obtain ⟨u85, hj86, hk⟩ := cT_u hk
                                        have Khj86 : ∀ (H : Heap) (locs : List Loc) (ls : Array Slot), Dy clA D (mW a cs) s H locs u85 → lv_has ls 12 [(0, .ref (a 0)), (2, .int x2)] → W p l e rm_M_methods s m args below meth c H locs 0 0 Q (F0 m 637 ls []) := by
                                          intro H locs ls I hl
                                          refine lv_iinc (v := (x2 + 1)) (lv' := [(2, .int (x2 + 1)), (0, .ref (a 0))]) hx hb d_M_methods_637 hl (k := 1) rfl rfl (by decide) rfl (fun ls hl => ?_)
                                          refine lv_goto (tgt := 37) hx hb d_M_methods_640 (by decide) ?_
                                          exact ih u85 (x2 + 1) _ _ _ hk I (lv_sub hl [1, 0] rfl)
                                        refine lv_if_eq (tgt := 637) hx hb d_M_methods_625 (by decide) (fun hc => ?_) (fun hc => ?_)
                                        · replace hj86 := it_u hc hj86
                                          cases hj86
                                          exact Khj86 _ _ _ I (lv_sub hl [0, 1] rfl)
                                        · replace hj86 := ie_u hc hj86
                                          refine lv_aload_n hx hb d_M_methods_628 rfl (lv_at hl 0 rfl) ?_
                                          refine lv_iconst (v := 2) hx hb d_M_methods_629 (by decide) ?_
                                          refine lv_iload hx hb d_M_methods_630 (lv_at hl 3 rfl) ?_
                                          refine lv_iload_n hx hb d_M_methods_632 rfl (lv_at hl 1 rfl) ?_
                                          refine lv_iload_n hx hb d_M_methods_633 rfl (lv_at hl 2 rfl) ?_
                                          obtain ⟨u87, h88, hj86⟩ := cV_u hj86
                                          refine go_V I (call_runV (rest := []) C I (c_M_attributes C.2.2.2.1 C.2.2.2.2.1 l h88 _) wd_M_attributes (q0 := 0) (ci := 7) rfl rfl k_954 ⟨rfl, rfl⟩ ⟨by decide, by decide⟩ rfl hl.1 rfl (Nat.le_of_ble_eq_true rfl) d_M_methods_634) (fun H locs I => ?_)
                                          cases hj86
                                          exact Khj86 _ _ _ I (lv_sub hl [0, 1] rfl)
                                      refine lv_if_eq (tgt := 498) hx hb d_M_methods_455 (by decide) (fun hc => ?_) (fun hc => ?_)
                                      · replace hj91 := it_u hc hj91
                                        cases hj91
                                        exact Khj91 _ _ _ I (lv_sub hl [0, 1, 2, 3, 6] rfl)
                                      · replace hj91 := ie_u hc hj91
                                        refine lv_aload_n hx hb d_M_methods_458 rfl (lv_at hl 0 rfl) ?_
                                        refine lv_iload hx hb d_M_methods_459 (lv_at hl 3 rfl) ?_
                                        refine lv_bipush (v := 8) hx hb d_M_methods_461 (by decide) ?_
                                        obtain ⟨⟨z92, u93⟩, hj97, hj91⟩ := cT_u hj91
                                        have Khj97 : ∀ (H : Heap) (locs : List Loc) (ls : Array Slot), Dy clA D (mW a cs) s H locs u93 → lv_has ls 12 [(0, .ref (a 0)), (2, .int x2), (3, .int (u9.1 2)), (4, .int r14), (7, .int (u20.1 2)), (10, .int (u59.1 19))] → W p l e rm_M_methods s m args below meth c H locs 0 0 Q (F0 m 490 ls [.int z92, .ref (a 0)]) := by
                                          intro H locs ls I hl
                                          refine lv_bipush (v := 17) hx hb d_M_methods_490 (by decide) ?_
                                          refine lv_iload hx hb d_M_methods_492 (lv_at hl 4 rfl) ?_
                                          obtain ⟨r96, u94, h95, hj91⟩ := cI_u hj91
                                          refine go_I I (call_runV (rest := []) C I (c_M_must C.2.2.2.1 C.2.2.2.2.1 l h95 _) wd_M_must (q0 := 0) (ci := 7) rfl rfl k_843 ⟨rfl, rfl⟩ ⟨by decide, by decide⟩ rfl hl.1 rfl (Nat.le_of_ble_eq_true rfl) d_M_methods_494) (fun H locs I => ?_)
                                          refine lv_pop hx hb d_M_methods_497 rfl ?_
                                          cases hj91
                                          exact Khj91 _ _ _ I (lv_sub hl [0, 1, 2, 3, 5] rfl)
                                        refine lv_icmp_ne (tgt := 489) hx hb d_M_methods_463 (by decide) (fun hc => ?_) (fun hc => ?_)
                                        · replace hj97 := ie_u hc hj97
                                          refine lv_iconst (v := 0) hx hb d_M_methods_489 (by decide) ?_
                                          cases hj97
                                          exact Khj97 _ _ _ I (lv_sub hl [0, 1, 2, 3, 4, 6] rfl)
                                        · replace hj97 := it_u hc hj97
                                          refine lv_aload_n hx hb d_M_methods_466 rfl (lv_at hl 0 rfl) ?_
                                          refine lv_aload_n hx hb d_M_methods_467 rfl (lv_at hl 0 rfl) ?_
                                          refine g_M_types C I k_715 d_M_methods_468 ?_
                                          refine lv_iload_n hx hb d_M_methods_471 rfl (lv_at hl 1 rfl) ?_
                                          obtain ⟨hi, hj97⟩ := gd_u hj97
                                          refine l_M_types C I hi d_M_methods_472 ?_
                                          refine lv_iconst (v := 3) hx hb d_M_methods_473 (by decide) ?_
                                          refine lv_ldc2 hx hb C.1.2.2.2 (C.2.1 _ k_1044) d_M_methods_474 ?_
                                          refine lv_lconst (v := 0) hx hb d_M_methods_477 (by decide) ?_
                                          refine lv_lconst (v := 0) hx hb d_M_methods_478 (by decide) ?_
                                          obtain ⟨r100, u98, h99, hj97⟩ := cI_u hj97
                                          refine go_I I (call_runV (rest := [.ref (a 0)]) C I (c_M_is C.2.2.2.1 C.2.2.2.2.1 l h99 _) wd_M_is (q0 := 0) (ci := 7) rfl rfl k_903 ⟨rfl, rfl⟩ ⟨by decide, by decide⟩ rfl hl.1 rfl (Nat.le_of_ble_eq_true rfl) d_M_methods_479) (fun H locs I => ?_)
                                          refine lv_if_eq (tgt := 489) hx hb d_M_methods_482 (by decide) (fun hc => ?_) (fun hc => ?_)
                                          · replace hj97 := it_u hc hj97
                                            refine lv_iconst (v := 0) hx hb d_M_methods_489 (by decide) ?_
                                            cases hj97
                                            exact Khj97 _ _ _ I (lv_sub hl [0, 1, 2, 3, 4, 6] rfl)
                                          · replace hj97 := ie_u hc hj97
                                            refine lv_iconst (v := 1) hx hb d_M_methods_485 (by decide) ?_
                                            refine lv_goto (tgt := 490) hx hb d_M_methods_486 (by decide) ?_
                                            cases hj97
                                            exact Khj97 _ _ _ I (lv_sub hl [0, 1, 2, 3, 4, 6] rfl)
                                    refine lv_if_eq (tgt := 453) hx hb d_M_methods_409 (by decide) (fun hc => ?_) (fun hc => ?_)
                                    · replace hj102 := it_u hc hj102
                                      cases hj102
                                      exact Khj102 _ _ _ I (lv_sub hl [1, 3, 4, 5, 7, 9, 0] rfl)
                                    · replace hj102 := ie_u hc hj102
                                      refine lv_aload_n hx hb d_M_methods_412 rfl (lv_at hl 1 rfl) ?_
                                      refine lv_iload hx hb d_M_methods_413 (lv_at hl 6 rfl) ?_
                                      obtain ⟨⟨z103, u104⟩, hj108, hj102⟩ := cT_u hj102
                                      have Khj108 : ∀ (H : Heap) (locs : List Loc) (ls : Array Slot), Dy clA D (mW a cs) s H locs u104 → lv_has ls 12 [(0, .ref (a 0)), (2, .int x2), (3, .int (u9.1 2)), (4, .int r14), (7, .int (u20.1 2)), (9, .int z35), (10, .int (u59.1 19))] → W p l e rm_M_methods s m args below meth c H locs 0 0 Q (F0 m 445 ls [.int z103, .ref (a 0)]) := by
                                        intro H locs ls I hl
                                        refine lv_bipush (v := 17) hx hb d_M_methods_445 (by decide) ?_
                                        refine lv_iload hx hb d_M_methods_447 (lv_at hl 4 rfl) ?_
                                        obtain ⟨r107, u105, h106, hj102⟩ := cI_u hj102
                                        refine go_I I (call_runV (rest := []) C I (c_M_must C.2.2.2.1 C.2.2.2.2.1 l h106 _) wd_M_must (q0 := 0) (ci := 7) rfl rfl k_843 ⟨rfl, rfl⟩ ⟨by decide, by decide⟩ rfl hl.1 rfl (Nat.le_of_ble_eq_true rfl) d_M_methods_449) (fun H locs I => ?_)
                                        refine lv_pop hx hb d_M_methods_452 rfl ?_
                                        cases hj102
                                        exact Khj102 _ _ _ I (lv_sub hl [0, 1, 2, 3, 4, 5, 6] rfl)
                                      refine lv_if_ne (tgt := 444) hx hb d_M_methods_415 (by decide) (fun hc => ?_) (fun hc => ?_)
                                      · replace hj108 := ie_u hc hj108
                                        refine lv_iconst (v := 0) hx hb d_M_methods_444 (by decide) ?_
                                        cases hj108
                                        exact Khj108 _ _ _ I (lv_sub hl [1, 3, 4, 5, 7, 9, 0] rfl)
                                      · replace hj108 := it_u hc hj108
                                        refine lv_aload_n hx hb d_M_methods_418 rfl (lv_at hl 1 rfl) ?_
                                        refine lv_aload_n hx hb d_M_methods_419 rfl (lv_at hl 1 rfl) ?_
                                        refine g_M_types C I k_715 d_M_methods_420 ?_
                                        refine lv_iload_n hx hb d_M_methods_423 rfl (lv_at hl 3 rfl) ?_
                                        obtain ⟨hi, hj108⟩ := gd_u hj108
                                        refine l_M_types C I hi d_M_methods_424 ?_
                                        obtain ⟨r111, u109, h110, hj108⟩ := cI_u hj108
                                        refine go_I I (call_runV (rest := [.ref (a 0)]) C I (c_M_isVoid C.2.2.2.1 C.2.2.2.2.1 l h110 _) wd_M_isVoid (q0 := 0) (ci := 7) rfl rfl k_921 ⟨rfl, rfl⟩ ⟨by decide, by decide⟩ rfl hl.1 rfl (Nat.le_of_ble_eq_true rfl) d_M_methods_425) (fun H locs I => ?_)
                                        refine lv_if_eq (tgt := 444) hx hb d_M_methods_428 (by decide) (fun hc => ?_) (fun hc => ?_)
                                        · replace hj108 := it_u hc hj108
                                          refine lv_iconst (v := 0) hx hb d_M_methods_444 (by decide) ?_
                                          cases hj108
                                          exact Khj108 _ _ _ I (lv_sub hl [1, 3, 4, 5, 7, 9, 0] rfl)
                                        · replace hj108 := ie_u hc hj108
                                          refine lv_iload hx hb d_M_methods_431 (lv_at hl 5 rfl) ?_
                                          refine lv_sipush (v := 1048) hx hb d_M_methods_433 (by decide) ?_
                                          refine lv_iand hx hb d_M_methods_436 ?_
                                          refine lv_if_ne (tgt := 444) hx hb d_M_methods_437 (by decide) (fun hc => ?_) (fun hc => ?_)
                                          · replace hj108 := ie_u hc hj108
                                            refine lv_iconst (v := 0) hx hb d_M_methods_444 (by decide) ?_
                                            cases hj108
                                            exact Khj108 _ _ _ I (lv_sub hl [1, 3, 4, 5, 7, 9, 0] rfl)
                                          · replace hj108 := it_u hc hj108
                                            refine lv_iconst (v := 1) hx hb d_M_methods_440 (by decide) ?_
                                            refine lv_goto (tgt := 445) hx hb d_M_methods_441 (by decide) ?_
                                            cases hj108
                                            exact Khj108 _ _ _ I (lv_sub hl [1, 3, 4, 5, 7, 9, 0] rfl)
                                  · replace hk := it_u hc hk
                                    exact hQ _ _ _ _ _ I hk d_M_methods_400
                                refine lv_if_ne (tgt := 390) hx hb d_M_methods_383 (by decide) (fun hc => ?_) (fun hc => ?_)
                                · replace hj113 := ie_u hc hj113
                                  refine lv_iconst (v := 0) hx hb d_M_methods_390 (by decide) ?_
                                  cases hj113
                                  exact Khj113 _ _ _ I (lv_sub hl [1, 0, 2, 3, 4, 5, 6, 7, 8] rfl)
                                · replace hj113 := it_u hc hj113
                                  refine lv_iconst (v := 1) hx hb d_M_methods_386 (by decide) ?_
                                  refine lv_goto (tgt := 391) hx hb d_M_methods_387 (by decide) ?_
                                  cases hj113
                                  exact Khj113 _ _ _ I (lv_sub hl [1, 0, 2, 3, 4, 5, 6, 7, 8] rfl)
                          · replace hk := it_u hc hk
                            exact hQ _ _ _ _ _ I hk d_M_methods_334
                        refine lv_if_ne (tgt := 319) hx hb d_M_methods_298 (by decide) (fun hc => ?_) (fun hc => ?_)
                        · replace hj114 := ie_u hc hj114
                          refine lv_iconst (v := 1) hx hb d_M_methods_319 (by decide) ?_
                          refine lv_goto (tgt := 324) hx hb d_M_methods_320 (by decide) ?_
                          cases hj114
                          exact Khj114 _ _ _ I (lv_sub hl [1, 2, 3, 4, 5, 6, 7, 0] rfl)
                        · replace hj114 := it_u hc hj114
                          refine lv_iload hx hb d_M_methods_301 (lv_at hl 0 rfl) ?_
                          refine lv_if_ne (tgt := 319) hx hb d_M_methods_303 (by decide) (fun hc => ?_) (fun hc => ?_)
                          · replace hj114 := ie_u hc hj114
                            refine lv_iconst (v := 1) hx hb d_M_methods_319 (by decide) ?_
                            refine lv_goto (tgt := 324) hx hb d_M_methods_320 (by decide) ?_
                            cases hj114
                            exact Khj114 _ _ _ I (lv_sub hl [1, 2, 3, 4, 5, 6, 7, 0] rfl)
                          · replace hj114 := it_u hc hj114
                            refine lv_aload_n hx hb d_M_methods_306 rfl (lv_at hl 1 rfl) ?_
                            refine lv_aload_n hx hb d_M_methods_307 rfl (lv_at hl 1 rfl) ?_
                            refine g_M_names C I k_714 d_M_methods_308 ?_
                            refine lv_iload_n hx hb d_M_methods_311 rfl (lv_at hl 2 rfl) ?_
                            obtain ⟨hi, hj114⟩ := gd_u hj114
                            refine l_M_names C I hi d_M_methods_312 ?_
                            obtain ⟨r117, u115, h116, hj114⟩ := cI_u hj114
                            refine go_I I (call_runV (rest := [.ref (a 0)]) C I (c_M_isPlainName C.2.2.2.1 C.2.2.2.2.1 l h116 _) wd_M_isPlainName (q0 := 0) (ci := 7) rfl rfl k_898 ⟨rfl, rfl⟩ ⟨by decide, by decide⟩ rfl hl.1 rfl (Nat.le_of_ble_eq_true rfl) d_M_methods_313) (fun H locs I => ?_)
                            refine lv_if_eq (tgt := 323) hx hb d_M_methods_316 (by decide) (fun hc => ?_) (fun hc => ?_)
                            · replace hj114 := it_u hc hj114
                              refine lv_iconst (v := 0) hx hb d_M_methods_323 (by decide) ?_
                              cases hj114
                              exact Khj114 _ _ _ I (lv_sub hl [1, 2, 3, 4, 5, 6, 7, 0] rfl)
                            · replace hj114 := ie_u hc hj114
                              refine lv_iconst (v := 1) hx hb d_M_methods_319 (by decide) ?_
                              refine lv_goto (tgt := 324) hx hb d_M_methods_320 (by decide) ?_
                              cases hj114
                              exact Khj114 _ _ _ I (lv_sub hl [1, 2, 3, 4, 5, 6, 7, 0] rfl)
                    refine lv_if_eq (tgt := 285) hx hb d_M_methods_258 (by decide) (fun hc => ?_) (fun hc => ?_)
                    · replace hj119 := it_u hc hj119
                      refine lv_iconst (v := 0) hx hb d_M_methods_285 (by decide) ?_
                      cases hj119
                      exact Khj119 _ _ _ I (lv_sub hl [1, 2, 3, 4, 5, 6, 0] rfl)
                    · replace hj119 := ie_u hc hj119
                      refine lv_aload_n hx hb d_M_methods_261 rfl (lv_at hl 1 rfl) ?_
                      refine lv_aload_n hx hb d_M_methods_262 rfl (lv_at hl 1 rfl) ?_
                      refine g_M_names C I k_714 d_M_methods_263 ?_
                      refine lv_iload_n hx hb d_M_methods_266 rfl (lv_at hl 2 rfl) ?_
                      obtain ⟨hi, hj119⟩ := gd_u hj119
                      refine l_M_names C I hi d_M_methods_267 ?_
                      refine lv_bipush (v := 8) hx hb d_M_methods_268 (by decide) ?_
                      refine lv_ldc2 hx hb C.1.2.2.2 (C.2.1 _ k_908) d_M_methods_270 ?_
                      refine lv_lconst (v := 0) hx hb d_M_methods_273 (by decide) ?_
                      refine lv_lconst (v := 0) hx hb d_M_methods_274 (by decide) ?_
                      obtain ⟨r122, u120, h121, hj119⟩ := cI_u hj119
                      refine go_I I (call_runV (rest := []) C I (c_M_is C.2.2.2.1 C.2.2.2.2.1 l h121 _) wd_M_is (q0 := 0) (ci := 7) rfl rfl k_903 ⟨rfl, rfl⟩ ⟨by decide, by decide⟩ rfl hl.1 rfl (Nat.le_of_ble_eq_true rfl) d_M_methods_275) (fun H locs I => ?_)
                      refine lv_if_eq (tgt := 285) hx hb d_M_methods_278 (by decide) (fun hc => ?_) (fun hc => ?_)
                      · replace hj119 := it_u hc hj119
                        refine lv_iconst (v := 0) hx hb d_M_methods_285 (by decide) ?_
                        cases hj119
                        exact Khj119 _ _ _ I (lv_sub hl [1, 2, 3, 4, 5, 6, 0] rfl)
                      · replace hj119 := ie_u hc hj119
                        refine lv_iconst (v := 1) hx hb d_M_methods_281 (by decide) ?_
                        refine lv_goto (tgt := 286) hx hb d_M_methods_282 (by decide) ?_
                        cases hj119
                        exact Khj119 _ _ _ I (lv_sub hl [1, 2, 3, 4, 5, 6, 0] rfl)
                  refine lv_if_eq (tgt := 251) hx hb d_M_methods_224 (by decide) (fun hc => ?_) (fun hc => ?_)
                  · replace hj124 := it_u hc hj124
                    refine lv_iconst (v := 0) hx hb d_M_methods_251 (by decide) ?_
                    cases hj124
                    exact Khj124 _ _ _ I (lv_sub hl [2, 3, 4, 5, 6, 0] rfl)
                  · replace hj124 := ie_u hc hj124
                    refine lv_aload_n hx hb d_M_methods_227 rfl (lv_at hl 2 rfl) ?_
                    refine lv_aload_n hx hb d_M_methods_228 rfl (lv_at hl 2 rfl) ?_
                    refine g_M_names C I k_714 d_M_methods_229 ?_
                    refine lv_iload_n hx hb d_M_methods_232 rfl (lv_at hl 3 rfl) ?_
                    obtain ⟨hi, hj124⟩ := gd_u hj124
                    refine l_M_names C I hi d_M_methods_233 ?_
                    refine lv_bipush (v := 6) hx hb d_M_methods_234 (by decide) ?_
                    refine lv_ldc2 hx hb C.1.2.2.2 (C.2.1 _ k_902) d_M_methods_236 ?_
                    refine lv_lconst (v := 0) hx hb d_M_methods_239 (by decide) ?_
                    refine lv_lconst (v := 0) hx hb d_M_methods_240 (by decide) ?_
                    obtain ⟨r127, u125, h126, hj124⟩ := cI_u hj124
                    refine go_I I (call_runV (rest := []) C I (c_M_is C.2.2.2.1 C.2.2.2.2.1 l h126 _) wd_M_is (q0 := 0) (ci := 7) rfl rfl k_903 ⟨rfl, rfl⟩ ⟨by decide, by decide⟩ rfl hl.1 rfl (Nat.le_of_ble_eq_true rfl) d_M_methods_241) (fun H locs I => ?_)
                    refine lv_if_eq (tgt := 251) hx hb d_M_methods_244 (by decide) (fun hc => ?_) (fun hc => ?_)
                    · replace hj124 := it_u hc hj124
                      refine lv_iconst (v := 0) hx hb d_M_methods_251 (by decide) ?_
                      cases hj124
                      exact Khj124 _ _ _ I (lv_sub hl [2, 3, 4, 5, 6, 0] rfl)
                    · replace hj124 := ie_u hc hj124
                      refine lv_iconst (v := 1) hx hb d_M_methods_247 (by decide) ?_
                      refine lv_goto (tgt := 252) hx hb d_M_methods_248 (by decide) ?_
                      cases hj124
                      exact Khj124 _ _ _ I (lv_sub hl [2, 3, 4, 5, 6, 0] rfl)
                · replace hk := it_u hc hk
                  exact hQ _ _ _ _ _ I hk d_M_methods_202
              refine lv_if_ne (tgt := 182) hx hb d_M_methods_170 (by decide) (fun hc => ?_) (fun hc => ?_)
              · replace hj129 := ie_u hc hj129
                refine lv_iconst (v := 1) hx hb d_M_methods_182 (by decide) ?_
                refine lv_goto (tgt := 187) hx hb d_M_methods_183 (by decide) ?_
                cases hj129
                exact Khj129 _ _ _ I (lv_sub hl [0, 1, 2, 3, 4] rfl)
              · replace hj129 := it_u hc hj129
                refine lv_iload hx hb d_M_methods_173 (lv_at hl 3 rfl) ?_
                refine lv_sipush (v := 1024) hx hb d_M_methods_175 (by decide) ?_
                refine lv_iand hx hb d_M_methods_178 ?_
                refine lv_if_ne (tgt := 186) hx hb d_M_methods_179 (by decide) (fun hc => ?_) (fun hc => ?_)
                · replace hj129 := ie_u hc hj129
                  refine lv_iconst (v := 0) hx hb d_M_methods_186 (by decide) ?_
                  cases hj129
                  exact Khj129 _ _ _ I (lv_sub hl [0, 1, 2, 3, 4] rfl)
                · replace hj129 := it_u hc hj129
                  refine lv_iconst (v := 1) hx hb d_M_methods_182 (by decide) ?_
                  refine lv_goto (tgt := 187) hx hb d_M_methods_183 (by decide) ?_
                  cases hj129
                  exact Khj129 _ _ _ I (lv_sub hl [0, 1, 2, 3, 4] rfl)
            refine lv_if_eq (tgt := 160) hx hb d_M_methods_124 (by decide) (fun hc => ?_) (fun hc => ?_)
            · replace hj130 := it_u hc hj130
              cases hj130
              exact Khj130 _ _ _ I (lv_sub hl [1, 2, 3, 4, 5, 0] rfl)
            · replace hj130 := ie_u hc hj130
              refine lv_iload hx hb d_M_methods_127 (lv_at hl 0 rfl) ?_
              refine lv_iload hx hb d_M_methods_129 (lv_at hl 4 rfl) ?_
              refine lv_iconst (v := 3) hx hb d_M_methods_131 (by decide) ?_
              refine lv_iand hx hb d_M_methods_132 ?_
              obtain ⟨z131, hj132, hj130⟩ := bnd_u hj130
              have Khj132 : ∀ (H : Heap) (locs : List Loc) (ls : Array Slot), Dy clA D (mW a cs) s H locs u17 → lv_has ls 12 [(0, .ref (a 0)), (2, .int x2), (3, .int (u9.1 2)), (4, .int r14), (5, .int z15)] → W p l e rm_M_methods s m args below meth c H locs 0 0 Q (F0 m 157 ls [.int z131, .int z16]) := by
                intro H locs ls I hl
                refine lv_iand hx hb d_M_methods_157 ?_
                refine lv_istore (lv' := [(6, .int (z16 &&& z131)), (0, .ref (a 0)), (2, .int x2), (3, .int (u9.1 2)), (4, .int r14), (5, .int z15)]) hx hb d_M_methods_158 hl (by decide) rfl (fun ls hl => ?_)
                cases hj130
                exact Khj130 _ _ _ I (lv_sub hl [1, 2, 3, 4, 5, 0] rfl)
              refine lv_if_eq (tgt := 156) hx hb d_M_methods_133 (by decide) (fun hc => ?_) (fun hc => ?_)
              · replace hj132 := it_u hc hj132
                refine lv_iconst (v := 0) hx hb d_M_methods_156 (by decide) ?_
                cases hj132
                exact Khj132 _ _ _ I (lv_sub hl [1, 2, 3, 4, 5] rfl)
              · replace hj132 := ie_u hc hj132
                refine lv_iload hx hb d_M_methods_136 (lv_at hl 4 rfl) ?_
                refine lv_iconst (v := 3) hx hb d_M_methods_138 (by decide) ?_
                refine lv_iand hx hb d_M_methods_139 ?_
                refine lv_iconst (v := 3) hx hb d_M_methods_140 (by decide) ?_
                refine lv_icmp_eq (tgt := 156) hx hb d_M_methods_141 (by decide) (fun hc => ?_) (fun hc => ?_)
                · replace hj132 := it_u hc hj132
                  refine lv_iconst (v := 0) hx hb d_M_methods_156 (by decide) ?_
                  cases hj132
                  exact Khj132 _ _ _ I (lv_sub hl [1, 2, 3, 4, 5] rfl)
                · replace hj132 := ie_u hc hj132
                  refine lv_iload hx hb d_M_methods_144 (lv_at hl 4 rfl) ?_
                  refine lv_bipush (v := 20) hx hb d_M_methods_146 (by decide) ?_
                  refine lv_iand hx hb d_M_methods_148 ?_
                  refine lv_if_ne (tgt := 156) hx hb d_M_methods_149 (by decide) (fun hc => ?_) (fun hc => ?_)
                  · replace hj132 := ie_u hc hj132
                    refine lv_iconst (v := 0) hx hb d_M_methods_156 (by decide) ?_
                    cases hj132
                    exact Khj132 _ _ _ I (lv_sub hl [1, 2, 3, 4, 5] rfl)
                  · replace hj132 := it_u hc hj132
                    refine lv_iconst (v := 1) hx hb d_M_methods_152 (by decide) ?_
                    refine lv_goto (tgt := 157) hx hb d_M_methods_153 (by decide) ?_
                    cases hj132
                    exact Khj132 _ _ _ I (lv_sub hl [1, 2, 3, 4, 5] rfl)
          refine lv_if_ne (tgt := 119) hx hb d_M_methods_87 (by decide) (fun hc => ?_) (fun hc => ?_)
          · replace hj133 := ie_u hc hj133
            refine lv_iconst (v := 0) hx hb d_M_methods_119 (by decide) ?_
            cases hj133
            exact Khj133 _ _ _ I (lv_sub hl [1, 2, 3, 4, 0] rfl)
          · replace hj133 := it_u hc hj133
            refine lv_iload hx hb d_M_methods_90 (lv_at hl 4 rfl) ?_
            obtain ⟨r136, u134, h135, hj133⟩ := cI_u hj133
            refine go_I I (call_runS (rest := []) C I (c_M_oneOf C.2.2.2.1 C.2.2.2.2.1 l h135 _) wd_M_oneOf k_951 ⟨rfl, rfl⟩ ⟨by decide, by decide⟩ rfl hl.1 rfl (Nat.le_of_ble_eq_true rfl) d_M_methods_92) (fun H locs I => ?_)
            refine lv_if_eq (tgt := 119) hx hb d_M_methods_95 (by decide) (fun hc => ?_) (fun hc => ?_)
            · replace hj133 := it_u hc hj133
              refine lv_iconst (v := 0) hx hb d_M_methods_119 (by decide) ?_
              cases hj133
              exact Khj133 _ _ _ I (lv_sub hl [1, 2, 3, 4, 0] rfl)
            · replace hj133 := ie_u hc hj133
              refine lv_iload hx hb d_M_methods_98 (lv_at hl 4 rfl) ?_
              refine lv_sipush (v := 1024) hx hb d_M_methods_100 (by decide) ?_
              refine lv_iand hx hb d_M_methods_103 ?_
              refine lv_if_eq (tgt := 115) hx hb d_M_methods_104 (by decide) (fun hc => ?_) (fun hc => ?_)
              · replace hj133 := it_u hc hj133
                refine lv_iconst (v := 1) hx hb d_M_methods_115 (by decide) ?_
                refine lv_goto (tgt := 120) hx hb d_M_methods_116 (by decide) ?_
                cases hj133
                exact Khj133 _ _ _ I (lv_sub hl [1, 2, 3, 4, 0] rfl)
              · replace hj133 := ie_u hc hj133
                refine lv_iload hx hb d_M_methods_107 (lv_at hl 4 rfl) ?_
                refine lv_bipush (v := 26) hx hb d_M_methods_109 (by decide) ?_
                refine lv_iand hx hb d_M_methods_111 ?_
                refine lv_if_ne (tgt := 119) hx hb d_M_methods_112 (by decide) (fun hc => ?_) (fun hc => ?_)
                · replace hj133 := ie_u hc hj133
                  refine lv_iconst (v := 0) hx hb d_M_methods_119 (by decide) ?_
                  cases hj133
                  exact Khj133 _ _ _ I (lv_sub hl [1, 2, 3, 4, 0] rfl)
                · replace hj133 := it_u hc hj133
                  refine lv_iconst (v := 1) hx hb d_M_methods_115 (by decide) ?_
                  refine lv_goto (tgt := 120) hx hb d_M_methods_116 (by decide) ?_
                  cases hj133
                  exact Khj133 _ _ _ I (lv_sub hl [1, 2, 3, 4, 0] rfl)
        refine lv_if_eq (tgt := 78) hx hb d_M_methods_71 (by decide) (fun hc => ?_) (fun hc => ?_)
        · replace hj138 := it_u hc hj138
          refine lv_iconst (v := 0) hx hb d_M_methods_78 (by decide) ?_
          cases hj138
          exact Khj138 _ _ _ I (lv_sub hl [2, 3, 1, 0] rfl)
        · replace hj138 := ie_u hc hj138
          refine lv_iconst (v := 1) hx hb d_M_methods_74 (by decide) ?_
          refine lv_goto (tgt := 79) hx hb d_M_methods_75 (by decide) ?_
          cases hj138
          exact Khj138 _ _ _ I (lv_sub hl [2, 3, 1, 0] rfl)
set_option maxHeartbeats 4000000 in
set_option maxRecDepth 100000 in
theorem c_M_methods {Z : zT} {D : va_G} {cs : Nat → ClassId} {a : Nat → Nat} (hw : wD (mW a cs)) (hz : zOK Z) (l : Launch) {u : St} {u' : St} (hk : f_M_methods u = some u') : KV clA D cs (mW a cs) Z l y_M_methods (.code y_M_methods prog_9_method_40_code 12 (Option.none : Option Jvm.ClassFile.FieldType)) rm_M_methods [.ref (a 0)] u u' := by
  unfold f_M_methods at hk
  refine KV.of (by decide) (Nat.le_of_ble_eq_true rfl) hw hz ?_
  intro p e s m args below meth c Q C I hQ ls hl
  have hl : lv_has ls 12 [(0, .ref (a 0))] := hl
  have hx := C.1.1
  have hb := C.1.2.1
  refine lv_aload_n hx hb d_M_methods_0 rfl (lv_at hl 0 rfl) ?_
  refine g_M_at C I k_697 d_M_methods_1 ?_
  refine lv_istore_n (lv' := [(1, .int (u.1 2)), (0, .ref (a 0))]) hx hb d_M_methods_4 rfl hl (by decide) rfl (fun ls hl => ?_)
  refine lv_aload_n hx hb d_M_methods_5 rfl (lv_at hl 1 rfl) ?_
  refine lv_aload_n hx hb d_M_methods_6 rfl (lv_at hl 1 rfl) ?_
  obtain ⟨r3, u1, h2, hk⟩ := cI_u hk
  refine go_I I (call_runV (rest := [.ref (a 0)]) C I (c_M_u2 C.2.2.2.1 C.2.2.2.2.1 l h2 _) wd_M_u2 (q0 := 0) (ci := 7) rfl rfl k_826 ⟨rfl, rfl⟩ ⟨by decide, by decide⟩ rfl hl.1 rfl (Nat.le_of_ble_eq_true rfl) d_M_methods_7) (fun H locs I => ?_)
  refine p_M_methods C I k_708 d_M_methods_10 (fun H locs I => ?_)
  obtain ⟨u4, hu, hk⟩ := bnd_u hk
  rw [hu] at I
  clear hu
  refine lv_aload_n hx hb d_M_methods_13 rfl (lv_at hl 1 rfl) ?_
  refine lv_aload_n hx hb d_M_methods_14 rfl (lv_at hl 1 rfl) ?_
  refine g_M_methods C I k_708 d_M_methods_15 ?_
  refine lv_bipush (v := 60) hx hb d_M_methods_18 (by decide) ?_
  obtain ⟨z5, hj140, hk⟩ := bnd_u hk
  have Khj140 : ∀ (H : Heap) (locs : List Loc) (ls : Array Slot), Dy clA D (mW a cs) s H locs u4 → lv_has ls 12 [(0, .ref (a 0)), (1, .int (u.1 2))] → W p l e rm_M_methods s m args below meth c H locs 0 0 Q (F0 m 28 ls [.int z5, .ref (a 0)]) := by
    intro H locs ls I hl
    refine lv_bipush (v := 15) hx hb d_M_methods_28 (by decide) ?_
    refine lv_iload_n hx hb d_M_methods_30 rfl (lv_at hl 1 rfl) ?_
    obtain ⟨r8, u6, h7, hk⟩ := cI_u hk
    refine go_I I (call_runV (rest := []) C I (c_M_must C.2.2.2.1 C.2.2.2.2.1 l h7 _) wd_M_must (q0 := 0) (ci := 7) rfl rfl k_843 ⟨rfl, rfl⟩ ⟨by decide, by decide⟩ rfl hl.1 rfl (Nat.le_of_ble_eq_true rfl) d_M_methods_31) (fun H locs I => ?_)
    refine lv_pop hx hb d_M_methods_34 rfl ?_
    refine lv_iconst (v := 0) hx hb d_M_methods_35 (by decide) ?_
    refine lv_istore_n (lv' := [(2, .int 0), (0, .ref (a 0)), (1, .int (u.1 2))]) hx hb d_M_methods_36 rfl hl (by decide) rfl (fun ls hl => ?_)
    refine w_M_methods_L37 C (fun u139 H locs ls hk I hl => ?_) hQ FU u6 0 _ _ _ hk I (lv_sub hl [1, 0] rfl)
    exact hQ _ _ _ _ _ I hk d_M_methods_643
  refine lv_icmp_gt (tgt := 27) hx hb d_M_methods_20 (by decide) (fun hc => ?_) (fun hc => ?_)
  · replace hj140 := it_u hc hj140
    refine lv_iconst (v := 0) hx hb d_M_methods_27 (by decide) ?_
    cases hj140
    exact Khj140 _ _ _ I (lv_sub hl [1, 0] rfl)
  · replace hj140 := ie_u hc hj140
    refine lv_iconst (v := 1) hx hb d_M_methods_23 (by decide) ?_
    refine lv_goto (tgt := 28) hx hb d_M_methods_24 (by decide) ?_
    cases hj140
    exact Khj140 _ _ _ I (lv_sub hl [1, 0] rfl)
def rm_M_text : Room := { frames := 3, cells := 0, slots := 0, locals := 63 }
noncomputable def f_M_text_L153 (kx : St → Option (St)) (x1 : Int32) (x3 : Int32) (x5 : Int32) (x6 : Int32) : Nat → St → Int32 → Option (St)
  | 0, _, _ => none
  | n + 1, u, x7 => if x6 ≤ x7 then (kx u) else (bnd (if x3 ≤ (u.1 2) then (0) else (1)) fun (z21 : Int32) => cI (f_M_must u z21 5 x1) fun r24 u22 => if r24 = 0 then (some u22) else (cI (f_M_u1 u22) fun r27 u25 => cI (f_M_ok u25) fun r30 u28 => if r30 = 0 then (some u28) else (bnd (if r27 < 128 then (0) else (if 191 < r27 then (0) else (if x5 = 192 then (if r27 = 128 then (if x5 = 224 then (if 0 < x7 then (1) else (if r27 < 160 then (0) else (1))) else (1)) else (0)) else (if x5 = 224 then (if 0 < x7 then (1) else (if r27 < 160 then (0) else (1))) else (1))))) fun (z31 : Int32) => cI (f_M_must u28 z31 5 (u22.1 2)) fun r34 u32 => if r34 = 0 then (some u32) else (f_M_text_L153 kx x1 x3 x5 x6 n u32 (x7 + 1)))))
noncomputable def f_M_text_L25 (kx : St → Option (St)) (x1 : Int32) (x3 : Int32) : Nat → St → Option (St)
  | 0, _ => none
  | n + 1, u => if x3 ≤ (u.1 2) then (kx u) else (cI (f_M_ok u) fun r9 u7 => if r9 = 0 then (kx u7) else (cI (f_M_u1 u7) fun r12 u10 => cI (f_M_ok u10) fun r15 u13 => if r15 = 0 then (some u13) else (bnd (if r12 < 1 then (if r12 = 192 then (1) else (if r12 < 194 then (if r12 < 224 then ((-1)) else (if 239 < r12 then ((-1)) else (2))) else (if 223 < r12 then (if r12 < 224 then ((-1)) else (if 239 < r12 then ((-1)) else (2))) else (1)))) else (if 127 < r12 then (if r12 = 192 then (1) else (if r12 < 194 then (if r12 < 224 then ((-1)) else (if 239 < r12 then ((-1)) else (2))) else (if 223 < r12 then (if r12 < 224 then ((-1)) else (if 239 < r12 then ((-1)) else (2))) else (1)))) else (0))) fun (z16 : Int32) => bnd (if z16 = (-1) then (0) else (1)) fun (z17 : Int32) => cI (f_M_must u13 z17 5 (u7.1 2)) fun r20 u18 => if r20 = 0 then (some u18) else (f_M_text_L153 (fun u37 => f_M_text_L25 kx x1 x3 n u37) x1 x3 r12 z16 FU u18 0))))
noncomputable def f_M_text (u : St) : Option (St) := cI (f_M_u2 u) fun r3 u1 => cI (f_M_ok u1) fun r6 u4 => if r6 = 0 then (some u4) else (f_M_text_L25 (fun u40 => some u40) (u.1 2) ((u4.1 2) + r3) FU u4)
set_option maxHeartbeats 4000000 in
set_option maxRecDepth 100000 in
theorem w_M_text_L153 {Z : zT} {D : va_G} {cs : Nat → ClassId} {a : Nat → Nat} {p : Program} {l : Launch} {e : Env} {s : State} {m : MethodId} {args : Array Value} {below : List Frame} {meth : Method} {c : Code} {Q : State → Prop} {F : St} {kx : St → Option (St)} {x1 : Int32} {x3 : Int32} {x5 : Int32} {x6 : Int32} (C : Cx clA R_M prog_9_method_35_code 10 D cs (mW a cs) Z p s m args c) (hE : ∀ (u2 : St) (H : Heap) (locs : List Loc) (ls : Array Slot), kx u2 = some F → Dy clA D (mW a cs) s H locs u2 → lv_has ls 10 [(0, .ref (a 0)), (1, .int x1), (3, .int x3)] → W p l e rm_M_text s m args below meth c H locs 0 0 Q (F0 m 282 ls [])) (hQ : ∀ (H : Heap) (locs : List Loc) (pc : Nat) (ls : Array Slot) (u1 : St), Dy clA D (mW a cs) s H locs u1 → some u1 = some F → decode prog_9_method_35_code pc = .ok (.return_, 1) → W p l e rm_M_text s m args below meth c H locs 0 0 Q (F0 m pc ls [])): ∀ (n : Nat) (u : St) (x7 : Int32) (H : Heap) (locs : List Loc) (ls : Array Slot), f_M_text_L153 kx x1 x3 x5 x6 n u x7 = some F → Dy clA D (mW a cs) s H locs u → lv_has ls 10 [(0, .ref (a 0)), (1, .int x1), (3, .int x3), (5, .int x5), (6, .int x6), (7, .int x7)] → W p l e rm_M_text s m args below meth c H locs 0 0 Q (F0 m 153 ls []) := by
  have hx := C.1.1
  have hb := C.1.2.1
  intro n
  induction n with
  | zero =>
    intro u x7 H locs ls hk I hl
    rw [f_M_text_L153] at hk
    cases hk
  | succ n ih =>
    intro u x7 H locs ls hk I hl
    rw [f_M_text_L153] at hk
    refine lv_iload hx hb d_M_text_153 (lv_at hl 5 rfl) ?_
    refine lv_iload hx hb d_M_text_155 (lv_at hl 4 rfl) ?_
    refine lv_icmp_ge (tgt := 282) hx hb d_M_text_157 (by decide) (fun hc => ?_) (fun hc => ?_)
    · replace hk := it_u hc hk
      exact hE u _ _ _ hk I (lv_sub hl [0, 1, 2] rfl)
    · replace hk := ie_u hc hk
      refine lv_aload_n hx hb d_M_text_160 rfl (lv_at hl 0 rfl) ?_
      refine lv_aload_n hx hb d_M_text_161 rfl (lv_at hl 0 rfl) ?_
      refine g_M_at C I k_697 d_M_text_162 ?_
      refine lv_iload_n hx hb d_M_text_165 rfl (lv_at hl 2 rfl) ?_
      obtain ⟨z21, hj36, hk⟩ := bnd_u hk
      have Khj36 : ∀ (H : Heap) (locs : List Loc) (ls : Array Slot), Dy clA D (mW a cs) s H locs u → lv_has ls 10 [(0, .ref (a 0)), (1, .int x1), (3, .int x3), (5, .int x5), (6, .int x6), (7, .int x7)] → W p l e rm_M_text s m args below meth c H locs 0 0 Q (F0 m 174 ls [.int z21, .ref (a 0)]) := by
        intro H locs ls I hl
        refine lv_iconst (v := 5) hx hb d_M_text_174 (by decide) ?_
        refine lv_iload_n hx hb d_M_text_175 rfl (lv_at hl 1 rfl) ?_
        obtain ⟨r24, u22, h23, hk⟩ := cI_u hk
        refine go_I I (call_runV (rest := []) C I (c_M_must C.2.2.2.1 C.2.2.2.2.1 l h23 _) wd_M_must (q0 := 0) (ci := 7) rfl rfl k_843 ⟨rfl, rfl⟩ ⟨by decide, by decide⟩ rfl hl.1 rfl (Nat.le_of_ble_eq_true rfl) d_M_text_176) (fun H locs I => ?_)
        refine lv_if_ne (tgt := 183) hx hb d_M_text_179 (by decide) (fun hc => ?_) (fun hc => ?_)
        · replace hk := ie_u hc hk
          refine lv_aload_n hx hb d_M_text_183 rfl (lv_at hl 0 rfl) ?_
          refine g_M_at C I k_697 d_M_text_184 ?_
          refine lv_istore (lv' := [(4, .int (u22.1 2)), (0, .ref (a 0)), (1, .int x1), (3, .int x3), (5, .int x5), (6, .int x6), (7, .int x7)]) hx hb d_M_text_187 hl (by decide) rfl (fun ls hl => ?_)
          refine lv_aload_n hx hb d_M_text_189 rfl (lv_at hl 1 rfl) ?_
          obtain ⟨r27, u25, h26, hk⟩ := cI_u hk
          refine go_I I (call_runV (rest := []) C I (c_M_u1 C.2.2.2.1 C.2.2.2.2.1 l h26 _) wd_M_u1 (q0 := 0) (ci := 7) rfl rfl k_830 ⟨rfl, rfl⟩ ⟨by decide, by decide⟩ rfl hl.1 rfl (Nat.le_of_ble_eq_true rfl) d_M_text_190) (fun H locs I => ?_)
          refine lv_istore (lv' := [(8, .int r27), (4, .int (u22.1 2)), (0, .ref (a 0)), (1, .int x1), (3, .int x3), (5, .int x5), (6, .int x6), (7, .int x7)]) hx hb d_M_text_193 hl (by decide) rfl (fun ls hl => ?_)
          refine lv_aload_n hx hb d_M_text_195 rfl (lv_at hl 2 rfl) ?_
          obtain ⟨r30, u28, h29, hk⟩ := cI_u hk
          refine go_I I (call_runV (rest := []) C I (c_M_ok C.2.2.2.1 C.2.2.2.2.1 l h29 _) wd_M_ok (q0 := 0) (ci := 7) rfl rfl k_834 ⟨rfl, rfl⟩ ⟨by decide, by decide⟩ rfl hl.1 rfl (Nat.le_of_ble_eq_true rfl) d_M_text_196) (fun H locs I => ?_)
          refine lv_if_ne (tgt := 203) hx hb d_M_text_199 (by decide) (fun hc => ?_) (fun hc => ?_)
          · replace hk := ie_u hc hk
            refine lv_iload hx hb d_M_text_203 (lv_at hl 0 rfl) ?_
            refine lv_sipush (v := 128) hx hb d_M_text_205 (by decide) ?_
            obtain ⟨z31, hj35, hk⟩ := bnd_u hk
            have Khj35 : ∀ (H : Heap) (locs : List Loc) (ls : Array Slot), Dy clA D (mW a cs) s H locs u28 → lv_has ls 10 [(0, .ref (a 0)), (1, .int x1), (3, .int x3), (4, .int (u22.1 2)), (5, .int x5), (6, .int x6), (7, .int x7)] → W p l e rm_M_text s m args below meth c H locs 0 0 Q (F0 m 261 ls [.int z31]) := by
              intro H locs ls I hl
              refine lv_istore (lv' := [(9, .int z31), (0, .ref (a 0)), (1, .int x1), (3, .int x3), (4, .int (u22.1 2)), (5, .int x5), (6, .int x6), (7, .int x7)]) hx hb d_M_text_261 hl (by decide) rfl (fun ls hl => ?_)
              refine lv_aload_n hx hb d_M_text_263 rfl (lv_at hl 1 rfl) ?_
              refine lv_iload hx hb d_M_text_264 (lv_at hl 0 rfl) ?_
              refine lv_iconst (v := 5) hx hb d_M_text_266 (by decide) ?_
              refine lv_iload hx hb d_M_text_267 (lv_at hl 4 rfl) ?_
              obtain ⟨r34, u32, h33, hk⟩ := cI_u hk
              refine go_I I (call_runV (rest := []) C I (c_M_must C.2.2.2.1 C.2.2.2.2.1 l h33 _) wd_M_must (q0 := 0) (ci := 7) rfl rfl k_843 ⟨rfl, rfl⟩ ⟨by decide, by decide⟩ rfl hl.1 rfl (Nat.le_of_ble_eq_true rfl) d_M_text_269) (fun H locs I => ?_)
              refine lv_if_ne (tgt := 276) hx hb d_M_text_272 (by decide) (fun hc => ?_) (fun hc => ?_)
              · replace hk := ie_u hc hk
                refine lv_iinc (v := (x7 + 1)) (lv' := [(7, .int (x7 + 1)), (9, .int z31), (0, .ref (a 0)), (1, .int x1), (3, .int x3), (4, .int (u22.1 2)), (5, .int x5), (6, .int x6)]) hx hb d_M_text_276 hl (k := 7) rfl rfl (by decide) rfl (fun ls hl => ?_)
                refine lv_goto (tgt := 153) hx hb d_M_text_279 (by decide) ?_
                exact ih u32 (x7 + 1) _ _ _ hk I (lv_sub hl [2, 3, 4, 6, 7, 0] rfl)
              · replace hk := it_u hc hk
                exact hQ _ _ _ _ _ I hk d_M_text_275
            refine lv_icmp_lt (tgt := 260) hx hb d_M_text_208 (by decide) (fun hc => ?_) (fun hc => ?_)
            · replace hj35 := it_u hc hj35
              refine lv_iconst (v := 0) hx hb d_M_text_260 (by decide) ?_
              cases hj35
              exact Khj35 _ _ _ I (lv_sub hl [2, 3, 4, 1, 5, 6, 7] rfl)
            · replace hj35 := ie_u hc hj35
              refine lv_iload hx hb d_M_text_211 (lv_at hl 0 rfl) ?_
              refine lv_sipush (v := 191) hx hb d_M_text_213 (by decide) ?_
              refine lv_icmp_gt (tgt := 260) hx hb d_M_text_216 (by decide) (fun hc => ?_) (fun hc => ?_)
              · replace hj35 := it_u hc hj35
                refine lv_iconst (v := 0) hx hb d_M_text_260 (by decide) ?_
                cases hj35
                exact Khj35 _ _ _ I (lv_sub hl [2, 3, 4, 1, 5, 6, 7] rfl)
              · replace hj35 := ie_u hc hj35
                refine lv_iload hx hb d_M_text_219 (lv_at hl 5 rfl) ?_
                refine lv_sipush (v := 192) hx hb d_M_text_221 (by decide) ?_
                refine lv_icmp_ne (tgt := 235) hx hb d_M_text_224 (by decide) (fun hc => ?_) (fun hc => ?_)
                · replace hj35 := ie_u hc hj35
                  refine lv_iload hx hb d_M_text_235 (lv_at hl 5 rfl) ?_
                  refine lv_sipush (v := 224) hx hb d_M_text_237 (by decide) ?_
                  refine lv_icmp_ne (tgt := 256) hx hb d_M_text_240 (by decide) (fun hc => ?_) (fun hc => ?_)
                  · replace hj35 := ie_u hc hj35
                    refine lv_iconst (v := 1) hx hb d_M_text_256 (by decide) ?_
                    refine lv_goto (tgt := 261) hx hb d_M_text_257 (by decide) ?_
                    cases hj35
                    exact Khj35 _ _ _ I (lv_sub hl [2, 3, 4, 1, 5, 6, 7] rfl)
                  · replace hj35 := it_u hc hj35
                    refine lv_iload hx hb d_M_text_243 (lv_at hl 7 rfl) ?_
                    refine lv_if_gt (tgt := 256) hx hb d_M_text_245 (by decide) (fun hc => ?_) (fun hc => ?_)
                    · replace hj35 := it_u hc hj35
                      refine lv_iconst (v := 1) hx hb d_M_text_256 (by decide) ?_
                      refine lv_goto (tgt := 261) hx hb d_M_text_257 (by decide) ?_
                      cases hj35
                      exact Khj35 _ _ _ I (lv_sub hl [2, 3, 4, 1, 5, 6, 7] rfl)
                    · replace hj35 := ie_u hc hj35
                      refine lv_iload hx hb d_M_text_248 (lv_at hl 0 rfl) ?_
                      refine lv_sipush (v := 160) hx hb d_M_text_250 (by decide) ?_
                      refine lv_icmp_lt (tgt := 260) hx hb d_M_text_253 (by decide) (fun hc => ?_) (fun hc => ?_)
                      · replace hj35 := it_u hc hj35
                        refine lv_iconst (v := 0) hx hb d_M_text_260 (by decide) ?_
                        cases hj35
                        exact Khj35 _ _ _ I (lv_sub hl [2, 3, 4, 1, 5, 6, 7] rfl)
                      · replace hj35 := ie_u hc hj35
                        refine lv_iconst (v := 1) hx hb d_M_text_256 (by decide) ?_
                        refine lv_goto (tgt := 261) hx hb d_M_text_257 (by decide) ?_
                        cases hj35
                        exact Khj35 _ _ _ I (lv_sub hl [2, 3, 4, 1, 5, 6, 7] rfl)
                · replace hj35 := it_u hc hj35
                  refine lv_iload hx hb d_M_text_227 (lv_at hl 0 rfl) ?_
                  refine lv_sipush (v := 128) hx hb d_M_text_229 (by decide) ?_
                  refine lv_icmp_ne (tgt := 260) hx hb d_M_text_232 (by decide) (fun hc => ?_) (fun hc => ?_)
                  · replace hj35 := ie_u hc hj35
                    refine lv_iconst (v := 0) hx hb d_M_text_260 (by decide) ?_
                    cases hj35
                    exact Khj35 _ _ _ I (lv_sub hl [2, 3, 4, 1, 5, 6, 7] rfl)
                  · replace hj35 := it_u hc hj35
                    refine lv_iload hx hb d_M_text_235 (lv_at hl 5 rfl) ?_
                    refine lv_sipush (v := 224) hx hb d_M_text_237 (by decide) ?_
                    refine lv_icmp_ne (tgt := 256) hx hb d_M_text_240 (by decide) (fun hc => ?_) (fun hc => ?_)
                    · replace hj35 := ie_u hc hj35
                      refine lv_iconst (v := 1) hx hb d_M_text_256 (by decide) ?_
                      refine lv_goto (tgt := 261) hx hb d_M_text_257 (by decide) ?_
                      cases hj35
                      exact Khj35 _ _ _ I (lv_sub hl [2, 3, 4, 1, 5, 6, 7] rfl)
                    · replace hj35 := it_u hc hj35
                      refine lv_iload hx hb d_M_text_243 (lv_at hl 7 rfl) ?_
                      refine lv_if_gt (tgt := 256) hx hb d_M_text_245 (by decide) (fun hc => ?_) (fun hc => ?_)
                      · replace hj35 := it_u hc hj35
                        refine lv_iconst (v := 1) hx hb d_M_text_256 (by decide) ?_
                        refine lv_goto (tgt := 261) hx hb d_M_text_257 (by decide) ?_
                        cases hj35
                        exact Khj35 _ _ _ I (lv_sub hl [2, 3, 4, 1, 5, 6, 7] rfl)
                      · replace hj35 := ie_u hc hj35
                        refine lv_iload hx hb d_M_text_248 (lv_at hl 0 rfl) ?_
                        refine lv_sipush (v := 160) hx hb d_M_text_250 (by decide) ?_
                        refine lv_icmp_lt (tgt := 260) hx hb d_M_text_253 (by decide) (fun hc => ?_) (fun hc => ?_)
                        · replace hj35 := it_u hc hj35
                          refine lv_iconst (v := 0) hx hb d_M_text_260 (by decide) ?_
                          cases hj35
                          exact Khj35 _ _ _ I (lv_sub hl [2, 3, 4, 1, 5, 6, 7] rfl)
                        · replace hj35 := ie_u hc hj35
                          refine lv_iconst (v := 1) hx hb d_M_text_256 (by decide) ?_
                          refine lv_goto (tgt := 261) hx hb d_M_text_257 (by decide) ?_
                          cases hj35
                          exact Khj35 _ _ _ I (lv_sub hl [2, 3, 4, 1, 5, 6, 7] rfl)
          · replace hk := it_u hc hk
            exact hQ _ _ _ _ _ I hk d_M_text_202
        · replace hk := it_u hc hk
          exact hQ _ _ _ _ _ I hk d_M_text_182
      refine lv_icmp_ge (tgt := 173) hx hb d_M_text_166 (by decide) (fun hc => ?_) (fun hc => ?_)
      · replace hj36 := it_u hc hj36
        refine lv_iconst (v := 0) hx hb d_M_text_173 (by decide) ?_
        cases hj36
        exact Khj36 _ _ _ I (lv_sub hl [0, 1, 2, 3, 4, 5] rfl)
      · replace hj36 := ie_u hc hj36
        refine lv_iconst (v := 1) hx hb d_M_text_169 (by decide) ?_
        refine lv_goto (tgt := 174) hx hb d_M_text_170 (by decide) ?_
        cases hj36
        exact Khj36 _ _ _ I (lv_sub hl [0, 1, 2, 3, 4, 5] rfl)
set_option maxHeartbeats 4000000 in
set_option maxRecDepth 100000 in
theorem w_M_text_L25 {Z : zT} {D : va_G} {cs : Nat → ClassId} {a : Nat → Nat} {p : Program} {l : Launch} {e : Env} {s : State} {m : MethodId} {args : Array Value} {below : List Frame} {meth : Method} {c : Code} {Q : State → Prop} {F : St} {kx : St → Option (St)} {x1 : Int32} {x3 : Int32} (C : Cx clA R_M prog_9_method_35_code 10 D cs (mW a cs) Z p s m args c) (hE : ∀ (u2 : St) (H : Heap) (locs : List Loc) (ls : Array Slot), kx u2 = some F → Dy clA D (mW a cs) s H locs u2 → lv_has ls 10 [] → W p l e rm_M_text s m args below meth c H locs 0 0 Q (F0 m 285 ls [])) (hQ : ∀ (H : Heap) (locs : List Loc) (pc : Nat) (ls : Array Slot) (u1 : St), Dy clA D (mW a cs) s H locs u1 → some u1 = some F → decode prog_9_method_35_code pc = .ok (.return_, 1) → W p l e rm_M_text s m args below meth c H locs 0 0 Q (F0 m pc ls [])): ∀ (n : Nat) (u : St) (H : Heap) (locs : List Loc) (ls : Array Slot), f_M_text_L25 kx x1 x3 n u = some F → Dy clA D (mW a cs) s H locs u → lv_has ls 10 [(0, .ref (a 0)), (1, .int x1), (3, .int x3)] → W p l e rm_M_text s m args below meth c H locs 0 0 Q (F0 m 25 ls []) := by
  have hx := C.1.1
  have hb := C.1.2.1
  intro n
  induction n with
  | zero =>
    intro u H locs ls hk I hl
    rw [f_M_text_L25] at hk
    cases hk
  | succ n ih =>
    intro u H locs ls hk I hl
    rw [f_M_text_L25] at hk
    refine lv_aload_n hx hb d_M_text_25 rfl (lv_at hl 0 rfl) ?_
    refine g_M_at C I k_697 d_M_text_26 ?_
    refine lv_iload_n hx hb d_M_text_29 rfl (lv_at hl 2 rfl) ?_
    refine lv_icmp_ge (tgt := 285) hx hb d_M_text_30 (by decide) (fun hc => ?_) (fun hc => ?_)
    · replace hk := it_u hc hk
      exact hE u _ _ _ hk I (lv_sub hl [] rfl)
    · replace hk := ie_u hc hk
      refine lv_aload_n hx hb d_M_text_33 rfl (lv_at hl 0 rfl) ?_
      obtain ⟨r9, u7, h8, hk⟩ := cI_u hk
      refine go_I I (call_runV (rest := []) C I (c_M_ok C.2.2.2.1 C.2.2.2.2.1 l h8 _) wd_M_ok (q0 := 0) (ci := 7) rfl rfl k_834 ⟨rfl, rfl⟩ ⟨by decide, by decide⟩ rfl hl.1 rfl (Nat.le_of_ble_eq_true rfl) d_M_text_34) (fun H locs I => ?_)
      refine lv_if_eq (tgt := 285) hx hb d_M_text_37 (by decide) (fun hc => ?_) (fun hc => ?_)
      · replace hk := it_u hc hk
        exact hE u7 _ _ _ hk I (lv_sub hl [] rfl)
      · replace hk := ie_u hc hk
        refine lv_aload_n hx hb d_M_text_40 rfl (lv_at hl 0 rfl) ?_
        refine g_M_at C I k_697 d_M_text_41 ?_
        refine lv_istore (lv' := [(4, .int (u7.1 2)), (0, .ref (a 0)), (1, .int x1), (3, .int x3)]) hx hb d_M_text_44 hl (by decide) rfl (fun ls hl => ?_)
        refine lv_aload_n hx hb d_M_text_46 rfl (lv_at hl 1 rfl) ?_
        obtain ⟨r12, u10, h11, hk⟩ := cI_u hk
        refine go_I I (call_runV (rest := []) C I (c_M_u1 C.2.2.2.1 C.2.2.2.2.1 l h11 _) wd_M_u1 (q0 := 0) (ci := 7) rfl rfl k_830 ⟨rfl, rfl⟩ ⟨by decide, by decide⟩ rfl hl.1 rfl (Nat.le_of_ble_eq_true rfl) d_M_text_47) (fun H locs I => ?_)
        refine lv_istore (lv' := [(5, .int r12), (4, .int (u7.1 2)), (0, .ref (a 0)), (1, .int x1), (3, .int x3)]) hx hb d_M_text_50 hl (by decide) rfl (fun ls hl => ?_)
        refine lv_aload_n hx hb d_M_text_52 rfl (lv_at hl 2 rfl) ?_
        obtain ⟨r15, u13, h14, hk⟩ := cI_u hk
        refine go_I I (call_runV (rest := []) C I (c_M_ok C.2.2.2.1 C.2.2.2.2.1 l h14 _) wd_M_ok (q0 := 0) (ci := 7) rfl rfl k_834 ⟨rfl, rfl⟩ ⟨by decide, by decide⟩ rfl hl.1 rfl (Nat.le_of_ble_eq_true rfl) d_M_text_53) (fun H locs I => ?_)
        refine lv_if_ne (tgt := 60) hx hb d_M_text_56 (by decide) (fun hc => ?_) (fun hc => ?_)
        · replace hk := ie_u hc hk
          refine lv_iload hx hb d_M_text_60 (lv_at hl 0 rfl) ?_
          refine lv_iconst (v := 1) hx hb d_M_text_62 (by decide) ?_
          obtain ⟨z16, hj39, hk⟩ := bnd_u hk
          have Khj39 : ∀ (H : Heap) (locs : List Loc) (ls : Array Slot), Dy clA D (mW a cs) s H locs u13 → lv_has ls 10 [(0, .ref (a 0)), (1, .int x1), (3, .int x3), (4, .int (u7.1 2)), (5, .int r12)] → W p l e rm_M_text s m args below meth c H locs 0 0 Q (F0 m 126 ls [.int z16]) := by
            intro H locs ls I hl
            refine lv_istore (lv' := [(6, .int z16), (0, .ref (a 0)), (1, .int x1), (3, .int x3), (4, .int (u7.1 2)), (5, .int r12)]) hx hb d_M_text_126 hl (by decide) rfl (fun ls hl => ?_)
            refine lv_aload_n hx hb d_M_text_128 rfl (lv_at hl 1 rfl) ?_
            refine lv_iload hx hb d_M_text_129 (lv_at hl 0 rfl) ?_
            refine lv_iconst (v := (-1)) hx hb d_M_text_131 (by decide) ?_
            obtain ⟨z17, hj38, hk⟩ := bnd_u hk
            have Khj38 : ∀ (H : Heap) (locs : List Loc) (ls : Array Slot), Dy clA D (mW a cs) s H locs u13 → lv_has ls 10 [(0, .ref (a 0)), (1, .int x1), (3, .int x3), (4, .int (u7.1 2)), (5, .int r12), (6, .int z16)] → W p l e rm_M_text s m args below meth c H locs 0 0 Q (F0 m 140 ls [.int z17, .ref (a 0)]) := by
              intro H locs ls I hl
              refine lv_iconst (v := 5) hx hb d_M_text_140 (by decide) ?_
              refine lv_iload hx hb d_M_text_141 (lv_at hl 3 rfl) ?_
              obtain ⟨r20, u18, h19, hk⟩ := cI_u hk
              refine go_I I (call_runV (rest := []) C I (c_M_must C.2.2.2.1 C.2.2.2.2.1 l h19 _) wd_M_must (q0 := 0) (ci := 7) rfl rfl k_843 ⟨rfl, rfl⟩ ⟨by decide, by decide⟩ rfl hl.1 rfl (Nat.le_of_ble_eq_true rfl) d_M_text_143) (fun H locs I => ?_)
              refine lv_if_ne (tgt := 150) hx hb d_M_text_146 (by decide) (fun hc => ?_) (fun hc => ?_)
              · replace hk := ie_u hc hk
                refine lv_iconst (v := 0) hx hb d_M_text_150 (by decide) ?_
                refine lv_istore (lv' := [(7, .int 0), (0, .ref (a 0)), (1, .int x1), (3, .int x3), (4, .int (u7.1 2)), (5, .int r12), (6, .int z16)]) hx hb d_M_text_151 hl (by decide) rfl (fun ls hl => ?_)
                refine w_M_text_L153 C (fun u37 H locs ls hk I hl => ?_) hQ FU u18 0 _ _ _ hk I (lv_sub hl [1, 2, 3, 5, 6, 0] rfl)
                refine lv_goto (tgt := 25) hx hb d_M_text_282 (by decide) ?_
                exact ih u37 _ _ _ hk I (lv_sub hl [0, 1, 2] rfl)
              · replace hk := it_u hc hk
                exact hQ _ _ _ _ _ I hk d_M_text_149
            refine lv_icmp_eq (tgt := 139) hx hb d_M_text_132 (by decide) (fun hc => ?_) (fun hc => ?_)
            · replace hj38 := it_u hc hj38
              refine lv_iconst (v := 0) hx hb d_M_text_139 (by decide) ?_
              cases hj38
              exact Khj38 _ _ _ I (lv_sub hl [1, 2, 3, 4, 5, 0] rfl)
            · replace hj38 := ie_u hc hj38
              refine lv_iconst (v := 1) hx hb d_M_text_135 (by decide) ?_
              refine lv_goto (tgt := 140) hx hb d_M_text_136 (by decide) ?_
              cases hj38
              exact Khj38 _ _ _ I (lv_sub hl [1, 2, 3, 4, 5, 0] rfl)
          refine lv_icmp_lt (tgt := 77) hx hb d_M_text_63 (by decide) (fun hc => ?_) (fun hc => ?_)
          · replace hj39 := it_u hc hj39
            refine lv_iload hx hb d_M_text_77 (lv_at hl 0 rfl) ?_
            refine lv_sipush (v := 192) hx hb d_M_text_79 (by decide) ?_
            refine lv_icmp_eq (tgt := 101) hx hb d_M_text_82 (by decide) (fun hc => ?_) (fun hc => ?_)
            · replace hj39 := it_u hc hj39
              refine lv_iconst (v := 1) hx hb d_M_text_101 (by decide) ?_
              refine lv_goto (tgt := 126) hx hb d_M_text_102 (by decide) ?_
              cases hj39
              exact Khj39 _ _ _ I (lv_sub hl [2, 3, 4, 1, 0] rfl)
            · replace hj39 := ie_u hc hj39
              refine lv_iload hx hb d_M_text_85 (lv_at hl 0 rfl) ?_
              refine lv_sipush (v := 194) hx hb d_M_text_87 (by decide) ?_
              refine lv_icmp_lt (tgt := 105) hx hb d_M_text_90 (by decide) (fun hc => ?_) (fun hc => ?_)
              · replace hj39 := it_u hc hj39
                refine lv_iload hx hb d_M_text_105 (lv_at hl 0 rfl) ?_
                refine lv_sipush (v := 224) hx hb d_M_text_107 (by decide) ?_
                refine lv_icmp_lt (tgt := 125) hx hb d_M_text_110 (by decide) (fun hc => ?_) (fun hc => ?_)
                · replace hj39 := it_u hc hj39
                  refine lv_iconst (v := (-1)) hx hb d_M_text_125 (by decide) ?_
                  cases hj39
                  exact Khj39 _ _ _ I (lv_sub hl [2, 3, 4, 1, 0] rfl)
                · replace hj39 := ie_u hc hj39
                  refine lv_iload hx hb d_M_text_113 (lv_at hl 0 rfl) ?_
                  refine lv_sipush (v := 239) hx hb d_M_text_115 (by decide) ?_
                  refine lv_icmp_gt (tgt := 125) hx hb d_M_text_118 (by decide) (fun hc => ?_) (fun hc => ?_)
                  · replace hj39 := it_u hc hj39
                    refine lv_iconst (v := (-1)) hx hb d_M_text_125 (by decide) ?_
                    cases hj39
                    exact Khj39 _ _ _ I (lv_sub hl [2, 3, 4, 1, 0] rfl)
                  · replace hj39 := ie_u hc hj39
                    refine lv_iconst (v := 2) hx hb d_M_text_121 (by decide) ?_
                    refine lv_goto (tgt := 126) hx hb d_M_text_122 (by decide) ?_
                    cases hj39
                    exact Khj39 _ _ _ I (lv_sub hl [2, 3, 4, 1, 0] rfl)
              · replace hj39 := ie_u hc hj39
                refine lv_iload hx hb d_M_text_93 (lv_at hl 0 rfl) ?_
                refine lv_sipush (v := 223) hx hb d_M_text_95 (by decide) ?_
                refine lv_icmp_gt (tgt := 105) hx hb d_M_text_98 (by decide) (fun hc => ?_) (fun hc => ?_)
                · replace hj39 := it_u hc hj39
                  refine lv_iload hx hb d_M_text_105 (lv_at hl 0 rfl) ?_
                  refine lv_sipush (v := 224) hx hb d_M_text_107 (by decide) ?_
                  refine lv_icmp_lt (tgt := 125) hx hb d_M_text_110 (by decide) (fun hc => ?_) (fun hc => ?_)
                  · replace hj39 := it_u hc hj39
                    refine lv_iconst (v := (-1)) hx hb d_M_text_125 (by decide) ?_
                    cases hj39
                    exact Khj39 _ _ _ I (lv_sub hl [2, 3, 4, 1, 0] rfl)
                  · replace hj39 := ie_u hc hj39
                    refine lv_iload hx hb d_M_text_113 (lv_at hl 0 rfl) ?_
                    refine lv_sipush (v := 239) hx hb d_M_text_115 (by decide) ?_
                    refine lv_icmp_gt (tgt := 125) hx hb d_M_text_118 (by decide) (fun hc => ?_) (fun hc => ?_)
                    · replace hj39 := it_u hc hj39
                      refine lv_iconst (v := (-1)) hx hb d_M_text_125 (by decide) ?_
                      cases hj39
                      exact Khj39 _ _ _ I (lv_sub hl [2, 3, 4, 1, 0] rfl)
                    · replace hj39 := ie_u hc hj39
                      refine lv_iconst (v := 2) hx hb d_M_text_121 (by decide) ?_
                      refine lv_goto (tgt := 126) hx hb d_M_text_122 (by decide) ?_
                      cases hj39
                      exact Khj39 _ _ _ I (lv_sub hl [2, 3, 4, 1, 0] rfl)
                · replace hj39 := ie_u hc hj39
                  refine lv_iconst (v := 1) hx hb d_M_text_101 (by decide) ?_
                  refine lv_goto (tgt := 126) hx hb d_M_text_102 (by decide) ?_
                  cases hj39
                  exact Khj39 _ _ _ I (lv_sub hl [2, 3, 4, 1, 0] rfl)
          · replace hj39 := ie_u hc hj39
            refine lv_iload hx hb d_M_text_66 (lv_at hl 0 rfl) ?_
            refine lv_bipush (v := 127) hx hb d_M_text_68 (by decide) ?_
            refine lv_icmp_gt (tgt := 77) hx hb d_M_text_70 (by decide) (fun hc => ?_) (fun hc => ?_)
            · replace hj39 := it_u hc hj39
              refine lv_iload hx hb d_M_text_77 (lv_at hl 0 rfl) ?_
              refine lv_sipush (v := 192) hx hb d_M_text_79 (by decide) ?_
              refine lv_icmp_eq (tgt := 101) hx hb d_M_text_82 (by decide) (fun hc => ?_) (fun hc => ?_)
              · replace hj39 := it_u hc hj39
                refine lv_iconst (v := 1) hx hb d_M_text_101 (by decide) ?_
                refine lv_goto (tgt := 126) hx hb d_M_text_102 (by decide) ?_
                cases hj39
                exact Khj39 _ _ _ I (lv_sub hl [2, 3, 4, 1, 0] rfl)
              · replace hj39 := ie_u hc hj39
                refine lv_iload hx hb d_M_text_85 (lv_at hl 0 rfl) ?_
                refine lv_sipush (v := 194) hx hb d_M_text_87 (by decide) ?_
                refine lv_icmp_lt (tgt := 105) hx hb d_M_text_90 (by decide) (fun hc => ?_) (fun hc => ?_)
                · replace hj39 := it_u hc hj39
                  refine lv_iload hx hb d_M_text_105 (lv_at hl 0 rfl) ?_
                  refine lv_sipush (v := 224) hx hb d_M_text_107 (by decide) ?_
                  refine lv_icmp_lt (tgt := 125) hx hb d_M_text_110 (by decide) (fun hc => ?_) (fun hc => ?_)
                  · replace hj39 := it_u hc hj39
                    refine lv_iconst (v := (-1)) hx hb d_M_text_125 (by decide) ?_
                    cases hj39
                    exact Khj39 _ _ _ I (lv_sub hl [2, 3, 4, 1, 0] rfl)
                  · replace hj39 := ie_u hc hj39
                    refine lv_iload hx hb d_M_text_113 (lv_at hl 0 rfl) ?_
                    refine lv_sipush (v := 239) hx hb d_M_text_115 (by decide) ?_
                    refine lv_icmp_gt (tgt := 125) hx hb d_M_text_118 (by decide) (fun hc => ?_) (fun hc => ?_)
                    · replace hj39 := it_u hc hj39
                      refine lv_iconst (v := (-1)) hx hb d_M_text_125 (by decide) ?_
                      cases hj39
                      exact Khj39 _ _ _ I (lv_sub hl [2, 3, 4, 1, 0] rfl)
                    · replace hj39 := ie_u hc hj39
                      refine lv_iconst (v := 2) hx hb d_M_text_121 (by decide) ?_
                      refine lv_goto (tgt := 126) hx hb d_M_text_122 (by decide) ?_
                      cases hj39
                      exact Khj39 _ _ _ I (lv_sub hl [2, 3, 4, 1, 0] rfl)
                · replace hj39 := ie_u hc hj39
                  refine lv_iload hx hb d_M_text_93 (lv_at hl 0 rfl) ?_
                  refine lv_sipush (v := 223) hx hb d_M_text_95 (by decide) ?_
                  refine lv_icmp_gt (tgt := 105) hx hb d_M_text_98 (by decide) (fun hc => ?_) (fun hc => ?_)
                  · replace hj39 := it_u hc hj39
                    refine lv_iload hx hb d_M_text_105 (lv_at hl 0 rfl) ?_
                    refine lv_sipush (v := 224) hx hb d_M_text_107 (by decide) ?_
                    refine lv_icmp_lt (tgt := 125) hx hb d_M_text_110 (by decide) (fun hc => ?_) (fun hc => ?_)
                    · replace hj39 := it_u hc hj39
                      refine lv_iconst (v := (-1)) hx hb d_M_text_125 (by decide) ?_
                      cases hj39
                      exact Khj39 _ _ _ I (lv_sub hl [2, 3, 4, 1, 0] rfl)
                    · replace hj39 := ie_u hc hj39
                      refine lv_iload hx hb d_M_text_113 (lv_at hl 0 rfl) ?_
                      refine lv_sipush (v := 239) hx hb d_M_text_115 (by decide) ?_
                      refine lv_icmp_gt (tgt := 125) hx hb d_M_text_118 (by decide) (fun hc => ?_) (fun hc => ?_)
                      · replace hj39 := it_u hc hj39
                        refine lv_iconst (v := (-1)) hx hb d_M_text_125 (by decide) ?_
                        cases hj39
                        exact Khj39 _ _ _ I (lv_sub hl [2, 3, 4, 1, 0] rfl)
                      · replace hj39 := ie_u hc hj39
                        refine lv_iconst (v := 2) hx hb d_M_text_121 (by decide) ?_
                        refine lv_goto (tgt := 126) hx hb d_M_text_122 (by decide) ?_
                        cases hj39
                        exact Khj39 _ _ _ I (lv_sub hl [2, 3, 4, 1, 0] rfl)
                  · replace hj39 := ie_u hc hj39
                    refine lv_iconst (v := 1) hx hb d_M_text_101 (by decide) ?_
                    refine lv_goto (tgt := 126) hx hb d_M_text_102 (by decide) ?_
                    cases hj39
                    exact Khj39 _ _ _ I (lv_sub hl [2, 3, 4, 1, 0] rfl)
            · replace hj39 := ie_u hc hj39
              refine lv_iconst (v := 0) hx hb d_M_text_73 (by decide) ?_
              refine lv_goto (tgt := 126) hx hb d_M_text_74 (by decide) ?_
              cases hj39
              exact Khj39 _ _ _ I (lv_sub hl [2, 3, 4, 1, 0] rfl)
        · replace hk := it_u hc hk
          exact hQ _ _ _ _ _ I hk d_M_text_59
set_option maxHeartbeats 4000000 in
set_option maxRecDepth 100000 in
theorem c_M_text {Z : zT} {D : va_G} {cs : Nat → ClassId} {a : Nat → Nat} (hw : wD (mW a cs)) (hz : zOK Z) (l : Launch) {u : St} {u' : St} (hk : f_M_text u = some u') : KV clA D cs (mW a cs) Z l y_M_text (.code y_M_text prog_9_method_35_code 10 (Option.none : Option Jvm.ClassFile.FieldType)) rm_M_text [.ref (a 0)] u u' := by
  unfold f_M_text at hk
  refine KV.of (by decide) (Nat.le_of_ble_eq_true rfl) hw hz ?_
  intro p e s m args below meth c Q C I hQ ls hl
  have hl : lv_has ls 10 [(0, .ref (a 0))] := hl
  have hx := C.1.1
  have hb := C.1.2.1
  refine lv_aload_n hx hb d_M_text_0 rfl (lv_at hl 0 rfl) ?_
  refine g_M_at C I k_697 d_M_text_1 ?_
  refine lv_istore_n (lv' := [(1, .int (u.1 2)), (0, .ref (a 0))]) hx hb d_M_text_4 rfl hl (by decide) rfl (fun ls hl => ?_)
  refine lv_aload_n hx hb d_M_text_5 rfl (lv_at hl 1 rfl) ?_
  obtain ⟨r3, u1, h2, hk⟩ := cI_u hk
  refine go_I I (call_runV (rest := []) C I (c_M_u2 C.2.2.2.1 C.2.2.2.2.1 l h2 _) wd_M_u2 (q0 := 0) (ci := 7) rfl rfl k_826 ⟨rfl, rfl⟩ ⟨by decide, by decide⟩ rfl hl.1 rfl (Nat.le_of_ble_eq_true rfl) d_M_text_6) (fun H locs I => ?_)
  refine lv_istore_n (lv' := [(2, .int r3), (1, .int (u.1 2)), (0, .ref (a 0))]) hx hb d_M_text_9 rfl hl (by decide) rfl (fun ls hl => ?_)
  refine lv_aload_n hx hb d_M_text_10 rfl (lv_at hl 2 rfl) ?_
  obtain ⟨r6, u4, h5, hk⟩ := cI_u hk
  refine go_I I (call_runV (rest := []) C I (c_M_ok C.2.2.2.1 C.2.2.2.2.1 l h5 _) wd_M_ok (q0 := 0) (ci := 7) rfl rfl k_834 ⟨rfl, rfl⟩ ⟨by decide, by decide⟩ rfl hl.1 rfl (Nat.le_of_ble_eq_true rfl) d_M_text_11) (fun H locs I => ?_)
  refine lv_if_ne (tgt := 18) hx hb d_M_text_14 (by decide) (fun hc => ?_) (fun hc => ?_)
  · replace hk := ie_u hc hk
    refine lv_aload_n hx hb d_M_text_18 rfl (lv_at hl 2 rfl) ?_
    refine g_M_at C I k_697 d_M_text_19 ?_
    refine lv_iload_n hx hb d_M_text_22 rfl (lv_at hl 0 rfl) ?_
    refine lv_iadd hx hb d_M_text_23 ?_
    refine lv_istore_n (lv' := [(3, .int ((u4.1 2) + r3)), (2, .int r3), (1, .int (u.1 2)), (0, .ref (a 0))]) hx hb d_M_text_24 rfl hl (by decide) rfl (fun ls hl => ?_)
    refine w_M_text_L25 C (fun u40 H locs ls hk I hl => ?_) hQ FU u4 _ _ _ hk I (lv_sub hl [3, 2, 0] rfl)
    exact hQ _ _ _ _ _ I hk d_M_text_285
  · replace hk := it_u hc hk
    exact hQ _ _ _ _ _ I hk d_M_text_17
def rm_M_pool : Room := { frames := 4, cells := 0, slots := 0, locals := 92 }
noncomputable def f_M_pool_L48 (kx : St → Option (St)) : Nat → St → Int32 → Option (St)
  | 0, _, _ => none
  | n + 1, u, x2 => if (u.1 6) ≤ x2 then (kx u) else (cI (f_M_ok u) fun r11 u9 => if r11 = 0 then (kx u9) else (cI (f_M_u1 u9) fun r14 u12 => cI (f_M_ok u12) fun r17 u15 => if r17 = 0 then (some u15) else (gd x2 300 (bnd (sa u15 2 x2.toNatClampNeg (u9.1 2)) fun u18 => if r14 = 1 then (cV (f_M_text u18) fun u19 => cI (f_M_ok u19) fun r23 u21 => if r23 = 0 then (some u21) else (gd x2 300 (bnd (sa u21 1 x2.toNatClampNeg r14) fun u24 => bnd (if r14 = 5 then ((x2 + 1)) else (x2)) fun (z25 : Int32) => f_M_pool_L48 kx n u24 (z25 + 1)))) else (if r14 = 3 then (cJ (f_M_u4 u18) fun r29 u27 => cI (f_M_ok u27) fun r32 u30 => if r32 = 0 then (some u30) else (gd x2 300 (bnd (sa u30 1 x2.toNatClampNeg r14) fun u33 => bnd (if r14 = 5 then ((x2 + 1)) else (x2)) fun (z34 : Int32) => f_M_pool_L48 kx n u33 (z34 + 1)))) else (if r14 = 4 ∨ r14 = 6 ∨ r14 = 15 ∨ r14 = 16 ∨ r14 = 17 ∨ r14 = 18 ∨ r14 = 19 ∨ r14 = 20 then (cI (f_M_fails u18 7 (u9.1 2)) fun r38 u36 => some u36) else (if r14 = 5 then (cJ (f_M_u4 u18) fun r41 u39 => cJ (f_M_u4 u39) fun r44 u42 => bnd (if ((u42.1 6) - 1) ≤ x2 then (0) else (1)) fun (z45 : Int32) => cI (f_M_must u42 z45 4 (u9.1 2)) fun r48 u46 => cI (f_M_ok u46) fun r51 u49 => if r51 = 0 then (some u49) else (gd x2 300 (bnd (sa u49 1 x2.toNatClampNeg r14) fun u52 => bnd (if r14 = 5 then ((x2 + 1)) else (x2)) fun (z53 : Int32) => f_M_pool_L48 kx n u52 (z53 + 1)))) else (if r14 = 7 ∨ r14 = 8 then (cI (f_M_u2 u18) fun r58 u56 => cI (f_M_ok u56) fun r61 u59 => if r61 = 0 then (some u59) else (gd x2 300 (bnd (sa u59 1 x2.toNatClampNeg r14) fun u62 => bnd (if r14 = 5 then ((x2 + 1)) else (x2)) fun (z63 : Int32) => f_M_pool_L48 kx n u62 (z63 + 1)))) else (if r14 = 9 ∨ r14 = 10 ∨ r14 = 11 ∨ r14 = 12 then (cJ (f_M_u4 u18) fun r67 u65 => cI (f_M_ok u65) fun r70 u68 => if r70 = 0 then (some u68) else (gd x2 300 (bnd (sa u68 1 x2.toNatClampNeg r14) fun u71 => bnd (if r14 = 5 then ((x2 + 1)) else (x2)) fun (z72 : Int32) => f_M_pool_L48 kx n u71 (z72 + 1)))) else (cI (f_M_fails u18 6 (u9.1 2)) fun r76 u74 => some u74))))))))))
noncomputable def f_M_pool (u : St) : Option (St) := cI (f_M_u2 u) fun r3 u1 => bnd (sv u1 6 r3) fun u4 => bnd (if (u4.1 6) < 1 then (0) else (if 300 < (u4.1 6) then (0) else (1))) fun (z5 : Int32) => cI (f_M_must u4 z5 4 (u.1 2)) fun r8 u6 => if r8 = 0 then (some u6) else (f_M_pool_L48 (fun u77 => some u77) FU u6 1)
set_option maxHeartbeats 4000000 in
set_option maxRecDepth 100000 in
theorem w_M_pool_L48 {Z : zT} {D : va_G} {cs : Nat → ClassId} {a : Nat → Nat} {p : Program} {l : Launch} {e : Env} {s : State} {m : MethodId} {args : Array Value} {below : List Frame} {meth : Method} {c : Code} {Q : State → Prop} {F : St} {kx : St → Option (St)} (C : Cx clA R_M prog_9_method_34_code 5 D cs (mW a cs) Z p s m args c) (hE : ∀ (u2 : St) (H : Heap) (locs : List Loc) (ls : Array Slot), kx u2 = some F → Dy clA D (mW a cs) s H locs u2 → lv_has ls 5 [] → W p l e rm_M_pool s m args below meth c H locs 0 0 Q (F0 m 299 ls [])) (hQ : ∀ (H : Heap) (locs : List Loc) (pc : Nat) (ls : Array Slot) (u1 : St), Dy clA D (mW a cs) s H locs u1 → some u1 = some F → decode prog_9_method_34_code pc = .ok (.return_, 1) → W p l e rm_M_pool s m args below meth c H locs 0 0 Q (F0 m pc ls [])): ∀ (n : Nat) (u : St) (x2 : Int32) (H : Heap) (locs : List Loc) (ls : Array Slot), f_M_pool_L48 kx n u x2 = some F → Dy clA D (mW a cs) s H locs u → lv_has ls 5 [(0, .ref (a 0)), (2, .int x2)] → W p l e rm_M_pool s m args below meth c H locs 0 0 Q (F0 m 48 ls []) := by
  have hx := C.1.1
  have hb := C.1.2.1
  intro n
  induction n with
  | zero =>
    intro u x2 H locs ls hk I hl
    rw [f_M_pool_L48] at hk
    cases hk
  | succ n ih =>
    intro u x2 H locs ls hk I hl
    rw [f_M_pool_L48] at hk
    refine lv_iload_n hx hb d_M_pool_48 rfl (lv_at hl 1 rfl) ?_
    refine lv_aload_n hx hb d_M_pool_49 rfl (lv_at hl 0 rfl) ?_
    refine g_M_many C I k_701 d_M_pool_50 ?_
    refine lv_icmp_ge (tgt := 299) hx hb d_M_pool_53 (by decide) (fun hc => ?_) (fun hc => ?_)
    · replace hk := it_u hc hk
      exact hE u _ _ _ hk I (lv_sub hl [] rfl)
    · replace hk := ie_u hc hk
      refine lv_aload_n hx hb d_M_pool_56 rfl (lv_at hl 0 rfl) ?_
      obtain ⟨r11, u9, h10, hk⟩ := cI_u hk
      refine go_I I (call_runV (rest := []) C I (c_M_ok C.2.2.2.1 C.2.2.2.2.1 l h10 _) wd_M_ok (q0 := 0) (ci := 7) rfl rfl k_834 ⟨rfl, rfl⟩ ⟨by decide, by decide⟩ rfl hl.1 rfl (Nat.le_of_ble_eq_true rfl) d_M_pool_57) (fun H locs I => ?_)
      refine lv_if_eq (tgt := 299) hx hb d_M_pool_60 (by decide) (fun hc => ?_) (fun hc => ?_)
      · replace hk := it_u hc hk
        exact hE u9 _ _ _ hk I (lv_sub hl [] rfl)
      · replace hk := ie_u hc hk
        refine lv_aload_n hx hb d_M_pool_63 rfl (lv_at hl 0 rfl) ?_
        refine g_M_at C I k_697 d_M_pool_64 ?_
        refine lv_istore_n (lv' := [(3, .int (u9.1 2)), (0, .ref (a 0)), (2, .int x2)]) hx hb d_M_pool_67 rfl hl (by decide) rfl (fun ls hl => ?_)
        refine lv_aload_n hx hb d_M_pool_68 rfl (lv_at hl 1 rfl) ?_
        obtain ⟨r14, u12, h13, hk⟩ := cI_u hk
        refine go_I I (call_runV (rest := []) C I (c_M_u1 C.2.2.2.1 C.2.2.2.2.1 l h13 _) wd_M_u1 (q0 := 0) (ci := 7) rfl rfl k_830 ⟨rfl, rfl⟩ ⟨by decide, by decide⟩ rfl hl.1 rfl (Nat.le_of_ble_eq_true rfl) d_M_pool_69) (fun H locs I => ?_)
        refine lv_istore (lv' := [(4, .int r14), (3, .int (u9.1 2)), (0, .ref (a 0)), (2, .int x2)]) hx hb d_M_pool_72 hl (by decide) rfl (fun ls hl => ?_)
        refine lv_aload_n hx hb d_M_pool_74 rfl (lv_at hl 2 rfl) ?_
        obtain ⟨r17, u15, h16, hk⟩ := cI_u hk
        refine go_I I (call_runV (rest := []) C I (c_M_ok C.2.2.2.1 C.2.2.2.2.1 l h16 _) wd_M_ok (q0 := 0) (ci := 7) rfl rfl k_834 ⟨rfl, rfl⟩ ⟨by decide, by decide⟩ rfl hl.1 rfl (Nat.le_of_ble_eq_true rfl) d_M_pool_75) (fun H locs I => ?_)
        refine lv_if_ne (tgt := 82) hx hb d_M_pool_78 (by decide) (fun hc => ?_) (fun hc => ?_)
        · replace hk := ie_u hc hk
          refine lv_aload_n hx hb d_M_pool_82 rfl (lv_at hl 2 rfl) ?_
          refine g_M_begins C I k_703 d_M_pool_83 ?_
          refine lv_iload_n hx hb d_M_pool_86 rfl (lv_at hl 3 rfl) ?_
          refine lv_iload_n hx hb d_M_pool_87 rfl (lv_at hl 1 rfl) ?_
          obtain ⟨hi, hk⟩ := gd_u hk
          refine s_M_begins C I hi d_M_pool_88 (fun H locs I => ?_)
          obtain ⟨u18, hu, hk⟩ := bnd_u hk
          rw [hu] at I
          clear hu
          refine lv_iload hx hb d_M_pool_89 (lv_at hl 0 rfl) ?_
          by_cases hs0 : r14 = 1
          · replace hk := it_u hs0 hk
            refine lv_tableIn (tgt := 184) (off := 93) hx hb d_M_pool_91 (by rw [hs0]; decide) (by rw [hs0]; decide) (by rw [hs0]; decide) (by decide) ?_
            refine lv_aload_n hx hb d_M_pool_184 rfl (lv_at hl 2 rfl) ?_
            obtain ⟨u19, h20, hk⟩ := cV_u hk
            refine go_V I (call_runV (rest := []) C I (c_M_text C.2.2.2.1 C.2.2.2.2.1 l h20 _) wd_M_text (q0 := 0) (ci := 7) rfl rfl k_851 ⟨rfl, rfl⟩ ⟨by decide, by decide⟩ rfl hl.1 rfl (Nat.le_of_ble_eq_true rfl) d_M_pool_185) (fun H locs I => ?_)
            refine lv_goto (tgt := 268) hx hb d_M_pool_188 (by decide) ?_
            refine lv_aload_n hx hb d_M_pool_268 rfl (lv_at hl 2 rfl) ?_
            obtain ⟨r23, u21, h22, hk⟩ := cI_u hk
            refine go_I I (call_runV (rest := []) C I (c_M_ok C.2.2.2.1 C.2.2.2.2.1 l h22 _) wd_M_ok (q0 := 0) (ci := 7) rfl rfl k_834 ⟨rfl, rfl⟩ ⟨by decide, by decide⟩ rfl hl.1 rfl (Nat.le_of_ble_eq_true rfl) d_M_pool_269) (fun H locs I => ?_)
            refine lv_if_ne (tgt := 276) hx hb d_M_pool_272 (by decide) (fun hc => ?_) (fun hc => ?_)
            · replace hk := ie_u hc hk
              refine lv_aload_n hx hb d_M_pool_276 rfl (lv_at hl 2 rfl) ?_
              refine g_M_kinds C I k_702 d_M_pool_277 ?_
              refine lv_iload_n hx hb d_M_pool_280 rfl (lv_at hl 3 rfl) ?_
              refine lv_iload hx hb d_M_pool_281 (lv_at hl 0 rfl) ?_
              obtain ⟨hi, hk⟩ := gd_u hk
              refine s_M_kinds C I hi d_M_pool_283 (fun H locs I => ?_)
              obtain ⟨u24, hu, hk⟩ := bnd_u hk
              rw [hu] at I
              clear hu
              refine lv_iload hx hb d_M_pool_284 (lv_at hl 0 rfl) ?_
              refine lv_iconst (v := 5) hx hb d_M_pool_286 (by decide) ?_
              obtain ⟨z25, hj26, hk⟩ := bnd_u hk
              have Khj26 : ∀ (H : Heap) (locs : List Loc) (ls : Array Slot), Dy clA D (mW a cs) s H locs u24 → lv_has ls 5 [(0, .ref (a 0)), (2, .int z25)] → W p l e rm_M_pool s m args below meth c H locs 0 0 Q (F0 m 293 ls []) := by
                intro H locs ls I hl
                refine lv_iinc (v := (z25 + 1)) (lv' := [(2, .int (z25 + 1)), (0, .ref (a 0))]) hx hb d_M_pool_293 hl (k := 1) rfl rfl (by decide) rfl (fun ls hl => ?_)
                refine lv_goto (tgt := 48) hx hb d_M_pool_296 (by decide) ?_
                exact ih u24 (z25 + 1) _ _ _ hk I (lv_sub hl [1, 0] rfl)
              refine lv_icmp_ne (tgt := 293) hx hb d_M_pool_287 (by decide) (fun hc => ?_) (fun hc => ?_)
              · replace hj26 := ie_u hc hj26
                cases hj26
                exact Khj26 _ _ _ I (lv_sub hl [2, 3] rfl)
              · replace hj26 := it_u hc hj26
                refine lv_iinc (v := (x2 + 1)) (lv' := [(2, .int (x2 + 1)), (4, .int r14), (3, .int (u9.1 2)), (0, .ref (a 0))]) hx hb d_M_pool_290 hl (k := 3) rfl rfl (by decide) rfl (fun ls hl => ?_)
                cases hj26
                exact Khj26 _ _ _ I (lv_sub hl [3, 0] rfl)
            · replace hk := it_u hc hk
              exact hQ _ _ _ _ _ I hk d_M_pool_275
          replace hk := ie_u hs0 hk
          by_cases hs1 : r14 = 3
          · replace hk := it_u hs1 hk
            refine lv_tableIn (tgt := 191) (off := 100) hx hb d_M_pool_91 (by rw [hs1]; decide) (by rw [hs1]; decide) (by rw [hs1]; decide) (by decide) ?_
            refine lv_aload_n hx hb d_M_pool_191 rfl (lv_at hl 2 rfl) ?_
            obtain ⟨r29, u27, h28, hk⟩ := cJ_u hk
            refine go_J I (call_runV (rest := []) C I (c_M_u4 C.2.2.2.1 C.2.2.2.2.1 l h28 _) wd_M_u4 (q0 := 0) (ci := 7) rfl rfl k_822 ⟨rfl, rfl⟩ ⟨by decide, by decide⟩ rfl hl.1 rfl (Nat.le_of_ble_eq_true rfl) d_M_pool_192) (fun H locs I => ?_)
            refine lv_pop2_2 hx hb d_M_pool_195 rfl ?_
            refine lv_goto (tgt := 268) hx hb d_M_pool_196 (by decide) ?_
            refine lv_aload_n hx hb d_M_pool_268 rfl (lv_at hl 2 rfl) ?_
            obtain ⟨r32, u30, h31, hk⟩ := cI_u hk
            refine go_I I (call_runV (rest := []) C I (c_M_ok C.2.2.2.1 C.2.2.2.2.1 l h31 _) wd_M_ok (q0 := 0) (ci := 7) rfl rfl k_834 ⟨rfl, rfl⟩ ⟨by decide, by decide⟩ rfl hl.1 rfl (Nat.le_of_ble_eq_true rfl) d_M_pool_269) (fun H locs I => ?_)
            refine lv_if_ne (tgt := 276) hx hb d_M_pool_272 (by decide) (fun hc => ?_) (fun hc => ?_)
            · replace hk := ie_u hc hk
              refine lv_aload_n hx hb d_M_pool_276 rfl (lv_at hl 2 rfl) ?_
              refine g_M_kinds C I k_702 d_M_pool_277 ?_
              refine lv_iload_n hx hb d_M_pool_280 rfl (lv_at hl 3 rfl) ?_
              refine lv_iload hx hb d_M_pool_281 (lv_at hl 0 rfl) ?_
              obtain ⟨hi, hk⟩ := gd_u hk
              refine s_M_kinds C I hi d_M_pool_283 (fun H locs I => ?_)
              obtain ⟨u33, hu, hk⟩ := bnd_u hk
              rw [hu] at I
              clear hu
              refine lv_iload hx hb d_M_pool_284 (lv_at hl 0 rfl) ?_
              refine lv_iconst (v := 5) hx hb d_M_pool_286 (by decide) ?_
              obtain ⟨z34, hj35, hk⟩ := bnd_u hk
              have Khj35 : ∀ (H : Heap) (locs : List Loc) (ls : Array Slot), Dy clA D (mW a cs) s H locs u33 → lv_has ls 5 [(0, .ref (a 0)), (2, .int z34)] → W p l e rm_M_pool s m args below meth c H locs 0 0 Q (F0 m 293 ls []) := by
                intro H locs ls I hl
                refine lv_iinc (v := (z34 + 1)) (lv' := [(2, .int (z34 + 1)), (0, .ref (a 0))]) hx hb d_M_pool_293 hl (k := 1) rfl rfl (by decide) rfl (fun ls hl => ?_)
                refine lv_goto (tgt := 48) hx hb d_M_pool_296 (by decide) ?_
                exact ih u33 (z34 + 1) _ _ _ hk I (lv_sub hl [1, 0] rfl)
              refine lv_icmp_ne (tgt := 293) hx hb d_M_pool_287 (by decide) (fun hc => ?_) (fun hc => ?_)
              · replace hj35 := ie_u hc hj35
                cases hj35
                exact Khj35 _ _ _ I (lv_sub hl [2, 3] rfl)
              · replace hj35 := it_u hc hj35
                refine lv_iinc (v := (x2 + 1)) (lv' := [(2, .int (x2 + 1)), (4, .int r14), (3, .int (u9.1 2)), (0, .ref (a 0))]) hx hb d_M_pool_290 hl (k := 3) rfl rfl (by decide) rfl (fun ls hl => ?_)
                cases hj35
                exact Khj35 _ _ _ I (lv_sub hl [3, 0] rfl)
            · replace hk := it_u hc hk
              exact hQ _ _ _ _ _ I hk d_M_pool_275
          replace hk := ie_u hs1 hk
          by_cases hs2 : r14 = 4 ∨ r14 = 6 ∨ r14 = 15 ∨ r14 = 16 ∨ r14 = 17 ∨ r14 = 18 ∨ r14 = 19 ∨ r14 = 20
          · replace hk := it_u hs2 hk
            refine lv_tableIn (tgt := 250) (off := 159) hx hb d_M_pool_91 (by rcases hs2 with h | h | h | h | h | h | h | h <;> rw [h] <;> decide) (by rcases hs2 with h | h | h | h | h | h | h | h <;> rw [h] <;> decide) (by rcases hs2 with h | h | h | h | h | h | h | h <;> rw [h] <;> decide) (by decide) ?_
            refine lv_aload_n hx hb d_M_pool_250 rfl (lv_at hl 2 rfl) ?_
            refine lv_bipush (v := 7) hx hb d_M_pool_251 (by decide) ?_
            refine lv_iload_n hx hb d_M_pool_253 rfl (lv_at hl 1 rfl) ?_
            obtain ⟨r38, u36, h37, hk⟩ := cI_u hk
            refine go_I I (call_runV (rest := []) C I (c_M_fails C.2.2.2.1 C.2.2.2.2.1 l h37 _) wd_M_fails (q0 := 0) (ci := 7) rfl rfl k_838 ⟨rfl, rfl⟩ ⟨by decide, by decide⟩ rfl hl.1 rfl (Nat.le_of_ble_eq_true rfl) d_M_pool_254) (fun H locs I => ?_)
            refine lv_pop hx hb d_M_pool_257 rfl ?_
            exact hQ _ _ _ _ _ I hk d_M_pool_258
          replace hk := ie_u hs2 hk
          by_cases hs3 : r14 = 5
          · replace hk := it_u hs3 hk
            refine lv_tableIn (tgt := 199) (off := 108) hx hb d_M_pool_91 (by rw [hs3]; decide) (by rw [hs3]; decide) (by rw [hs3]; decide) (by decide) ?_
            refine lv_aload_n hx hb d_M_pool_199 rfl (lv_at hl 2 rfl) ?_
            obtain ⟨r41, u39, h40, hk⟩ := cJ_u hk
            refine go_J I (call_runV (rest := []) C I (c_M_u4 C.2.2.2.1 C.2.2.2.2.1 l h40 _) wd_M_u4 (q0 := 0) (ci := 7) rfl rfl k_822 ⟨rfl, rfl⟩ ⟨by decide, by decide⟩ rfl hl.1 rfl (Nat.le_of_ble_eq_true rfl) d_M_pool_200) (fun H locs I => ?_)
            refine lv_pop2_2 hx hb d_M_pool_203 rfl ?_
            refine lv_aload_n hx hb d_M_pool_204 rfl (lv_at hl 2 rfl) ?_
            obtain ⟨r44, u42, h43, hk⟩ := cJ_u hk
            refine go_J I (call_runV (rest := []) C I (c_M_u4 C.2.2.2.1 C.2.2.2.2.1 l h43 _) wd_M_u4 (q0 := 0) (ci := 7) rfl rfl k_822 ⟨rfl, rfl⟩ ⟨by decide, by decide⟩ rfl hl.1 rfl (Nat.le_of_ble_eq_true rfl) d_M_pool_205) (fun H locs I => ?_)
            refine lv_pop2_2 hx hb d_M_pool_208 rfl ?_
            refine lv_aload_n hx hb d_M_pool_209 rfl (lv_at hl 2 rfl) ?_
            refine lv_iload_n hx hb d_M_pool_210 rfl (lv_at hl 3 rfl) ?_
            refine lv_aload_n hx hb d_M_pool_211 rfl (lv_at hl 2 rfl) ?_
            refine g_M_many C I k_701 d_M_pool_212 ?_
            refine lv_iconst (v := 1) hx hb d_M_pool_215 (by decide) ?_
            refine lv_isub hx hb d_M_pool_216 ?_
            obtain ⟨z45, hj55, hk⟩ := bnd_u hk
            have Khj55 : ∀ (H : Heap) (locs : List Loc) (ls : Array Slot), Dy clA D (mW a cs) s H locs u42 → lv_has ls 5 [(0, .ref (a 0)), (2, .int x2), (3, .int (u9.1 2)), (4, .int r14)] → W p l e rm_M_pool s m args below meth c H locs 0 0 Q (F0 m 225 ls [.int z45, .ref (a 0)]) := by
              intro H locs ls I hl
              refine lv_iconst (v := 4) hx hb d_M_pool_225 (by decide) ?_
              refine lv_iload_n hx hb d_M_pool_226 rfl (lv_at hl 2 rfl) ?_
              obtain ⟨r48, u46, h47, hk⟩ := cI_u hk
              refine go_I I (call_runV (rest := []) C I (c_M_must C.2.2.2.1 C.2.2.2.2.1 l h47 _) wd_M_must (q0 := 0) (ci := 7) rfl rfl k_843 ⟨rfl, rfl⟩ ⟨by decide, by decide⟩ rfl hl.1 rfl (Nat.le_of_ble_eq_true rfl) d_M_pool_227) (fun H locs I => ?_)
              refine lv_pop hx hb d_M_pool_230 rfl ?_
              refine lv_goto (tgt := 268) hx hb d_M_pool_231 (by decide) ?_
              refine lv_aload_n hx hb d_M_pool_268 rfl (lv_at hl 0 rfl) ?_
              obtain ⟨r51, u49, h50, hk⟩ := cI_u hk
              refine go_I I (call_runV (rest := []) C I (c_M_ok C.2.2.2.1 C.2.2.2.2.1 l h50 _) wd_M_ok (q0 := 0) (ci := 7) rfl rfl k_834 ⟨rfl, rfl⟩ ⟨by decide, by decide⟩ rfl hl.1 rfl (Nat.le_of_ble_eq_true rfl) d_M_pool_269) (fun H locs I => ?_)
              refine lv_if_ne (tgt := 276) hx hb d_M_pool_272 (by decide) (fun hc => ?_) (fun hc => ?_)
              · replace hk := ie_u hc hk
                refine lv_aload_n hx hb d_M_pool_276 rfl (lv_at hl 0 rfl) ?_
                refine g_M_kinds C I k_702 d_M_pool_277 ?_
                refine lv_iload_n hx hb d_M_pool_280 rfl (lv_at hl 1 rfl) ?_
                refine lv_iload hx hb d_M_pool_281 (lv_at hl 3 rfl) ?_
                obtain ⟨hi, hk⟩ := gd_u hk
                refine s_M_kinds C I hi d_M_pool_283 (fun H locs I => ?_)
                obtain ⟨u52, hu, hk⟩ := bnd_u hk
                rw [hu] at I
                clear hu
                refine lv_iload hx hb d_M_pool_284 (lv_at hl 3 rfl) ?_
                refine lv_iconst (v := 5) hx hb d_M_pool_286 (by decide) ?_
                obtain ⟨z53, hj54, hk⟩ := bnd_u hk
                have Khj54 : ∀ (H : Heap) (locs : List Loc) (ls : Array Slot), Dy clA D (mW a cs) s H locs u52 → lv_has ls 5 [(0, .ref (a 0)), (2, .int z53)] → W p l e rm_M_pool s m args below meth c H locs 0 0 Q (F0 m 293 ls []) := by
                  intro H locs ls I hl
                  refine lv_iinc (v := (z53 + 1)) (lv' := [(2, .int (z53 + 1)), (0, .ref (a 0))]) hx hb d_M_pool_293 hl (k := 1) rfl rfl (by decide) rfl (fun ls hl => ?_)
                  refine lv_goto (tgt := 48) hx hb d_M_pool_296 (by decide) ?_
                  exact ih u52 (z53 + 1) _ _ _ hk I (lv_sub hl [1, 0] rfl)
                refine lv_icmp_ne (tgt := 293) hx hb d_M_pool_287 (by decide) (fun hc => ?_) (fun hc => ?_)
                · replace hj54 := ie_u hc hj54
                  cases hj54
                  exact Khj54 _ _ _ I (lv_sub hl [0, 1] rfl)
                · replace hj54 := it_u hc hj54
                  refine lv_iinc (v := (x2 + 1)) (lv' := [(2, .int (x2 + 1)), (0, .ref (a 0)), (3, .int (u9.1 2)), (4, .int r14)]) hx hb d_M_pool_290 hl (k := 1) rfl rfl (by decide) rfl (fun ls hl => ?_)
                  cases hj54
                  exact Khj54 _ _ _ I (lv_sub hl [1, 0] rfl)
              · replace hk := it_u hc hk
                exact hQ _ _ _ _ _ I hk d_M_pool_275
            refine lv_icmp_ge (tgt := 224) hx hb d_M_pool_217 (by decide) (fun hc => ?_) (fun hc => ?_)
            · replace hj55 := it_u hc hj55
              refine lv_iconst (v := 0) hx hb d_M_pool_224 (by decide) ?_
              cases hj55
              exact Khj55 _ _ _ I (lv_sub hl [2, 3, 1, 0] rfl)
            · replace hj55 := ie_u hc hj55
              refine lv_iconst (v := 1) hx hb d_M_pool_220 (by decide) ?_
              refine lv_goto (tgt := 225) hx hb d_M_pool_221 (by decide) ?_
              cases hj55
              exact Khj55 _ _ _ I (lv_sub hl [2, 3, 1, 0] rfl)
          replace hk := ie_u hs3 hk
          by_cases hs4 : r14 = 7 ∨ r14 = 8
          · replace hk := it_u hs4 hk
            refine lv_tableIn (tgt := 234) (off := 143) hx hb d_M_pool_91 (by rcases hs4 with h | h <;> rw [h] <;> decide) (by rcases hs4 with h | h <;> rw [h] <;> decide) (by rcases hs4 with h | h <;> rw [h] <;> decide) (by decide) ?_
            refine lv_aload_n hx hb d_M_pool_234 rfl (lv_at hl 2 rfl) ?_
            obtain ⟨r58, u56, h57, hk⟩ := cI_u hk
            refine go_I I (call_runV (rest := []) C I (c_M_u2 C.2.2.2.1 C.2.2.2.2.1 l h57 _) wd_M_u2 (q0 := 0) (ci := 7) rfl rfl k_826 ⟨rfl, rfl⟩ ⟨by decide, by decide⟩ rfl hl.1 rfl (Nat.le_of_ble_eq_true rfl) d_M_pool_235) (fun H locs I => ?_)
            refine lv_pop hx hb d_M_pool_238 rfl ?_
            refine lv_goto (tgt := 268) hx hb d_M_pool_239 (by decide) ?_
            refine lv_aload_n hx hb d_M_pool_268 rfl (lv_at hl 2 rfl) ?_
            obtain ⟨r61, u59, h60, hk⟩ := cI_u hk
            refine go_I I (call_runV (rest := []) C I (c_M_ok C.2.2.2.1 C.2.2.2.2.1 l h60 _) wd_M_ok (q0 := 0) (ci := 7) rfl rfl k_834 ⟨rfl, rfl⟩ ⟨by decide, by decide⟩ rfl hl.1 rfl (Nat.le_of_ble_eq_true rfl) d_M_pool_269) (fun H locs I => ?_)
            refine lv_if_ne (tgt := 276) hx hb d_M_pool_272 (by decide) (fun hc => ?_) (fun hc => ?_)
            · replace hk := ie_u hc hk
              refine lv_aload_n hx hb d_M_pool_276 rfl (lv_at hl 2 rfl) ?_
              refine g_M_kinds C I k_702 d_M_pool_277 ?_
              refine lv_iload_n hx hb d_M_pool_280 rfl (lv_at hl 3 rfl) ?_
              refine lv_iload hx hb d_M_pool_281 (lv_at hl 0 rfl) ?_
              obtain ⟨hi, hk⟩ := gd_u hk
              refine s_M_kinds C I hi d_M_pool_283 (fun H locs I => ?_)
              obtain ⟨u62, hu, hk⟩ := bnd_u hk
              rw [hu] at I
              clear hu
              refine lv_iload hx hb d_M_pool_284 (lv_at hl 0 rfl) ?_
              refine lv_iconst (v := 5) hx hb d_M_pool_286 (by decide) ?_
              obtain ⟨z63, hj64, hk⟩ := bnd_u hk
              have Khj64 : ∀ (H : Heap) (locs : List Loc) (ls : Array Slot), Dy clA D (mW a cs) s H locs u62 → lv_has ls 5 [(0, .ref (a 0)), (2, .int z63)] → W p l e rm_M_pool s m args below meth c H locs 0 0 Q (F0 m 293 ls []) := by
                intro H locs ls I hl
                refine lv_iinc (v := (z63 + 1)) (lv' := [(2, .int (z63 + 1)), (0, .ref (a 0))]) hx hb d_M_pool_293 hl (k := 1) rfl rfl (by decide) rfl (fun ls hl => ?_)
                refine lv_goto (tgt := 48) hx hb d_M_pool_296 (by decide) ?_
                exact ih u62 (z63 + 1) _ _ _ hk I (lv_sub hl [1, 0] rfl)
              refine lv_icmp_ne (tgt := 293) hx hb d_M_pool_287 (by decide) (fun hc => ?_) (fun hc => ?_)
              · replace hj64 := ie_u hc hj64
                cases hj64
                exact Khj64 _ _ _ I (lv_sub hl [2, 3] rfl)
              · replace hj64 := it_u hc hj64
                refine lv_iinc (v := (x2 + 1)) (lv' := [(2, .int (x2 + 1)), (4, .int r14), (3, .int (u9.1 2)), (0, .ref (a 0))]) hx hb d_M_pool_290 hl (k := 3) rfl rfl (by decide) rfl (fun ls hl => ?_)
                cases hj64
                exact Khj64 _ _ _ I (lv_sub hl [3, 0] rfl)
            · replace hk := it_u hc hk
              exact hQ _ _ _ _ _ I hk d_M_pool_275
          replace hk := ie_u hs4 hk
          by_cases hs5 : r14 = 9 ∨ r14 = 10 ∨ r14 = 11 ∨ r14 = 12
          · replace hk := it_u hs5 hk
            refine lv_tableIn (tgt := 242) (off := 151) hx hb d_M_pool_91 (by rcases hs5 with h | h | h | h <;> rw [h] <;> decide) (by rcases hs5 with h | h | h | h <;> rw [h] <;> decide) (by rcases hs5 with h | h | h | h <;> rw [h] <;> decide) (by decide) ?_
            refine lv_aload_n hx hb d_M_pool_242 rfl (lv_at hl 2 rfl) ?_
            obtain ⟨r67, u65, h66, hk⟩ := cJ_u hk
            refine go_J I (call_runV (rest := []) C I (c_M_u4 C.2.2.2.1 C.2.2.2.2.1 l h66 _) wd_M_u4 (q0 := 0) (ci := 7) rfl rfl k_822 ⟨rfl, rfl⟩ ⟨by decide, by decide⟩ rfl hl.1 rfl (Nat.le_of_ble_eq_true rfl) d_M_pool_243) (fun H locs I => ?_)
            refine lv_pop2_2 hx hb d_M_pool_246 rfl ?_
            refine lv_goto (tgt := 268) hx hb d_M_pool_247 (by decide) ?_
            refine lv_aload_n hx hb d_M_pool_268 rfl (lv_at hl 2 rfl) ?_
            obtain ⟨r70, u68, h69, hk⟩ := cI_u hk
            refine go_I I (call_runV (rest := []) C I (c_M_ok C.2.2.2.1 C.2.2.2.2.1 l h69 _) wd_M_ok (q0 := 0) (ci := 7) rfl rfl k_834 ⟨rfl, rfl⟩ ⟨by decide, by decide⟩ rfl hl.1 rfl (Nat.le_of_ble_eq_true rfl) d_M_pool_269) (fun H locs I => ?_)
            refine lv_if_ne (tgt := 276) hx hb d_M_pool_272 (by decide) (fun hc => ?_) (fun hc => ?_)
            · replace hk := ie_u hc hk
              refine lv_aload_n hx hb d_M_pool_276 rfl (lv_at hl 2 rfl) ?_
              refine g_M_kinds C I k_702 d_M_pool_277 ?_
              refine lv_iload_n hx hb d_M_pool_280 rfl (lv_at hl 3 rfl) ?_
              refine lv_iload hx hb d_M_pool_281 (lv_at hl 0 rfl) ?_
              obtain ⟨hi, hk⟩ := gd_u hk
              refine s_M_kinds C I hi d_M_pool_283 (fun H locs I => ?_)
              obtain ⟨u71, hu, hk⟩ := bnd_u hk
              rw [hu] at I
              clear hu
              refine lv_iload hx hb d_M_pool_284 (lv_at hl 0 rfl) ?_
              refine lv_iconst (v := 5) hx hb d_M_pool_286 (by decide) ?_
              obtain ⟨z72, hj73, hk⟩ := bnd_u hk
              have Khj73 : ∀ (H : Heap) (locs : List Loc) (ls : Array Slot), Dy clA D (mW a cs) s H locs u71 → lv_has ls 5 [(0, .ref (a 0)), (2, .int z72)] → W p l e rm_M_pool s m args below meth c H locs 0 0 Q (F0 m 293 ls []) := by
                intro H locs ls I hl
                refine lv_iinc (v := (z72 + 1)) (lv' := [(2, .int (z72 + 1)), (0, .ref (a 0))]) hx hb d_M_pool_293 hl (k := 1) rfl rfl (by decide) rfl (fun ls hl => ?_)
                refine lv_goto (tgt := 48) hx hb d_M_pool_296 (by decide) ?_
                exact ih u71 (z72 + 1) _ _ _ hk I (lv_sub hl [1, 0] rfl)
              refine lv_icmp_ne (tgt := 293) hx hb d_M_pool_287 (by decide) (fun hc => ?_) (fun hc => ?_)
              · replace hj73 := ie_u hc hj73
                cases hj73
                exact Khj73 _ _ _ I (lv_sub hl [2, 3] rfl)
              · replace hj73 := it_u hc hj73
                refine lv_iinc (v := (x2 + 1)) (lv' := [(2, .int (x2 + 1)), (4, .int r14), (3, .int (u9.1 2)), (0, .ref (a 0))]) hx hb d_M_pool_290 hl (k := 3) rfl rfl (by decide) rfl (fun ls hl => ?_)
                cases hj73
                exact Khj73 _ _ _ I (lv_sub hl [3, 0] rfl)
            · replace hk := it_u hc hk
              exact hQ _ _ _ _ _ I hk d_M_pool_275
          replace hk := ie_u hs5 hk
          have n1 : ¬ r14 = 1 := fun h => hs0 h
          have n3 : ¬ r14 = 3 := fun h => hs1 h
          have n4 : ¬ r14 = 4 := fun h => hs2 (Or.inl h)
          have n6 : ¬ r14 = 6 := fun h => hs2 (Or.inr (Or.inl h))
          have n15 : ¬ r14 = 15 := fun h => hs2 (Or.inr (Or.inr (Or.inl h)))
          have n16 : ¬ r14 = 16 := fun h => hs2 (Or.inr (Or.inr (Or.inr (Or.inl h))))
          have n17 : ¬ r14 = 17 := fun h => hs2 (Or.inr (Or.inr (Or.inr (Or.inr (Or.inl h)))))
          have n18 : ¬ r14 = 18 := fun h => hs2 (Or.inr (Or.inr (Or.inr (Or.inr (Or.inr (Or.inl h))))))
          have n19 : ¬ r14 = 19 := fun h => hs2 (Or.inr (Or.inr (Or.inr (Or.inr (Or.inr (Or.inr (Or.inl h)))))))
          have n20 : ¬ r14 = 20 := fun h => hs2 (Or.inr (Or.inr (Or.inr (Or.inr (Or.inr (Or.inr (Or.inr (h))))))))
          have n5 : ¬ r14 = 5 := fun h => hs3 h
          have n7 : ¬ r14 = 7 := fun h => hs4 (Or.inl h)
          have n8 : ¬ r14 = 8 := fun h => hs4 (Or.inr (h))
          have n9 : ¬ r14 = 9 := fun h => hs5 (Or.inl h)
          have n10 : ¬ r14 = 10 := fun h => hs5 (Or.inr (Or.inl h))
          have n11 : ¬ r14 = 11 := fun h => hs5 (Or.inr (Or.inr (Or.inl h)))
          have n12 : ¬ r14 = 12 := fun h => hs5 (Or.inr (Or.inr (Or.inr (h))))
          have wn1 := lv_neT (a := 1) n1 (by decide)
          have wn3 := lv_neT (a := 3) n3 (by decide)
          have wn4 := lv_neT (a := 4) n4 (by decide)
          have wn6 := lv_neT (a := 6) n6 (by decide)
          have wn15 := lv_neT (a := 15) n15 (by decide)
          have wn16 := lv_neT (a := 16) n16 (by decide)
          have wn17 := lv_neT (a := 17) n17 (by decide)
          have wn18 := lv_neT (a := 18) n18 (by decide)
          have wn19 := lv_neT (a := 19) n19 (by decide)
          have wn20 := lv_neT (a := 20) n20 (by decide)
          have wn5 := lv_neT (a := 5) n5 (by decide)
          have wn7 := lv_neT (a := 7) n7 (by decide)
          have wn8 := lv_neT (a := 8) n8 (by decide)
          have wn9 := lv_neT (a := 9) n9 (by decide)
          have wn10 := lv_neT (a := 10) n10 (by decide)
          have wn11 := lv_neT (a := 11) n11 (by decide)
          have wn12 := lv_neT (a := 12) n12 (by decide)
          have Kd91 : W p l e rm_M_pool s m args below meth c H locs 0 0 Q (F0 m 259 ls []) := by
            refine lv_aload_n hx hb d_M_pool_259 rfl (lv_at hl 2 rfl) ?_
            refine lv_bipush (v := 6) hx hb d_M_pool_260 (by decide) ?_
            refine lv_iload_n hx hb d_M_pool_262 rfl (lv_at hl 1 rfl) ?_
            obtain ⟨r76, u74, h75, hk⟩ := cI_u hk
            refine go_I I (call_runV (rest := []) C I (c_M_fails C.2.2.2.1 C.2.2.2.2.1 l h75 _) wd_M_fails (q0 := 0) (ci := 7) rfl rfl k_838 ⟨rfl, rfl⟩ ⟨by decide, by decide⟩ rfl hl.1 rfl (Nat.le_of_ble_eq_true rfl) d_M_pool_263) (fun H locs I => ?_)
            refine lv_pop hx hb d_M_pool_266 rfl ?_
            exact hQ _ _ _ _ _ I hk d_M_pool_267
          by_cases hlo : (r14 : Int32).toInt < 1
          · exact lv_tableOut (tgt := 259) hx hb d_M_pool_91 (Or.inl hlo) (by decide) Kd91
          by_cases hhi : 20 < (r14 : Int32).toInt
          · exact lv_tableOut (tgt := 259) hx hb d_M_pool_91 (Or.inr hhi) (by decide) Kd91
          have hg : (r14 : Int32).toInt = 2 ∨ (r14 : Int32).toInt = 13 ∨ (r14 : Int32).toInt = 14 := by omega
          exact lv_tableIn (tgt := 259) (off := 168) hx hb d_M_pool_91 hlo hhi (by rcases hg with h | h | h <;> rw [h] <;> decide) (by decide) Kd91
        · replace hk := it_u hc hk
          exact hQ _ _ _ _ _ I hk d_M_pool_81
set_option maxHeartbeats 4000000 in
set_option maxRecDepth 100000 in
theorem c_M_pool {Z : zT} {D : va_G} {cs : Nat → ClassId} {a : Nat → Nat} (hw : wD (mW a cs)) (hz : zOK Z) (l : Launch) {u : St} {u' : St} (hk : f_M_pool u = some u') : KV clA D cs (mW a cs) Z l y_M_pool (.code y_M_pool prog_9_method_34_code 5 (Option.none : Option Jvm.ClassFile.FieldType)) rm_M_pool [.ref (a 0)] u u' := by
  unfold f_M_pool at hk
  refine KV.of (by decide) (Nat.le_of_ble_eq_true rfl) hw hz ?_
  intro p e s m args below meth c Q C I hQ ls hl
  have hl : lv_has ls 5 [(0, .ref (a 0))] := hl
  have hx := C.1.1
  have hb := C.1.2.1
  refine lv_aload_n hx hb d_M_pool_0 rfl (lv_at hl 0 rfl) ?_
  refine g_M_at C I k_697 d_M_pool_1 ?_
  refine lv_istore_n (lv' := [(1, .int (u.1 2)), (0, .ref (a 0))]) hx hb d_M_pool_4 rfl hl (by decide) rfl (fun ls hl => ?_)
  refine lv_aload_n hx hb d_M_pool_5 rfl (lv_at hl 1 rfl) ?_
  refine lv_aload_n hx hb d_M_pool_6 rfl (lv_at hl 1 rfl) ?_
  obtain ⟨r3, u1, h2, hk⟩ := cI_u hk
  refine go_I I (call_runV (rest := [.ref (a 0)]) C I (c_M_u2 C.2.2.2.1 C.2.2.2.2.1 l h2 _) wd_M_u2 (q0 := 0) (ci := 7) rfl rfl k_826 ⟨rfl, rfl⟩ ⟨by decide, by decide⟩ rfl hl.1 rfl (Nat.le_of_ble_eq_true rfl) d_M_pool_7) (fun H locs I => ?_)
  refine p_M_many C I k_701 d_M_pool_10 (fun H locs I => ?_)
  obtain ⟨u4, hu, hk⟩ := bnd_u hk
  rw [hu] at I
  clear hu
  refine lv_aload_n hx hb d_M_pool_13 rfl (lv_at hl 1 rfl) ?_
  refine lv_aload_n hx hb d_M_pool_14 rfl (lv_at hl 1 rfl) ?_
  refine g_M_many C I k_701 d_M_pool_15 ?_
  refine lv_iconst (v := 1) hx hb d_M_pool_18 (by decide) ?_
  obtain ⟨z5, hj78, hk⟩ := bnd_u hk
  have Khj78 : ∀ (H : Heap) (locs : List Loc) (ls : Array Slot), Dy clA D (mW a cs) s H locs u4 → lv_has ls 5 [(0, .ref (a 0)), (1, .int (u.1 2))] → W p l e rm_M_pool s m args below meth c H locs 0 0 Q (F0 m 37 ls [.int z5, .ref (a 0)]) := by
    intro H locs ls I hl
    refine lv_iconst (v := 4) hx hb d_M_pool_37 (by decide) ?_
    refine lv_iload_n hx hb d_M_pool_38 rfl (lv_at hl 1 rfl) ?_
    obtain ⟨r8, u6, h7, hk⟩ := cI_u hk
    refine go_I I (call_runV (rest := []) C I (c_M_must C.2.2.2.1 C.2.2.2.2.1 l h7 _) wd_M_must (q0 := 0) (ci := 7) rfl rfl k_843 ⟨rfl, rfl⟩ ⟨by decide, by decide⟩ rfl hl.1 rfl (Nat.le_of_ble_eq_true rfl) d_M_pool_39) (fun H locs I => ?_)
    refine lv_if_ne (tgt := 46) hx hb d_M_pool_42 (by decide) (fun hc => ?_) (fun hc => ?_)
    · replace hk := ie_u hc hk
      refine lv_iconst (v := 1) hx hb d_M_pool_46 (by decide) ?_
      refine lv_istore_n (lv' := [(2, .int 1), (0, .ref (a 0)), (1, .int (u.1 2))]) hx hb d_M_pool_47 rfl hl (by decide) rfl (fun ls hl => ?_)
      refine w_M_pool_L48 C (fun u77 H locs ls hk I hl => ?_) hQ FU u6 1 _ _ _ hk I (lv_sub hl [1, 0] rfl)
      exact hQ _ _ _ _ _ I hk d_M_pool_299
    · replace hk := it_u hc hk
      exact hQ _ _ _ _ _ I hk d_M_pool_45
  refine lv_icmp_lt (tgt := 36) hx hb d_M_pool_19 (by decide) (fun hc => ?_) (fun hc => ?_)
  · replace hj78 := it_u hc hj78
    refine lv_iconst (v := 0) hx hb d_M_pool_36 (by decide) ?_
    cases hj78
    exact Khj78 _ _ _ I (lv_sub hl [1, 0] rfl)
  · replace hj78 := ie_u hc hj78
    refine lv_aload_n hx hb d_M_pool_22 rfl (lv_at hl 1 rfl) ?_
    refine g_M_many C I k_701 d_M_pool_23 ?_
    refine lv_sipush (v := 300) hx hb d_M_pool_26 (by decide) ?_
    refine lv_icmp_gt (tgt := 36) hx hb d_M_pool_29 (by decide) (fun hc => ?_) (fun hc => ?_)
    · replace hj78 := it_u hc hj78
      refine lv_iconst (v := 0) hx hb d_M_pool_36 (by decide) ?_
      cases hj78
      exact Khj78 _ _ _ I (lv_sub hl [1, 0] rfl)
    · replace hj78 := ie_u hc hj78
      refine lv_iconst (v := 1) hx hb d_M_pool_32 (by decide) ?_
      refine lv_goto (tgt := 37) hx hb d_M_pool_33 (by decide) ?_
      cases hj78
      exact Khj78 _ _ _ I (lv_sub hl [1, 0] rfl)
def rm_M_refer : Room := { frames := 6, cells := 0, slots := 0, locals := 137 }
noncomputable def f_M_refer_L2 (kx : St → Option (St)) : Nat → St → Int32 → Option (St)
  | 0, _, _ => none
  | n + 1, u, x1 => if (u.1 6) ≤ x1 then (kx u) else (cI (f_M_ok u) fun r3 u1 => if r3 = 0 then (kx u1) else (gd x1 300 (gd x1 300 (if (u1.2 1 x1.toNatClampNeg) = 7 then (cI (f_M_two u1 ((u1.2 2 x1.toNatClampNeg) + 1)) fun r6 u4 => cI (f_M_isKind u4 r6 1) fun r9 u7 => cI (f_M_must u7 r9 8 ((u1.2 2 x1.toNatClampNeg) + 1)) fun r12 u10 => cT (if r12 = 0 then (some (u10)) else (gd x1 300 (if (u10.2 1 x1.toNatClampNeg) = 8 then (some (u10)) else (gb 0 (bnd (sv u10 18 0) fun u15 => cI (f_M_letter u15 r6 0) fun r18 u16 => cT (if r18 = 91 then (cI (f_M_isField u16 r6) fun r29 u27 => cI (f_M_must u27 r29 9 ((u1.2 2 x1.toNatClampNeg) + 1)) fun r32 u30 => bnd (if (u30.1 18) = 0 then (1) else (0)) fun (z33 : Int32) => cI (f_M_must u30 z33 12 ((u1.2 2 x1.toNatClampNeg) + 1)) fun r36 u34 => some (u34)) else (cI (f_M_isClassName u16 r6) fun r23 u21 => cI (f_M_must u21 r23 9 ((u1.2 2 x1.toNatClampNeg) + 1)) fun r26 u24 => some (u24))) fun (u19 : St) => some (u19)))))) fun (u13 : St) => f_M_refer_L2 kx n u13 (x1 + 1)) else (gd x1 300 (if (u1.2 1 x1.toNatClampNeg) = 8 then (cI (f_M_two u1 ((u1.2 2 x1.toNatClampNeg) + 1)) fun r95 u93 => cI (f_M_isKind u93 r95 1) fun r98 u96 => cI (f_M_must u96 r98 8 ((u1.2 2 x1.toNatClampNeg) + 1)) fun r101 u99 => cT (if r101 = 0 then (some (u99)) else (gd x1 300 (if (u99.2 1 x1.toNatClampNeg) = 8 then (some (u99)) else (gb 0 (bnd (sv u99 18 0) fun u104 => cI (f_M_letter u104 r95 0) fun r107 u105 => cT (if r107 = 91 then (cI (f_M_isField u105 r95) fun r118 u116 => cI (f_M_must u116 r118 9 ((u1.2 2 x1.toNatClampNeg) + 1)) fun r121 u119 => bnd (if (u119.1 18) = 0 then (1) else (0)) fun (z122 : Int32) => cI (f_M_must u119 z122 12 ((u1.2 2 x1.toNatClampNeg) + 1)) fun r125 u123 => some (u123)) else (cI (f_M_isClassName u105 r95) fun r112 u110 => cI (f_M_must u110 r112 9 ((u1.2 2 x1.toNatClampNeg) + 1)) fun r115 u113 => some (u113))) fun (u108 : St) => some (u108)))))) fun (u102 : St) => f_M_refer_L2 kx n u102 (x1 + 1)) else (gd x1 300 (if (u1.2 1 x1.toNatClampNeg) = 12 then (cI (f_M_two u1 ((u1.2 2 x1.toNatClampNeg) + 1)) fun r40 u38 => cI (f_M_isKind u38 r40 1) fun r43 u41 => cI (f_M_must u41 r43 8 ((u1.2 2 x1.toNatClampNeg) + 1)) fun r46 u44 => if r46 = 0 then (some u44) else (cI (f_M_isPlainName u44 r40) fun r49 u47 => cT (if r49 = 0 then (cI (f_M_is u47 r40 6 66423521637438 0 0) fun r88 u86 => if r88 = 0 then (cI (f_M_is u86 r40 8 4351440865049801790 0 0) fun r91 u89 => if r91 = 0 then (some (0, u89)) else (some (1, u89))) else (some (1, u86))) else (some (1, u47))) fun (p92 : Int32 × St) => cI (f_M_must p92.2 p92.1 9 ((u1.2 2 x1.toNatClampNeg) + 1)) fun r54 u52 => if r54 = 0 then (some u52) else (cI (f_M_two u52 (((u1.2 2 x1.toNatClampNeg) + 1) + 2)) fun r57 u55 => cI (f_M_isKind u55 r57 1) fun r60 u58 => cI (f_M_must u58 r60 8 (((u1.2 2 x1.toNatClampNeg) + 1) + 2)) fun r63 u61 => if r63 = 0 then (some u61) else (cI (f_M_letter u61 r57 0) fun r66 u64 => cT (if r66 = 40 then (cI (f_M_isMethod u64 r57) fun r83 u81 => some (r83, u81)) else (cI (f_M_isField u64 r57) fun r80 u78 => some (r80, u78))) fun (p84 : Int32 × St) => cI (f_M_must p84.2 p84.1 11 (((u1.2 2 x1.toNatClampNeg) + 1) + 2)) fun r71 u69 => bnd (if (u69.1 18) = 0 then (1) else (0)) fun (z72 : Int32) => cI (f_M_must u69 z72 12 (((u1.2 2 x1.toNatClampNeg) + 1) + 2)) fun r75 u73 => f_M_refer_L2 kx n u73 (x1 + 1))))) else (f_M_refer_L2 kx n u1 (x1 + 1))))))))))
noncomputable def f_M_refer_L336 (kx : St → Option (St)) : Nat → St → Int32 → Option (St)
  | 0, _, _ => none
  | n + 1, u, x1 => if (u.1 6) ≤ x1 then (kx u) else (cI (f_M_ok u) fun r130 u128 => if r130 = 0 then (kx u128) else (gd x1 300 (if (u128.2 1 x1.toNatClampNeg) < 9 then (f_M_refer_L336 kx n u128 (x1 + 1)) else (gd x1 300 (if (u128.2 1 x1.toNatClampNeg) ≤ 11 then (gd x1 300 (cI (f_M_two u128 ((u128.2 2 x1.toNatClampNeg) + 1)) fun r133 u131 => cI (f_M_isKind u131 r133 7) fun r136 u134 => cI (f_M_must u134 r136 8 ((u128.2 2 x1.toNatClampNeg) + 1)) fun r139 u137 => if r139 = 0 then (some u137) else (cI (f_M_two u137 (((u128.2 2 x1.toNatClampNeg) + 1) + 2)) fun r142 u140 => cI (f_M_isKind u140 r142 12) fun r145 u143 => cI (f_M_must u143 r145 8 (((u128.2 2 x1.toNatClampNeg) + 1) + 2)) fun r148 u146 => if r148 = 0 then (some u146) else (cI (f_M_typeOf u146 x1) fun r151 u149 => cI (f_M_letter u149 r151 0) fun r154 u152 => bnd (if r154 = 40 then (1) else (0)) fun (z155 : Int32) => cI (f_M_nameOf u152 x1) fun r158 u156 => cI (f_M_isPlainName u156 r158) fun r161 u159 => gd x1 300 (cT (if (u159.2 1 x1.toNatClampNeg) = 9 then (if r161 = 0 then (some (0, u159)) else (if z155 = 0 then (some (1, u159)) else (some (0, u159)))) else (gd x1 300 (if (u159.2 1 x1.toNatClampNeg) = 11 then (if r161 = 0 then (some (0, u159)) else (if z155 = 0 then (some (0, u159)) else (some (1, u159)))) else (if z155 = 0 then (some (0, u159)) else (if r161 = 0 then (cI (f_M_nameOf u159 x1) fun r170 u168 => cI (f_M_is u168 r170 6 66423521637438 0 0) fun r173 u171 => if r173 = 0 then (some (0, u171)) else (cI (f_M_typeOf u171 x1) fun r176 u174 => cI (f_M_isVoid u174 r176) fun r179 u177 => if r179 = 0 then (some (0, u177)) else (some (1, u177)))) else (some (1, u159))))))) fun (p180 : Int32 × St) => cI (f_M_must p180.2 p180.1 10 (((u128.2 2 x1.toNatClampNeg) + 1) + 2)) fun r166 u164 => f_M_refer_L336 kx n u164 (x1 + 1)))))) else (f_M_refer_L336 kx n u128 (x1 + 1)))))))
noncomputable def f_M_refer (u : St) : Option (St) := f_M_refer_L2 (fun u127 => f_M_refer_L336 (fun u182 => some u182) FU u127 1) FU u 1
set_option maxHeartbeats 4000000 in
set_option maxRecDepth 100000 in
theorem w_M_refer_L2 {Z : zT} {D : va_G} {cs : Nat → ClassId} {a : Nat → Nat} {p : Program} {l : Launch} {e : Env} {s : State} {m : MethodId} {args : Array Value} {below : List Frame} {meth : Method} {c : Code} {Q : State → Prop} {F : St} {kx : St → Option (St)} (C : Cx clA R_M prog_9_method_36_code 6 D cs (mW a cs) Z p s m args c) (hE : ∀ (u2 : St) (H : Heap) (locs : List Loc) (ls : Array Slot), kx u2 = some F → Dy clA D (mW a cs) s H locs u2 → lv_has ls 6 [(0, .ref (a 0))] → W p l e rm_M_refer s m args below meth c H locs 0 0 Q (F0 m 334 ls [])) (hQ : ∀ (H : Heap) (locs : List Loc) (pc : Nat) (ls : Array Slot) (u1 : St), Dy clA D (mW a cs) s H locs u1 → some u1 = some F → decode prog_9_method_36_code pc = .ok (.return_, 1) → W p l e rm_M_refer s m args below meth c H locs 0 0 Q (F0 m pc ls [])): ∀ (n : Nat) (u : St) (x1 : Int32) (H : Heap) (locs : List Loc) (ls : Array Slot), f_M_refer_L2 kx n u x1 = some F → Dy clA D (mW a cs) s H locs u → lv_has ls 6 [(0, .ref (a 0)), (1, .int x1)] → W p l e rm_M_refer s m args below meth c H locs 0 0 Q (F0 m 2 ls []) := by
  have hx := C.1.1
  have hb := C.1.2.1
  intro n
  induction n with
  | zero =>
    intro u x1 H locs ls hk I hl
    rw [f_M_refer_L2] at hk
    cases hk
  | succ n ih =>
    intro u x1 H locs ls hk I hl
    rw [f_M_refer_L2] at hk
    refine lv_iload_n hx hb d_M_refer_2 rfl (lv_at hl 1 rfl) ?_
    refine lv_aload_n hx hb d_M_refer_3 rfl (lv_at hl 0 rfl) ?_
    refine g_M_many C I k_701 d_M_refer_4 ?_
    refine lv_icmp_ge (tgt := 334) hx hb d_M_refer_7 (by decide) (fun hc => ?_) (fun hc => ?_)
    · replace hk := it_u hc hk
      exact hE u _ _ _ hk I (lv_sub hl [0] rfl)
    · replace hk := ie_u hc hk
      refine lv_aload_n hx hb d_M_refer_10 rfl (lv_at hl 0 rfl) ?_
      obtain ⟨r3, u1, h2, hk⟩ := cI_u hk
      refine go_I I (call_runV (rest := []) C I (c_M_ok C.2.2.2.1 C.2.2.2.2.1 l h2 _) wd_M_ok (q0 := 0) (ci := 7) rfl rfl k_834 ⟨rfl, rfl⟩ ⟨by decide, by decide⟩ rfl hl.1 rfl (Nat.le_of_ble_eq_true rfl) d_M_refer_11) (fun H locs I => ?_)
      refine lv_if_eq (tgt := 334) hx hb d_M_refer_14 (by decide) (fun hc => ?_) (fun hc => ?_)
      · replace hk := it_u hc hk
        exact hE u1 _ _ _ hk I (lv_sub hl [0] rfl)
      · replace hk := ie_u hc hk
        refine lv_aload_n hx hb d_M_refer_17 rfl (lv_at hl 0 rfl) ?_
        refine g_M_begins C I k_703 d_M_refer_18 ?_
        refine lv_iload_n hx hb d_M_refer_21 rfl (lv_at hl 1 rfl) ?_
        obtain ⟨hi, hk⟩ := gd_u hk
        refine l_M_begins C I hi d_M_refer_22 ?_
        refine lv_iconst (v := 1) hx hb d_M_refer_23 (by decide) ?_
        refine lv_iadd hx hb d_M_refer_24 ?_
        refine lv_istore_n (lv' := [(2, .int ((u1.2 2 x1.toNatClampNeg) + 1)), (0, .ref (a 0)), (1, .int x1)]) hx hb d_M_refer_25 rfl hl (by decide) rfl (fun ls hl => ?_)
        refine lv_aload_n hx hb d_M_refer_26 rfl (lv_at hl 1 rfl) ?_
        refine g_M_kinds C I k_702 d_M_refer_27 ?_
        refine lv_iload_n hx hb d_M_refer_30 rfl (lv_at hl 2 rfl) ?_
        obtain ⟨hi, hk⟩ := gd_u hk
        refine l_M_kinds C I hi d_M_refer_31 ?_
        refine lv_bipush (v := 7) hx hb d_M_refer_32 (by decide) ?_
        refine lv_icmp_eq (tgt := 48) hx hb d_M_refer_34 (by decide) (fun hc => ?_) (fun hc => ?_)
        · replace hk := it_u hc hk
          refine lv_aload_n hx hb d_M_refer_48 rfl (lv_at hl 1 rfl) ?_
          refine lv_iload_n hx hb d_M_refer_49 rfl (lv_at hl 0 rfl) ?_
          obtain ⟨r6, u4, h5, hk⟩ := cI_u hk
          refine go_I I (call_runV (rest := []) C I (c_M_two C.2.2.2.1 C.2.2.2.2.1 l h5 _) wd_M_two (q0 := 0) (ci := 7) rfl rfl k_859 ⟨rfl, rfl⟩ ⟨by decide, by decide⟩ rfl hl.1 rfl (Nat.le_of_ble_eq_true rfl) d_M_refer_50) (fun H locs I => ?_)
          refine lv_istore_n (lv' := [(3, .int r6), (2, .int ((u1.2 2 x1.toNatClampNeg) + 1)), (0, .ref (a 0)), (1, .int x1)]) hx hb d_M_refer_53 rfl hl (by decide) rfl (fun ls hl => ?_)
          refine lv_aload_n hx hb d_M_refer_54 rfl (lv_at hl 2 rfl) ?_
          refine lv_aload_n hx hb d_M_refer_55 rfl (lv_at hl 2 rfl) ?_
          refine lv_iload_n hx hb d_M_refer_56 rfl (lv_at hl 0 rfl) ?_
          refine lv_iconst (v := 1) hx hb d_M_refer_57 (by decide) ?_
          obtain ⟨r9, u7, h8, hk⟩ := cI_u hk
          refine go_I I (call_runV (rest := [.ref (a 0)]) C I (c_M_isKind C.2.2.2.1 C.2.2.2.2.1 l h8 _) wd_M_isKind (q0 := 0) (ci := 7) rfl rfl k_863 ⟨rfl, rfl⟩ ⟨by decide, by decide⟩ rfl hl.1 rfl (Nat.le_of_ble_eq_true rfl) d_M_refer_58) (fun H locs I => ?_)
          refine lv_bipush (v := 8) hx hb d_M_refer_61 (by decide) ?_
          refine lv_iload_n hx hb d_M_refer_63 rfl (lv_at hl 1 rfl) ?_
          obtain ⟨r12, u10, h11, hk⟩ := cI_u hk
          refine go_I I (call_runV (rest := []) C I (c_M_must C.2.2.2.1 C.2.2.2.2.1 l h11 _) wd_M_must (q0 := 0) (ci := 7) rfl rfl k_843 ⟨rfl, rfl⟩ ⟨by decide, by decide⟩ rfl hl.1 rfl (Nat.le_of_ble_eq_true rfl) d_M_refer_64) (fun H locs I => ?_)
          obtain ⟨u13, hj14, hk⟩ := cT_u hk
          have Khj14 : ∀ (H : Heap) (locs : List Loc) (ls : Array Slot), Dy clA D (mW a cs) s H locs u13 → lv_has ls 6 [(0, .ref (a 0)), (1, .int x1)] → W p l e rm_M_refer s m args below meth c H locs 0 0 Q (F0 m 328 ls []) := by
            intro H locs ls I hl
            refine lv_iinc (v := (x1 + 1)) (lv' := [(1, .int (x1 + 1)), (0, .ref (a 0))]) hx hb d_M_refer_328 hl (k := 1) rfl rfl (by decide) rfl (fun ls hl => ?_)
            refine lv_goto (tgt := 2) hx hb d_M_refer_331 (by decide) ?_
            exact ih u13 (x1 + 1) _ _ _ hk I (lv_sub hl [1, 0] rfl)
          refine lv_if_eq (tgt := 328) hx hb d_M_refer_67 (by decide) (fun hc => ?_) (fun hc => ?_)
          · replace hj14 := it_u hc hj14
            cases hj14
            exact Khj14 _ _ _ I (lv_sub hl [2, 3] rfl)
          · replace hj14 := ie_u hc hj14
            refine lv_aload_n hx hb d_M_refer_70 rfl (lv_at hl 2 rfl) ?_
            refine g_M_kinds C I k_702 d_M_refer_71 ?_
            refine lv_iload_n hx hb d_M_refer_74 rfl (lv_at hl 3 rfl) ?_
            obtain ⟨hi, hj14⟩ := gd_u hj14
            refine l_M_kinds C I hi d_M_refer_75 ?_
            refine lv_bipush (v := 8) hx hb d_M_refer_76 (by decide) ?_
            refine lv_icmp_ne (tgt := 84) hx hb d_M_refer_78 (by decide) (fun hc => ?_) (fun hc => ?_)
            · replace hj14 := ie_u hc hj14
              refine lv_aload_n hx hb d_M_refer_84 rfl (lv_at hl 2 rfl) ?_
              refine lv_iconst (v := 0) hx hb d_M_refer_85 (by decide) ?_
              obtain ⟨hz, hj14⟩ := gb_u hj14
              refine p_M_real C I k_723 hz d_M_refer_86 (fun H locs I => ?_)
              obtain ⟨u15, hu, hj14⟩ := bnd_u hj14
              rw [hu] at I
              clear hu
              refine lv_aload_n hx hb d_M_refer_89 rfl (lv_at hl 2 rfl) ?_
              refine lv_iload_n hx hb d_M_refer_90 rfl (lv_at hl 0 rfl) ?_
              refine lv_iconst (v := 0) hx hb d_M_refer_91 (by decide) ?_
              obtain ⟨r18, u16, h17, hj14⟩ := cI_u hj14
              refine go_I I (call_runV (rest := []) C I (c_M_letter C.2.2.2.1 C.2.2.2.2.1 l h17 _) wd_M_letter (q0 := 0) (ci := 7) rfl rfl k_867 ⟨rfl, rfl⟩ ⟨by decide, by decide⟩ rfl hl.1 rfl (Nat.le_of_ble_eq_true rfl) d_M_refer_92) (fun H locs I => ?_)
              refine lv_bipush (v := 91) hx hb d_M_refer_95 (by decide) ?_
              obtain ⟨u19, hj20, hj14⟩ := cT_u hj14
              have Khj20 : ∀ (H : Heap) (locs : List Loc) (ls : Array Slot), Dy clA D (mW a cs) s H locs u19 → lv_has ls 6 [(0, .ref (a 0)), (1, .int x1)] → W p l e rm_M_refer s m args below meth c H locs 0 0 Q (F0 m 149 ls []) := by
                intro H locs ls I hl
                refine lv_goto (tgt := 328) hx hb d_M_refer_149 (by decide) ?_
                cases hj14
                exact Khj14 _ _ _ I (lv_sub hl [0, 1] rfl)
              refine lv_icmp_ne (tgt := 136) hx hb d_M_refer_97 (by decide) (fun hc => ?_) (fun hc => ?_)
              · replace hj20 := ie_u hc hj20
                refine lv_aload_n hx hb d_M_refer_136 rfl (lv_at hl 2 rfl) ?_
                refine lv_aload_n hx hb d_M_refer_137 rfl (lv_at hl 2 rfl) ?_
                refine lv_iload_n hx hb d_M_refer_138 rfl (lv_at hl 0 rfl) ?_
                obtain ⟨r23, u21, h22, hj20⟩ := cI_u hj20
                refine go_I I (call_runV (rest := [.ref (a 0)]) C I (c_M_isClassName C.2.2.2.1 C.2.2.2.2.1 l h22 _) wd_M_isClassName (q0 := 0) (ci := 7) rfl rfl k_894 ⟨rfl, rfl⟩ ⟨by decide, by decide⟩ rfl hl.1 rfl (Nat.le_of_ble_eq_true rfl) d_M_refer_139) (fun H locs I => ?_)
                refine lv_bipush (v := 9) hx hb d_M_refer_142 (by decide) ?_
                refine lv_iload_n hx hb d_M_refer_144 rfl (lv_at hl 1 rfl) ?_
                obtain ⟨r26, u24, h25, hj20⟩ := cI_u hj20
                refine go_I I (call_runV (rest := []) C I (c_M_must C.2.2.2.1 C.2.2.2.2.1 l h25 _) wd_M_must (q0 := 0) (ci := 7) rfl rfl k_843 ⟨rfl, rfl⟩ ⟨by decide, by decide⟩ rfl hl.1 rfl (Nat.le_of_ble_eq_true rfl) d_M_refer_145) (fun H locs I => ?_)
                refine lv_pop hx hb d_M_refer_148 rfl ?_
                cases hj20
                exact Khj20 _ _ _ I (lv_sub hl [2, 3] rfl)
              · replace hj20 := it_u hc hj20
                refine lv_aload_n hx hb d_M_refer_100 rfl (lv_at hl 2 rfl) ?_
                refine lv_aload_n hx hb d_M_refer_101 rfl (lv_at hl 2 rfl) ?_
                refine lv_iload_n hx hb d_M_refer_102 rfl (lv_at hl 0 rfl) ?_
                obtain ⟨r29, u27, h28, hj20⟩ := cI_u hj20
                refine go_I I (call_runV (rest := [.ref (a 0)]) C I (c_M_isField C.2.2.2.1 C.2.2.2.2.1 l h28 _) wd_M_isField (q0 := 0) (ci := 7) rfl rfl k_879 ⟨rfl, rfl⟩ ⟨by decide, by decide⟩ rfl hl.1 rfl (Nat.le_of_ble_eq_true rfl) d_M_refer_103) (fun H locs I => ?_)
                refine lv_bipush (v := 9) hx hb d_M_refer_106 (by decide) ?_
                refine lv_iload_n hx hb d_M_refer_108 rfl (lv_at hl 1 rfl) ?_
                obtain ⟨r32, u30, h31, hj20⟩ := cI_u hj20
                refine go_I I (call_runV (rest := []) C I (c_M_must C.2.2.2.1 C.2.2.2.2.1 l h31 _) wd_M_must (q0 := 0) (ci := 7) rfl rfl k_843 ⟨rfl, rfl⟩ ⟨by decide, by decide⟩ rfl hl.1 rfl (Nat.le_of_ble_eq_true rfl) d_M_refer_109) (fun H locs I => ?_)
                refine lv_pop hx hb d_M_refer_112 rfl ?_
                refine lv_aload_n hx hb d_M_refer_113 rfl (lv_at hl 2 rfl) ?_
                refine lv_aload_n hx hb d_M_refer_114 rfl (lv_at hl 2 rfl) ?_
                refine g_M_real C I k_723 d_M_refer_115 ?_
                obtain ⟨z33, hj37, hj20⟩ := bnd_u hj20
                have Khj37 : ∀ (H : Heap) (locs : List Loc) (ls : Array Slot), Dy clA D (mW a cs) s H locs u30 → lv_has ls 6 [(0, .ref (a 0)), (1, .int x1), (2, .int ((u1.2 2 x1.toNatClampNeg) + 1))] → W p l e rm_M_refer s m args below meth c H locs 0 0 Q (F0 m 126 ls [.int z33, .ref (a 0)]) := by
                  intro H locs ls I hl
                  refine lv_bipush (v := 12) hx hb d_M_refer_126 (by decide) ?_
                  refine lv_iload_n hx hb d_M_refer_128 rfl (lv_at hl 2 rfl) ?_
                  obtain ⟨r36, u34, h35, hj20⟩ := cI_u hj20
                  refine go_I I (call_runV (rest := []) C I (c_M_must C.2.2.2.1 C.2.2.2.2.1 l h35 _) wd_M_must (q0 := 0) (ci := 7) rfl rfl k_843 ⟨rfl, rfl⟩ ⟨by decide, by decide⟩ rfl hl.1 rfl (Nat.le_of_ble_eq_true rfl) d_M_refer_129) (fun H locs I => ?_)
                  refine lv_pop hx hb d_M_refer_132 rfl ?_
                  refine lv_goto (tgt := 149) hx hb d_M_refer_133 (by decide) ?_
                  cases hj20
                  exact Khj20 _ _ _ I (lv_sub hl [0, 1] rfl)
                refine lv_if_ne (tgt := 125) hx hb d_M_refer_118 (by decide) (fun hc => ?_) (fun hc => ?_)
                · replace hj37 := ie_u hc hj37
                  refine lv_iconst (v := 0) hx hb d_M_refer_125 (by decide) ?_
                  cases hj37
                  exact Khj37 _ _ _ I (lv_sub hl [2, 3, 1] rfl)
                · replace hj37 := it_u hc hj37
                  refine lv_iconst (v := 1) hx hb d_M_refer_121 (by decide) ?_
                  refine lv_goto (tgt := 126) hx hb d_M_refer_122 (by decide) ?_
                  cases hj37
                  exact Khj37 _ _ _ I (lv_sub hl [2, 3, 1] rfl)
            · replace hj14 := it_u hc hj14
              refine lv_goto (tgt := 328) hx hb d_M_refer_81 (by decide) ?_
              cases hj14
              exact Khj14 _ _ _ I (lv_sub hl [2, 3] rfl)
        · replace hk := ie_u hc hk
          refine lv_aload_n hx hb d_M_refer_37 rfl (lv_at hl 1 rfl) ?_
          refine g_M_kinds C I k_702 d_M_refer_38 ?_
          refine lv_iload_n hx hb d_M_refer_41 rfl (lv_at hl 2 rfl) ?_
          obtain ⟨hi, hk⟩ := gd_u hk
          refine l_M_kinds C I hi d_M_refer_42 ?_
          refine lv_bipush (v := 8) hx hb d_M_refer_43 (by decide) ?_
          refine lv_icmp_ne (tgt := 152) hx hb d_M_refer_45 (by decide) (fun hc => ?_) (fun hc => ?_)
          · replace hk := ie_u hc hk
            refine lv_aload_n hx hb d_M_refer_152 rfl (lv_at hl 1 rfl) ?_
            refine g_M_kinds C I k_702 d_M_refer_153 ?_
            refine lv_iload_n hx hb d_M_refer_156 rfl (lv_at hl 2 rfl) ?_
            obtain ⟨hi, hk⟩ := gd_u hk
            refine l_M_kinds C I hi d_M_refer_157 ?_
            refine lv_bipush (v := 12) hx hb d_M_refer_158 (by decide) ?_
            refine lv_icmp_ne (tgt := 328) hx hb d_M_refer_160 (by decide) (fun hc => ?_) (fun hc => ?_)
            · replace hk := ie_u hc hk
              refine lv_iinc (v := (x1 + 1)) (lv' := [(1, .int (x1 + 1)), (2, .int ((u1.2 2 x1.toNatClampNeg) + 1)), (0, .ref (a 0))]) hx hb d_M_refer_328 hl (k := 2) rfl rfl (by decide) rfl (fun ls hl => ?_)
              refine lv_goto (tgt := 2) hx hb d_M_refer_331 (by decide) ?_
              exact ih u1 (x1 + 1) _ _ _ hk I (lv_sub hl [2, 0] rfl)
            · replace hk := it_u hc hk
              refine lv_aload_n hx hb d_M_refer_163 rfl (lv_at hl 1 rfl) ?_
              refine lv_iload_n hx hb d_M_refer_164 rfl (lv_at hl 0 rfl) ?_
              obtain ⟨r40, u38, h39, hk⟩ := cI_u hk
              refine go_I I (call_runV (rest := []) C I (c_M_two C.2.2.2.1 C.2.2.2.2.1 l h39 _) wd_M_two (q0 := 0) (ci := 7) rfl rfl k_859 ⟨rfl, rfl⟩ ⟨by decide, by decide⟩ rfl hl.1 rfl (Nat.le_of_ble_eq_true rfl) d_M_refer_165) (fun H locs I => ?_)
              refine lv_istore_n (lv' := [(3, .int r40), (2, .int ((u1.2 2 x1.toNatClampNeg) + 1)), (0, .ref (a 0)), (1, .int x1)]) hx hb d_M_refer_168 rfl hl (by decide) rfl (fun ls hl => ?_)
              refine lv_aload_n hx hb d_M_refer_169 rfl (lv_at hl 2 rfl) ?_
              refine lv_aload_n hx hb d_M_refer_170 rfl (lv_at hl 2 rfl) ?_
              refine lv_iload_n hx hb d_M_refer_171 rfl (lv_at hl 0 rfl) ?_
              refine lv_iconst (v := 1) hx hb d_M_refer_172 (by decide) ?_
              obtain ⟨r43, u41, h42, hk⟩ := cI_u hk
              refine go_I I (call_runV (rest := [.ref (a 0)]) C I (c_M_isKind C.2.2.2.1 C.2.2.2.2.1 l h42 _) wd_M_isKind (q0 := 0) (ci := 7) rfl rfl k_863 ⟨rfl, rfl⟩ ⟨by decide, by decide⟩ rfl hl.1 rfl (Nat.le_of_ble_eq_true rfl) d_M_refer_173) (fun H locs I => ?_)
              refine lv_bipush (v := 8) hx hb d_M_refer_176 (by decide) ?_
              refine lv_iload_n hx hb d_M_refer_178 rfl (lv_at hl 1 rfl) ?_
              obtain ⟨r46, u44, h45, hk⟩ := cI_u hk
              refine go_I I (call_runV (rest := []) C I (c_M_must C.2.2.2.1 C.2.2.2.2.1 l h45 _) wd_M_must (q0 := 0) (ci := 7) rfl rfl k_843 ⟨rfl, rfl⟩ ⟨by decide, by decide⟩ rfl hl.1 rfl (Nat.le_of_ble_eq_true rfl) d_M_refer_179) (fun H locs I => ?_)
              refine lv_if_ne (tgt := 186) hx hb d_M_refer_182 (by decide) (fun hc => ?_) (fun hc => ?_)
              · replace hk := ie_u hc hk
                refine lv_aload_n hx hb d_M_refer_186 rfl (lv_at hl 2 rfl) ?_
                refine lv_aload_n hx hb d_M_refer_187 rfl (lv_at hl 2 rfl) ?_
                refine lv_iload_n hx hb d_M_refer_188 rfl (lv_at hl 0 rfl) ?_
                obtain ⟨r49, u47, h48, hk⟩ := cI_u hk
                refine go_I I (call_runV (rest := [.ref (a 0)]) C I (c_M_isPlainName C.2.2.2.1 C.2.2.2.2.1 l h48 _) wd_M_isPlainName (q0 := 0) (ci := 7) rfl rfl k_898 ⟨rfl, rfl⟩ ⟨by decide, by decide⟩ rfl hl.1 rfl (Nat.le_of_ble_eq_true rfl) d_M_refer_189) (fun H locs I => ?_)
                obtain ⟨⟨z50, u51⟩, hj85, hk⟩ := cT_u hk
                have Khj85 : ∀ (H : Heap) (locs : List Loc) (ls : Array Slot), Dy clA D (mW a cs) s H locs u51 → lv_has ls 6 [(0, .ref (a 0)), (1, .int x1), (2, .int ((u1.2 2 x1.toNatClampNeg) + 1))] → W p l e rm_M_refer s m args below meth c H locs 0 0 Q (F0 m 230 ls [.int z50, .ref (a 0)]) := by
                  intro H locs ls I hl
                  refine lv_bipush (v := 9) hx hb d_M_refer_230 (by decide) ?_
                  refine lv_iload_n hx hb d_M_refer_232 rfl (lv_at hl 2 rfl) ?_
                  obtain ⟨r54, u52, h53, hk⟩ := cI_u hk
                  refine go_I I (call_runV (rest := []) C I (c_M_must C.2.2.2.1 C.2.2.2.2.1 l h53 _) wd_M_must (q0 := 0) (ci := 7) rfl rfl k_843 ⟨rfl, rfl⟩ ⟨by decide, by decide⟩ rfl hl.1 rfl (Nat.le_of_ble_eq_true rfl) d_M_refer_233) (fun H locs I => ?_)
                  refine lv_if_ne (tgt := 240) hx hb d_M_refer_236 (by decide) (fun hc => ?_) (fun hc => ?_)
                  · replace hk := ie_u hc hk
                    refine lv_aload_n hx hb d_M_refer_240 rfl (lv_at hl 0 rfl) ?_
                    refine lv_iload_n hx hb d_M_refer_241 rfl (lv_at hl 2 rfl) ?_
                    refine lv_iconst (v := 2) hx hb d_M_refer_242 (by decide) ?_
                    refine lv_iadd hx hb d_M_refer_243 ?_
                    obtain ⟨r57, u55, h56, hk⟩ := cI_u hk
                    refine go_I I (call_runV (rest := []) C I (c_M_two C.2.2.2.1 C.2.2.2.2.1 l h56 _) wd_M_two (q0 := 0) (ci := 7) rfl rfl k_859 ⟨rfl, rfl⟩ ⟨by decide, by decide⟩ rfl hl.1 rfl (Nat.le_of_ble_eq_true rfl) d_M_refer_244) (fun H locs I => ?_)
                    refine lv_istore (lv' := [(4, .int r57), (0, .ref (a 0)), (1, .int x1), (2, .int ((u1.2 2 x1.toNatClampNeg) + 1))]) hx hb d_M_refer_247 hl (by decide) rfl (fun ls hl => ?_)
                    refine lv_aload_n hx hb d_M_refer_249 rfl (lv_at hl 1 rfl) ?_
                    refine lv_aload_n hx hb d_M_refer_250 rfl (lv_at hl 1 rfl) ?_
                    refine lv_iload hx hb d_M_refer_251 (lv_at hl 0 rfl) ?_
                    refine lv_iconst (v := 1) hx hb d_M_refer_253 (by decide) ?_
                    obtain ⟨r60, u58, h59, hk⟩ := cI_u hk
                    refine go_I I (call_runV (rest := [.ref (a 0)]) C I (c_M_isKind C.2.2.2.1 C.2.2.2.2.1 l h59 _) wd_M_isKind (q0 := 0) (ci := 7) rfl rfl k_863 ⟨rfl, rfl⟩ ⟨by decide, by decide⟩ rfl hl.1 rfl (Nat.le_of_ble_eq_true rfl) d_M_refer_254) (fun H locs I => ?_)
                    refine lv_bipush (v := 8) hx hb d_M_refer_257 (by decide) ?_
                    refine lv_iload_n hx hb d_M_refer_259 rfl (lv_at hl 3 rfl) ?_
                    refine lv_iconst (v := 2) hx hb d_M_refer_260 (by decide) ?_
                    refine lv_iadd hx hb d_M_refer_261 ?_
                    obtain ⟨r63, u61, h62, hk⟩ := cI_u hk
                    refine go_I I (call_runV (rest := []) C I (c_M_must C.2.2.2.1 C.2.2.2.2.1 l h62 _) wd_M_must (q0 := 0) (ci := 7) rfl rfl k_843 ⟨rfl, rfl⟩ ⟨by decide, by decide⟩ rfl hl.1 rfl (Nat.le_of_ble_eq_true rfl) d_M_refer_262) (fun H locs I => ?_)
                    refine lv_if_ne (tgt := 269) hx hb d_M_refer_265 (by decide) (fun hc => ?_) (fun hc => ?_)
                    · replace hk := ie_u hc hk
                      refine lv_aload_n hx hb d_M_refer_269 rfl (lv_at hl 1 rfl) ?_
                      refine lv_aload_n hx hb d_M_refer_270 rfl (lv_at hl 1 rfl) ?_
                      refine lv_iload hx hb d_M_refer_271 (lv_at hl 0 rfl) ?_
                      refine lv_iconst (v := 0) hx hb d_M_refer_273 (by decide) ?_
                      obtain ⟨r66, u64, h65, hk⟩ := cI_u hk
                      refine go_I I (call_runV (rest := [.ref (a 0)]) C I (c_M_letter C.2.2.2.1 C.2.2.2.2.1 l h65 _) wd_M_letter (q0 := 0) (ci := 7) rfl rfl k_867 ⟨rfl, rfl⟩ ⟨by decide, by decide⟩ rfl hl.1 rfl (Nat.le_of_ble_eq_true rfl) d_M_refer_274) (fun H locs I => ?_)
                      refine lv_bipush (v := 40) hx hb d_M_refer_277 (by decide) ?_
                      obtain ⟨⟨z67, u68⟩, hj77, hk⟩ := cT_u hk
                      have Khj77 : ∀ (H : Heap) (locs : List Loc) (ls : Array Slot), Dy clA D (mW a cs) s H locs u68 → lv_has ls 6 [(0, .ref (a 0)), (1, .int x1), (2, .int ((u1.2 2 x1.toNatClampNeg) + 1))] → W p l e rm_M_refer s m args below meth c H locs 0 0 Q (F0 m 297 ls [.int z67, .ref (a 0)]) := by
                        intro H locs ls I hl
                        refine lv_bipush (v := 11) hx hb d_M_refer_297 (by decide) ?_
                        refine lv_iload_n hx hb d_M_refer_299 rfl (lv_at hl 2 rfl) ?_
                        refine lv_iconst (v := 2) hx hb d_M_refer_300 (by decide) ?_
                        refine lv_iadd hx hb d_M_refer_301 ?_
                        obtain ⟨r71, u69, h70, hk⟩ := cI_u hk
                        refine go_I I (call_runV (rest := []) C I (c_M_must C.2.2.2.1 C.2.2.2.2.1 l h70 _) wd_M_must (q0 := 0) (ci := 7) rfl rfl k_843 ⟨rfl, rfl⟩ ⟨by decide, by decide⟩ rfl hl.1 rfl (Nat.le_of_ble_eq_true rfl) d_M_refer_302) (fun H locs I => ?_)
                        refine lv_pop hx hb d_M_refer_305 rfl ?_
                        refine lv_aload_n hx hb d_M_refer_306 rfl (lv_at hl 0 rfl) ?_
                        refine lv_aload_n hx hb d_M_refer_307 rfl (lv_at hl 0 rfl) ?_
                        refine g_M_real C I k_723 d_M_refer_308 ?_
                        obtain ⟨z72, hj76, hk⟩ := bnd_u hk
                        have Khj76 : ∀ (H : Heap) (locs : List Loc) (ls : Array Slot), Dy clA D (mW a cs) s H locs u69 → lv_has ls 6 [(0, .ref (a 0)), (1, .int x1), (2, .int ((u1.2 2 x1.toNatClampNeg) + 1))] → W p l e rm_M_refer s m args below meth c H locs 0 0 Q (F0 m 319 ls [.int z72, .ref (a 0)]) := by
                          intro H locs ls I hl
                          refine lv_bipush (v := 12) hx hb d_M_refer_319 (by decide) ?_
                          refine lv_iload_n hx hb d_M_refer_321 rfl (lv_at hl 2 rfl) ?_
                          refine lv_iconst (v := 2) hx hb d_M_refer_322 (by decide) ?_
                          refine lv_iadd hx hb d_M_refer_323 ?_
                          obtain ⟨r75, u73, h74, hk⟩ := cI_u hk
                          refine go_I I (call_runV (rest := []) C I (c_M_must C.2.2.2.1 C.2.2.2.2.1 l h74 _) wd_M_must (q0 := 0) (ci := 7) rfl rfl k_843 ⟨rfl, rfl⟩ ⟨by decide, by decide⟩ rfl hl.1 rfl (Nat.le_of_ble_eq_true rfl) d_M_refer_324) (fun H locs I => ?_)
                          refine lv_pop hx hb d_M_refer_327 rfl ?_
                          refine lv_iinc (v := (x1 + 1)) (lv' := [(1, .int (x1 + 1)), (0, .ref (a 0)), (2, .int ((u1.2 2 x1.toNatClampNeg) + 1))]) hx hb d_M_refer_328 hl (k := 1) rfl rfl (by decide) rfl (fun ls hl => ?_)
                          refine lv_goto (tgt := 2) hx hb d_M_refer_331 (by decide) ?_
                          exact ih u73 (x1 + 1) _ _ _ hk I (lv_sub hl [1, 0] rfl)
                        refine lv_if_ne (tgt := 318) hx hb d_M_refer_311 (by decide) (fun hc => ?_) (fun hc => ?_)
                        · replace hj76 := ie_u hc hj76
                          refine lv_iconst (v := 0) hx hb d_M_refer_318 (by decide) ?_
                          cases hj76
                          exact Khj76 _ _ _ I (lv_sub hl [0, 1, 2] rfl)
                        · replace hj76 := it_u hc hj76
                          refine lv_iconst (v := 1) hx hb d_M_refer_314 (by decide) ?_
                          refine lv_goto (tgt := 319) hx hb d_M_refer_315 (by decide) ?_
                          cases hj76
                          exact Khj76 _ _ _ I (lv_sub hl [0, 1, 2] rfl)
                      refine lv_icmp_ne (tgt := 291) hx hb d_M_refer_279 (by decide) (fun hc => ?_) (fun hc => ?_)
                      · replace hj77 := ie_u hc hj77
                        refine lv_aload_n hx hb d_M_refer_291 rfl (lv_at hl 1 rfl) ?_
                        refine lv_iload hx hb d_M_refer_292 (lv_at hl 0 rfl) ?_
                        obtain ⟨r80, u78, h79, hj77⟩ := cI_u hj77
                        refine go_I I (call_runV (rest := [.ref (a 0)]) C I (c_M_isField C.2.2.2.1 C.2.2.2.2.1 l h79 _) wd_M_isField (q0 := 0) (ci := 7) rfl rfl k_879 ⟨rfl, rfl⟩ ⟨by decide, by decide⟩ rfl hl.1 rfl (Nat.le_of_ble_eq_true rfl) d_M_refer_294) (fun H locs I => ?_)
                        cases hj77
                        exact Khj77 _ _ _ I (lv_sub hl [1, 2, 3] rfl)
                      · replace hj77 := it_u hc hj77
                        refine lv_aload_n hx hb d_M_refer_282 rfl (lv_at hl 1 rfl) ?_
                        refine lv_iload hx hb d_M_refer_283 (lv_at hl 0 rfl) ?_
                        obtain ⟨r83, u81, h82, hj77⟩ := cI_u hj77
                        refine go_I I (call_runV (rest := [.ref (a 0)]) C I (c_M_isMethod C.2.2.2.1 C.2.2.2.2.1 l h82 _) wd_M_isMethod (q0 := 0) (ci := 7) rfl rfl k_909 ⟨rfl, rfl⟩ ⟨by decide, by decide⟩ rfl hl.1 rfl (Nat.le_of_ble_eq_true rfl) d_M_refer_285) (fun H locs I => ?_)
                        refine lv_goto (tgt := 297) hx hb d_M_refer_288 (by decide) ?_
                        cases hj77
                        exact Khj77 _ _ _ I (lv_sub hl [1, 2, 3] rfl)
                    · replace hk := it_u hc hk
                      exact hQ _ _ _ _ _ I hk d_M_refer_268
                  · replace hk := it_u hc hk
                    exact hQ _ _ _ _ _ I hk d_M_refer_239
                refine lv_if_ne (tgt := 225) hx hb d_M_refer_192 (by decide) (fun hc => ?_) (fun hc => ?_)
                · replace hj85 := ie_u hc hj85
                  refine lv_iconst (v := 1) hx hb d_M_refer_225 (by decide) ?_
                  refine lv_goto (tgt := 230) hx hb d_M_refer_226 (by decide) ?_
                  cases hj85
                  exact Khj85 _ _ _ I (lv_sub hl [2, 3, 1] rfl)
                · replace hj85 := it_u hc hj85
                  refine lv_aload_n hx hb d_M_refer_195 rfl (lv_at hl 2 rfl) ?_
                  refine lv_iload_n hx hb d_M_refer_196 rfl (lv_at hl 0 rfl) ?_
                  refine lv_bipush (v := 6) hx hb d_M_refer_197 (by decide) ?_
                  refine lv_ldc2 hx hb C.1.2.2.2 (C.2.1 _ k_902) d_M_refer_199 ?_
                  refine lv_lconst (v := 0) hx hb d_M_refer_202 (by decide) ?_
                  refine lv_lconst (v := 0) hx hb d_M_refer_203 (by decide) ?_
                  obtain ⟨r88, u86, h87, hj85⟩ := cI_u hj85
                  refine go_I I (call_runV (rest := [.ref (a 0)]) C I (c_M_is C.2.2.2.1 C.2.2.2.2.1 l h87 _) wd_M_is (q0 := 0) (ci := 7) rfl rfl k_903 ⟨rfl, rfl⟩ ⟨by decide, by decide⟩ rfl hl.1 rfl (Nat.le_of_ble_eq_true rfl) d_M_refer_204) (fun H locs I => ?_)
                  refine lv_if_ne (tgt := 225) hx hb d_M_refer_207 (by decide) (fun hc => ?_) (fun hc => ?_)
                  · replace hj85 := ie_u hc hj85
                    refine lv_iconst (v := 1) hx hb d_M_refer_225 (by decide) ?_
                    refine lv_goto (tgt := 230) hx hb d_M_refer_226 (by decide) ?_
                    cases hj85
                    exact Khj85 _ _ _ I (lv_sub hl [2, 3, 1] rfl)
                  · replace hj85 := it_u hc hj85
                    refine lv_aload_n hx hb d_M_refer_210 rfl (lv_at hl 2 rfl) ?_
                    refine lv_iload_n hx hb d_M_refer_211 rfl (lv_at hl 0 rfl) ?_
                    refine lv_bipush (v := 8) hx hb d_M_refer_212 (by decide) ?_
                    refine lv_ldc2 hx hb C.1.2.2.2 (C.2.1 _ k_908) d_M_refer_214 ?_
                    refine lv_lconst (v := 0) hx hb d_M_refer_217 (by decide) ?_
                    refine lv_lconst (v := 0) hx hb d_M_refer_218 (by decide) ?_
                    obtain ⟨r91, u89, h90, hj85⟩ := cI_u hj85
                    refine go_I I (call_runV (rest := [.ref (a 0)]) C I (c_M_is C.2.2.2.1 C.2.2.2.2.1 l h90 _) wd_M_is (q0 := 0) (ci := 7) rfl rfl k_903 ⟨rfl, rfl⟩ ⟨by decide, by decide⟩ rfl hl.1 rfl (Nat.le_of_ble_eq_true rfl) d_M_refer_219) (fun H locs I => ?_)
                    refine lv_if_eq (tgt := 229) hx hb d_M_refer_222 (by decide) (fun hc => ?_) (fun hc => ?_)
                    · replace hj85 := it_u hc hj85
                      refine lv_iconst (v := 0) hx hb d_M_refer_229 (by decide) ?_
                      cases hj85
                      exact Khj85 _ _ _ I (lv_sub hl [2, 3, 1] rfl)
                    · replace hj85 := ie_u hc hj85
                      refine lv_iconst (v := 1) hx hb d_M_refer_225 (by decide) ?_
                      refine lv_goto (tgt := 230) hx hb d_M_refer_226 (by decide) ?_
                      cases hj85
                      exact Khj85 _ _ _ I (lv_sub hl [2, 3, 1] rfl)
              · replace hk := it_u hc hk
                exact hQ _ _ _ _ _ I hk d_M_refer_185
          · replace hk := it_u hc hk
            refine lv_aload_n hx hb d_M_refer_48 rfl (lv_at hl 1 rfl) ?_
            refine lv_iload_n hx hb d_M_refer_49 rfl (lv_at hl 0 rfl) ?_
            obtain ⟨r95, u93, h94, hk⟩ := cI_u hk
            refine go_I I (call_runV (rest := []) C I (c_M_two C.2.2.2.1 C.2.2.2.2.1 l h94 _) wd_M_two (q0 := 0) (ci := 7) rfl rfl k_859 ⟨rfl, rfl⟩ ⟨by decide, by decide⟩ rfl hl.1 rfl (Nat.le_of_ble_eq_true rfl) d_M_refer_50) (fun H locs I => ?_)
            refine lv_istore_n (lv' := [(3, .int r95), (2, .int ((u1.2 2 x1.toNatClampNeg) + 1)), (0, .ref (a 0)), (1, .int x1)]) hx hb d_M_refer_53 rfl hl (by decide) rfl (fun ls hl => ?_)
            refine lv_aload_n hx hb d_M_refer_54 rfl (lv_at hl 2 rfl) ?_
            refine lv_aload_n hx hb d_M_refer_55 rfl (lv_at hl 2 rfl) ?_
            refine lv_iload_n hx hb d_M_refer_56 rfl (lv_at hl 0 rfl) ?_
            refine lv_iconst (v := 1) hx hb d_M_refer_57 (by decide) ?_
            obtain ⟨r98, u96, h97, hk⟩ := cI_u hk
            refine go_I I (call_runV (rest := [.ref (a 0)]) C I (c_M_isKind C.2.2.2.1 C.2.2.2.2.1 l h97 _) wd_M_isKind (q0 := 0) (ci := 7) rfl rfl k_863 ⟨rfl, rfl⟩ ⟨by decide, by decide⟩ rfl hl.1 rfl (Nat.le_of_ble_eq_true rfl) d_M_refer_58) (fun H locs I => ?_)
            refine lv_bipush (v := 8) hx hb d_M_refer_61 (by decide) ?_
            refine lv_iload_n hx hb d_M_refer_63 rfl (lv_at hl 1 rfl) ?_
            obtain ⟨r101, u99, h100, hk⟩ := cI_u hk
            refine go_I I (call_runV (rest := []) C I (c_M_must C.2.2.2.1 C.2.2.2.2.1 l h100 _) wd_M_must (q0 := 0) (ci := 7) rfl rfl k_843 ⟨rfl, rfl⟩ ⟨by decide, by decide⟩ rfl hl.1 rfl (Nat.le_of_ble_eq_true rfl) d_M_refer_64) (fun H locs I => ?_)
            obtain ⟨u102, hj103, hk⟩ := cT_u hk
            have Khj103 : ∀ (H : Heap) (locs : List Loc) (ls : Array Slot), Dy clA D (mW a cs) s H locs u102 → lv_has ls 6 [(0, .ref (a 0)), (1, .int x1)] → W p l e rm_M_refer s m args below meth c H locs 0 0 Q (F0 m 328 ls []) := by
              intro H locs ls I hl
              refine lv_iinc (v := (x1 + 1)) (lv' := [(1, .int (x1 + 1)), (0, .ref (a 0))]) hx hb d_M_refer_328 hl (k := 1) rfl rfl (by decide) rfl (fun ls hl => ?_)
              refine lv_goto (tgt := 2) hx hb d_M_refer_331 (by decide) ?_
              exact ih u102 (x1 + 1) _ _ _ hk I (lv_sub hl [1, 0] rfl)
            refine lv_if_eq (tgt := 328) hx hb d_M_refer_67 (by decide) (fun hc => ?_) (fun hc => ?_)
            · replace hj103 := it_u hc hj103
              cases hj103
              exact Khj103 _ _ _ I (lv_sub hl [2, 3] rfl)
            · replace hj103 := ie_u hc hj103
              refine lv_aload_n hx hb d_M_refer_70 rfl (lv_at hl 2 rfl) ?_
              refine g_M_kinds C I k_702 d_M_refer_71 ?_
              refine lv_iload_n hx hb d_M_refer_74 rfl (lv_at hl 3 rfl) ?_
              obtain ⟨hi, hj103⟩ := gd_u hj103
              refine l_M_kinds C I hi d_M_refer_75 ?_
              refine lv_bipush (v := 8) hx hb d_M_refer_76 (by decide) ?_
              refine lv_icmp_ne (tgt := 84) hx hb d_M_refer_78 (by decide) (fun hc => ?_) (fun hc => ?_)
              · replace hj103 := ie_u hc hj103
                refine lv_aload_n hx hb d_M_refer_84 rfl (lv_at hl 2 rfl) ?_
                refine lv_iconst (v := 0) hx hb d_M_refer_85 (by decide) ?_
                obtain ⟨hz, hj103⟩ := gb_u hj103
                refine p_M_real C I k_723 hz d_M_refer_86 (fun H locs I => ?_)
                obtain ⟨u104, hu, hj103⟩ := bnd_u hj103
                rw [hu] at I
                clear hu
                refine lv_aload_n hx hb d_M_refer_89 rfl (lv_at hl 2 rfl) ?_
                refine lv_iload_n hx hb d_M_refer_90 rfl (lv_at hl 0 rfl) ?_
                refine lv_iconst (v := 0) hx hb d_M_refer_91 (by decide) ?_
                obtain ⟨r107, u105, h106, hj103⟩ := cI_u hj103
                refine go_I I (call_runV (rest := []) C I (c_M_letter C.2.2.2.1 C.2.2.2.2.1 l h106 _) wd_M_letter (q0 := 0) (ci := 7) rfl rfl k_867 ⟨rfl, rfl⟩ ⟨by decide, by decide⟩ rfl hl.1 rfl (Nat.le_of_ble_eq_true rfl) d_M_refer_92) (fun H locs I => ?_)
                refine lv_bipush (v := 91) hx hb d_M_refer_95 (by decide) ?_
                obtain ⟨u108, hj109, hj103⟩ := cT_u hj103
                have Khj109 : ∀ (H : Heap) (locs : List Loc) (ls : Array Slot), Dy clA D (mW a cs) s H locs u108 → lv_has ls 6 [(0, .ref (a 0)), (1, .int x1)] → W p l e rm_M_refer s m args below meth c H locs 0 0 Q (F0 m 149 ls []) := by
                  intro H locs ls I hl
                  refine lv_goto (tgt := 328) hx hb d_M_refer_149 (by decide) ?_
                  cases hj103
                  exact Khj103 _ _ _ I (lv_sub hl [0, 1] rfl)
                refine lv_icmp_ne (tgt := 136) hx hb d_M_refer_97 (by decide) (fun hc => ?_) (fun hc => ?_)
                · replace hj109 := ie_u hc hj109
                  refine lv_aload_n hx hb d_M_refer_136 rfl (lv_at hl 2 rfl) ?_
                  refine lv_aload_n hx hb d_M_refer_137 rfl (lv_at hl 2 rfl) ?_
                  refine lv_iload_n hx hb d_M_refer_138 rfl (lv_at hl 0 rfl) ?_
                  obtain ⟨r112, u110, h111, hj109⟩ := cI_u hj109
                  refine go_I I (call_runV (rest := [.ref (a 0)]) C I (c_M_isClassName C.2.2.2.1 C.2.2.2.2.1 l h111 _) wd_M_isClassName (q0 := 0) (ci := 7) rfl rfl k_894 ⟨rfl, rfl⟩ ⟨by decide, by decide⟩ rfl hl.1 rfl (Nat.le_of_ble_eq_true rfl) d_M_refer_139) (fun H locs I => ?_)
                  refine lv_bipush (v := 9) hx hb d_M_refer_142 (by decide) ?_
                  refine lv_iload_n hx hb d_M_refer_144 rfl (lv_at hl 1 rfl) ?_
                  obtain ⟨r115, u113, h114, hj109⟩ := cI_u hj109
                  refine go_I I (call_runV (rest := []) C I (c_M_must C.2.2.2.1 C.2.2.2.2.1 l h114 _) wd_M_must (q0 := 0) (ci := 7) rfl rfl k_843 ⟨rfl, rfl⟩ ⟨by decide, by decide⟩ rfl hl.1 rfl (Nat.le_of_ble_eq_true rfl) d_M_refer_145) (fun H locs I => ?_)
                  refine lv_pop hx hb d_M_refer_148 rfl ?_
                  cases hj109
                  exact Khj109 _ _ _ I (lv_sub hl [2, 3] rfl)
                · replace hj109 := it_u hc hj109
                  refine lv_aload_n hx hb d_M_refer_100 rfl (lv_at hl 2 rfl) ?_
                  refine lv_aload_n hx hb d_M_refer_101 rfl (lv_at hl 2 rfl) ?_
                  refine lv_iload_n hx hb d_M_refer_102 rfl (lv_at hl 0 rfl) ?_
                  obtain ⟨r118, u116, h117, hj109⟩ := cI_u hj109
                  refine go_I I (call_runV (rest := [.ref (a 0)]) C I (c_M_isField C.2.2.2.1 C.2.2.2.2.1 l h117 _) wd_M_isField (q0 := 0) (ci := 7) rfl rfl k_879 ⟨rfl, rfl⟩ ⟨by decide, by decide⟩ rfl hl.1 rfl (Nat.le_of_ble_eq_true rfl) d_M_refer_103) (fun H locs I => ?_)
                  refine lv_bipush (v := 9) hx hb d_M_refer_106 (by decide) ?_
                  refine lv_iload_n hx hb d_M_refer_108 rfl (lv_at hl 1 rfl) ?_
                  obtain ⟨r121, u119, h120, hj109⟩ := cI_u hj109
                  refine go_I I (call_runV (rest := []) C I (c_M_must C.2.2.2.1 C.2.2.2.2.1 l h120 _) wd_M_must (q0 := 0) (ci := 7) rfl rfl k_843 ⟨rfl, rfl⟩ ⟨by decide, by decide⟩ rfl hl.1 rfl (Nat.le_of_ble_eq_true rfl) d_M_refer_109) (fun H locs I => ?_)
                  refine lv_pop hx hb d_M_refer_112 rfl ?_
                  refine lv_aload_n hx hb d_M_refer_113 rfl (lv_at hl 2 rfl) ?_
                  refine lv_aload_n hx hb d_M_refer_114 rfl (lv_at hl 2 rfl) ?_
                  refine g_M_real C I k_723 d_M_refer_115 ?_
                  obtain ⟨z122, hj126, hj109⟩ := bnd_u hj109
                  have Khj126 : ∀ (H : Heap) (locs : List Loc) (ls : Array Slot), Dy clA D (mW a cs) s H locs u119 → lv_has ls 6 [(0, .ref (a 0)), (1, .int x1), (2, .int ((u1.2 2 x1.toNatClampNeg) + 1))] → W p l e rm_M_refer s m args below meth c H locs 0 0 Q (F0 m 126 ls [.int z122, .ref (a 0)]) := by
                    intro H locs ls I hl
                    refine lv_bipush (v := 12) hx hb d_M_refer_126 (by decide) ?_
                    refine lv_iload_n hx hb d_M_refer_128 rfl (lv_at hl 2 rfl) ?_
                    obtain ⟨r125, u123, h124, hj109⟩ := cI_u hj109
                    refine go_I I (call_runV (rest := []) C I (c_M_must C.2.2.2.1 C.2.2.2.2.1 l h124 _) wd_M_must (q0 := 0) (ci := 7) rfl rfl k_843 ⟨rfl, rfl⟩ ⟨by decide, by decide⟩ rfl hl.1 rfl (Nat.le_of_ble_eq_true rfl) d_M_refer_129) (fun H locs I => ?_)
                    refine lv_pop hx hb d_M_refer_132 rfl ?_
                    refine lv_goto (tgt := 149) hx hb d_M_refer_133 (by decide) ?_
                    cases hj109
                    exact Khj109 _ _ _ I (lv_sub hl [0, 1] rfl)
                  refine lv_if_ne (tgt := 125) hx hb d_M_refer_118 (by decide) (fun hc => ?_) (fun hc => ?_)
                  · replace hj126 := ie_u hc hj126
                    refine lv_iconst (v := 0) hx hb d_M_refer_125 (by decide) ?_
                    cases hj126
                    exact Khj126 _ _ _ I (lv_sub hl [2, 3, 1] rfl)
                  · replace hj126 := it_u hc hj126
                    refine lv_iconst (v := 1) hx hb d_M_refer_121 (by decide) ?_
                    refine lv_goto (tgt := 126) hx hb d_M_refer_122 (by decide) ?_
                    cases hj126
                    exact Khj126 _ _ _ I (lv_sub hl [2, 3, 1] rfl)
              · replace hj103 := it_u hc hj103
                refine lv_goto (tgt := 328) hx hb d_M_refer_81 (by decide) ?_
                cases hj103
                exact Khj103 _ _ _ I (lv_sub hl [2, 3] rfl)
set_option maxHeartbeats 4000000 in
set_option maxRecDepth 100000 in
theorem w_M_refer_L336 {Z : zT} {D : va_G} {cs : Nat → ClassId} {a : Nat → Nat} {p : Program} {l : Launch} {e : Env} {s : State} {m : MethodId} {args : Array Value} {below : List Frame} {meth : Method} {c : Code} {Q : State → Prop} {F : St} {kx : St → Option (St)} (C : Cx clA R_M prog_9_method_36_code 6 D cs (mW a cs) Z p s m args c) (hE : ∀ (u2 : St) (H : Heap) (locs : List Loc) (ls : Array Slot), kx u2 = some F → Dy clA D (mW a cs) s H locs u2 → lv_has ls 6 [] → W p l e rm_M_refer s m args below meth c H locs 0 0 Q (F0 m 585 ls [])) (hQ : ∀ (H : Heap) (locs : List Loc) (pc : Nat) (ls : Array Slot) (u1 : St), Dy clA D (mW a cs) s H locs u1 → some u1 = some F → decode prog_9_method_36_code pc = .ok (.return_, 1) → W p l e rm_M_refer s m args below meth c H locs 0 0 Q (F0 m pc ls [])): ∀ (n : Nat) (u : St) (x1 : Int32) (H : Heap) (locs : List Loc) (ls : Array Slot), f_M_refer_L336 kx n u x1 = some F → Dy clA D (mW a cs) s H locs u → lv_has ls 6 [(0, .ref (a 0)), (1, .int x1)] → W p l e rm_M_refer s m args below meth c H locs 0 0 Q (F0 m 336 ls []) := by
  have hx := C.1.1
  have hb := C.1.2.1
  intro n
  induction n with
  | zero =>
    intro u x1 H locs ls hk I hl
    rw [f_M_refer_L336] at hk
    cases hk
  | succ n ih =>
    intro u x1 H locs ls hk I hl
    rw [f_M_refer_L336] at hk
    refine lv_iload_n hx hb d_M_refer_336 rfl (lv_at hl 1 rfl) ?_
    refine lv_aload_n hx hb d_M_refer_337 rfl (lv_at hl 0 rfl) ?_
    refine g_M_many C I k_701 d_M_refer_338 ?_
    refine lv_icmp_ge (tgt := 585) hx hb d_M_refer_341 (by decide) (fun hc => ?_) (fun hc => ?_)
    · replace hk := it_u hc hk
      exact hE u _ _ _ hk I (lv_sub hl [] rfl)
    · replace hk := ie_u hc hk
      refine lv_aload_n hx hb d_M_refer_344 rfl (lv_at hl 0 rfl) ?_
      obtain ⟨r130, u128, h129, hk⟩ := cI_u hk
      refine go_I I (call_runV (rest := []) C I (c_M_ok C.2.2.2.1 C.2.2.2.2.1 l h129 _) wd_M_ok (q0 := 0) (ci := 7) rfl rfl k_834 ⟨rfl, rfl⟩ ⟨by decide, by decide⟩ rfl hl.1 rfl (Nat.le_of_ble_eq_true rfl) d_M_refer_345) (fun H locs I => ?_)
      refine lv_if_eq (tgt := 585) hx hb d_M_refer_348 (by decide) (fun hc => ?_) (fun hc => ?_)
      · replace hk := it_u hc hk
        exact hE u128 _ _ _ hk I (lv_sub hl [] rfl)
      · replace hk := ie_u hc hk
        refine lv_aload_n hx hb d_M_refer_351 rfl (lv_at hl 0 rfl) ?_
        refine g_M_kinds C I k_702 d_M_refer_352 ?_
        refine lv_iload_n hx hb d_M_refer_355 rfl (lv_at hl 1 rfl) ?_
        obtain ⟨hi, hk⟩ := gd_u hk
        refine l_M_kinds C I hi d_M_refer_356 ?_
        refine lv_bipush (v := 9) hx hb d_M_refer_357 (by decide) ?_
        refine lv_icmp_lt (tgt := 579) hx hb d_M_refer_359 (by decide) (fun hc => ?_) (fun hc => ?_)
        · replace hk := it_u hc hk
          refine lv_iinc (v := (x1 + 1)) (lv' := [(1, .int (x1 + 1)), (0, .ref (a 0))]) hx hb d_M_refer_579 hl (k := 1) rfl rfl (by decide) rfl (fun ls hl => ?_)
          refine lv_goto (tgt := 336) hx hb d_M_refer_582 (by decide) ?_
          exact ih u128 (x1 + 1) _ _ _ hk I (lv_sub hl [1, 0] rfl)
        · replace hk := ie_u hc hk
          refine lv_aload_n hx hb d_M_refer_362 rfl (lv_at hl 0 rfl) ?_
          refine g_M_kinds C I k_702 d_M_refer_363 ?_
          refine lv_iload_n hx hb d_M_refer_366 rfl (lv_at hl 1 rfl) ?_
          obtain ⟨hi, hk⟩ := gd_u hk
          refine l_M_kinds C I hi d_M_refer_367 ?_
          refine lv_bipush (v := 11) hx hb d_M_refer_368 (by decide) ?_
          refine lv_icmp_le (tgt := 376) hx hb d_M_refer_370 (by decide) (fun hc => ?_) (fun hc => ?_)
          · replace hk := it_u hc hk
            refine lv_aload_n hx hb d_M_refer_376 rfl (lv_at hl 0 rfl) ?_
            refine g_M_begins C I k_703 d_M_refer_377 ?_
            refine lv_iload_n hx hb d_M_refer_380 rfl (lv_at hl 1 rfl) ?_
            obtain ⟨hi, hk⟩ := gd_u hk
            refine l_M_begins C I hi d_M_refer_381 ?_
            refine lv_iconst (v := 1) hx hb d_M_refer_382 (by decide) ?_
            refine lv_iadd hx hb d_M_refer_383 ?_
            refine lv_istore_n (lv' := [(2, .int ((u128.2 2 x1.toNatClampNeg) + 1)), (0, .ref (a 0)), (1, .int x1)]) hx hb d_M_refer_384 rfl hl (by decide) rfl (fun ls hl => ?_)
            refine lv_aload_n hx hb d_M_refer_385 rfl (lv_at hl 1 rfl) ?_
            refine lv_aload_n hx hb d_M_refer_386 rfl (lv_at hl 1 rfl) ?_
            refine lv_aload_n hx hb d_M_refer_387 rfl (lv_at hl 1 rfl) ?_
            refine lv_iload_n hx hb d_M_refer_388 rfl (lv_at hl 0 rfl) ?_
            obtain ⟨r133, u131, h132, hk⟩ := cI_u hk
            refine go_I I (call_runV (rest := [.ref (a 0), .ref (a 0)]) C I (c_M_two C.2.2.2.1 C.2.2.2.2.1 l h132 _) wd_M_two (q0 := 0) (ci := 7) rfl rfl k_859 ⟨rfl, rfl⟩ ⟨by decide, by decide⟩ rfl hl.1 rfl (Nat.le_of_ble_eq_true rfl) d_M_refer_389) (fun H locs I => ?_)
            refine lv_bipush (v := 7) hx hb d_M_refer_392 (by decide) ?_
            obtain ⟨r136, u134, h135, hk⟩ := cI_u hk
            refine go_I I (call_runV (rest := [.ref (a 0)]) C I (c_M_isKind C.2.2.2.1 C.2.2.2.2.1 l h135 _) wd_M_isKind (q0 := 0) (ci := 7) rfl rfl k_863 ⟨rfl, rfl⟩ ⟨by decide, by decide⟩ rfl hl.1 rfl (Nat.le_of_ble_eq_true rfl) d_M_refer_394) (fun H locs I => ?_)
            refine lv_bipush (v := 8) hx hb d_M_refer_397 (by decide) ?_
            refine lv_iload_n hx hb d_M_refer_399 rfl (lv_at hl 0 rfl) ?_
            obtain ⟨r139, u137, h138, hk⟩ := cI_u hk
            refine go_I I (call_runV (rest := []) C I (c_M_must C.2.2.2.1 C.2.2.2.2.1 l h138 _) wd_M_must (q0 := 0) (ci := 7) rfl rfl k_843 ⟨rfl, rfl⟩ ⟨by decide, by decide⟩ rfl hl.1 rfl (Nat.le_of_ble_eq_true rfl) d_M_refer_400) (fun H locs I => ?_)
            refine lv_if_eq (tgt := 431) hx hb d_M_refer_403 (by decide) (fun hc => ?_) (fun hc => ?_)
            · replace hk := it_u hc hk
              exact hQ _ _ _ _ _ I hk d_M_refer_431
            · replace hk := ie_u hc hk
              refine lv_aload_n hx hb d_M_refer_406 rfl (lv_at hl 1 rfl) ?_
              refine lv_aload_n hx hb d_M_refer_407 rfl (lv_at hl 1 rfl) ?_
              refine lv_aload_n hx hb d_M_refer_408 rfl (lv_at hl 1 rfl) ?_
              refine lv_iload_n hx hb d_M_refer_409 rfl (lv_at hl 0 rfl) ?_
              refine lv_iconst (v := 2) hx hb d_M_refer_410 (by decide) ?_
              refine lv_iadd hx hb d_M_refer_411 ?_
              obtain ⟨r142, u140, h141, hk⟩ := cI_u hk
              refine go_I I (call_runV (rest := [.ref (a 0), .ref (a 0)]) C I (c_M_two C.2.2.2.1 C.2.2.2.2.1 l h141 _) wd_M_two (q0 := 0) (ci := 7) rfl rfl k_859 ⟨rfl, rfl⟩ ⟨by decide, by decide⟩ rfl hl.1 rfl (Nat.le_of_ble_eq_true rfl) d_M_refer_412) (fun H locs I => ?_)
              refine lv_bipush (v := 12) hx hb d_M_refer_415 (by decide) ?_
              obtain ⟨r145, u143, h144, hk⟩ := cI_u hk
              refine go_I I (call_runV (rest := [.ref (a 0)]) C I (c_M_isKind C.2.2.2.1 C.2.2.2.2.1 l h144 _) wd_M_isKind (q0 := 0) (ci := 7) rfl rfl k_863 ⟨rfl, rfl⟩ ⟨by decide, by decide⟩ rfl hl.1 rfl (Nat.le_of_ble_eq_true rfl) d_M_refer_417) (fun H locs I => ?_)
              refine lv_bipush (v := 8) hx hb d_M_refer_420 (by decide) ?_
              refine lv_iload_n hx hb d_M_refer_422 rfl (lv_at hl 0 rfl) ?_
              refine lv_iconst (v := 2) hx hb d_M_refer_423 (by decide) ?_
              refine lv_iadd hx hb d_M_refer_424 ?_
              obtain ⟨r148, u146, h147, hk⟩ := cI_u hk
              refine go_I I (call_runV (rest := []) C I (c_M_must C.2.2.2.1 C.2.2.2.2.1 l h147 _) wd_M_must (q0 := 0) (ci := 7) rfl rfl k_843 ⟨rfl, rfl⟩ ⟨by decide, by decide⟩ rfl hl.1 rfl (Nat.le_of_ble_eq_true rfl) d_M_refer_425) (fun H locs I => ?_)
              refine lv_if_ne (tgt := 432) hx hb d_M_refer_428 (by decide) (fun hc => ?_) (fun hc => ?_)
              · replace hk := ie_u hc hk
                refine lv_aload_n hx hb d_M_refer_432 rfl (lv_at hl 1 rfl) ?_
                refine lv_aload_n hx hb d_M_refer_433 rfl (lv_at hl 1 rfl) ?_
                refine lv_iload_n hx hb d_M_refer_434 rfl (lv_at hl 2 rfl) ?_
                obtain ⟨r151, u149, h150, hk⟩ := cI_u hk
                refine go_I I (call_runV (rest := [.ref (a 0)]) C I (c_M_typeOf C.2.2.2.1 C.2.2.2.2.1 l h150 _) wd_M_typeOf (q0 := 0) (ci := 7) rfl rfl k_913 ⟨rfl, rfl⟩ ⟨by decide, by decide⟩ rfl hl.1 rfl (Nat.le_of_ble_eq_true rfl) d_M_refer_435) (fun H locs I => ?_)
                refine lv_iconst (v := 0) hx hb d_M_refer_438 (by decide) ?_
                obtain ⟨r154, u152, h153, hk⟩ := cI_u hk
                refine go_I I (call_runV (rest := []) C I (c_M_letter C.2.2.2.1 C.2.2.2.2.1 l h153 _) wd_M_letter (q0 := 0) (ci := 7) rfl rfl k_867 ⟨rfl, rfl⟩ ⟨by decide, by decide⟩ rfl hl.1 rfl (Nat.le_of_ble_eq_true rfl) d_M_refer_439) (fun H locs I => ?_)
                refine lv_bipush (v := 40) hx hb d_M_refer_442 (by decide) ?_
                obtain ⟨z155, hj181, hk⟩ := bnd_u hk
                have Khj181 : ∀ (H : Heap) (locs : List Loc) (ls : Array Slot), Dy clA D (mW a cs) s H locs u152 → lv_has ls 6 [(0, .ref (a 0)), (1, .int x1), (2, .int ((u128.2 2 x1.toNatClampNeg) + 1))] → W p l e rm_M_refer s m args below meth c H locs 0 0 Q (F0 m 452 ls [.int z155]) := by
                  intro H locs ls I hl
                  refine lv_istore_n (lv' := [(3, .int z155), (0, .ref (a 0)), (1, .int x1), (2, .int ((u128.2 2 x1.toNatClampNeg) + 1))]) hx hb d_M_refer_452 rfl hl (by decide) rfl (fun ls hl => ?_)
                  refine lv_aload_n hx hb d_M_refer_453 rfl (lv_at hl 1 rfl) ?_
                  refine lv_aload_n hx hb d_M_refer_454 rfl (lv_at hl 1 rfl) ?_
                  refine lv_iload_n hx hb d_M_refer_455 rfl (lv_at hl 2 rfl) ?_
                  obtain ⟨r158, u156, h157, hk⟩ := cI_u hk
                  refine go_I I (call_runV (rest := [.ref (a 0)]) C I (c_M_nameOf C.2.2.2.1 C.2.2.2.2.1 l h157 _) wd_M_nameOf (q0 := 0) (ci := 7) rfl rfl k_917 ⟨rfl, rfl⟩ ⟨by decide, by decide⟩ rfl hl.1 rfl (Nat.le_of_ble_eq_true rfl) d_M_refer_456) (fun H locs I => ?_)
                  obtain ⟨r161, u159, h160, hk⟩ := cI_u hk
                  refine go_I I (call_runV (rest := []) C I (c_M_isPlainName C.2.2.2.1 C.2.2.2.2.1 l h160 _) wd_M_isPlainName (q0 := 0) (ci := 7) rfl rfl k_898 ⟨rfl, rfl⟩ ⟨by decide, by decide⟩ rfl hl.1 rfl (Nat.le_of_ble_eq_true rfl) d_M_refer_459) (fun H locs I => ?_)
                  refine lv_istore (lv' := [(4, .int r161), (3, .int z155), (0, .ref (a 0)), (1, .int x1), (2, .int ((u128.2 2 x1.toNatClampNeg) + 1))]) hx hb d_M_refer_462 hl (by decide) rfl (fun ls hl => ?_)
                  refine lv_aload_n hx hb d_M_refer_464 rfl (lv_at hl 2 rfl) ?_
                  refine g_M_kinds C I k_702 d_M_refer_465 ?_
                  refine lv_iload_n hx hb d_M_refer_468 rfl (lv_at hl 3 rfl) ?_
                  obtain ⟨hi, hk⟩ := gd_u hk
                  refine l_M_kinds C I hi d_M_refer_469 ?_
                  refine lv_bipush (v := 9) hx hb d_M_refer_470 (by decide) ?_
                  obtain ⟨⟨z162, u163⟩, hj167, hk⟩ := cT_u hk
                  have Khj167 : ∀ (H : Heap) (locs : List Loc) (ls : Array Slot), Dy clA D (mW a cs) s H locs u163 → lv_has ls 6 [(0, .ref (a 0)), (1, .int x1), (2, .int ((u128.2 2 x1.toNatClampNeg) + 1))] → W p l e rm_M_refer s m args below meth c H locs 0 0 Q (F0 m 565 ls [.int z162]) := by
                    intro H locs ls I hl
                    refine lv_istore (lv' := [(5, .int z162), (0, .ref (a 0)), (1, .int x1), (2, .int ((u128.2 2 x1.toNatClampNeg) + 1))]) hx hb d_M_refer_565 hl (by decide) rfl (fun ls hl => ?_)
                    refine lv_aload_n hx hb d_M_refer_567 rfl (lv_at hl 1 rfl) ?_
                    refine lv_iload hx hb d_M_refer_568 (lv_at hl 0 rfl) ?_
                    refine lv_bipush (v := 10) hx hb d_M_refer_570 (by decide) ?_
                    refine lv_iload_n hx hb d_M_refer_572 rfl (lv_at hl 3 rfl) ?_
                    refine lv_iconst (v := 2) hx hb d_M_refer_573 (by decide) ?_
                    refine lv_iadd hx hb d_M_refer_574 ?_
                    obtain ⟨r166, u164, h165, hk⟩ := cI_u hk
                    refine go_I I (call_runV (rest := []) C I (c_M_must C.2.2.2.1 C.2.2.2.2.1 l h165 _) wd_M_must (q0 := 0) (ci := 7) rfl rfl k_843 ⟨rfl, rfl⟩ ⟨by decide, by decide⟩ rfl hl.1 rfl (Nat.le_of_ble_eq_true rfl) d_M_refer_575) (fun H locs I => ?_)
                    refine lv_pop hx hb d_M_refer_578 rfl ?_
                    refine lv_iinc (v := (x1 + 1)) (lv' := [(1, .int (x1 + 1)), (5, .int z162), (0, .ref (a 0)), (2, .int ((u128.2 2 x1.toNatClampNeg) + 1))]) hx hb d_M_refer_579 hl (k := 2) rfl rfl (by decide) rfl (fun ls hl => ?_)
                    refine lv_goto (tgt := 336) hx hb d_M_refer_582 (by decide) ?_
                    exact ih u164 (x1 + 1) _ _ _ hk I (lv_sub hl [2, 0] rfl)
                  refine lv_icmp_ne (tgt := 492) hx hb d_M_refer_472 (by decide) (fun hc => ?_) (fun hc => ?_)
                  · replace hj167 := ie_u hc hj167
                    refine lv_aload_n hx hb d_M_refer_492 rfl (lv_at hl 2 rfl) ?_
                    refine g_M_kinds C I k_702 d_M_refer_493 ?_
                    refine lv_iload_n hx hb d_M_refer_496 rfl (lv_at hl 3 rfl) ?_
                    obtain ⟨hi, hj167⟩ := gd_u hj167
                    refine l_M_kinds C I hi d_M_refer_497 ?_
                    refine lv_bipush (v := 11) hx hb d_M_refer_498 (by decide) ?_
                    refine lv_icmp_ne (tgt := 520) hx hb d_M_refer_500 (by decide) (fun hc => ?_) (fun hc => ?_)
                    · replace hj167 := ie_u hc hj167
                      refine lv_iload_n hx hb d_M_refer_520 rfl (lv_at hl 1 rfl) ?_
                      refine lv_if_eq (tgt := 564) hx hb d_M_refer_521 (by decide) (fun hc => ?_) (fun hc => ?_)
                      · replace hj167 := it_u hc hj167
                        refine lv_iconst (v := 0) hx hb d_M_refer_564 (by decide) ?_
                        cases hj167
                        exact Khj167 _ _ _ I (lv_sub hl [2, 3, 4] rfl)
                      · replace hj167 := ie_u hc hj167
                        refine lv_iload hx hb d_M_refer_524 (lv_at hl 0 rfl) ?_
                        refine lv_if_ne (tgt := 560) hx hb d_M_refer_526 (by decide) (fun hc => ?_) (fun hc => ?_)
                        · replace hj167 := ie_u hc hj167
                          refine lv_iconst (v := 1) hx hb d_M_refer_560 (by decide) ?_
                          refine lv_goto (tgt := 565) hx hb d_M_refer_561 (by decide) ?_
                          cases hj167
                          exact Khj167 _ _ _ I (lv_sub hl [2, 3, 4] rfl)
                        · replace hj167 := it_u hc hj167
                          refine lv_aload_n hx hb d_M_refer_529 rfl (lv_at hl 2 rfl) ?_
                          refine lv_aload_n hx hb d_M_refer_530 rfl (lv_at hl 2 rfl) ?_
                          refine lv_iload_n hx hb d_M_refer_531 rfl (lv_at hl 3 rfl) ?_
                          obtain ⟨r170, u168, h169, hj167⟩ := cI_u hj167
                          refine go_I I (call_runV (rest := [.ref (a 0)]) C I (c_M_nameOf C.2.2.2.1 C.2.2.2.2.1 l h169 _) wd_M_nameOf (q0 := 0) (ci := 7) rfl rfl k_917 ⟨rfl, rfl⟩ ⟨by decide, by decide⟩ rfl hl.1 rfl (Nat.le_of_ble_eq_true rfl) d_M_refer_532) (fun H locs I => ?_)
                          refine lv_bipush (v := 6) hx hb d_M_refer_535 (by decide) ?_
                          refine lv_ldc2 hx hb C.1.2.2.2 (C.2.1 _ k_902) d_M_refer_537 ?_
                          refine lv_lconst (v := 0) hx hb d_M_refer_540 (by decide) ?_
                          refine lv_lconst (v := 0) hx hb d_M_refer_541 (by decide) ?_
                          obtain ⟨r173, u171, h172, hj167⟩ := cI_u hj167
                          refine go_I I (call_runV (rest := []) C I (c_M_is C.2.2.2.1 C.2.2.2.2.1 l h172 _) wd_M_is (q0 := 0) (ci := 7) rfl rfl k_903 ⟨rfl, rfl⟩ ⟨by decide, by decide⟩ rfl hl.1 rfl (Nat.le_of_ble_eq_true rfl) d_M_refer_542) (fun H locs I => ?_)
                          refine lv_if_eq (tgt := 564) hx hb d_M_refer_545 (by decide) (fun hc => ?_) (fun hc => ?_)
                          · replace hj167 := it_u hc hj167
                            refine lv_iconst (v := 0) hx hb d_M_refer_564 (by decide) ?_
                            cases hj167
                            exact Khj167 _ _ _ I (lv_sub hl [2, 3, 4] rfl)
                          · replace hj167 := ie_u hc hj167
                            refine lv_aload_n hx hb d_M_refer_548 rfl (lv_at hl 2 rfl) ?_
                            refine lv_aload_n hx hb d_M_refer_549 rfl (lv_at hl 2 rfl) ?_
                            refine lv_iload_n hx hb d_M_refer_550 rfl (lv_at hl 3 rfl) ?_
                            obtain ⟨r176, u174, h175, hj167⟩ := cI_u hj167
                            refine go_I I (call_runV (rest := [.ref (a 0)]) C I (c_M_typeOf C.2.2.2.1 C.2.2.2.2.1 l h175 _) wd_M_typeOf (q0 := 0) (ci := 7) rfl rfl k_913 ⟨rfl, rfl⟩ ⟨by decide, by decide⟩ rfl hl.1 rfl (Nat.le_of_ble_eq_true rfl) d_M_refer_551) (fun H locs I => ?_)
                            obtain ⟨r179, u177, h178, hj167⟩ := cI_u hj167
                            refine go_I I (call_runV (rest := []) C I (c_M_isVoid C.2.2.2.1 C.2.2.2.2.1 l h178 _) wd_M_isVoid (q0 := 0) (ci := 7) rfl rfl k_921 ⟨rfl, rfl⟩ ⟨by decide, by decide⟩ rfl hl.1 rfl (Nat.le_of_ble_eq_true rfl) d_M_refer_554) (fun H locs I => ?_)
                            refine lv_if_eq (tgt := 564) hx hb d_M_refer_557 (by decide) (fun hc => ?_) (fun hc => ?_)
                            · replace hj167 := it_u hc hj167
                              refine lv_iconst (v := 0) hx hb d_M_refer_564 (by decide) ?_
                              cases hj167
                              exact Khj167 _ _ _ I (lv_sub hl [2, 3, 4] rfl)
                            · replace hj167 := ie_u hc hj167
                              refine lv_iconst (v := 1) hx hb d_M_refer_560 (by decide) ?_
                              refine lv_goto (tgt := 565) hx hb d_M_refer_561 (by decide) ?_
                              cases hj167
                              exact Khj167 _ _ _ I (lv_sub hl [2, 3, 4] rfl)
                    · replace hj167 := it_u hc hj167
                      refine lv_iload hx hb d_M_refer_503 (lv_at hl 0 rfl) ?_
                      refine lv_if_eq (tgt := 516) hx hb d_M_refer_505 (by decide) (fun hc => ?_) (fun hc => ?_)
                      · replace hj167 := it_u hc hj167
                        refine lv_iconst (v := 0) hx hb d_M_refer_516 (by decide) ?_
                        refine lv_goto (tgt := 565) hx hb d_M_refer_517 (by decide) ?_
                        cases hj167
                        exact Khj167 _ _ _ I (lv_sub hl [2, 3, 4] rfl)
                      · replace hj167 := ie_u hc hj167
                        refine lv_iload_n hx hb d_M_refer_508 rfl (lv_at hl 1 rfl) ?_
                        refine lv_if_eq (tgt := 516) hx hb d_M_refer_509 (by decide) (fun hc => ?_) (fun hc => ?_)
                        · replace hj167 := it_u hc hj167
                          refine lv_iconst (v := 0) hx hb d_M_refer_516 (by decide) ?_
                          refine lv_goto (tgt := 565) hx hb d_M_refer_517 (by decide) ?_
                          cases hj167
                          exact Khj167 _ _ _ I (lv_sub hl [2, 3, 4] rfl)
                        · replace hj167 := ie_u hc hj167
                          refine lv_iconst (v := 1) hx hb d_M_refer_512 (by decide) ?_
                          refine lv_goto (tgt := 565) hx hb d_M_refer_513 (by decide) ?_
                          cases hj167
                          exact Khj167 _ _ _ I (lv_sub hl [2, 3, 4] rfl)
                  · replace hj167 := it_u hc hj167
                    refine lv_iload hx hb d_M_refer_475 (lv_at hl 0 rfl) ?_
                    refine lv_if_eq (tgt := 488) hx hb d_M_refer_477 (by decide) (fun hc => ?_) (fun hc => ?_)
                    · replace hj167 := it_u hc hj167
                      refine lv_iconst (v := 0) hx hb d_M_refer_488 (by decide) ?_
                      refine lv_goto (tgt := 565) hx hb d_M_refer_489 (by decide) ?_
                      cases hj167
                      exact Khj167 _ _ _ I (lv_sub hl [2, 3, 4] rfl)
                    · replace hj167 := ie_u hc hj167
                      refine lv_iload_n hx hb d_M_refer_480 rfl (lv_at hl 1 rfl) ?_
                      refine lv_if_ne (tgt := 488) hx hb d_M_refer_481 (by decide) (fun hc => ?_) (fun hc => ?_)
                      · replace hj167 := ie_u hc hj167
                        refine lv_iconst (v := 0) hx hb d_M_refer_488 (by decide) ?_
                        refine lv_goto (tgt := 565) hx hb d_M_refer_489 (by decide) ?_
                        cases hj167
                        exact Khj167 _ _ _ I (lv_sub hl [2, 3, 4] rfl)
                      · replace hj167 := it_u hc hj167
                        refine lv_iconst (v := 1) hx hb d_M_refer_484 (by decide) ?_
                        refine lv_goto (tgt := 565) hx hb d_M_refer_485 (by decide) ?_
                        cases hj167
                        exact Khj167 _ _ _ I (lv_sub hl [2, 3, 4] rfl)
                refine lv_icmp_ne (tgt := 451) hx hb d_M_refer_444 (by decide) (fun hc => ?_) (fun hc => ?_)
                · replace hj181 := ie_u hc hj181
                  refine lv_iconst (v := 0) hx hb d_M_refer_451 (by decide) ?_
                  cases hj181
                  exact Khj181 _ _ _ I (lv_sub hl [1, 2, 0] rfl)
                · replace hj181 := it_u hc hj181
                  refine lv_iconst (v := 1) hx hb d_M_refer_447 (by decide) ?_
                  refine lv_goto (tgt := 452) hx hb d_M_refer_448 (by decide) ?_
                  cases hj181
                  exact Khj181 _ _ _ I (lv_sub hl [1, 2, 0] rfl)
              · replace hk := it_u hc hk
                exact hQ _ _ _ _ _ I hk d_M_refer_431
          · replace hk := ie_u hc hk
            refine lv_goto (tgt := 579) hx hb d_M_refer_373 (by decide) ?_
            refine lv_iinc (v := (x1 + 1)) (lv' := [(1, .int (x1 + 1)), (0, .ref (a 0))]) hx hb d_M_refer_579 hl (k := 1) rfl rfl (by decide) rfl (fun ls hl => ?_)
            refine lv_goto (tgt := 336) hx hb d_M_refer_582 (by decide) ?_
            exact ih u128 (x1 + 1) _ _ _ hk I (lv_sub hl [1, 0] rfl)
set_option maxHeartbeats 4000000 in
set_option maxRecDepth 100000 in
theorem c_M_refer {Z : zT} {D : va_G} {cs : Nat → ClassId} {a : Nat → Nat} (hw : wD (mW a cs)) (hz : zOK Z) (l : Launch) {u : St} {u' : St} (hk : f_M_refer u = some u') : KV clA D cs (mW a cs) Z l y_M_refer (.code y_M_refer prog_9_method_36_code 6 (Option.none : Option Jvm.ClassFile.FieldType)) rm_M_refer [.ref (a 0)] u u' := by
  unfold f_M_refer at hk
  refine KV.of (by decide) (Nat.le_of_ble_eq_true rfl) hw hz ?_
  intro p e s m args below meth c Q C I hQ ls hl
  have hl : lv_has ls 6 [(0, .ref (a 0))] := hl
  have hx := C.1.1
  have hb := C.1.2.1
  refine lv_iconst (v := 1) hx hb d_M_refer_0 (by decide) ?_
  refine lv_istore_n (lv' := [(1, .int 1), (0, .ref (a 0))]) hx hb d_M_refer_1 rfl hl (by decide) rfl (fun ls hl => ?_)
  refine w_M_refer_L2 C (fun u127 H locs ls hk I hl => ?_) hQ FU u 1 _ _ _ hk I (lv_sub hl [1, 0] rfl)
  refine lv_iconst (v := 1) hx hb d_M_refer_334 (by decide) ?_
  refine lv_istore_n (lv' := [(1, .int 1), (0, .ref (a 0))]) hx hb d_M_refer_335 rfl hl (by decide) rfl (fun ls hl => ?_)
  refine w_M_refer_L336 C (fun u182 H locs ls hk I hl => ?_) hQ FU u127 1 _ _ _ hk I (lv_sub hl [1, 0] rfl)
  exact hQ _ _ _ _ _ I hk d_M_refer_585
def rm_M_go : Room := { frames := 12, cells := 0, slots := 0, locals := 307 }
noncomputable def f_M_go_L22 : Nat → St → Int32 → Option (St)
  | 0, _, _ => none
  | n + 1, u, x2 => if 300 ≤ x2 then (some (u)) else (gd x2 300 (bnd (sa u 1 x2.toNatClampNeg 0) fun u5 => f_M_go_L22 n u5 (x2 + 1)))
noncomputable def f_M_go (u : St) (x1 : Int32) : Option (St) := bnd (sv u 1 x1) fun u1 => bnd (sv u1 2 0) fun u2 => bnd (sv u2 3 0) fun u3 => bnd (sv u3 4 0) fun u4 => cT (f_M_go_L22 FU u4 0) fun (u6 : St) => bnd (sv u6 10 0) fun u7 => bnd (sv u7 11 0) fun u8 => bnd (sv u8 9 0) fun u9 => bnd (sv u9 12 0) fun u10 => bnd (sv u10 13 0) fun u11 => bnd (sv u11 14 0) fun u12 => bnd (sv u12 15 0) fun u13 => cJ (f_M_u4 u13) fun r16 u14 => bnd (if (lg_cmp r16 3405691582) = 0 then (1) else (0)) fun (z17 : Int32) => cI (f_M_must u14 z17 2 0) fun r20 u18 => cI (f_M_u2 u18) fun r23 u21 => bnd (if r23 = 0 then (1) else (0)) fun (z24 : Int32) => cI (f_M_must u21 z24 3 4) fun r27 u25 => cI (f_M_u2 u25) fun r30 u28 => bnd (sv u28 5 r30) fun u31 => bnd (if (u31.1 5) < 45 then (0) else (if 61 < (u31.1 5) then (0) else (1))) fun (z32 : Int32) => cI (f_M_must u31 z32 3 6) fun r35 u33 => cI (f_M_ok u33) fun r38 u36 => cT (if r38 = 0 then (some (u36)) else (cV (f_M_pool u36) fun u81 => some (u81))) fun (u39 : St) => cI (f_M_ok u39) fun r42 u40 => cT (if r42 = 0 then (some (u40)) else (cV (f_M_refer u40) fun u78 => some (u78))) fun (u43 : St) => cI (f_M_ok u43) fun r46 u44 => cT (if r46 = 0 then (some (u44)) else (cV (f_M_head u44) fun u75 => some (u75))) fun (u47 : St) => cI (f_M_ok u47) fun r50 u48 => cT (if r50 = 0 then (some (u48)) else (cV (f_M_fields u48) fun u72 => some (u72))) fun (u51 : St) => cI (f_M_ok u51) fun r54 u52 => cT (if r54 = 0 then (some (u52)) else (cV (f_M_methods u52) fun u69 => some (u69))) fun (u55 : St) => cI (f_M_ok u55) fun r58 u56 => cT (if r58 = 0 then (some (u56)) else (cV (f_M_attributes u56 3 0 0 0) fun u66 => some (u66))) fun (u59 : St) => bnd (if (u59.1 2) = (u59.1 1) then (1) else (0)) fun (z60 : Int32) => cI (f_M_must u59 z60 29 (u59.1 2)) fun r63 u61 => some u61
set_option maxHeartbeats 4000000 in
set_option maxRecDepth 100000 in
theorem w_M_go_L22 {Z : zT} {D : va_G} {cs : Nat → ClassId} {a : Nat → Nat} {p : Program} {l : Launch} {e : Env} {s : State} {m : MethodId} {args : Array Value} {below : List Frame} {meth : Method} {c : Code} {Q : State → Prop}  {u2 : St} (C : Cx clA R_M prog_9_method_33_code 3 D cs (mW a cs) Z p s m args c) (hE : ∀ (H : Heap) (locs : List Loc) (ls : Array Slot), Dy clA D (mW a cs) s H locs u2 → lv_has ls 3 [(0, .ref (a 0))] → W p l e rm_M_go s m args below meth c H locs 0 0 Q (F0 m 42 ls [])) : ∀ (n : Nat) (u : St) (x2 : Int32) (H : Heap) (locs : List Loc) (ls : Array Slot), f_M_go_L22 n u x2 = some u2 → Dy clA D (mW a cs) s H locs u → lv_has ls 3 [(0, .ref (a 0)), (2, .int x2)] → W p l e rm_M_go s m args below meth c H locs 0 0 Q (F0 m 22 ls []) := by
  have hx := C.1.1
  have hb := C.1.2.1
  intro n
  induction n with
  | zero =>
    intro u x2 H locs ls hk I hl
    rw [f_M_go_L22] at hk
    cases hk
  | succ n ih =>
    intro u x2 H locs ls hk I hl
    rw [f_M_go_L22] at hk
    refine lv_iload_n hx hb d_M_go_22 rfl (lv_at hl 1 rfl) ?_
    refine lv_sipush (v := 300) hx hb d_M_go_23 (by decide) ?_
    refine lv_icmp_ge (tgt := 42) hx hb d_M_go_26 (by decide) (fun hc => ?_) (fun hc => ?_)
    · replace hk := it_u hc hk
      cases hk
      exact hE _ _ _ I (lv_sub hl [0] rfl)
    · replace hk := ie_u hc hk
      refine lv_aload_n hx hb d_M_go_29 rfl (lv_at hl 0 rfl) ?_
      refine g_M_kinds C I k_702 d_M_go_30 ?_
      refine lv_iload_n hx hb d_M_go_33 rfl (lv_at hl 1 rfl) ?_
      refine lv_iconst (v := 0) hx hb d_M_go_34 (by decide) ?_
      obtain ⟨hi, hk⟩ := gd_u hk
      refine s_M_kinds C I hi d_M_go_35 (fun H locs I => ?_)
      obtain ⟨u5, hu, hk⟩ := bnd_u hk
      rw [hu] at I
      clear hu
      refine lv_iinc (v := (x2 + 1)) (lv' := [(2, .int (x2 + 1)), (0, .ref (a 0))]) hx hb d_M_go_36 hl (k := 1) rfl rfl (by decide) rfl (fun ls hl => ?_)
      refine lv_goto (tgt := 22) hx hb d_M_go_39 (by decide) ?_
      exact ih u5 (x2 + 1) _ _ _ hk I (lv_sub hl [1, 0] rfl)
set_option maxHeartbeats 4000000 in
set_option maxRecDepth 100000 in
theorem c_M_go {Z : zT} {D : va_G} {cs : Nat → ClassId} {a : Nat → Nat} (hw : wD (mW a cs)) (hz : zOK Z) (l : Launch) {u : St} {x1 : Int32} {u' : St} (hk : f_M_go u x1 = some u') : KV clA D cs (mW a cs) Z l y_M_go (.code y_M_go prog_9_method_33_code 3 (Option.none : Option Jvm.ClassFile.FieldType)) rm_M_go [.ref (a 0), .int x1] u u' := by
  unfold f_M_go at hk
  refine KV.of (by decide) (Nat.le_of_ble_eq_true rfl) hw hz ?_
  intro p e s m args below meth c Q C I hQ ls hl
  have hl : lv_has ls 3 [(0, .ref (a 0)), (1, .int x1)] := hl
  have hx := C.1.1
  have hb := C.1.2.1
  refine lv_aload_n hx hb d_M_go_0 rfl (lv_at hl 0 rfl) ?_
  refine lv_iload_n hx hb d_M_go_1 rfl (lv_at hl 1 rfl) ?_
  refine p_M_limit C I k_696 d_M_go_2 (fun H locs I => ?_)
  obtain ⟨u1, hu, hk⟩ := bnd_u hk
  rw [hu] at I
  clear hu
  refine lv_aload_n hx hb d_M_go_5 rfl (lv_at hl 0 rfl) ?_
  refine lv_iconst (v := 0) hx hb d_M_go_6 (by decide) ?_
  refine p_M_at C I k_697 d_M_go_7 (fun H locs I => ?_)
  obtain ⟨u2, hu, hk⟩ := bnd_u hk
  rw [hu] at I
  clear hu
  refine lv_aload_n hx hb d_M_go_10 rfl (lv_at hl 0 rfl) ?_
  refine lv_iconst (v := 0) hx hb d_M_go_11 (by decide) ?_
  refine p_M_broken C I k_698 d_M_go_12 (fun H locs I => ?_)
  obtain ⟨u3, hu, hk⟩ := bnd_u hk
  rw [hu] at I
  clear hu
  refine lv_aload_n hx hb d_M_go_15 rfl (lv_at hl 0 rfl) ?_
  refine lv_iconst (v := 0) hx hb d_M_go_16 (by decide) ?_
  refine p_M_place C I k_699 d_M_go_17 (fun H locs I => ?_)
  obtain ⟨u4, hu, hk⟩ := bnd_u hk
  rw [hu] at I
  clear hu
  refine lv_iconst (v := 0) hx hb d_M_go_20 (by decide) ?_
  refine lv_istore_n (lv' := [(2, .int 0), (0, .ref (a 0)), (1, .int x1)]) hx hb d_M_go_21 rfl hl (by decide) rfl (fun ls hl => ?_)
  obtain ⟨u6, hj86, hk⟩ := cT_u hk
  refine w_M_go_L22 C (fun H locs ls I hl => ?_) FU u4 0 _ _ _ hj86 I (lv_sub hl [1, 0] rfl)
  refine lv_aload_n hx hb d_M_go_42 rfl (lv_at hl 0 rfl) ?_
  refine lv_iconst (v := 0) hx hb d_M_go_43 (by decide) ?_
  refine p_M_fields C I k_707 d_M_go_44 (fun H locs I => ?_)
  obtain ⟨u7, hu, hk⟩ := bnd_u hk
  rw [hu] at I
  clear hu
  refine lv_aload_n hx hb d_M_go_47 rfl (lv_at hl 0 rfl) ?_
  refine lv_iconst (v := 0) hx hb d_M_go_48 (by decide) ?_
  refine p_M_methods C I k_708 d_M_go_49 (fun H locs I => ?_)
  obtain ⟨u8, hu, hk⟩ := bnd_u hk
  rw [hu] at I
  clear hu
  refine lv_aload_n hx hb d_M_go_52 rfl (lv_at hl 0 rfl) ?_
  refine lv_iconst (v := 0) hx hb d_M_go_53 (by decide) ?_
  refine p_M_interfaces C I k_706 d_M_go_54 (fun H locs I => ?_)
  obtain ⟨u9, hu, hk⟩ := bnd_u hk
  rw [hu] at I
  clear hu
  refine lv_aload_n hx hb d_M_go_57 rfl (lv_at hl 0 rfl) ?_
  refine lv_iconst (v := 0) hx hb d_M_go_58 (by decide) ?_
  refine p_M_instructions C I k_709 d_M_go_59 (fun H locs I => ?_)
  obtain ⟨u10, hu, hk⟩ := bnd_u hk
  rw [hu] at I
  clear hu
  refine lv_aload_n hx hb d_M_go_62 rfl (lv_at hl 0 rfl) ?_
  refine lv_iconst (v := 0) hx hb d_M_go_63 (by decide) ?_
  refine p_M_bytes C I k_710 d_M_go_64 (fun H locs I => ?_)
  obtain ⟨u11, hu, hk⟩ := bnd_u hk
  rw [hu] at I
  clear hu
  refine lv_aload_n hx hb d_M_go_67 rfl (lv_at hl 0 rfl) ?_
  refine lv_iconst (v := 0) hx hb d_M_go_68 (by decide) ?_
  refine p_M_jumps C I k_711 d_M_go_69 (fun H locs I => ?_)
  obtain ⟨u12, hu, hk⟩ := bnd_u hk
  rw [hu] at I
  clear hu
  refine lv_aload_n hx hb d_M_go_72 rfl (lv_at hl 0 rfl) ?_
  refine lv_iconst (v := 0) hx hb d_M_go_73 (by decide) ?_
  refine p_M_rows C I k_712 d_M_go_74 (fun H locs I => ?_)
  obtain ⟨u13, hu, hk⟩ := bnd_u hk
  rw [hu] at I
  clear hu
  refine lv_aload_n hx hb d_M_go_77 rfl (lv_at hl 0 rfl) ?_
  refine lv_aload_n hx hb d_M_go_78 rfl (lv_at hl 0 rfl) ?_
  obtain ⟨r16, u14, h15, hk⟩ := cJ_u hk
  refine go_J I (call_runV (rest := [.ref (a 0)]) C I (c_M_u4 C.2.2.2.1 C.2.2.2.2.1 l h15 _) wd_M_u4 (q0 := 0) (ci := 7) rfl rfl k_822 ⟨rfl, rfl⟩ ⟨by decide, by decide⟩ rfl hl.1 rfl (Nat.le_of_ble_eq_true rfl) d_M_go_79) (fun H locs I => ?_)
  refine lv_ldc2 hx hb C.1.2.2.2 (C.2.1 _ k_842) d_M_go_82 ?_
  refine W.lcmp hx hb d_M_go_85 ?_
  obtain ⟨z17, hj85, hk⟩ := bnd_u hk
  have Khj85 : ∀ (H : Heap) (locs : List Loc) (ls : Array Slot), Dy clA D (mW a cs) s H locs u14 → lv_has ls 3 [(0, .ref (a 0))] → W p l e rm_M_go s m args below meth c H locs 0 0 Q (F0 m 94 ls [.int z17, .ref (a 0)]) := by
    intro H locs ls I hl
    refine lv_iconst (v := 2) hx hb d_M_go_94 (by decide) ?_
    refine lv_iconst (v := 0) hx hb d_M_go_95 (by decide) ?_
    obtain ⟨r20, u18, h19, hk⟩ := cI_u hk
    refine go_I I (call_runV (rest := []) C I (c_M_must C.2.2.2.1 C.2.2.2.2.1 l h19 _) wd_M_must (q0 := 0) (ci := 7) rfl rfl k_843 ⟨rfl, rfl⟩ ⟨by decide, by decide⟩ rfl hl.1 rfl (Nat.le_of_ble_eq_true rfl) d_M_go_96) (fun H locs I => ?_)
    refine lv_pop hx hb d_M_go_99 rfl ?_
    refine lv_aload_n hx hb d_M_go_100 rfl (lv_at hl 0 rfl) ?_
    refine lv_aload_n hx hb d_M_go_101 rfl (lv_at hl 0 rfl) ?_
    obtain ⟨r23, u21, h22, hk⟩ := cI_u hk
    refine go_I I (call_runV (rest := [.ref (a 0)]) C I (c_M_u2 C.2.2.2.1 C.2.2.2.2.1 l h22 _) wd_M_u2 (q0 := 0) (ci := 7) rfl rfl k_826 ⟨rfl, rfl⟩ ⟨by decide, by decide⟩ rfl hl.1 rfl (Nat.le_of_ble_eq_true rfl) d_M_go_102) (fun H locs I => ?_)
    obtain ⟨z24, hj84, hk⟩ := bnd_u hk
    have Khj84 : ∀ (H : Heap) (locs : List Loc) (ls : Array Slot), Dy clA D (mW a cs) s H locs u21 → lv_has ls 3 [(0, .ref (a 0))] → W p l e rm_M_go s m args below meth c H locs 0 0 Q (F0 m 113 ls [.int z24, .ref (a 0)]) := by
      intro H locs ls I hl
      refine lv_iconst (v := 3) hx hb d_M_go_113 (by decide) ?_
      refine lv_iconst (v := 4) hx hb d_M_go_114 (by decide) ?_
      obtain ⟨r27, u25, h26, hk⟩ := cI_u hk
      refine go_I I (call_runV (rest := []) C I (c_M_must C.2.2.2.1 C.2.2.2.2.1 l h26 _) wd_M_must (q0 := 0) (ci := 7) rfl rfl k_843 ⟨rfl, rfl⟩ ⟨by decide, by decide⟩ rfl hl.1 rfl (Nat.le_of_ble_eq_true rfl) d_M_go_115) (fun H locs I => ?_)
      refine lv_pop hx hb d_M_go_118 rfl ?_
      refine lv_aload_n hx hb d_M_go_119 rfl (lv_at hl 0 rfl) ?_
      refine lv_aload_n hx hb d_M_go_120 rfl (lv_at hl 0 rfl) ?_
      obtain ⟨r30, u28, h29, hk⟩ := cI_u hk
      refine go_I I (call_runV (rest := [.ref (a 0)]) C I (c_M_u2 C.2.2.2.1 C.2.2.2.2.1 l h29 _) wd_M_u2 (q0 := 0) (ci := 7) rfl rfl k_826 ⟨rfl, rfl⟩ ⟨by decide, by decide⟩ rfl hl.1 rfl (Nat.le_of_ble_eq_true rfl) d_M_go_121) (fun H locs I => ?_)
      refine p_M_version C I k_700 d_M_go_124 (fun H locs I => ?_)
      obtain ⟨u31, hu, hk⟩ := bnd_u hk
      rw [hu] at I
      clear hu
      refine lv_aload_n hx hb d_M_go_127 rfl (lv_at hl 0 rfl) ?_
      refine lv_aload_n hx hb d_M_go_128 rfl (lv_at hl 0 rfl) ?_
      refine g_M_version C I k_700 d_M_go_129 ?_
      refine lv_bipush (v := 45) hx hb d_M_go_132 (by decide) ?_
      obtain ⟨z32, hj83, hk⟩ := bnd_u hk
      have Khj83 : ∀ (H : Heap) (locs : List Loc) (ls : Array Slot), Dy clA D (mW a cs) s H locs u31 → lv_has ls 3 [(0, .ref (a 0))] → W p l e rm_M_go s m args below meth c H locs 0 0 Q (F0 m 151 ls [.int z32, .ref (a 0)]) := by
        intro H locs ls I hl
        refine lv_iconst (v := 3) hx hb d_M_go_151 (by decide) ?_
        refine lv_bipush (v := 6) hx hb d_M_go_152 (by decide) ?_
        obtain ⟨r35, u33, h34, hk⟩ := cI_u hk
        refine go_I I (call_runV (rest := []) C I (c_M_must C.2.2.2.1 C.2.2.2.2.1 l h34 _) wd_M_must (q0 := 0) (ci := 7) rfl rfl k_843 ⟨rfl, rfl⟩ ⟨by decide, by decide⟩ rfl hl.1 rfl (Nat.le_of_ble_eq_true rfl) d_M_go_154) (fun H locs I => ?_)
        refine lv_pop hx hb d_M_go_157 rfl ?_
        refine lv_aload_n hx hb d_M_go_158 rfl (lv_at hl 0 rfl) ?_
        obtain ⟨r38, u36, h37, hk⟩ := cI_u hk
        refine go_I I (call_runV (rest := []) C I (c_M_ok C.2.2.2.1 C.2.2.2.2.1 l h37 _) wd_M_ok (q0 := 0) (ci := 7) rfl rfl k_834 ⟨rfl, rfl⟩ ⟨by decide, by decide⟩ rfl hl.1 rfl (Nat.le_of_ble_eq_true rfl) d_M_go_159) (fun H locs I => ?_)
        obtain ⟨u39, hj80, hk⟩ := cT_u hk
        have Khj80 : ∀ (H : Heap) (locs : List Loc) (ls : Array Slot), Dy clA D (mW a cs) s H locs u39 → lv_has ls 3 [(0, .ref (a 0))] → W p l e rm_M_go s m args below meth c H locs 0 0 Q (F0 m 169 ls []) := by
          intro H locs ls I hl
          refine lv_aload_n hx hb d_M_go_169 rfl (lv_at hl 0 rfl) ?_
          obtain ⟨r42, u40, h41, hk⟩ := cI_u hk
          refine go_I I (call_runV (rest := []) C I (c_M_ok C.2.2.2.1 C.2.2.2.2.1 l h41 _) wd_M_ok (q0 := 0) (ci := 7) rfl rfl k_834 ⟨rfl, rfl⟩ ⟨by decide, by decide⟩ rfl hl.1 rfl (Nat.le_of_ble_eq_true rfl) d_M_go_170) (fun H locs I => ?_)
          obtain ⟨u43, hj77, hk⟩ := cT_u hk
          have Khj77 : ∀ (H : Heap) (locs : List Loc) (ls : Array Slot), Dy clA D (mW a cs) s H locs u43 → lv_has ls 3 [(0, .ref (a 0))] → W p l e rm_M_go s m args below meth c H locs 0 0 Q (F0 m 180 ls []) := by
            intro H locs ls I hl
            refine lv_aload_n hx hb d_M_go_180 rfl (lv_at hl 0 rfl) ?_
            obtain ⟨r46, u44, h45, hk⟩ := cI_u hk
            refine go_I I (call_runV (rest := []) C I (c_M_ok C.2.2.2.1 C.2.2.2.2.1 l h45 _) wd_M_ok (q0 := 0) (ci := 7) rfl rfl k_834 ⟨rfl, rfl⟩ ⟨by decide, by decide⟩ rfl hl.1 rfl (Nat.le_of_ble_eq_true rfl) d_M_go_181) (fun H locs I => ?_)
            obtain ⟨u47, hj74, hk⟩ := cT_u hk
            have Khj74 : ∀ (H : Heap) (locs : List Loc) (ls : Array Slot), Dy clA D (mW a cs) s H locs u47 → lv_has ls 3 [(0, .ref (a 0))] → W p l e rm_M_go s m args below meth c H locs 0 0 Q (F0 m 191 ls []) := by
              intro H locs ls I hl
              refine lv_aload_n hx hb d_M_go_191 rfl (lv_at hl 0 rfl) ?_
              obtain ⟨r50, u48, h49, hk⟩ := cI_u hk
              refine go_I I (call_runV (rest := []) C I (c_M_ok C.2.2.2.1 C.2.2.2.2.1 l h49 _) wd_M_ok (q0 := 0) (ci := 7) rfl rfl k_834 ⟨rfl, rfl⟩ ⟨by decide, by decide⟩ rfl hl.1 rfl (Nat.le_of_ble_eq_true rfl) d_M_go_192) (fun H locs I => ?_)
              obtain ⟨u51, hj71, hk⟩ := cT_u hk
              have Khj71 : ∀ (H : Heap) (locs : List Loc) (ls : Array Slot), Dy clA D (mW a cs) s H locs u51 → lv_has ls 3 [(0, .ref (a 0))] → W p l e rm_M_go s m args below meth c H locs 0 0 Q (F0 m 202 ls []) := by
                intro H locs ls I hl
                refine lv_aload_n hx hb d_M_go_202 rfl (lv_at hl 0 rfl) ?_
                obtain ⟨r54, u52, h53, hk⟩ := cI_u hk
                refine go_I I (call_runV (rest := []) C I (c_M_ok C.2.2.2.1 C.2.2.2.2.1 l h53 _) wd_M_ok (q0 := 0) (ci := 7) rfl rfl k_834 ⟨rfl, rfl⟩ ⟨by decide, by decide⟩ rfl hl.1 rfl (Nat.le_of_ble_eq_true rfl) d_M_go_203) (fun H locs I => ?_)
                obtain ⟨u55, hj68, hk⟩ := cT_u hk
                have Khj68 : ∀ (H : Heap) (locs : List Loc) (ls : Array Slot), Dy clA D (mW a cs) s H locs u55 → lv_has ls 3 [(0, .ref (a 0))] → W p l e rm_M_go s m args below meth c H locs 0 0 Q (F0 m 213 ls []) := by
                  intro H locs ls I hl
                  refine lv_aload_n hx hb d_M_go_213 rfl (lv_at hl 0 rfl) ?_
                  obtain ⟨r58, u56, h57, hk⟩ := cI_u hk
                  refine go_I I (call_runV (rest := []) C I (c_M_ok C.2.2.2.1 C.2.2.2.2.1 l h57 _) wd_M_ok (q0 := 0) (ci := 7) rfl rfl k_834 ⟨rfl, rfl⟩ ⟨by decide, by decide⟩ rfl hl.1 rfl (Nat.le_of_ble_eq_true rfl) d_M_go_214) (fun H locs I => ?_)
                  obtain ⟨u59, hj65, hk⟩ := cT_u hk
                  have Khj65 : ∀ (H : Heap) (locs : List Loc) (ls : Array Slot), Dy clA D (mW a cs) s H locs u59 → lv_has ls 3 [(0, .ref (a 0))] → W p l e rm_M_go s m args below meth c H locs 0 0 Q (F0 m 228 ls []) := by
                    intro H locs ls I hl
                    refine lv_aload_n hx hb d_M_go_228 rfl (lv_at hl 0 rfl) ?_
                    refine lv_aload_n hx hb d_M_go_229 rfl (lv_at hl 0 rfl) ?_
                    refine g_M_at C I k_697 d_M_go_230 ?_
                    refine lv_aload_n hx hb d_M_go_233 rfl (lv_at hl 0 rfl) ?_
                    refine g_M_limit C I k_696 d_M_go_234 ?_
                    obtain ⟨z60, hj64, hk⟩ := bnd_u hk
                    have Khj64 : ∀ (H : Heap) (locs : List Loc) (ls : Array Slot), Dy clA D (mW a cs) s H locs u59 → lv_has ls 3 [(0, .ref (a 0))] → W p l e rm_M_go s m args below meth c H locs 0 0 Q (F0 m 245 ls [.int z60, .ref (a 0)]) := by
                      intro H locs ls I hl
                      refine lv_bipush (v := 29) hx hb d_M_go_245 (by decide) ?_
                      refine lv_aload_n hx hb d_M_go_247 rfl (lv_at hl 0 rfl) ?_
                      refine g_M_at C I k_697 d_M_go_248 ?_
                      obtain ⟨r63, u61, h62, hk⟩ := cI_u hk
                      refine go_I I (call_runV (rest := []) C I (c_M_must C.2.2.2.1 C.2.2.2.2.1 l h62 _) wd_M_must (q0 := 0) (ci := 7) rfl rfl k_843 ⟨rfl, rfl⟩ ⟨by decide, by decide⟩ rfl hl.1 rfl (Nat.le_of_ble_eq_true rfl) d_M_go_251) (fun H locs I => ?_)
                      refine lv_pop hx hb d_M_go_254 rfl ?_
                      exact hQ _ _ _ _ _ I hk d_M_go_255
                    refine lv_icmp_ne (tgt := 244) hx hb d_M_go_237 (by decide) (fun hc => ?_) (fun hc => ?_)
                    · replace hj64 := ie_u hc hj64
                      refine lv_iconst (v := 0) hx hb d_M_go_244 (by decide) ?_
                      cases hj64
                      exact Khj64 _ _ _ I (lv_sub hl [0] rfl)
                    · replace hj64 := it_u hc hj64
                      refine lv_iconst (v := 1) hx hb d_M_go_240 (by decide) ?_
                      refine lv_goto (tgt := 245) hx hb d_M_go_241 (by decide) ?_
                      cases hj64
                      exact Khj64 _ _ _ I (lv_sub hl [0] rfl)
                  refine lv_if_eq (tgt := 228) hx hb d_M_go_217 (by decide) (fun hc => ?_) (fun hc => ?_)
                  · replace hj65 := it_u hc hj65
                    cases hj65
                    exact Khj65 _ _ _ I (lv_sub hl [0] rfl)
                  · replace hj65 := ie_u hc hj65
                    refine lv_aload_n hx hb d_M_go_220 rfl (lv_at hl 0 rfl) ?_
                    refine lv_iconst (v := 3) hx hb d_M_go_221 (by decide) ?_
                    refine lv_iconst (v := 0) hx hb d_M_go_222 (by decide) ?_
                    refine lv_iconst (v := 0) hx hb d_M_go_223 (by decide) ?_
                    refine lv_iconst (v := 0) hx hb d_M_go_224 (by decide) ?_
                    obtain ⟨u66, h67, hj65⟩ := cV_u hj65
                    refine go_V I (call_runV (rest := []) C I (c_M_attributes C.2.2.2.1 C.2.2.2.2.1 l h67 _) wd_M_attributes (q0 := 0) (ci := 7) rfl rfl k_954 ⟨rfl, rfl⟩ ⟨by decide, by decide⟩ rfl hl.1 rfl (Nat.le_of_ble_eq_true rfl) d_M_go_225) (fun H locs I => ?_)
                    cases hj65
                    exact Khj65 _ _ _ I (lv_sub hl [0] rfl)
                refine lv_if_eq (tgt := 213) hx hb d_M_go_206 (by decide) (fun hc => ?_) (fun hc => ?_)
                · replace hj68 := it_u hc hj68
                  cases hj68
                  exact Khj68 _ _ _ I (lv_sub hl [0] rfl)
                · replace hj68 := ie_u hc hj68
                  refine lv_aload_n hx hb d_M_go_209 rfl (lv_at hl 0 rfl) ?_
                  obtain ⟨u69, h70, hj68⟩ := cV_u hj68
                  refine go_V I (call_runV (rest := []) C I (c_M_methods C.2.2.2.1 C.2.2.2.2.1 l h70 _) wd_M_methods (q0 := 0) (ci := 7) rfl rfl k_1040 ⟨rfl, rfl⟩ ⟨by decide, by decide⟩ rfl hl.1 rfl (Nat.le_of_ble_eq_true rfl) d_M_go_210) (fun H locs I => ?_)
                  cases hj68
                  exact Khj68 _ _ _ I (lv_sub hl [0] rfl)
              refine lv_if_eq (tgt := 202) hx hb d_M_go_195 (by decide) (fun hc => ?_) (fun hc => ?_)
              · replace hj71 := it_u hc hj71
                cases hj71
                exact Khj71 _ _ _ I (lv_sub hl [0] rfl)
              · replace hj71 := ie_u hc hj71
                refine lv_aload_n hx hb d_M_go_198 rfl (lv_at hl 0 rfl) ?_
                obtain ⟨u72, h73, hj71⟩ := cV_u hj71
                refine go_V I (call_runV (rest := []) C I (c_M_fields C.2.2.2.1 C.2.2.2.2.1 l h73 _) wd_M_fields (q0 := 0) (ci := 7) rfl rfl k_947 ⟨rfl, rfl⟩ ⟨by decide, by decide⟩ rfl hl.1 rfl (Nat.le_of_ble_eq_true rfl) d_M_go_199) (fun H locs I => ?_)
                cases hj71
                exact Khj71 _ _ _ I (lv_sub hl [0] rfl)
            refine lv_if_eq (tgt := 191) hx hb d_M_go_184 (by decide) (fun hc => ?_) (fun hc => ?_)
            · replace hj74 := it_u hc hj74
              cases hj74
              exact Khj74 _ _ _ I (lv_sub hl [0] rfl)
            · replace hj74 := ie_u hc hj74
              refine lv_aload_n hx hb d_M_go_187 rfl (lv_at hl 0 rfl) ?_
              obtain ⟨u75, h76, hj74⟩ := cV_u hj74
              refine go_V I (call_runV (rest := []) C I (c_M_head C.2.2.2.1 C.2.2.2.2.1 l h76 _) wd_M_head (q0 := 0) (ci := 7) rfl rfl k_925 ⟨rfl, rfl⟩ ⟨by decide, by decide⟩ rfl hl.1 rfl (Nat.le_of_ble_eq_true rfl) d_M_go_188) (fun H locs I => ?_)
              cases hj74
              exact Khj74 _ _ _ I (lv_sub hl [0] rfl)
          refine lv_if_eq (tgt := 180) hx hb d_M_go_173 (by decide) (fun hc => ?_) (fun hc => ?_)
          · replace hj77 := it_u hc hj77
            cases hj77
            exact Khj77 _ _ _ I (lv_sub hl [0] rfl)
          · replace hj77 := ie_u hc hj77
            refine lv_aload_n hx hb d_M_go_176 rfl (lv_at hl 0 rfl) ?_
            obtain ⟨u78, h79, hj77⟩ := cV_u hj77
            refine go_V I (call_runV (rest := []) C I (c_M_refer C.2.2.2.1 C.2.2.2.2.1 l h79 _) wd_M_refer (q0 := 0) (ci := 7) rfl rfl k_855 ⟨rfl, rfl⟩ ⟨by decide, by decide⟩ rfl hl.1 rfl (Nat.le_of_ble_eq_true rfl) d_M_go_177) (fun H locs I => ?_)
            cases hj77
            exact Khj77 _ _ _ I (lv_sub hl [0] rfl)
        refine lv_if_eq (tgt := 169) hx hb d_M_go_162 (by decide) (fun hc => ?_) (fun hc => ?_)
        · replace hj80 := it_u hc hj80
          cases hj80
          exact Khj80 _ _ _ I (lv_sub hl [0] rfl)
        · replace hj80 := ie_u hc hj80
          refine lv_aload_n hx hb d_M_go_165 rfl (lv_at hl 0 rfl) ?_
          obtain ⟨u81, h82, hj80⟩ := cV_u hj80
          refine go_V I (call_runV (rest := []) C I (c_M_pool C.2.2.2.1 C.2.2.2.2.1 l h82 _) wd_M_pool (q0 := 0) (ci := 7) rfl rfl k_847 ⟨rfl, rfl⟩ ⟨by decide, by decide⟩ rfl hl.1 rfl (Nat.le_of_ble_eq_true rfl) d_M_go_166) (fun H locs I => ?_)
          cases hj80
          exact Khj80 _ _ _ I (lv_sub hl [0] rfl)
      refine lv_icmp_lt (tgt := 150) hx hb d_M_go_134 (by decide) (fun hc => ?_) (fun hc => ?_)
      · replace hj83 := it_u hc hj83
        refine lv_iconst (v := 0) hx hb d_M_go_150 (by decide) ?_
        cases hj83
        exact Khj83 _ _ _ I (lv_sub hl [0] rfl)
      · replace hj83 := ie_u hc hj83
        refine lv_aload_n hx hb d_M_go_137 rfl (lv_at hl 0 rfl) ?_
        refine g_M_version C I k_700 d_M_go_138 ?_
        refine lv_bipush (v := 61) hx hb d_M_go_141 (by decide) ?_
        refine lv_icmp_gt (tgt := 150) hx hb d_M_go_143 (by decide) (fun hc => ?_) (fun hc => ?_)
        · replace hj83 := it_u hc hj83
          refine lv_iconst (v := 0) hx hb d_M_go_150 (by decide) ?_
          cases hj83
          exact Khj83 _ _ _ I (lv_sub hl [0] rfl)
        · replace hj83 := ie_u hc hj83
          refine lv_iconst (v := 1) hx hb d_M_go_146 (by decide) ?_
          refine lv_goto (tgt := 151) hx hb d_M_go_147 (by decide) ?_
          cases hj83
          exact Khj83 _ _ _ I (lv_sub hl [0] rfl)
    refine lv_if_ne (tgt := 112) hx hb d_M_go_105 (by decide) (fun hc => ?_) (fun hc => ?_)
    · replace hj84 := ie_u hc hj84
      refine lv_iconst (v := 0) hx hb d_M_go_112 (by decide) ?_
      cases hj84
      exact Khj84 _ _ _ I (lv_sub hl [0] rfl)
    · replace hj84 := it_u hc hj84
      refine lv_iconst (v := 1) hx hb d_M_go_108 (by decide) ?_
      refine lv_goto (tgt := 113) hx hb d_M_go_109 (by decide) ?_
      cases hj84
      exact Khj84 _ _ _ I (lv_sub hl [0] rfl)
  refine lv_if_ne (tgt := 93) hx hb d_M_go_86 (by decide) (fun hc => ?_) (fun hc => ?_)
  · replace hj85 := ie_u hc hj85
    refine lv_iconst (v := 0) hx hb d_M_go_93 (by decide) ?_
    cases hj85
    exact Khj85 _ _ _ I (lv_sub hl [0] rfl)
  · replace hj85 := it_u hc hj85
    refine lv_iconst (v := 1) hx hb d_M_go_89 (by decide) ?_
    refine lv_goto (tgt := 94) hx hb d_M_go_90 (by decide) ?_
    cases hj85
    exact Khj85 _ _ _ I (lv_sub hl [0] rfl)
def rm_M_judge : Room := { frames := 13, cells := 0, slots := 0, locals := 329 }
noncomputable def f_M_judge_L149 (x1 : Int32) : Nat → St → Int32 → Option (St)
  | 0, _, _ => none
  | n + 1, u, x2 => if 6 ≤ x2 then (some (u)) else (gd ((6 * x1) + x2) 360 (gd ((6 * x1) + x2) 360 (bnd (sa u 9 ((6 * x1) + x2).toNatClampNeg (u.2 3 ((6 * x1) + x2).toNatClampNeg)) fun u15 => f_M_judge_L149 x1 n u15 (x2 + 1))))
noncomputable def f_M_judge_L141 : Nat → St → Int32 → Option (St)
  | 0, _, _ => none
  | n + 1, u, x1 => if 60 ≤ x1 then (some (u)) else (cT (f_M_judge_L149 x1 FU u 0) fun (u16 : St) => f_M_judge_L141 n u16 (x1 + 1))
noncomputable def f_M_judge_L191 : Nat → St → Int32 → Option (St)
  | 0, _, _ => none
  | n + 1, u, x1 => if 300 ≤ x1 then (some (u)) else (gd x1 300 (gd x1 300 (bnd (sa u 10 x1.toNatClampNeg (u.2 1 x1.toNatClampNeg)) fun u19 => f_M_judge_L191 n u19 (x1 + 1))))
noncomputable def f_M_judge (u : St) : Option (Int32 × St) := cV (f_M_go u (u.1 0)) fun u1 => bnd (sv u1 16 (u1.1 3)) fun u3 => bnd (if (u3.1 3) = 0 then (1) else (0)) fun (z4 : Int32) => gb z4 (bnd (sv u3 17 z4) fun u5 => if (u5.1 17) = 0 then (some ((1 + (u5.1 4)), u5)) else (gd 0 9 (bnd (sa u5 8 (0 : Int32).toNatClampNeg (u5.1 6)) fun u6 => gd 1 9 (bnd (sa u6 8 (1 : Int32).toNatClampNeg (u6.1 9)) fun u7 => gd 2 9 (bnd (sa u7 8 (2 : Int32).toNatClampNeg (u7.1 10)) fun u8 => gd 3 9 (bnd (sa u8 8 (3 : Int32).toNatClampNeg (u8.1 11)) fun u9 => gd 4 9 (bnd (sa u9 8 (4 : Int32).toNatClampNeg (u9.1 12)) fun u10 => gd 5 9 (bnd (sa u10 8 (5 : Int32).toNatClampNeg (u10.1 13)) fun u11 => gd 6 9 (bnd (sa u11 8 (6 : Int32).toNatClampNeg (u11.1 14)) fun u12 => gd 7 9 (bnd (sa u12 8 (7 : Int32).toNatClampNeg (u12.1 15)) fun u13 => gd 8 9 (bnd (sa u13 8 (8 : Int32).toNatClampNeg (u13.1 7)) fun u14 => cT (f_M_judge_L141 FU u14 0) fun (u18 : St) => cT (f_M_judge_L191 FU u18 0) fun (u20 : St) => some (0, u20))))))))))))
set_option maxHeartbeats 4000000 in
set_option maxRecDepth 100000 in
theorem w_M_judge_L149 {Z : zT} {D : va_G} {cs : Nat → ClassId} {a : Nat → Nat} {p : Program} {l : Launch} {e : Env} {s : State} {m : MethodId} {args : Array Value} {below : List Frame} {meth : Method} {c : Code} {Q : State → Prop}  {u2 : St} {x1 : Int32} (C : Cx clA R_M prog_9_method_60_code 3 D cs (mW a cs) Z p s m args c) (hE : ∀ (H : Heap) (locs : List Loc) (ls : Array Slot), Dy clA D (mW a cs) s H locs u2 → lv_has ls 3 [(0, .ref (a 0)), (1, .int x1)] → W p l e rm_M_judge s m args below meth c H locs 0 0 Q (F0 m 183 ls [])) : ∀ (n : Nat) (u : St) (x2 : Int32) (H : Heap) (locs : List Loc) (ls : Array Slot), f_M_judge_L149 x1 n u x2 = some u2 → Dy clA D (mW a cs) s H locs u → lv_has ls 3 [(0, .ref (a 0)), (1, .int x1), (2, .int x2)] → W p l e rm_M_judge s m args below meth c H locs 0 0 Q (F0 m 149 ls []) := by
  have hx := C.1.1
  have hb := C.1.2.1
  intro n
  induction n with
  | zero =>
    intro u x2 H locs ls hk I hl
    rw [f_M_judge_L149] at hk
    cases hk
  | succ n ih =>
    intro u x2 H locs ls hk I hl
    rw [f_M_judge_L149] at hk
    refine lv_iload_n hx hb d_M_judge_149 rfl (lv_at hl 2 rfl) ?_
    refine lv_bipush (v := 6) hx hb d_M_judge_150 (by decide) ?_
    refine lv_icmp_ge (tgt := 183) hx hb d_M_judge_152 (by decide) (fun hc => ?_) (fun hc => ?_)
    · replace hk := it_u hc hk
      cases hk
      exact hE _ _ _ I (lv_sub hl [0, 1] rfl)
    · replace hk := ie_u hc hk
      refine lv_aload_n hx hb d_M_judge_155 rfl (lv_at hl 0 rfl) ?_
      refine g_M_kept C I k_721 d_M_judge_156 ?_
      refine lv_bipush (v := 6) hx hb d_M_judge_159 (by decide) ?_
      refine lv_iload_n hx hb d_M_judge_161 rfl (lv_at hl 1 rfl) ?_
      refine lv_imul hx hb d_M_judge_162 ?_
      refine lv_iload_n hx hb d_M_judge_163 rfl (lv_at hl 2 rfl) ?_
      refine lv_iadd hx hb d_M_judge_164 ?_
      refine lv_aload_n hx hb d_M_judge_165 rfl (lv_at hl 0 rfl) ?_
      refine g_M_facts C I k_713 d_M_judge_166 ?_
      refine lv_bipush (v := 6) hx hb d_M_judge_169 (by decide) ?_
      refine lv_iload_n hx hb d_M_judge_171 rfl (lv_at hl 1 rfl) ?_
      refine lv_imul hx hb d_M_judge_172 ?_
      refine lv_iload_n hx hb d_M_judge_173 rfl (lv_at hl 2 rfl) ?_
      refine lv_iadd hx hb d_M_judge_174 ?_
      obtain ⟨hi, hk⟩ := gd_u hk
      refine l_M_facts C I hi d_M_judge_175 ?_
      obtain ⟨hi, hk⟩ := gd_u hk
      refine s_M_kept C I hi d_M_judge_176 (fun H locs I => ?_)
      obtain ⟨u15, hu, hk⟩ := bnd_u hk
      rw [hu] at I
      clear hu
      refine lv_iinc (v := (x2 + 1)) (lv' := [(2, .int (x2 + 1)), (0, .ref (a 0)), (1, .int x1)]) hx hb d_M_judge_177 hl (k := 2) rfl rfl (by decide) rfl (fun ls hl => ?_)
      refine lv_goto (tgt := 149) hx hb d_M_judge_180 (by decide) ?_
      exact ih u15 (x2 + 1) _ _ _ hk I (lv_sub hl [1, 2, 0] rfl)
set_option maxHeartbeats 4000000 in
set_option maxRecDepth 100000 in
theorem w_M_judge_L141 {Z : zT} {D : va_G} {cs : Nat → ClassId} {a : Nat → Nat} {p : Program} {l : Launch} {e : Env} {s : State} {m : MethodId} {args : Array Value} {below : List Frame} {meth : Method} {c : Code} {Q : State → Prop}  {u2 : St} (C : Cx clA R_M prog_9_method_60_code 3 D cs (mW a cs) Z p s m args c) (hE : ∀ (H : Heap) (locs : List Loc) (ls : Array Slot), Dy clA D (mW a cs) s H locs u2 → lv_has ls 3 [(0, .ref (a 0))] → W p l e rm_M_judge s m args below meth c H locs 0 0 Q (F0 m 189 ls [])) : ∀ (n : Nat) (u : St) (x1 : Int32) (H : Heap) (locs : List Loc) (ls : Array Slot), f_M_judge_L141 n u x1 = some u2 → Dy clA D (mW a cs) s H locs u → lv_has ls 3 [(0, .ref (a 0)), (1, .int x1)] → W p l e rm_M_judge s m args below meth c H locs 0 0 Q (F0 m 141 ls []) := by
  have hx := C.1.1
  have hb := C.1.2.1
  intro n
  induction n with
  | zero =>
    intro u x1 H locs ls hk I hl
    rw [f_M_judge_L141] at hk
    cases hk
  | succ n ih =>
    intro u x1 H locs ls hk I hl
    rw [f_M_judge_L141] at hk
    refine lv_iload_n hx hb d_M_judge_141 rfl (lv_at hl 1 rfl) ?_
    refine lv_bipush (v := 60) hx hb d_M_judge_142 (by decide) ?_
    refine lv_icmp_ge (tgt := 189) hx hb d_M_judge_144 (by decide) (fun hc => ?_) (fun hc => ?_)
    · replace hk := it_u hc hk
      cases hk
      exact hE _ _ _ I (lv_sub hl [0] rfl)
    · replace hk := ie_u hc hk
      refine lv_iconst (v := 0) hx hb d_M_judge_147 (by decide) ?_
      refine lv_istore_n (lv' := [(2, .int 0), (0, .ref (a 0)), (1, .int x1)]) hx hb d_M_judge_148 rfl hl (by decide) rfl (fun ls hl => ?_)
      obtain ⟨u16, hj17, hk⟩ := cT_u hk
      refine w_M_judge_L149 C (fun H locs ls I hl => ?_) FU u 0 _ _ _ hj17 I (lv_sub hl [1, 2, 0] rfl)
      refine lv_iinc (v := (x1 + 1)) (lv' := [(1, .int (x1 + 1)), (0, .ref (a 0))]) hx hb d_M_judge_183 hl (k := 1) rfl rfl (by decide) rfl (fun ls hl => ?_)
      refine lv_goto (tgt := 141) hx hb d_M_judge_186 (by decide) ?_
      exact ih u16 (x1 + 1) _ _ _ hk I (lv_sub hl [1, 0] rfl)
set_option maxHeartbeats 4000000 in
set_option maxRecDepth 100000 in
theorem w_M_judge_L191 {Z : zT} {D : va_G} {cs : Nat → ClassId} {a : Nat → Nat} {p : Program} {l : Launch} {e : Env} {s : State} {m : MethodId} {args : Array Value} {below : List Frame} {meth : Method} {c : Code} {Q : State → Prop}  {u2 : St} (C : Cx clA R_M prog_9_method_60_code 3 D cs (mW a cs) Z p s m args c) (hE : ∀ (H : Heap) (locs : List Loc) (ls : Array Slot), Dy clA D (mW a cs) s H locs u2 → lv_has ls 3 [] → W p l e rm_M_judge s m args below meth c H locs 0 0 Q (F0 m 216 ls [])) : ∀ (n : Nat) (u : St) (x1 : Int32) (H : Heap) (locs : List Loc) (ls : Array Slot), f_M_judge_L191 n u x1 = some u2 → Dy clA D (mW a cs) s H locs u → lv_has ls 3 [(0, .ref (a 0)), (1, .int x1)] → W p l e rm_M_judge s m args below meth c H locs 0 0 Q (F0 m 191 ls []) := by
  have hx := C.1.1
  have hb := C.1.2.1
  intro n
  induction n with
  | zero =>
    intro u x1 H locs ls hk I hl
    rw [f_M_judge_L191] at hk
    cases hk
  | succ n ih =>
    intro u x1 H locs ls hk I hl
    rw [f_M_judge_L191] at hk
    refine lv_iload_n hx hb d_M_judge_191 rfl (lv_at hl 1 rfl) ?_
    refine lv_sipush (v := 300) hx hb d_M_judge_192 (by decide) ?_
    refine lv_icmp_ge (tgt := 216) hx hb d_M_judge_195 (by decide) (fun hc => ?_) (fun hc => ?_)
    · replace hk := it_u hc hk
      cases hk
      exact hE _ _ _ I (lv_sub hl [] rfl)
    · replace hk := ie_u hc hk
      refine lv_aload_n hx hb d_M_judge_198 rfl (lv_at hl 0 rfl) ?_
      refine g_M_keptKinds C I k_722 d_M_judge_199 ?_
      refine lv_iload_n hx hb d_M_judge_202 rfl (lv_at hl 1 rfl) ?_
      refine lv_aload_n hx hb d_M_judge_203 rfl (lv_at hl 0 rfl) ?_
      refine g_M_kinds C I k_702 d_M_judge_204 ?_
      refine lv_iload_n hx hb d_M_judge_207 rfl (lv_at hl 1 rfl) ?_
      obtain ⟨hi, hk⟩ := gd_u hk
      refine l_M_kinds C I hi d_M_judge_208 ?_
      obtain ⟨hi, hk⟩ := gd_u hk
      refine s_M_keptKinds C I hi d_M_judge_209 (fun H locs I => ?_)
      obtain ⟨u19, hu, hk⟩ := bnd_u hk
      rw [hu] at I
      clear hu
      refine lv_iinc (v := (x1 + 1)) (lv' := [(1, .int (x1 + 1)), (0, .ref (a 0))]) hx hb d_M_judge_210 hl (k := 1) rfl rfl (by decide) rfl (fun ls hl => ?_)
      refine lv_goto (tgt := 191) hx hb d_M_judge_213 (by decide) ?_
      exact ih u19 (x1 + 1) _ _ _ hk I (lv_sub hl [1, 0] rfl)
set_option maxHeartbeats 4000000 in
set_option maxRecDepth 100000 in
theorem c_M_judge {Z : zT} {D : va_G} {cs : Nat → ClassId} {a : Nat → Nat} (hw : wD (mW a cs)) (hz : zOK Z) (l : Launch) {u : St} {r : Int32} {u' : St} (hk : f_M_judge u = some (r, u')) : KI clA D cs (mW a cs) Z l y_M_judge (.code y_M_judge prog_9_method_60_code 3 (Option.some Jvm.ClassFile.FieldType.int)) rm_M_judge [.ref (a 0)] u r u' := by
  unfold f_M_judge at hk
  refine KI.of (by decide) (Nat.le_of_ble_eq_true rfl) rfl hw hz ?_
  intro p e s m args below meth c Q C I hQ ls hl
  have hl : lv_has ls 3 [(0, .ref (a 0))] := hl
  have hx := C.1.1
  have hb := C.1.2.1
  refine lv_aload_n hx hb d_M_judge_0 rfl (lv_at hl 0 rfl) ?_
  refine lv_aload_n hx hb d_M_judge_1 rfl (lv_at hl 0 rfl) ?_
  refine g_M_size C I k_695 d_M_judge_2 ?_
  obtain ⟨u1, h2, hk⟩ := cV_u hk
  refine go_V I (call_runV (rest := []) C I (c_M_go C.2.2.2.1 C.2.2.2.2.1 l h2 _) wd_M_go (q0 := 0) (ci := 7) rfl rfl k_818 ⟨rfl, rfl⟩ ⟨by decide, by decide⟩ rfl hl.1 rfl (Nat.le_of_ble_eq_true rfl) d_M_judge_5) (fun H locs I => ?_)
  refine lv_aload_n hx hb d_M_judge_8 rfl (lv_at hl 0 rfl) ?_
  refine lv_aload_n hx hb d_M_judge_9 rfl (lv_at hl 0 rfl) ?_
  refine g_M_broken C I k_698 d_M_judge_10 ?_
  refine p_M_lastRule C I k_718 d_M_judge_13 (fun H locs I => ?_)
  obtain ⟨u3, hu, hk⟩ := bnd_u hk
  rw [hu] at I
  clear hu
  refine lv_aload_n hx hb d_M_judge_16 rfl (lv_at hl 0 rfl) ?_
  refine lv_aload_n hx hb d_M_judge_17 rfl (lv_at hl 0 rfl) ?_
  refine g_M_broken C I k_698 d_M_judge_18 ?_
  obtain ⟨z4, hj23, hk⟩ := bnd_u hk
  have Khj23 : ∀ (H : Heap) (locs : List Loc) (ls : Array Slot), Dy clA D (mW a cs) s H locs u3 → lv_has ls 3 [(0, .ref (a 0))] → W p l e rm_M_judge s m args below meth c H locs 0 0 Q (F0 m 29 ls [.int z4, .ref (a 0)]) := by
    intro H locs ls I hl
    obtain ⟨hz, hk⟩ := gb_u hk
    refine p_M_passed C I k_719 hz d_M_judge_29 (fun H locs I => ?_)
    obtain ⟨u5, hu, hk⟩ := bnd_u hk
    rw [hu] at I
    clear hu
    refine lv_aload_n hx hb d_M_judge_32 rfl (lv_at hl 0 rfl) ?_
    refine g_M_passed C I k_719 d_M_judge_33 ?_
    refine lv_if_ne (tgt := 46) hx hb d_M_judge_36 (by decide) (fun hc => ?_) (fun hc => ?_)
    · replace hk := ie_u hc hk
      refine lv_aload_n hx hb d_M_judge_46 rfl (lv_at hl 0 rfl) ?_
      refine g_M_told C I k_720 d_M_judge_47 ?_
      refine lv_iconst (v := 0) hx hb d_M_judge_50 (by decide) ?_
      refine lv_aload_n hx hb d_M_judge_51 rfl (lv_at hl 0 rfl) ?_
      refine g_M_many C I k_701 d_M_judge_52 ?_
      obtain ⟨hi, hk⟩ := gd_u hk
      refine s_M_told C I hi d_M_judge_55 (fun H locs I => ?_)
      obtain ⟨u6, hu, hk⟩ := bnd_u hk
      rw [hu] at I
      clear hu
      refine lv_aload_n hx hb d_M_judge_56 rfl (lv_at hl 0 rfl) ?_
      refine g_M_told C I k_720 d_M_judge_57 ?_
      refine lv_iconst (v := 1) hx hb d_M_judge_60 (by decide) ?_
      refine lv_aload_n hx hb d_M_judge_61 rfl (lv_at hl 0 rfl) ?_
      refine g_M_interfaces C I k_706 d_M_judge_62 ?_
      obtain ⟨hi, hk⟩ := gd_u hk
      refine s_M_told C I hi d_M_judge_65 (fun H locs I => ?_)
      obtain ⟨u7, hu, hk⟩ := bnd_u hk
      rw [hu] at I
      clear hu
      refine lv_aload_n hx hb d_M_judge_66 rfl (lv_at hl 0 rfl) ?_
      refine g_M_told C I k_720 d_M_judge_67 ?_
      refine lv_iconst (v := 2) hx hb d_M_judge_70 (by decide) ?_
      refine lv_aload_n hx hb d_M_judge_71 rfl (lv_at hl 0 rfl) ?_
      refine g_M_fields C I k_707 d_M_judge_72 ?_
      obtain ⟨hi, hk⟩ := gd_u hk
      refine s_M_told C I hi d_M_judge_75 (fun H locs I => ?_)
      obtain ⟨u8, hu, hk⟩ := bnd_u hk
      rw [hu] at I
      clear hu
      refine lv_aload_n hx hb d_M_judge_76 rfl (lv_at hl 0 rfl) ?_
      refine g_M_told C I k_720 d_M_judge_77 ?_
      refine lv_iconst (v := 3) hx hb d_M_judge_80 (by decide) ?_
      refine lv_aload_n hx hb d_M_judge_81 rfl (lv_at hl 0 rfl) ?_
      refine g_M_methods C I k_708 d_M_judge_82 ?_
      obtain ⟨hi, hk⟩ := gd_u hk
      refine s_M_told C I hi d_M_judge_85 (fun H locs I => ?_)
      obtain ⟨u9, hu, hk⟩ := bnd_u hk
      rw [hu] at I
      clear hu
      refine lv_aload_n hx hb d_M_judge_86 rfl (lv_at hl 0 rfl) ?_
      refine g_M_told C I k_720 d_M_judge_87 ?_
      refine lv_iconst (v := 4) hx hb d_M_judge_90 (by decide) ?_
      refine lv_aload_n hx hb d_M_judge_91 rfl (lv_at hl 0 rfl) ?_
      refine g_M_instructions C I k_709 d_M_judge_92 ?_
      obtain ⟨hi, hk⟩ := gd_u hk
      refine s_M_told C I hi d_M_judge_95 (fun H locs I => ?_)
      obtain ⟨u10, hu, hk⟩ := bnd_u hk
      rw [hu] at I
      clear hu
      refine lv_aload_n hx hb d_M_judge_96 rfl (lv_at hl 0 rfl) ?_
      refine g_M_told C I k_720 d_M_judge_97 ?_
      refine lv_iconst (v := 5) hx hb d_M_judge_100 (by decide) ?_
      refine lv_aload_n hx hb d_M_judge_101 rfl (lv_at hl 0 rfl) ?_
      refine g_M_bytes C I k_710 d_M_judge_102 ?_
      obtain ⟨hi, hk⟩ := gd_u hk
      refine s_M_told C I hi d_M_judge_105 (fun H locs I => ?_)
      obtain ⟨u11, hu, hk⟩ := bnd_u hk
      rw [hu] at I
      clear hu
      refine lv_aload_n hx hb d_M_judge_106 rfl (lv_at hl 0 rfl) ?_
      refine g_M_told C I k_720 d_M_judge_107 ?_
      refine lv_bipush (v := 6) hx hb d_M_judge_110 (by decide) ?_
      refine lv_aload_n hx hb d_M_judge_112 rfl (lv_at hl 0 rfl) ?_
      refine g_M_jumps C I k_711 d_M_judge_113 ?_
      obtain ⟨hi, hk⟩ := gd_u hk
      refine s_M_told C I hi d_M_judge_116 (fun H locs I => ?_)
      obtain ⟨u12, hu, hk⟩ := bnd_u hk
      rw [hu] at I
      clear hu
      refine lv_aload_n hx hb d_M_judge_117 rfl (lv_at hl 0 rfl) ?_
      refine g_M_told C I k_720 d_M_judge_118 ?_
      refine lv_bipush (v := 7) hx hb d_M_judge_121 (by decide) ?_
      refine lv_aload_n hx hb d_M_judge_123 rfl (lv_at hl 0 rfl) ?_
      refine g_M_rows C I k_712 d_M_judge_124 ?_
      obtain ⟨hi, hk⟩ := gd_u hk
      refine s_M_told C I hi d_M_judge_127 (fun H locs I => ?_)
      obtain ⟨u13, hu, hk⟩ := bnd_u hk
      rw [hu] at I
      clear hu
      refine lv_aload_n hx hb d_M_judge_128 rfl (lv_at hl 0 rfl) ?_
      refine g_M_told C I k_720 d_M_judge_129 ?_
      refine lv_bipush (v := 8) hx hb d_M_judge_132 (by decide) ?_
      refine lv_aload_n hx hb d_M_judge_134 rfl (lv_at hl 0 rfl) ?_
      refine g_M_flags C I k_704 d_M_judge_135 ?_
      obtain ⟨hi, hk⟩ := gd_u hk
      refine s_M_told C I hi d_M_judge_138 (fun H locs I => ?_)
      obtain ⟨u14, hu, hk⟩ := bnd_u hk
      rw [hu] at I
      clear hu
      refine lv_iconst (v := 0) hx hb d_M_judge_139 (by decide) ?_
      refine lv_istore_n (lv' := [(1, .int 0), (0, .ref (a 0))]) hx hb d_M_judge_140 rfl hl (by decide) rfl (fun ls hl => ?_)
      obtain ⟨u18, hj22, hk⟩ := cT_u hk
      refine w_M_judge_L141 C (fun H locs ls I hl => ?_) FU u14 0 _ _ _ hj22 I (lv_sub hl [1, 0] rfl)
      refine lv_iconst (v := 0) hx hb d_M_judge_189 (by decide) ?_
      refine lv_istore_n (lv' := [(1, .int 0), (0, .ref (a 0))]) hx hb d_M_judge_190 rfl hl (by decide) rfl (fun ls hl => ?_)
      obtain ⟨u20, hj21, hk⟩ := cT_u hk
      refine w_M_judge_L191 C (fun H locs ls I hl => ?_) FU u18 0 _ _ _ hj21 I (lv_sub hl [1, 0] rfl)
      refine lv_iconst (v := 0) hx hb d_M_judge_216 (by decide) ?_
      exact hQ _ _ _ _ _ _ I hk d_M_judge_217
    · replace hk := it_u hc hk
      refine lv_iconst (v := 1) hx hb d_M_judge_39 (by decide) ?_
      refine lv_aload_n hx hb d_M_judge_40 rfl (lv_at hl 0 rfl) ?_
      refine g_M_place C I k_699 d_M_judge_41 ?_
      refine lv_iadd hx hb d_M_judge_44 ?_
      exact hQ _ _ _ _ _ _ I hk d_M_judge_45
  refine lv_if_ne (tgt := 28) hx hb d_M_judge_21 (by decide) (fun hc => ?_) (fun hc => ?_)
  · replace hj23 := ie_u hc hj23
    refine lv_iconst (v := 0) hx hb d_M_judge_28 (by decide) ?_
    cases hj23
    exact Khj23 _ _ _ I (lv_sub hl [0] rfl)
  · replace hj23 := it_u hc hj23
    refine lv_iconst (v := 1) hx hb d_M_judge_24 (by decide) ?_
    refine lv_goto (tgt := 29) hx hb d_M_judge_25 (by decide) ?_
    cases hj23
    exact Khj23 _ _ _ I (lv_sub hl [0] rfl)
def rm_M_rule : Room := { frames := 0, cells := 0, slots := 0, locals := 0 }
noncomputable def f_M_rule (u : St) : Option (Int32 × St) := some ((u.1 16), u)
set_option maxHeartbeats 4000000 in
set_option maxRecDepth 100000 in
theorem c_M_rule {Z : zT} {D : va_G} {cs : Nat → ClassId} {a : Nat → Nat} (hw : wD (mW a cs)) (hz : zOK Z) (l : Launch) {u : St} {r : Int32} {u' : St} (hk : f_M_rule u = some (r, u')) : KI clA D cs (mW a cs) Z l y_M_rule (.code y_M_rule prog_9_method_61_code 1 (Option.some Jvm.ClassFile.FieldType.int)) rm_M_rule [.ref (a 0)] u r u' := by
  unfold f_M_rule at hk
  refine KI.of (by decide) (Nat.le_of_ble_eq_true rfl) rfl hw hz ?_
  intro p e s m args below meth c Q C I hQ ls hl
  have hl : lv_has ls 1 [(0, .ref (a 0))] := hl
  have hx := C.1.1
  have hb := C.1.2.1
  refine lv_aload_n hx hb d_M_rule_0 rfl (lv_at hl 0 rfl) ?_
  refine g_M_lastRule C I k_718 d_M_rule_1 ?_
  exact hQ _ _ _ _ _ _ I hk d_M_rule_4
def rm_M_told : Room := { frames := 0, cells := 0, slots := 0, locals := 0 }
noncomputable def f_M_told (u : St) (x1 : Int32) : Option (Int32 × St) := cT (if (u.1 17) = 0 then (some ((-1))) else (if x1 < 0 then (some ((-1))) else (if x1 ≤ 8 then (gd x1 9 (some ((u.2 8 x1.toNatClampNeg)))) else (some ((-1)))))) fun (z1 : Int32) => some (z1, u)
set_option maxHeartbeats 4000000 in
set_option maxRecDepth 100000 in
theorem c_M_told {Z : zT} {D : va_G} {cs : Nat → ClassId} {a : Nat → Nat} (hw : wD (mW a cs)) (hz : zOK Z) (l : Launch) {u : St} {x1 : Int32} {r : Int32} {u' : St} (hk : f_M_told u x1 = some (r, u')) : KI clA D cs (mW a cs) Z l y_M_told (.code y_M_told prog_9_method_62_code 2 (Option.some Jvm.ClassFile.FieldType.int)) rm_M_told [.ref (a 0), .int x1] u r u' := by
  unfold f_M_told at hk
  refine KI.of (by decide) (Nat.le_of_ble_eq_true rfl) rfl hw hz ?_
  intro p e s m args below meth c Q C I hQ ls hl
  have hl : lv_has ls 2 [(0, .ref (a 0)), (1, .int x1)] := hl
  have hx := C.1.1
  have hb := C.1.2.1
  refine lv_aload_n hx hb d_M_told_0 rfl (lv_at hl 0 rfl) ?_
  refine g_M_passed C I k_719 d_M_told_1 ?_
  obtain ⟨z1, hj2, hk⟩ := cT_u hk
  have Khj2 : ∀ (H : Heap) (locs : List Loc) (ls : Array Slot), Dy clA D (mW a cs) s H locs u → lv_has ls 2 [] → W p l e rm_M_told s m args below meth c H locs 0 0 Q (F0 m 27 ls [.int z1]) := by
    intro H locs ls I hl
    exact hQ _ _ _ _ _ _ I hk d_M_told_27
  refine lv_if_eq (tgt := 17) hx hb d_M_told_4 (by decide) (fun hc => ?_) (fun hc => ?_)
  · replace hj2 := it_u hc hj2
    refine lv_iconst (v := (-1)) hx hb d_M_told_17 (by decide) ?_
    refine lv_goto (tgt := 27) hx hb d_M_told_18 (by decide) ?_
    cases hj2
    exact Khj2 _ _ _ I (lv_sub hl [] rfl)
  · replace hj2 := ie_u hc hj2
    refine lv_iload_n hx hb d_M_told_7 rfl (lv_at hl 1 rfl) ?_
    refine lv_if_lt (tgt := 17) hx hb d_M_told_8 (by decide) (fun hc => ?_) (fun hc => ?_)
    · replace hj2 := it_u hc hj2
      refine lv_iconst (v := (-1)) hx hb d_M_told_17 (by decide) ?_
      refine lv_goto (tgt := 27) hx hb d_M_told_18 (by decide) ?_
      cases hj2
      exact Khj2 _ _ _ I (lv_sub hl [] rfl)
    · replace hj2 := ie_u hc hj2
      refine lv_iload_n hx hb d_M_told_11 rfl (lv_at hl 1 rfl) ?_
      refine lv_bipush (v := 8) hx hb d_M_told_12 (by decide) ?_
      refine lv_icmp_le (tgt := 21) hx hb d_M_told_14 (by decide) (fun hc => ?_) (fun hc => ?_)
      · replace hj2 := it_u hc hj2
        refine lv_aload_n hx hb d_M_told_21 rfl (lv_at hl 0 rfl) ?_
        refine g_M_told C I k_720 d_M_told_22 ?_
        refine lv_iload_n hx hb d_M_told_25 rfl (lv_at hl 1 rfl) ?_
        obtain ⟨hi, hj2⟩ := gd_u hj2
        refine l_M_told C I hi d_M_told_26 ?_
        cases hj2
        exact Khj2 _ _ _ I (lv_sub hl [] rfl)
      · replace hj2 := ie_u hc hj2
        refine lv_iconst (v := (-1)) hx hb d_M_told_17 (by decide) ?_
        refine lv_goto (tgt := 27) hx hb d_M_told_18 (by decide) ?_
        cases hj2
        exact Khj2 _ _ _ I (lv_sub hl [] rfl)
def rm_M_method : Room := { frames := 0, cells := 0, slots := 0, locals := 0 }
noncomputable def f_M_method (u : St) (x1 : Int32) (x2 : Int32) : Option (Int32 × St) := cT (if (u.1 17) = 0 then (some ((-1))) else (if x1 < 0 then (some ((-1))) else (gd 3 9 (if (u.2 8 (3 : Int32).toNatClampNeg) ≤ x1 then (some ((-1))) else (if x2 < 0 then (some ((-1))) else (if x2 ≤ 5 then (gd ((6 * x1) + x2) 360 (some ((u.2 9 ((6 * x1) + x2).toNatClampNeg)))) else (some ((-1))))))))) fun (z1 : Int32) => some (z1, u)
set_option maxHeartbeats 4000000 in
set_option maxRecDepth 100000 in
theorem c_M_method {Z : zT} {D : va_G} {cs : Nat → ClassId} {a : Nat → Nat} (hw : wD (mW a cs)) (hz : zOK Z) (l : Launch) {u : St} {x1 : Int32} {x2 : Int32} {r : Int32} {u' : St} (hk : f_M_method u x1 x2 = some (r, u')) : KI clA D cs (mW a cs) Z l y_M_method (.code y_M_method prog_9_method_63_code 3 (Option.some Jvm.ClassFile.FieldType.int)) rm_M_method [.ref (a 0), .int x1, .int x2] u r u' := by
  unfold f_M_method at hk
  refine KI.of (by decide) (Nat.le_of_ble_eq_true rfl) rfl hw hz ?_
  intro p e s m args below meth c Q C I hQ ls hl
  have hl : lv_has ls 3 [(0, .ref (a 0)), (1, .int x1), (2, .int x2)] := hl
  have hx := C.1.1
  have hb := C.1.2.1
  refine lv_aload_n hx hb d_M_method_0 rfl (lv_at hl 0 rfl) ?_
  refine g_M_passed C I k_719 d_M_method_1 ?_
  obtain ⟨z1, hj2, hk⟩ := cT_u hk
  have Khj2 : ∀ (H : Heap) (locs : List Loc) (ls : Array Slot), Dy clA D (mW a cs) s H locs u → lv_has ls 3 [] → W p l e rm_M_method s m args below meth c H locs 0 0 Q (F0 m 45 ls [.int z1]) := by
    intro H locs ls I hl
    exact hQ _ _ _ _ _ _ I hk d_M_method_45
  refine lv_if_eq (tgt := 30) hx hb d_M_method_4 (by decide) (fun hc => ?_) (fun hc => ?_)
  · replace hj2 := it_u hc hj2
    refine lv_iconst (v := (-1)) hx hb d_M_method_30 (by decide) ?_
    refine lv_goto (tgt := 45) hx hb d_M_method_31 (by decide) ?_
    cases hj2
    exact Khj2 _ _ _ I (lv_sub hl [] rfl)
  · replace hj2 := ie_u hc hj2
    refine lv_iload_n hx hb d_M_method_7 rfl (lv_at hl 1 rfl) ?_
    refine lv_if_lt (tgt := 30) hx hb d_M_method_8 (by decide) (fun hc => ?_) (fun hc => ?_)
    · replace hj2 := it_u hc hj2
      refine lv_iconst (v := (-1)) hx hb d_M_method_30 (by decide) ?_
      refine lv_goto (tgt := 45) hx hb d_M_method_31 (by decide) ?_
      cases hj2
      exact Khj2 _ _ _ I (lv_sub hl [] rfl)
    · replace hj2 := ie_u hc hj2
      refine lv_iload_n hx hb d_M_method_11 rfl (lv_at hl 1 rfl) ?_
      refine lv_aload_n hx hb d_M_method_12 rfl (lv_at hl 0 rfl) ?_
      refine g_M_told C I k_720 d_M_method_13 ?_
      refine lv_iconst (v := 3) hx hb d_M_method_16 (by decide) ?_
      obtain ⟨hi, hj2⟩ := gd_u hj2
      refine l_M_told C I hi d_M_method_17 ?_
      refine lv_icmp_ge (tgt := 30) hx hb d_M_method_18 (by decide) (fun hc => ?_) (fun hc => ?_)
      · replace hj2 := it_u hc hj2
        refine lv_iconst (v := (-1)) hx hb d_M_method_30 (by decide) ?_
        refine lv_goto (tgt := 45) hx hb d_M_method_31 (by decide) ?_
        cases hj2
        exact Khj2 _ _ _ I (lv_sub hl [] rfl)
      · replace hj2 := ie_u hc hj2
        refine lv_iload_n hx hb d_M_method_21 rfl (lv_at hl 2 rfl) ?_
        refine lv_if_lt (tgt := 30) hx hb d_M_method_22 (by decide) (fun hc => ?_) (fun hc => ?_)
        · replace hj2 := it_u hc hj2
          refine lv_iconst (v := (-1)) hx hb d_M_method_30 (by decide) ?_
          refine lv_goto (tgt := 45) hx hb d_M_method_31 (by decide) ?_
          cases hj2
          exact Khj2 _ _ _ I (lv_sub hl [] rfl)
        · replace hj2 := ie_u hc hj2
          refine lv_iload_n hx hb d_M_method_25 rfl (lv_at hl 2 rfl) ?_
          refine lv_iconst (v := 5) hx hb d_M_method_26 (by decide) ?_
          refine lv_icmp_le (tgt := 34) hx hb d_M_method_27 (by decide) (fun hc => ?_) (fun hc => ?_)
          · replace hj2 := it_u hc hj2
            refine lv_aload_n hx hb d_M_method_34 rfl (lv_at hl 0 rfl) ?_
            refine g_M_kept C I k_721 d_M_method_35 ?_
            refine lv_bipush (v := 6) hx hb d_M_method_38 (by decide) ?_
            refine lv_iload_n hx hb d_M_method_40 rfl (lv_at hl 1 rfl) ?_
            refine lv_imul hx hb d_M_method_41 ?_
            refine lv_iload_n hx hb d_M_method_42 rfl (lv_at hl 2 rfl) ?_
            refine lv_iadd hx hb d_M_method_43 ?_
            obtain ⟨hi, hj2⟩ := gd_u hj2
            refine l_M_kept C I hi d_M_method_44 ?_
            cases hj2
            exact Khj2 _ _ _ I (lv_sub hl [] rfl)
          · replace hj2 := ie_u hc hj2
            refine lv_iconst (v := (-1)) hx hb d_M_method_30 (by decide) ?_
            refine lv_goto (tgt := 45) hx hb d_M_method_31 (by decide) ?_
            cases hj2
            exact Khj2 _ _ _ I (lv_sub hl [] rfl)
def rm_M_entry : Room := { frames := 0, cells := 0, slots := 0, locals := 0 }
noncomputable def f_M_entry (u : St) (x1 : Int32) : Option (Int32 × St) := cT (if (u.1 17) = 0 then (some ((-1))) else (if x1 < 1 then (some ((-1))) else (gd 0 9 (if x1 < (u.2 8 (0 : Int32).toNatClampNeg) then (gd x1 300 (some ((u.2 10 x1.toNatClampNeg)))) else (some ((-1))))))) fun (z1 : Int32) => some (z1, u)
set_option maxHeartbeats 4000000 in
set_option maxRecDepth 100000 in
theorem c_M_entry {Z : zT} {D : va_G} {cs : Nat → ClassId} {a : Nat → Nat} (hw : wD (mW a cs)) (hz : zOK Z) (l : Launch) {u : St} {x1 : Int32} {r : Int32} {u' : St} (hk : f_M_entry u x1 = some (r, u')) : KI clA D cs (mW a cs) Z l y_M_entry (.code y_M_entry prog_9_method_64_code 2 (Option.some Jvm.ClassFile.FieldType.int)) rm_M_entry [.ref (a 0), .int x1] u r u' := by
  unfold f_M_entry at hk
  refine KI.of (by decide) (Nat.le_of_ble_eq_true rfl) rfl hw hz ?_
  intro p e s m args below meth c Q C I hQ ls hl
  have hl : lv_has ls 2 [(0, .ref (a 0)), (1, .int x1)] := hl
  have hx := C.1.1
  have hb := C.1.2.1
  refine lv_aload_n hx hb d_M_entry_0 rfl (lv_at hl 0 rfl) ?_
  refine g_M_passed C I k_719 d_M_entry_1 ?_
  obtain ⟨z1, hj2, hk⟩ := cT_u hk
  have Khj2 : ∀ (H : Heap) (locs : List Loc) (ls : Array Slot), Dy clA D (mW a cs) s H locs u → lv_has ls 2 [] → W p l e rm_M_entry s m args below meth c H locs 0 0 Q (F0 m 32 ls [.int z1]) := by
    intro H locs ls I hl
    exact hQ _ _ _ _ _ _ I hk d_M_entry_32
  refine lv_if_eq (tgt := 22) hx hb d_M_entry_4 (by decide) (fun hc => ?_) (fun hc => ?_)
  · replace hj2 := it_u hc hj2
    refine lv_iconst (v := (-1)) hx hb d_M_entry_22 (by decide) ?_
    refine lv_goto (tgt := 32) hx hb d_M_entry_23 (by decide) ?_
    cases hj2
    exact Khj2 _ _ _ I (lv_sub hl [] rfl)
  · replace hj2 := ie_u hc hj2
    refine lv_iload_n hx hb d_M_entry_7 rfl (lv_at hl 1 rfl) ?_
    refine lv_iconst (v := 1) hx hb d_M_entry_8 (by decide) ?_
    refine lv_icmp_lt (tgt := 22) hx hb d_M_entry_9 (by decide) (fun hc => ?_) (fun hc => ?_)
    · replace hj2 := it_u hc hj2
      refine lv_iconst (v := (-1)) hx hb d_M_entry_22 (by decide) ?_
      refine lv_goto (tgt := 32) hx hb d_M_entry_23 (by decide) ?_
      cases hj2
      exact Khj2 _ _ _ I (lv_sub hl [] rfl)
    · replace hj2 := ie_u hc hj2
      refine lv_iload_n hx hb d_M_entry_12 rfl (lv_at hl 1 rfl) ?_
      refine lv_aload_n hx hb d_M_entry_13 rfl (lv_at hl 0 rfl) ?_
      refine g_M_told C I k_720 d_M_entry_14 ?_
      refine lv_iconst (v := 0) hx hb d_M_entry_17 (by decide) ?_
      obtain ⟨hi, hj2⟩ := gd_u hj2
      refine l_M_told C I hi d_M_entry_18 ?_
      refine lv_icmp_lt (tgt := 26) hx hb d_M_entry_19 (by decide) (fun hc => ?_) (fun hc => ?_)
      · replace hj2 := it_u hc hj2
        refine lv_aload_n hx hb d_M_entry_26 rfl (lv_at hl 0 rfl) ?_
        refine g_M_keptKinds C I k_722 d_M_entry_27 ?_
        refine lv_iload_n hx hb d_M_entry_30 rfl (lv_at hl 1 rfl) ?_
        obtain ⟨hi, hj2⟩ := gd_u hj2
        refine l_M_keptKinds C I hi d_M_entry_31 ?_
        cases hj2
        exact Khj2 _ _ _ I (lv_sub hl [] rfl)
      · replace hj2 := ie_u hc hj2
        refine lv_iconst (v := (-1)) hx hb d_M_entry_22 (by decide) ?_
        refine lv_goto (tgt := 32) hx hb d_M_entry_23 (by decide) ?_
        cases hj2
        exact Khj2 _ _ _ I (lv_sub hl [] rfl)
def rm_M_guarded : Room := { frames := 13, cells := 0, slots := 0, locals := 329 }
noncomputable def f_M_guarded_L35 (x1 : Int32) : Nat → St → Int32 → Int32 → Option (St × Int32)
  | 0, _, _, _ => none
  | n + 1, u, x2, x3 => if (u.1 0) ≤ x3 then (some (u, x2)) else (gd x3 4000 (gd x3 4000 (bnd (sa u 0 x3.toNatClampNeg (vp_nar .byte ((u.2 0 x3.toNatClampNeg) ^^^ (x1).toInt8.toInt32).toInt8.toInt32)) fun u3 => cV (f_M_go u3 (u3.1 0)) fun u4 => bnd (if (u4.1 3) = 0 then (0) else (1)) fun (z6 : Int32) => gd x3 4000 (gd x3 4000 (bnd (sa u4 0 x3.toNatClampNeg (vp_nar .byte ((u4.2 0 x3.toNatClampNeg) ^^^ (x1).toInt8.toInt32).toInt8.toInt32)) fun u7 => f_M_guarded_L35 x1 n u7 (x2 + z6) (x3 + 1))))))
noncomputable def f_M_guarded (u : St) (x1 : Int32) : Option (Int32 × St) := if x1 < 1 then (some ((-1), u)) else (if x1 ≤ 255 then (cV (f_M_go u (u.1 0)) fun u1 => if (u1.1 3) = 0 then (cT (f_M_guarded_L35 x1 FU u1 0 0) fun (p12 : St × Int32) => some (p12.2, p12.1)) else (some ((-1), u1))) else (some ((-1), u)))
set_option maxHeartbeats 4000000 in
set_option maxRecDepth 100000 in
theorem w_M_guarded_L35 {Z : zT} {D : va_G} {cs : Nat → ClassId} {a : Nat → Nat} {p : Program} {l : Launch} {e : Env} {s : State} {m : MethodId} {args : Array Value} {below : List Frame} {meth : Method} {c : Code} {Q : State → Prop}  {u2 : St} {o2 : Int32} {x1 : Int32} (C : Cx clA R_M prog_9_method_65_code 4 D cs (mW a cs) Z p s m args c) (hE : ∀ (H : Heap) (locs : List Loc) (ls : Array Slot), Dy clA D (mW a cs) s H locs u2 → lv_has ls 4 [(2, .int o2)] → W p l e rm_M_guarded s m args below meth c H locs 0 0 Q (F0 m 96 ls [])) : ∀ (n : Nat) (u : St) (x2 : Int32) (x3 : Int32) (H : Heap) (locs : List Loc) (ls : Array Slot), f_M_guarded_L35 x1 n u x2 x3 = some (u2, o2) → Dy clA D (mW a cs) s H locs u → lv_has ls 4 [(0, .ref (a 0)), (1, .int x1), (2, .int x2), (3, .int x3)] → W p l e rm_M_guarded s m args below meth c H locs 0 0 Q (F0 m 35 ls []) := by
  have hx := C.1.1
  have hb := C.1.2.1
  intro n
  induction n with
  | zero =>
    intro u x2 x3 H locs ls hk I hl
    rw [f_M_guarded_L35] at hk
    cases hk
  | succ n ih =>
    intro u x2 x3 H locs ls hk I hl
    rw [f_M_guarded_L35] at hk
    refine lv_iload_n hx hb d_M_guarded_35 rfl (lv_at hl 3 rfl) ?_
    refine lv_aload_n hx hb d_M_guarded_36 rfl (lv_at hl 0 rfl) ?_
    refine g_M_size C I k_695 d_M_guarded_37 ?_
    refine lv_icmp_ge (tgt := 96) hx hb d_M_guarded_40 (by decide) (fun hc => ?_) (fun hc => ?_)
    · replace hk := it_u hc hk
      cases hk
      exact hE _ _ _ I (lv_sub hl [2] rfl)
    · replace hk := ie_u hc hk
      refine lv_aload_n hx hb d_M_guarded_43 rfl (lv_at hl 0 rfl) ?_
      refine g_M_file C I k_694 d_M_guarded_44 ?_
      refine lv_iload_n hx hb d_M_guarded_47 rfl (lv_at hl 3 rfl) ?_
      refine lv_dup2_11 hx hb d_M_guarded_48 rfl rfl ?_
      obtain ⟨hi, hk⟩ := gd_u hk
      refine l_M_file C I hi d_M_guarded_49 ?_
      refine lv_iload_n hx hb d_M_guarded_50 rfl (lv_at hl 1 rfl) ?_
      refine lv_i2b (v := (x1).toInt8.toInt32) hx hb d_M_guarded_51 rfl ?_
      refine lv_ixor hx hb d_M_guarded_52 ?_
      refine lv_i2b (v := ((u.2 0 x3.toNatClampNeg) ^^^ (x1).toInt8.toInt32).toInt8.toInt32) hx hb d_M_guarded_53 rfl ?_
      obtain ⟨hi, hk⟩ := gd_u hk
      refine s_M_file C I hi d_M_guarded_54 (fun H locs I => ?_)
      obtain ⟨u3, hu, hk⟩ := bnd_u hk
      rw [hu] at I
      clear hu
      refine lv_aload_n hx hb d_M_guarded_55 rfl (lv_at hl 0 rfl) ?_
      refine lv_aload_n hx hb d_M_guarded_56 rfl (lv_at hl 0 rfl) ?_
      refine g_M_size C I k_695 d_M_guarded_57 ?_
      obtain ⟨u4, h5, hk⟩ := cV_u hk
      refine go_V I (call_runV (rest := []) C I (c_M_go C.2.2.2.1 C.2.2.2.2.1 l h5 _) wd_M_go (q0 := 0) (ci := 7) rfl rfl k_818 ⟨rfl, rfl⟩ ⟨by decide, by decide⟩ rfl hl.1 rfl (Nat.le_of_ble_eq_true rfl) d_M_guarded_60) (fun H locs I => ?_)
      refine lv_iload_n hx hb d_M_guarded_63 rfl (lv_at hl 2 rfl) ?_
      refine lv_aload_n hx hb d_M_guarded_64 rfl (lv_at hl 0 rfl) ?_
      refine g_M_broken C I k_698 d_M_guarded_65 ?_
      obtain ⟨z6, hj8, hk⟩ := bnd_u hk
      have Khj8 : ∀ (H : Heap) (locs : List Loc) (ls : Array Slot), Dy clA D (mW a cs) s H locs u4 → lv_has ls 4 [(0, .ref (a 0)), (1, .int x1), (3, .int x3)] → W p l e rm_M_guarded s m args below meth c H locs 0 0 Q (F0 m 76 ls [.int z6, .int x2]) := by
        intro H locs ls I hl
        refine lv_iadd hx hb d_M_guarded_76 ?_
        refine lv_istore_n (lv' := [(2, .int (x2 + z6)), (0, .ref (a 0)), (1, .int x1), (3, .int x3)]) hx hb d_M_guarded_77 rfl hl (by decide) rfl (fun ls hl => ?_)
        refine lv_aload_n hx hb d_M_guarded_78 rfl (lv_at hl 1 rfl) ?_
        refine g_M_file C I k_694 d_M_guarded_79 ?_
        refine lv_iload_n hx hb d_M_guarded_82 rfl (lv_at hl 3 rfl) ?_
        refine lv_dup2_11 hx hb d_M_guarded_83 rfl rfl ?_
        obtain ⟨hi, hk⟩ := gd_u hk
        refine l_M_file C I hi d_M_guarded_84 ?_
        refine lv_iload_n hx hb d_M_guarded_85 rfl (lv_at hl 2 rfl) ?_
        refine lv_i2b (v := (x1).toInt8.toInt32) hx hb d_M_guarded_86 rfl ?_
        refine lv_ixor hx hb d_M_guarded_87 ?_
        refine lv_i2b (v := ((u4.2 0 x3.toNatClampNeg) ^^^ (x1).toInt8.toInt32).toInt8.toInt32) hx hb d_M_guarded_88 rfl ?_
        obtain ⟨hi, hk⟩ := gd_u hk
        refine s_M_file C I hi d_M_guarded_89 (fun H locs I => ?_)
        obtain ⟨u7, hu, hk⟩ := bnd_u hk
        rw [hu] at I
        clear hu
        refine lv_iinc (v := (x3 + 1)) (lv' := [(3, .int (x3 + 1)), (2, .int (x2 + z6)), (0, .ref (a 0)), (1, .int x1)]) hx hb d_M_guarded_90 hl (k := 3) rfl rfl (by decide) rfl (fun ls hl => ?_)
        refine lv_goto (tgt := 35) hx hb d_M_guarded_93 (by decide) ?_
        exact ih u7 (x2 + z6) (x3 + 1) _ _ _ hk I (lv_sub hl [2, 3, 1, 0] rfl)
      refine lv_if_eq (tgt := 75) hx hb d_M_guarded_68 (by decide) (fun hc => ?_) (fun hc => ?_)
      · replace hj8 := it_u hc hj8
        refine lv_iconst (v := 0) hx hb d_M_guarded_75 (by decide) ?_
        cases hj8
        exact Khj8 _ _ _ I (lv_sub hl [0, 1, 3] rfl)
      · replace hj8 := ie_u hc hj8
        refine lv_iconst (v := 1) hx hb d_M_guarded_71 (by decide) ?_
        refine lv_goto (tgt := 76) hx hb d_M_guarded_72 (by decide) ?_
        cases hj8
        exact Khj8 _ _ _ I (lv_sub hl [0, 1, 3] rfl)
set_option maxHeartbeats 4000000 in
set_option maxRecDepth 100000 in
theorem c_M_guarded {Z : zT} {D : va_G} {cs : Nat → ClassId} {a : Nat → Nat} (hw : wD (mW a cs)) (hz : zOK Z) (l : Launch) {u : St} {x1 : Int32} {r : Int32} {u' : St} (hk : f_M_guarded u x1 = some (r, u')) : KI clA D cs (mW a cs) Z l y_M_guarded (.code y_M_guarded prog_9_method_65_code 4 (Option.some Jvm.ClassFile.FieldType.int)) rm_M_guarded [.ref (a 0), .int x1] u r u' := by
  unfold f_M_guarded at hk
  refine KI.of (by decide) (Nat.le_of_ble_eq_true rfl) rfl hw hz ?_
  intro p e s m args below meth c Q C I hQ ls hl
  have hl : lv_has ls 4 [(0, .ref (a 0)), (1, .int x1)] := hl
  have hx := C.1.1
  have hb := C.1.2.1
  refine lv_iload_n hx hb d_M_guarded_0 rfl (lv_at hl 1 rfl) ?_
  refine lv_iconst (v := 1) hx hb d_M_guarded_1 (by decide) ?_
  refine lv_icmp_lt (tgt := 12) hx hb d_M_guarded_2 (by decide) (fun hc => ?_) (fun hc => ?_)
  · replace hk := it_u hc hk
    refine lv_iconst (v := (-1)) hx hb d_M_guarded_12 (by decide) ?_
    exact hQ _ _ _ _ _ _ I hk d_M_guarded_13
  · replace hk := ie_u hc hk
    refine lv_iload_n hx hb d_M_guarded_5 rfl (lv_at hl 1 rfl) ?_
    refine lv_sipush (v := 255) hx hb d_M_guarded_6 (by decide) ?_
    refine lv_icmp_le (tgt := 14) hx hb d_M_guarded_9 (by decide) (fun hc => ?_) (fun hc => ?_)
    · replace hk := it_u hc hk
      refine lv_aload_n hx hb d_M_guarded_14 rfl (lv_at hl 0 rfl) ?_
      refine lv_aload_n hx hb d_M_guarded_15 rfl (lv_at hl 0 rfl) ?_
      refine g_M_size C I k_695 d_M_guarded_16 ?_
      obtain ⟨u1, h2, hk⟩ := cV_u hk
      refine go_V I (call_runV (rest := []) C I (c_M_go C.2.2.2.1 C.2.2.2.2.1 l h2 _) wd_M_go (q0 := 0) (ci := 7) rfl rfl k_818 ⟨rfl, rfl⟩ ⟨by decide, by decide⟩ rfl hl.1 rfl (Nat.le_of_ble_eq_true rfl) d_M_guarded_19) (fun H locs I => ?_)
      refine lv_aload_n hx hb d_M_guarded_22 rfl (lv_at hl 0 rfl) ?_
      refine g_M_broken C I k_698 d_M_guarded_23 ?_
      refine lv_if_eq (tgt := 31) hx hb d_M_guarded_26 (by decide) (fun hc => ?_) (fun hc => ?_)
      · replace hk := it_u hc hk
        refine lv_iconst (v := 0) hx hb d_M_guarded_31 (by decide) ?_
        refine lv_istore_n (lv' := [(2, .int 0), (0, .ref (a 0)), (1, .int x1)]) hx hb d_M_guarded_32 rfl hl (by decide) rfl (fun ls hl => ?_)
        refine lv_iconst (v := 0) hx hb d_M_guarded_33 (by decide) ?_
        refine lv_istore_n (lv' := [(3, .int 0), (2, .int 0), (0, .ref (a 0)), (1, .int x1)]) hx hb d_M_guarded_34 rfl hl (by decide) rfl (fun ls hl => ?_)
        obtain ⟨⟨u9, z10⟩, hj11, hk⟩ := cT_u hk
        refine w_M_guarded_L35 C (fun H locs ls I hl => ?_) FU u1 0 0 _ _ _ hj11 I (lv_sub hl [2, 3, 1, 0] rfl)
        refine lv_iload_n hx hb d_M_guarded_96 rfl (lv_at hl 0 rfl) ?_
        exact hQ _ _ _ _ _ _ I hk d_M_guarded_97
      · replace hk := ie_u hc hk
        refine lv_iconst (v := (-1)) hx hb d_M_guarded_29 (by decide) ?_
        exact hQ _ _ _ _ _ _ I hk d_M_guarded_30
    · replace hk := ie_u hc hk
      refine lv_iconst (v := (-1)) hx hb d_M_guarded_12 (by decide) ?_
      exact hQ _ _ _ _ _ _ I hk d_M_guarded_13
def rm_M_beginnings : Room := { frames := 13, cells := 0, slots := 0, locals := 329 }
noncomputable def f_M_beginnings_L21 : Nat → St → Int32 → Int32 → Option (St × Int32)
  | 0, _, _, _ => none
  | n + 1, u, x1, x2 => if (u.1 0) ≤ x2 then (some (u, x1)) else (cV (f_M_go u x2) fun u3 => bnd (if (u3.1 3) = 1 then (if (u3.1 4) = x2 then (1) else (0)) else (0)) fun (z5 : Int32) => f_M_beginnings_L21 n u3 (x1 + z5) (x2 + 1))
noncomputable def f_M_beginnings (u : St) : Option (Int32 × St) := cV (f_M_go u (u.1 0)) fun u1 => if (u1.1 3) = 0 then (cT (f_M_beginnings_L21 FU u1 0 0) fun (p10 : St × Int32) => some (p10.2, p10.1)) else (some ((-1), u1))
set_option maxHeartbeats 4000000 in
set_option maxRecDepth 100000 in
theorem w_M_beginnings_L21 {Z : zT} {D : va_G} {cs : Nat → ClassId} {a : Nat → Nat} {p : Program} {l : Launch} {e : Env} {s : State} {m : MethodId} {args : Array Value} {below : List Frame} {meth : Method} {c : Code} {Q : State → Prop}  {u2 : St} {o1 : Int32} (C : Cx clA R_M prog_9_method_66_code 3 D cs (mW a cs) Z p s m args c) (hE : ∀ (H : Heap) (locs : List Loc) (ls : Array Slot), Dy clA D (mW a cs) s H locs u2 → lv_has ls 3 [(1, .int o1)] → W p l e rm_M_beginnings s m args below meth c H locs 0 0 Q (F0 m 64 ls [])) : ∀ (n : Nat) (u : St) (x1 : Int32) (x2 : Int32) (H : Heap) (locs : List Loc) (ls : Array Slot), f_M_beginnings_L21 n u x1 x2 = some (u2, o1) → Dy clA D (mW a cs) s H locs u → lv_has ls 3 [(0, .ref (a 0)), (1, .int x1), (2, .int x2)] → W p l e rm_M_beginnings s m args below meth c H locs 0 0 Q (F0 m 21 ls []) := by
  have hx := C.1.1
  have hb := C.1.2.1
  intro n
  induction n with
  | zero =>
    intro u x1 x2 H locs ls hk I hl
    rw [f_M_beginnings_L21] at hk
    cases hk
  | succ n ih =>
    intro u x1 x2 H locs ls hk I hl
    rw [f_M_beginnings_L21] at hk
    refine lv_iload_n hx hb d_M_beginnings_21 rfl (lv_at hl 2 rfl) ?_
    refine lv_aload_n hx hb d_M_beginnings_22 rfl (lv_at hl 0 rfl) ?_
    refine g_M_size C I k_695 d_M_beginnings_23 ?_
    refine lv_icmp_ge (tgt := 64) hx hb d_M_beginnings_26 (by decide) (fun hc => ?_) (fun hc => ?_)
    · replace hk := it_u hc hk
      cases hk
      exact hE _ _ _ I (lv_sub hl [1] rfl)
    · replace hk := ie_u hc hk
      refine lv_aload_n hx hb d_M_beginnings_29 rfl (lv_at hl 0 rfl) ?_
      refine lv_iload_n hx hb d_M_beginnings_30 rfl (lv_at hl 2 rfl) ?_
      obtain ⟨u3, h4, hk⟩ := cV_u hk
      refine go_V I (call_runV (rest := []) C I (c_M_go C.2.2.2.1 C.2.2.2.2.1 l h4 _) wd_M_go (q0 := 0) (ci := 7) rfl rfl k_818 ⟨rfl, rfl⟩ ⟨by decide, by decide⟩ rfl hl.1 rfl (Nat.le_of_ble_eq_true rfl) d_M_beginnings_31) (fun H locs I => ?_)
      refine lv_iload_n hx hb d_M_beginnings_34 rfl (lv_at hl 1 rfl) ?_
      refine lv_aload_n hx hb d_M_beginnings_35 rfl (lv_at hl 0 rfl) ?_
      refine g_M_broken C I k_698 d_M_beginnings_36 ?_
      refine lv_iconst (v := 1) hx hb d_M_beginnings_39 (by decide) ?_
      obtain ⟨z5, hj6, hk⟩ := bnd_u hk
      have Khj6 : ∀ (H : Heap) (locs : List Loc) (ls : Array Slot), Dy clA D (mW a cs) s H locs u3 → lv_has ls 3 [(0, .ref (a 0)), (2, .int x2)] → W p l e rm_M_beginnings s m args below meth c H locs 0 0 Q (F0 m 56 ls [.int z5, .int x1]) := by
        intro H locs ls I hl
        refine lv_iadd hx hb d_M_beginnings_56 ?_
        refine lv_istore_n (lv' := [(1, .int (x1 + z5)), (0, .ref (a 0)), (2, .int x2)]) hx hb d_M_beginnings_57 rfl hl (by decide) rfl (fun ls hl => ?_)
        refine lv_iinc (v := (x2 + 1)) (lv' := [(2, .int (x2 + 1)), (1, .int (x1 + z5)), (0, .ref (a 0))]) hx hb d_M_beginnings_58 hl (k := 2) rfl rfl (by decide) rfl (fun ls hl => ?_)
        refine lv_goto (tgt := 21) hx hb d_M_beginnings_61 (by decide) ?_
        exact ih u3 (x1 + z5) (x2 + 1) _ _ _ hk I (lv_sub hl [2, 1, 0] rfl)
      refine lv_icmp_ne (tgt := 55) hx hb d_M_beginnings_40 (by decide) (fun hc => ?_) (fun hc => ?_)
      · replace hj6 := ie_u hc hj6
        refine lv_iconst (v := 0) hx hb d_M_beginnings_55 (by decide) ?_
        cases hj6
        exact Khj6 _ _ _ I (lv_sub hl [0, 2] rfl)
      · replace hj6 := it_u hc hj6
        refine lv_aload_n hx hb d_M_beginnings_43 rfl (lv_at hl 0 rfl) ?_
        refine g_M_place C I k_699 d_M_beginnings_44 ?_
        refine lv_iload_n hx hb d_M_beginnings_47 rfl (lv_at hl 2 rfl) ?_
        refine lv_icmp_ne (tgt := 55) hx hb d_M_beginnings_48 (by decide) (fun hc => ?_) (fun hc => ?_)
        · replace hj6 := ie_u hc hj6
          refine lv_iconst (v := 0) hx hb d_M_beginnings_55 (by decide) ?_
          cases hj6
          exact Khj6 _ _ _ I (lv_sub hl [0, 2] rfl)
        · replace hj6 := it_u hc hj6
          refine lv_iconst (v := 1) hx hb d_M_beginnings_51 (by decide) ?_
          refine lv_goto (tgt := 56) hx hb d_M_beginnings_52 (by decide) ?_
          cases hj6
          exact Khj6 _ _ _ I (lv_sub hl [0, 2] rfl)
set_option maxHeartbeats 4000000 in
set_option maxRecDepth 100000 in
theorem c_M_beginnings {Z : zT} {D : va_G} {cs : Nat → ClassId} {a : Nat → Nat} (hw : wD (mW a cs)) (hz : zOK Z) (l : Launch) {u : St} {r : Int32} {u' : St} (hk : f_M_beginnings u = some (r, u')) : KI clA D cs (mW a cs) Z l y_M_beginnings (.code y_M_beginnings prog_9_method_66_code 3 (Option.some Jvm.ClassFile.FieldType.int)) rm_M_beginnings [.ref (a 0)] u r u' := by
  unfold f_M_beginnings at hk
  refine KI.of (by decide) (Nat.le_of_ble_eq_true rfl) rfl hw hz ?_
  intro p e s m args below meth c Q C I hQ ls hl
  have hl : lv_has ls 3 [(0, .ref (a 0))] := hl
  have hx := C.1.1
  have hb := C.1.2.1
  refine lv_aload_n hx hb d_M_beginnings_0 rfl (lv_at hl 0 rfl) ?_
  refine lv_aload_n hx hb d_M_beginnings_1 rfl (lv_at hl 0 rfl) ?_
  refine g_M_size C I k_695 d_M_beginnings_2 ?_
  obtain ⟨u1, h2, hk⟩ := cV_u hk
  refine go_V I (call_runV (rest := []) C I (c_M_go C.2.2.2.1 C.2.2.2.2.1 l h2 _) wd_M_go (q0 := 0) (ci := 7) rfl rfl k_818 ⟨rfl, rfl⟩ ⟨by decide, by decide⟩ rfl hl.1 rfl (Nat.le_of_ble_eq_true rfl) d_M_beginnings_5) (fun H locs I => ?_)
  refine lv_aload_n hx hb d_M_beginnings_8 rfl (lv_at hl 0 rfl) ?_
  refine g_M_broken C I k_698 d_M_beginnings_9 ?_
  refine lv_if_eq (tgt := 17) hx hb d_M_beginnings_12 (by decide) (fun hc => ?_) (fun hc => ?_)
  · replace hk := it_u hc hk
    refine lv_iconst (v := 0) hx hb d_M_beginnings_17 (by decide) ?_
    refine lv_istore_n (lv' := [(1, .int 0), (0, .ref (a 0))]) hx hb d_M_beginnings_18 rfl hl (by decide) rfl (fun ls hl => ?_)
    refine lv_iconst (v := 0) hx hb d_M_beginnings_19 (by decide) ?_
    refine lv_istore_n (lv' := [(2, .int 0), (1, .int 0), (0, .ref (a 0))]) hx hb d_M_beginnings_20 rfl hl (by decide) rfl (fun ls hl => ?_)
    obtain ⟨⟨u7, z8⟩, hj9, hk⟩ := cT_u hk
    refine w_M_beginnings_L21 C (fun H locs ls I hl => ?_) FU u1 0 0 _ _ _ hj9 I (lv_sub hl [2, 1, 0] rfl)
    refine lv_iload_n hx hb d_M_beginnings_64 rfl (lv_at hl 0 rfl) ?_
    exact hQ _ _ _ _ _ _ I hk d_M_beginnings_65
  · replace hk := ie_u hc hk
    refine lv_iconst (v := (-1)) hx hb d_M_beginnings_15 (by decide) ?_
    exact hQ _ _ _ _ _ _ I hk d_M_beginnings_16
