theorem d_G_clearCodeTallies_0 : decode prog_3_method_21_code 0 = .ok (.iconst 4, 1) := by decide +kernel
theorem d_G_clearCodeTallies_1 : decode prog_3_method_21_code 1 = .ok (.istore_n 1, 1) := by decide +kernel
theorem d_G_clearCodeTallies_2 : decode prog_3_method_21_code 2 = .ok (.iload_n 1, 1) := by decide +kernel
theorem d_G_clearCodeTallies_3 : decode prog_3_method_21_code 3 = .ok (.bipush 7, 2) := by decide +kernel
theorem d_G_clearCodeTallies_5 : decode prog_3_method_21_code 5 = .ok (.if_icmp .gt 16, 3) := by decide +kernel
theorem d_G_clearCodeTallies_8 : decode prog_3_method_21_code 8 = .ok (.aload_n 0, 1) := by decide +kernel
theorem d_G_clearCodeTallies_9 : decode prog_3_method_21_code 9 = .ok (.getfield 9, 3) := by decide +kernel
theorem d_G_clearCodeTallies_12 : decode prog_3_method_21_code 12 = .ok (.iload_n 1, 1) := by decide +kernel
theorem d_G_clearCodeTallies_13 : decode prog_3_method_21_code 13 = .ok (.iconst 0, 1) := by decide +kernel
theorem d_G_clearCodeTallies_14 : decode prog_3_method_21_code 14 = .ok (.iastore, 1) := by decide +kernel
theorem d_G_clearCodeTallies_15 : decode prog_3_method_21_code 15 = .ok (.iinc 1 1, 3) := by decide +kernel
theorem d_G_clearCodeTallies_18 : decode prog_3_method_21_code 18 = .ok (.goto (-16), 3) := by decide +kernel
theorem d_G_clearCodeTallies_21 : decode prog_3_method_21_code 21 = .ok (.return_, 1) := by decide +kernel
theorem d_G_noteMethod_0 : decode prog_3_method_22_code 0 = .ok (.iload_n 1, 1) := by decide +kernel
theorem d_G_noteMethod_1 : decode prog_3_method_22_code 1 = .ok (.ifCond .lt 9, 3) := by decide +kernel
theorem d_G_noteMethod_4 : decode prog_3_method_22_code 4 = .ok (.iload_n 1, 1) := by decide +kernel
theorem d_G_noteMethod_5 : decode prog_3_method_22_code 5 = .ok (.bipush 60, 2) := by decide +kernel
theorem d_G_noteMethod_7 : decode prog_3_method_22_code 7 = .ok (.if_icmp .lt 4, 3) := by decide +kernel
theorem d_G_noteMethod_10 : decode prog_3_method_22_code 10 = .ok (.return_, 1) := by decide +kernel
theorem d_G_noteMethod_11 : decode prog_3_method_22_code 11 = .ok (.iload_n 1, 1) := by decide +kernel
theorem d_G_noteMethod_12 : decode prog_3_method_22_code 12 = .ok (.bipush 6, 2) := by decide +kernel
theorem d_G_noteMethod_14 : decode prog_3_method_22_code 14 = .ok (.imul, 1) := by decide +kernel
theorem d_G_noteMethod_15 : decode prog_3_method_22_code 15 = .ok (.istore_n 3, 1) := by decide +kernel
theorem d_G_noteMethod_16 : decode prog_3_method_22_code 16 = .ok (.aload_n 0, 1) := by decide +kernel
theorem d_G_noteMethod_17 : decode prog_3_method_22_code 17 = .ok (.getfield 13, 3) := by decide +kernel
theorem d_G_noteMethod_20 : decode prog_3_method_22_code 20 = .ok (.iload_n 3, 1) := by decide +kernel
theorem d_G_noteMethod_21 : decode prog_3_method_22_code 21 = .ok (.aload_n 0, 1) := by decide +kernel
theorem d_G_noteMethod_22 : decode prog_3_method_22_code 22 = .ok (.getfield 79, 3) := by decide +kernel
theorem d_G_noteMethod_25 : decode prog_3_method_22_code 25 = .ok (.iastore, 1) := by decide +kernel
theorem d_G_noteMethod_26 : decode prog_3_method_22_code 26 = .ok (.aload_n 0, 1) := by decide +kernel
theorem d_G_noteMethod_27 : decode prog_3_method_22_code 27 = .ok (.getfield 13, 3) := by decide +kernel
theorem d_G_noteMethod_30 : decode prog_3_method_22_code 30 = .ok (.iload_n 3, 1) := by decide +kernel
theorem d_G_noteMethod_31 : decode prog_3_method_22_code 31 = .ok (.iconst 1, 1) := by decide +kernel
theorem d_G_noteMethod_32 : decode prog_3_method_22_code 32 = .ok (.iadd, 1) := by decide +kernel
theorem d_G_noteMethod_33 : decode prog_3_method_22_code 33 = .ok (.aload_n 0, 1) := by decide +kernel
theorem d_G_noteMethod_34 : decode prog_3_method_22_code 34 = .ok (.getfield 31, 3) := by decide +kernel
theorem d_G_noteMethod_37 : decode prog_3_method_22_code 37 = .ok (.aload_n 0, 1) := by decide +kernel
theorem d_G_noteMethod_38 : decode prog_3_method_22_code 38 = .ok (.getfield 159, 3) := by decide +kernel
theorem d_G_noteMethod_41 : decode prog_3_method_22_code 41 = .ok (.invokevirtual 145, 3) := by decide +kernel
theorem d_G_noteMethod_44 : decode prog_3_method_22_code 44 = .ok (.iastore, 1) := by decide +kernel
theorem d_G_noteMethod_45 : decode prog_3_method_22_code 45 = .ok (.aload_n 0, 1) := by decide +kernel
theorem d_G_noteMethod_46 : decode prog_3_method_22_code 46 = .ok (.getfield 13, 3) := by decide +kernel
theorem d_G_noteMethod_49 : decode prog_3_method_22_code 49 = .ok (.iload_n 3, 1) := by decide +kernel
theorem d_G_noteMethod_50 : decode prog_3_method_22_code 50 = .ok (.iconst 2, 1) := by decide +kernel
theorem d_G_noteMethod_51 : decode prog_3_method_22_code 51 = .ok (.iadd, 1) := by decide +kernel
theorem d_G_noteMethod_52 : decode prog_3_method_22_code 52 = .ok (.iload_n 2, 1) := by decide +kernel
theorem d_G_noteMethod_53 : decode prog_3_method_22_code 53 = .ok (.ifCond .eq 13, 3) := by decide +kernel
theorem d_G_noteMethod_56 : decode prog_3_method_22_code 56 = .ok (.aload_n 0, 1) := by decide +kernel
theorem d_G_noteMethod_57 : decode prog_3_method_22_code 57 = .ok (.getfield 40, 3) := by decide +kernel
theorem d_G_noteMethod_60 : decode prog_3_method_22_code 60 = .ok (.getfield 215, 3) := by decide +kernel
theorem d_G_noteMethod_63 : decode prog_3_method_22_code 63 = .ok (.goto 4, 3) := by decide +kernel
theorem d_G_noteMethod_66 : decode prog_3_method_22_code 66 = .ok (.iconst 0, 1) := by decide +kernel
theorem d_G_noteMethod_67 : decode prog_3_method_22_code 67 = .ok (.iastore, 1) := by decide +kernel
theorem d_G_noteMethod_68 : decode prog_3_method_22_code 68 = .ok (.aload_n 0, 1) := by decide +kernel
theorem d_G_noteMethod_69 : decode prog_3_method_22_code 69 = .ok (.getfield 13, 3) := by decide +kernel
theorem d_G_noteMethod_72 : decode prog_3_method_22_code 72 = .ok (.iload_n 3, 1) := by decide +kernel
theorem d_G_noteMethod_73 : decode prog_3_method_22_code 73 = .ok (.iconst 3, 1) := by decide +kernel
theorem d_G_noteMethod_74 : decode prog_3_method_22_code 74 = .ok (.iadd, 1) := by decide +kernel
theorem d_G_noteMethod_75 : decode prog_3_method_22_code 75 = .ok (.iload_n 2, 1) := by decide +kernel
theorem d_G_noteMethod_76 : decode prog_3_method_22_code 76 = .ok (.ifCond .eq 13, 3) := by decide +kernel
theorem d_G_noteMethod_79 : decode prog_3_method_22_code 79 = .ok (.aload_n 0, 1) := by decide +kernel
theorem d_G_noteMethod_80 : decode prog_3_method_22_code 80 = .ok (.getfield 40, 3) := by decide +kernel
theorem d_G_noteMethod_83 : decode prog_3_method_22_code 83 = .ok (.getfield 218, 3) := by decide +kernel
theorem d_G_noteMethod_86 : decode prog_3_method_22_code 86 = .ok (.goto 4, 3) := by decide +kernel
theorem d_G_noteMethod_89 : decode prog_3_method_22_code 89 = .ok (.iconst 0, 1) := by decide +kernel
theorem d_G_noteMethod_90 : decode prog_3_method_22_code 90 = .ok (.iastore, 1) := by decide +kernel
theorem d_G_noteMethod_91 : decode prog_3_method_22_code 91 = .ok (.aload_n 0, 1) := by decide +kernel
theorem d_G_noteMethod_92 : decode prog_3_method_22_code 92 = .ok (.getfield 13, 3) := by decide +kernel
theorem d_G_noteMethod_95 : decode prog_3_method_22_code 95 = .ok (.iload_n 3, 1) := by decide +kernel
theorem d_G_noteMethod_96 : decode prog_3_method_22_code 96 = .ok (.iconst 4, 1) := by decide +kernel
theorem d_G_noteMethod_97 : decode prog_3_method_22_code 97 = .ok (.iadd, 1) := by decide +kernel
theorem d_G_noteMethod_98 : decode prog_3_method_22_code 98 = .ok (.iload_n 2, 1) := by decide +kernel
theorem d_G_noteMethod_99 : decode prog_3_method_22_code 99 = .ok (.ifCond .eq 13, 3) := by decide +kernel
theorem d_G_noteMethod_102 : decode prog_3_method_22_code 102 = .ok (.aload_n 0, 1) := by decide +kernel
theorem d_G_noteMethod_103 : decode prog_3_method_22_code 103 = .ok (.getfield 40, 3) := by decide +kernel
theorem d_G_noteMethod_106 : decode prog_3_method_22_code 106 = .ok (.getfield 221, 3) := by decide +kernel
theorem d_G_noteMethod_109 : decode prog_3_method_22_code 109 = .ok (.goto 4, 3) := by decide +kernel
theorem d_G_noteMethod_112 : decode prog_3_method_22_code 112 = .ok (.iconst 0, 1) := by decide +kernel
theorem d_G_noteMethod_113 : decode prog_3_method_22_code 113 = .ok (.iastore, 1) := by decide +kernel
theorem d_G_noteMethod_114 : decode prog_3_method_22_code 114 = .ok (.aload_n 0, 1) := by decide +kernel
theorem d_G_noteMethod_115 : decode prog_3_method_22_code 115 = .ok (.getfield 13, 3) := by decide +kernel
theorem d_G_noteMethod_118 : decode prog_3_method_22_code 118 = .ok (.iload_n 3, 1) := by decide +kernel
theorem d_G_noteMethod_119 : decode prog_3_method_22_code 119 = .ok (.iconst 5, 1) := by decide +kernel
theorem d_G_noteMethod_120 : decode prog_3_method_22_code 120 = .ok (.iadd, 1) := by decide +kernel
theorem d_G_noteMethod_121 : decode prog_3_method_22_code 121 = .ok (.aload_n 0, 1) := by decide +kernel
theorem d_G_noteMethod_122 : decode prog_3_method_22_code 122 = .ok (.getfield 92, 3) := by decide +kernel
theorem d_G_noteMethod_125 : decode prog_3_method_22_code 125 = .ok (.iastore, 1) := by decide +kernel
theorem d_G_noteMethod_126 : decode prog_3_method_22_code 126 = .ok (.iload_n 2, 1) := by decide +kernel
theorem d_G_noteMethod_127 : decode prog_3_method_22_code 127 = .ok (.ifCond .eq 69, 3) := by decide +kernel
theorem d_G_noteMethod_130 : decode prog_3_method_22_code 130 = .ok (.aload_n 0, 1) := by decide +kernel
theorem d_G_noteMethod_131 : decode prog_3_method_22_code 131 = .ok (.getfield 9, 3) := by decide +kernel
theorem d_G_noteMethod_134 : decode prog_3_method_22_code 134 = .ok (.iconst 4, 1) := by decide +kernel
theorem d_G_noteMethod_135 : decode prog_3_method_22_code 135 = .ok (.dup2, 1) := by decide +kernel
theorem d_G_noteMethod_136 : decode prog_3_method_22_code 136 = .ok (.iaload, 1) := by decide +kernel
theorem d_G_noteMethod_137 : decode prog_3_method_22_code 137 = .ok (.aload_n 0, 1) := by decide +kernel
theorem d_G_noteMethod_138 : decode prog_3_method_22_code 138 = .ok (.getfield 40, 3) := by decide +kernel
theorem d_G_noteMethod_141 : decode prog_3_method_22_code 141 = .ok (.getfield 221, 3) := by decide +kernel
theorem d_G_noteMethod_144 : decode prog_3_method_22_code 144 = .ok (.iadd, 1) := by decide +kernel
theorem d_G_noteMethod_145 : decode prog_3_method_22_code 145 = .ok (.iastore, 1) := by decide +kernel
theorem d_G_noteMethod_146 : decode prog_3_method_22_code 146 = .ok (.aload_n 0, 1) := by decide +kernel
theorem d_G_noteMethod_147 : decode prog_3_method_22_code 147 = .ok (.getfield 9, 3) := by decide +kernel
theorem d_G_noteMethod_150 : decode prog_3_method_22_code 150 = .ok (.iconst 5, 1) := by decide +kernel
theorem d_G_noteMethod_151 : decode prog_3_method_22_code 151 = .ok (.dup2, 1) := by decide +kernel
theorem d_G_noteMethod_152 : decode prog_3_method_22_code 152 = .ok (.iaload, 1) := by decide +kernel
theorem d_G_noteMethod_153 : decode prog_3_method_22_code 153 = .ok (.aload_n 0, 1) := by decide +kernel
theorem d_G_noteMethod_154 : decode prog_3_method_22_code 154 = .ok (.getfield 40, 3) := by decide +kernel
theorem d_G_noteMethod_157 : decode prog_3_method_22_code 157 = .ok (.getfield 224, 3) := by decide +kernel
theorem d_G_noteMethod_160 : decode prog_3_method_22_code 160 = .ok (.iadd, 1) := by decide +kernel
theorem d_G_noteMethod_161 : decode prog_3_method_22_code 161 = .ok (.iastore, 1) := by decide +kernel
theorem d_G_noteMethod_162 : decode prog_3_method_22_code 162 = .ok (.aload_n 0, 1) := by decide +kernel
theorem d_G_noteMethod_163 : decode prog_3_method_22_code 163 = .ok (.getfield 9, 3) := by decide +kernel
theorem d_G_noteMethod_166 : decode prog_3_method_22_code 166 = .ok (.bipush 6, 2) := by decide +kernel
theorem d_G_noteMethod_168 : decode prog_3_method_22_code 168 = .ok (.dup2, 1) := by decide +kernel
theorem d_G_noteMethod_169 : decode prog_3_method_22_code 169 = .ok (.iaload, 1) := by decide +kernel
theorem d_G_noteMethod_170 : decode prog_3_method_22_code 170 = .ok (.aload_n 0, 1) := by decide +kernel
theorem d_G_noteMethod_171 : decode prog_3_method_22_code 171 = .ok (.getfield 40, 3) := by decide +kernel
theorem d_G_noteMethod_174 : decode prog_3_method_22_code 174 = .ok (.getfield 227, 3) := by decide +kernel
theorem d_G_noteMethod_177 : decode prog_3_method_22_code 177 = .ok (.iadd, 1) := by decide +kernel
theorem d_G_noteMethod_178 : decode prog_3_method_22_code 178 = .ok (.iastore, 1) := by decide +kernel
theorem d_G_noteMethod_179 : decode prog_3_method_22_code 179 = .ok (.aload_n 0, 1) := by decide +kernel
theorem d_G_noteMethod_180 : decode prog_3_method_22_code 180 = .ok (.getfield 9, 3) := by decide +kernel
theorem d_G_noteMethod_183 : decode prog_3_method_22_code 183 = .ok (.bipush 7, 2) := by decide +kernel
theorem d_G_noteMethod_185 : decode prog_3_method_22_code 185 = .ok (.dup2, 1) := by decide +kernel
theorem d_G_noteMethod_186 : decode prog_3_method_22_code 186 = .ok (.iaload, 1) := by decide +kernel
theorem d_G_noteMethod_187 : decode prog_3_method_22_code 187 = .ok (.aload_n 0, 1) := by decide +kernel
theorem d_G_noteMethod_188 : decode prog_3_method_22_code 188 = .ok (.getfield 40, 3) := by decide +kernel
theorem d_G_noteMethod_191 : decode prog_3_method_22_code 191 = .ok (.getfield 230, 3) := by decide +kernel
theorem d_G_noteMethod_194 : decode prog_3_method_22_code 194 = .ok (.iadd, 1) := by decide +kernel
theorem d_G_noteMethod_195 : decode prog_3_method_22_code 195 = .ok (.iastore, 1) := by decide +kernel
theorem d_G_noteMethod_196 : decode prog_3_method_22_code 196 = .ok (.return_, 1) := by decide +kernel
theorem d_G_attributeOf_0 : decode prog_3_method_16_code 0 = .ok (.aload_n 0, 1) := by decide +kernel
theorem d_G_attributeOf_1 : decode prog_3_method_16_code 1 = .ok (.getfield 31, 3) := by decide +kernel
theorem d_G_attributeOf_4 : decode prog_3_method_16_code 4 = .ok (.iload_n 1, 1) := by decide +kernel
theorem d_G_attributeOf_5 : decode prog_3_method_16_code 5 = .ok (.ldc 197, 2) := by decide +kernel
theorem d_G_attributeOf_7 : decode prog_3_method_16_code 7 = .ok (.invokevirtual 138, 3) := by decide +kernel
theorem d_G_attributeOf_10 : decode prog_3_method_16_code 10 = .ok (.ifCond .eq 5, 3) := by decide +kernel
theorem d_G_attributeOf_13 : decode prog_3_method_16_code 13 = .ok (.iconst 2, 1) := by decide +kernel
theorem d_G_attributeOf_14 : decode prog_3_method_16_code 14 = .ok (.ireturn, 1) := by decide +kernel
theorem d_G_attributeOf_15 : decode prog_3_method_16_code 15 = .ok (.aload_n 0, 1) := by decide +kernel
theorem d_G_attributeOf_16 : decode prog_3_method_16_code 16 = .ok (.getfield 31, 3) := by decide +kernel
theorem d_G_attributeOf_19 : decode prog_3_method_16_code 19 = .ok (.iload_n 1, 1) := by decide +kernel
theorem d_G_attributeOf_20 : decode prog_3_method_16_code 20 = .ok (.ldc 199, 2) := by decide +kernel
theorem d_G_attributeOf_22 : decode prog_3_method_16_code 22 = .ok (.invokevirtual 138, 3) := by decide +kernel
theorem d_G_attributeOf_25 : decode prog_3_method_16_code 25 = .ok (.ifCond .eq 5, 3) := by decide +kernel
theorem d_G_attributeOf_28 : decode prog_3_method_16_code 28 = .ok (.iconst 1, 1) := by decide +kernel
theorem d_G_attributeOf_29 : decode prog_3_method_16_code 29 = .ok (.ireturn, 1) := by decide +kernel
theorem d_G_attributeOf_30 : decode prog_3_method_16_code 30 = .ok (.aload_n 0, 1) := by decide +kernel
theorem d_G_attributeOf_31 : decode prog_3_method_16_code 31 = .ok (.getfield 31, 3) := by decide +kernel
theorem d_G_attributeOf_34 : decode prog_3_method_16_code 34 = .ok (.iload_n 1, 1) := by decide +kernel
theorem d_G_attributeOf_35 : decode prog_3_method_16_code 35 = .ok (.ldc 201, 2) := by decide +kernel
theorem d_G_attributeOf_37 : decode prog_3_method_16_code 37 = .ok (.invokevirtual 138, 3) := by decide +kernel
theorem d_G_attributeOf_40 : decode prog_3_method_16_code 40 = .ok (.ifCond .eq 5, 3) := by decide +kernel
theorem d_G_attributeOf_43 : decode prog_3_method_16_code 43 = .ok (.iconst 4, 1) := by decide +kernel
theorem d_G_attributeOf_44 : decode prog_3_method_16_code 44 = .ok (.ireturn, 1) := by decide +kernel
theorem d_G_attributeOf_45 : decode prog_3_method_16_code 45 = .ok (.aload_n 0, 1) := by decide +kernel
theorem d_G_attributeOf_46 : decode prog_3_method_16_code 46 = .ok (.getfield 31, 3) := by decide +kernel
theorem d_G_attributeOf_49 : decode prog_3_method_16_code 49 = .ok (.iload_n 1, 1) := by decide +kernel
theorem d_G_attributeOf_50 : decode prog_3_method_16_code 50 = .ok (.ldc 203, 2) := by decide +kernel
theorem d_G_attributeOf_52 : decode prog_3_method_16_code 52 = .ok (.invokevirtual 138, 3) := by decide +kernel
theorem d_G_attributeOf_55 : decode prog_3_method_16_code 55 = .ok (.ifCond .eq 8, 3) := by decide +kernel
theorem d_G_attributeOf_58 : decode prog_3_method_16_code 58 = .ok (.bipush 8, 2) := by decide +kernel
theorem d_G_attributeOf_60 : decode prog_3_method_16_code 60 = .ok (.goto 4, 3) := by decide +kernel
theorem d_G_attributeOf_63 : decode prog_3_method_16_code 63 = .ok (.iconst 0, 1) := by decide +kernel
theorem d_G_attributeOf_64 : decode prog_3_method_16_code 64 = .ok (.ireturn, 1) := by decide +kernel
theorem d_G_leastLocals_0 : decode prog_3_method_17_code 0 = .ok (.aload_n 0, 1) := by decide +kernel
theorem d_G_leastLocals_1 : decode prog_3_method_17_code 1 = .ok (.getfield 31, 3) := by decide +kernel
theorem d_G_leastLocals_4 : decode prog_3_method_17_code 4 = .ok (.aload_n 0, 1) := by decide +kernel
theorem d_G_leastLocals_5 : decode prog_3_method_17_code 5 = .ok (.getfield 159, 3) := by decide +kernel
theorem d_G_leastLocals_8 : decode prog_3_method_17_code 8 = .ok (.invokevirtual 145, 3) := by decide +kernel
theorem d_G_leastLocals_11 : decode prog_3_method_17_code 11 = .ok (.aload_n 0, 1) := by decide +kernel
theorem d_G_leastLocals_12 : decode prog_3_method_17_code 12 = .ok (.getfield 79, 3) := by decide +kernel
theorem d_G_leastLocals_15 : decode prog_3_method_17_code 15 = .ok (.bipush 8, 2) := by decide +kernel
theorem d_G_leastLocals_17 : decode prog_3_method_17_code 17 = .ok (.iand, 1) := by decide +kernel
theorem d_G_leastLocals_18 : decode prog_3_method_17_code 18 = .ok (.ifCond .eq 7, 3) := by decide +kernel
theorem d_G_leastLocals_21 : decode prog_3_method_17_code 21 = .ok (.iconst 0, 1) := by decide +kernel
theorem d_G_leastLocals_22 : decode prog_3_method_17_code 22 = .ok (.goto 4, 3) := by decide +kernel
theorem d_G_leastLocals_25 : decode prog_3_method_17_code 25 = .ok (.iconst 1, 1) := by decide +kernel
theorem d_G_leastLocals_26 : decode prog_3_method_17_code 26 = .ok (.iadd, 1) := by decide +kernel
theorem d_G_leastLocals_27 : decode prog_3_method_17_code 27 = .ok (.ireturn, 1) := by decide +kernel
theorem d_G_constantKind_0 : decode prog_3_method_19_code 0 = .ok (.aload_n 0, 1) := by decide +kernel
theorem d_G_constantKind_1 : decode prog_3_method_19_code 1 = .ok (.getfield 31, 3) := by decide +kernel
theorem d_G_constantKind_4 : decode prog_3_method_19_code 4 = .ok (.aload_n 0, 1) := by decide +kernel
theorem d_G_constantKind_5 : decode prog_3_method_19_code 5 = .ok (.getfield 159, 3) := by decide +kernel
theorem d_G_constantKind_8 : decode prog_3_method_19_code 8 = .ok (.ldc 211, 2) := by decide +kernel
theorem d_G_constantKind_10 : decode prog_3_method_19_code 10 = .ok (.invokevirtual 138, 3) := by decide +kernel
theorem d_G_constantKind_13 : decode prog_3_method_19_code 13 = .ok (.ifCond .eq 5, 3) := by decide +kernel
theorem d_G_constantKind_16 : decode prog_3_method_19_code 16 = .ok (.iconst 5, 1) := by decide +kernel
theorem d_G_constantKind_17 : decode prog_3_method_19_code 17 = .ok (.ireturn, 1) := by decide +kernel
theorem d_G_constantKind_18 : decode prog_3_method_19_code 18 = .ok (.aload_n 0, 1) := by decide +kernel
theorem d_G_constantKind_19 : decode prog_3_method_19_code 19 = .ok (.getfield 31, 3) := by decide +kernel
theorem d_G_constantKind_22 : decode prog_3_method_19_code 22 = .ok (.aload_n 0, 1) := by decide +kernel
theorem d_G_constantKind_23 : decode prog_3_method_19_code 23 = .ok (.getfield 159, 3) := by decide +kernel
theorem d_G_constantKind_26 : decode prog_3_method_19_code 26 = .ok (.ldc 213, 2) := by decide +kernel
theorem d_G_constantKind_28 : decode prog_3_method_19_code 28 = .ok (.invokevirtual 138, 3) := by decide +kernel
theorem d_G_constantKind_31 : decode prog_3_method_19_code 31 = .ok (.ifCond .eq 6, 3) := by decide +kernel
theorem d_G_constantKind_34 : decode prog_3_method_19_code 34 = .ok (.bipush 8, 2) := by decide +kernel
theorem d_G_constantKind_36 : decode prog_3_method_19_code 36 = .ok (.ireturn, 1) := by decide +kernel
theorem d_G_constantKind_37 : decode prog_3_method_19_code 37 = .ok (.aload_n 0, 1) := by decide +kernel
theorem d_G_constantKind_38 : decode prog_3_method_19_code 38 = .ok (.getfield 31, 3) := by decide +kernel
theorem d_G_constantKind_41 : decode prog_3_method_19_code 41 = .ok (.aload_n 0, 1) := by decide +kernel
theorem d_G_constantKind_42 : decode prog_3_method_19_code 42 = .ok (.getfield 159, 3) := by decide +kernel
theorem d_G_constantKind_45 : decode prog_3_method_19_code 45 = .ok (.invokevirtual 148, 3) := by decide +kernel
theorem d_G_constantKind_48 : decode prog_3_method_19_code 48 = .ok (.iconst 1, 1) := by decide +kernel
theorem d_G_constantKind_49 : decode prog_3_method_19_code 49 = .ok (.if_icmp .ne 7, 3) := by decide +kernel
theorem d_G_constantKind_52 : decode prog_3_method_19_code 52 = .ok (.iconst 3, 1) := by decide +kernel
theorem d_G_constantKind_53 : decode prog_3_method_19_code 53 = .ok (.goto 4, 3) := by decide +kernel
theorem d_G_constantKind_56 : decode prog_3_method_19_code 56 = .ok (.iconst 0, 1) := by decide +kernel
theorem d_G_constantKind_57 : decode prog_3_method_19_code 57 = .ok (.ireturn, 1) := by decide +kernel
theorem d_G_readConstant_0 : decode prog_3_method_18_code 0 = .ok (.aload_n 0, 1) := by decide +kernel
theorem d_G_readConstant_1 : decode prog_3_method_18_code 1 = .ok (.getfield 22, 3) := by decide +kernel
theorem d_G_readConstant_4 : decode prog_3_method_18_code 4 = .ok (.getfield 106, 3) := by decide +kernel
theorem d_G_readConstant_7 : decode prog_3_method_18_code 7 = .ok (.istore_n 1, 1) := by decide +kernel
theorem d_G_readConstant_8 : decode prog_3_method_18_code 8 = .ok (.aload_n 0, 1) := by decide +kernel
theorem d_G_readConstant_9 : decode prog_3_method_18_code 9 = .ok (.getfield 31, 3) := by decide +kernel
theorem d_G_readConstant_12 : decode prog_3_method_18_code 12 = .ok (.aload_n 0, 1) := by decide +kernel
theorem d_G_readConstant_13 : decode prog_3_method_18_code 13 = .ok (.getfield 22, 3) := by decide +kernel
theorem d_G_readConstant_16 : decode prog_3_method_18_code 16 = .ok (.iconst 2, 1) := by decide +kernel
theorem d_G_readConstant_17 : decode prog_3_method_18_code 17 = .ok (.invokevirtual 118, 3) := by decide +kernel
theorem d_G_readConstant_20 : decode prog_3_method_18_code 20 = .ok (.invokevirtual 205, 3) := by decide +kernel
theorem d_G_readConstant_23 : decode prog_3_method_18_code 23 = .ok (.istore_n 2, 1) := by decide +kernel
theorem d_G_readConstant_24 : decode prog_3_method_18_code 24 = .ok (.aload_n 0, 1) := by decide +kernel
theorem d_G_readConstant_25 : decode prog_3_method_18_code 25 = .ok (.invokevirtual 208, 3) := by decide +kernel
theorem d_G_readConstant_28 : decode prog_3_method_18_code 28 = .ok (.istore_n 3, 1) := by decide +kernel
theorem d_G_readConstant_29 : decode prog_3_method_18_code 29 = .ok (.aload_n 0, 1) := by decide +kernel
theorem d_G_readConstant_30 : decode prog_3_method_18_code 30 = .ok (.getfield 22, 3) := by decide +kernel
theorem d_G_readConstant_33 : decode prog_3_method_18_code 33 = .ok (.iload_n 3, 1) := by decide +kernel
theorem d_G_readConstant_34 : decode prog_3_method_18_code 34 = .ok (.ifCond .eq 12, 3) := by decide +kernel
theorem d_G_readConstant_37 : decode prog_3_method_18_code 37 = .ok (.iload_n 2, 1) := by decide +kernel
theorem d_G_readConstant_38 : decode prog_3_method_18_code 38 = .ok (.iload_n 3, 1) := by decide +kernel
theorem d_G_readConstant_39 : decode prog_3_method_18_code 39 = .ok (.if_icmp .ne 7, 3) := by decide +kernel
theorem d_G_readConstant_42 : decode prog_3_method_18_code 42 = .ok (.iconst 1, 1) := by decide +kernel
theorem d_G_readConstant_43 : decode prog_3_method_18_code 43 = .ok (.goto 4, 3) := by decide +kernel
theorem d_G_readConstant_46 : decode prog_3_method_18_code 46 = .ok (.iconst 0, 1) := by decide +kernel
theorem d_G_readConstant_47 : decode prog_3_method_18_code 47 = .ok (.bipush 8, 2) := by decide +kernel
theorem d_G_readConstant_49 : decode prog_3_method_18_code 49 = .ok (.iload_n 1, 1) := by decide +kernel
theorem d_G_readConstant_50 : decode prog_3_method_18_code 50 = .ok (.invokevirtual 98, 3) := by decide +kernel
theorem d_G_readConstant_53 : decode prog_3_method_18_code 53 = .ok (.return_, 1) := by decide +kernel
theorem d_G_readExceptions_0 : decode prog_3_method_20_code 0 = .ok (.aload_n 0, 1) := by decide +kernel
theorem d_G_readExceptions_1 : decode prog_3_method_20_code 1 = .ok (.aload_n 0, 1) := by decide +kernel
theorem d_G_readExceptions_2 : decode prog_3_method_20_code 2 = .ok (.getfield 22, 3) := by decide +kernel
theorem d_G_readExceptions_5 : decode prog_3_method_20_code 5 = .ok (.iconst 2, 1) := by decide +kernel
theorem d_G_readExceptions_6 : decode prog_3_method_20_code 6 = .ok (.invokevirtual 118, 3) := by decide +kernel
theorem d_G_readExceptions_9 : decode prog_3_method_20_code 9 = .ok (.putfield 92, 3) := by decide +kernel
theorem d_G_readExceptions_12 : decode prog_3_method_20_code 12 = .ok (.iconst 0, 1) := by decide +kernel
theorem d_G_readExceptions_13 : decode prog_3_method_20_code 13 = .ok (.istore_n 1, 1) := by decide +kernel
theorem d_G_readExceptions_14 : decode prog_3_method_20_code 14 = .ok (.iload_n 1, 1) := by decide +kernel
theorem d_G_readExceptions_15 : decode prog_3_method_20_code 15 = .ok (.aload_n 0, 1) := by decide +kernel
theorem d_G_readExceptions_16 : decode prog_3_method_20_code 16 = .ok (.getfield 92, 3) := by decide +kernel
theorem d_G_readExceptions_19 : decode prog_3_method_20_code 19 = .ok (.if_icmp .ge 29, 3) := by decide +kernel
theorem d_G_readExceptions_22 : decode prog_3_method_20_code 22 = .ok (.aload_n 0, 1) := by decide +kernel
theorem d_G_readExceptions_23 : decode prog_3_method_20_code 23 = .ok (.getfield 22, 3) := by decide +kernel
theorem d_G_readExceptions_26 : decode prog_3_method_20_code 26 = .ok (.invokevirtual 68, 3) := by decide +kernel
theorem d_G_readExceptions_29 : decode prog_3_method_20_code 29 = .ok (.ifCond .eq 19, 3) := by decide +kernel
theorem d_G_readExceptions_32 : decode prog_3_method_20_code 32 = .ok (.aload_n 0, 1) := by decide +kernel
theorem d_G_readExceptions_33 : decode prog_3_method_20_code 33 = .ok (.getfield 31, 3) := by decide +kernel
theorem d_G_readExceptions_36 : decode prog_3_method_20_code 36 = .ok (.bipush 7, 2) := by decide +kernel
theorem d_G_readExceptions_38 : decode prog_3_method_20_code 38 = .ok (.invokevirtual 142, 3) := by decide +kernel
theorem d_G_readExceptions_41 : decode prog_3_method_20_code 41 = .ok (.pop, 1) := by decide +kernel
theorem d_G_readExceptions_42 : decode prog_3_method_20_code 42 = .ok (.iinc 1 1, 3) := by decide +kernel
theorem d_G_readExceptions_45 : decode prog_3_method_20_code 45 = .ok (.goto (-31), 3) := by decide +kernel
theorem d_G_readExceptions_48 : decode prog_3_method_20_code 48 = .ok (.return_, 1) := by decide +kernel
theorem d_G_readAttributes_0 : decode prog_3_method_15_code 0 = .ok (.aload_n 0, 1) := by decide +kernel
theorem d_G_readAttributes_1 : decode prog_3_method_15_code 1 = .ok (.getfield 22, 3) := by decide +kernel
theorem d_G_readAttributes_4 : decode prog_3_method_15_code 4 = .ok (.iconst 2, 1) := by decide +kernel
theorem d_G_readAttributes_5 : decode prog_3_method_15_code 5 = .ok (.invokevirtual 118, 3) := by decide +kernel
theorem d_G_readAttributes_8 : decode prog_3_method_15_code 8 = .ok (.istore_n 2, 1) := by decide +kernel
theorem d_G_readAttributes_9 : decode prog_3_method_15_code 9 = .ok (.iconst 0, 1) := by decide +kernel
theorem d_G_readAttributes_10 : decode prog_3_method_15_code 10 = .ok (.istore_n 3, 1) := by decide +kernel
theorem d_G_readAttributes_11 : decode prog_3_method_15_code 11 = .ok (.iconst 0, 1) := by decide +kernel
theorem d_G_readAttributes_12 : decode prog_3_method_15_code 12 = .ok (.istore 4, 2) := by decide +kernel
theorem d_G_readAttributes_14 : decode prog_3_method_15_code 14 = .ok (.iload 4, 2) := by decide +kernel
theorem d_G_readAttributes_16 : decode prog_3_method_15_code 16 = .ok (.iload_n 2, 1) := by decide +kernel
theorem d_G_readAttributes_17 : decode prog_3_method_15_code 17 = .ok (.if_icmp .ge 209, 3) := by decide +kernel
theorem d_G_readAttributes_20 : decode prog_3_method_15_code 20 = .ok (.aload_n 0, 1) := by decide +kernel
theorem d_G_readAttributes_21 : decode prog_3_method_15_code 21 = .ok (.getfield 22, 3) := by decide +kernel
theorem d_G_readAttributes_24 : decode prog_3_method_15_code 24 = .ok (.invokevirtual 68, 3) := by decide +kernel
theorem d_G_readAttributes_27 : decode prog_3_method_15_code 27 = .ok (.ifCond .eq 199, 3) := by decide +kernel
theorem d_G_readAttributes_30 : decode prog_3_method_15_code 30 = .ok (.aload_n 0, 1) := by decide +kernel
theorem d_G_readAttributes_31 : decode prog_3_method_15_code 31 = .ok (.getfield 22, 3) := by decide +kernel
theorem d_G_readAttributes_34 : decode prog_3_method_15_code 34 = .ok (.getfield 106, 3) := by decide +kernel
theorem d_G_readAttributes_37 : decode prog_3_method_15_code 37 = .ok (.istore 5, 2) := by decide +kernel
theorem d_G_readAttributes_39 : decode prog_3_method_15_code 39 = .ok (.aload_n 0, 1) := by decide +kernel
theorem d_G_readAttributes_40 : decode prog_3_method_15_code 40 = .ok (.aload_n 0, 1) := by decide +kernel
theorem d_G_readAttributes_41 : decode prog_3_method_15_code 41 = .ok (.getfield 31, 3) := by decide +kernel
theorem d_G_readAttributes_44 : decode prog_3_method_15_code 44 = .ok (.iconst 1, 1) := by decide +kernel
theorem d_G_readAttributes_45 : decode prog_3_method_15_code 45 = .ok (.invokevirtual 142, 3) := by decide +kernel
theorem d_G_readAttributes_48 : decode prog_3_method_15_code 48 = .ok (.invokevirtual 182, 3) := by decide +kernel
theorem d_G_readAttributes_51 : decode prog_3_method_15_code 51 = .ok (.istore 6, 2) := by decide +kernel
theorem d_G_readAttributes_53 : decode prog_3_method_15_code 53 = .ok (.aload_n 0, 1) := by decide +kernel
theorem d_G_readAttributes_54 : decode prog_3_method_15_code 54 = .ok (.getfield 22, 3) := by decide +kernel
theorem d_G_readAttributes_57 : decode prog_3_method_15_code 57 = .ok (.getfield 106, 3) := by decide +kernel
theorem d_G_readAttributes_60 : decode prog_3_method_15_code 60 = .ok (.istore 7, 2) := by decide +kernel
theorem d_G_readAttributes_62 : decode prog_3_method_15_code 62 = .ok (.aload_n 0, 1) := by decide +kernel
theorem d_G_readAttributes_63 : decode prog_3_method_15_code 63 = .ok (.getfield 22, 3) := by decide +kernel
theorem d_G_readAttributes_66 : decode prog_3_method_15_code 66 = .ok (.iconst 4, 1) := by decide +kernel
theorem d_G_readAttributes_67 : decode prog_3_method_15_code 67 = .ok (.invokevirtual 118, 3) := by decide +kernel
theorem d_G_readAttributes_70 : decode prog_3_method_15_code 70 = .ok (.istore 8, 2) := by decide +kernel
theorem d_G_readAttributes_72 : decode prog_3_method_15_code 72 = .ok (.aload_n 0, 1) := by decide +kernel
theorem d_G_readAttributes_73 : decode prog_3_method_15_code 73 = .ok (.getfield 22, 3) := by decide +kernel
theorem d_G_readAttributes_76 : decode prog_3_method_15_code 76 = .ok (.getfield 106, 3) := by decide +kernel
theorem d_G_readAttributes_79 : decode prog_3_method_15_code 79 = .ok (.istore 9, 2) := by decide +kernel
theorem d_G_readAttributes_81 : decode prog_3_method_15_code 81 = .ok (.aload_n 0, 1) := by decide +kernel
theorem d_G_readAttributes_82 : decode prog_3_method_15_code 82 = .ok (.getfield 22, 3) := by decide +kernel
theorem d_G_readAttributes_85 : decode prog_3_method_15_code 85 = .ok (.iload 6, 2) := by decide +kernel
theorem d_G_readAttributes_87 : decode prog_3_method_15_code 87 = .ok (.iload_n 1, 1) := by decide +kernel
theorem d_G_readAttributes_88 : decode prog_3_method_15_code 88 = .ok (.iand, 1) := by decide +kernel
theorem d_G_readAttributes_89 : decode prog_3_method_15_code 89 = .ok (.iload_n 3, 1) := by decide +kernel
theorem d_G_readAttributes_90 : decode prog_3_method_15_code 90 = .ok (.iconst (-1), 1) := by decide +kernel
theorem d_G_readAttributes_91 : decode prog_3_method_15_code 91 = .ok (.ixor, 1) := by decide +kernel
theorem d_G_readAttributes_92 : decode prog_3_method_15_code 92 = .ok (.iand, 1) := by decide +kernel
theorem d_G_readAttributes_93 : decode prog_3_method_15_code 93 = .ok (.ifCond .eq 7, 3) := by decide +kernel
theorem d_G_readAttributes_96 : decode prog_3_method_15_code 96 = .ok (.iconst 1, 1) := by decide +kernel
theorem d_G_readAttributes_97 : decode prog_3_method_15_code 97 = .ok (.goto 4, 3) := by decide +kernel
theorem d_G_readAttributes_100 : decode prog_3_method_15_code 100 = .ok (.iconst 0, 1) := by decide +kernel
theorem d_G_readAttributes_101 : decode prog_3_method_15_code 101 = .ok (.bipush 19, 2) := by decide +kernel
theorem d_G_readAttributes_103 : decode prog_3_method_15_code 103 = .ok (.iload 5, 2) := by decide +kernel
theorem d_G_readAttributes_105 : decode prog_3_method_15_code 105 = .ok (.invokevirtual 98, 3) := by decide +kernel
theorem d_G_readAttributes_108 : decode prog_3_method_15_code 108 = .ok (.iload_n 3, 1) := by decide +kernel
theorem d_G_readAttributes_109 : decode prog_3_method_15_code 109 = .ok (.iload 6, 2) := by decide +kernel
theorem d_G_readAttributes_111 : decode prog_3_method_15_code 111 = .ok (.ior, 1) := by decide +kernel
theorem d_G_readAttributes_112 : decode prog_3_method_15_code 112 = .ok (.istore_n 3, 1) := by decide +kernel
theorem d_G_readAttributes_113 : decode prog_3_method_15_code 113 = .ok (.iload 6, 2) := by decide +kernel
theorem d_G_readAttributes_115 : decode prog_3_method_15_code 115 = .ok (.iconst 2, 1) := by decide +kernel
theorem d_G_readAttributes_116 : decode prog_3_method_15_code 116 = .ok (.if_icmp .ne 31, 3) := by decide +kernel
theorem d_G_readAttributes_119 : decode prog_3_method_15_code 119 = .ok (.aload_n 0, 1) := by decide +kernel
theorem d_G_readAttributes_120 : decode prog_3_method_15_code 120 = .ok (.getfield 22, 3) := by decide +kernel
theorem d_G_readAttributes_123 : decode prog_3_method_15_code 123 = .ok (.invokevirtual 68, 3) := by decide +kernel
theorem d_G_readAttributes_126 : decode prog_3_method_15_code 126 = .ok (.ifCond .eq 21, 3) := by decide +kernel
theorem d_G_readAttributes_129 : decode prog_3_method_15_code 129 = .ok (.aload_n 0, 1) := by decide +kernel
theorem d_G_readAttributes_130 : decode prog_3_method_15_code 130 = .ok (.getfield 40, 3) := by decide +kernel
theorem d_G_readAttributes_133 : decode prog_3_method_15_code 133 = .ok (.aload_n 0, 1) := by decide +kernel
theorem d_G_readAttributes_134 : decode prog_3_method_15_code 134 = .ok (.getfield 122, 3) := by decide +kernel
theorem d_G_readAttributes_137 : decode prog_3_method_15_code 137 = .ok (.aload_n 0, 1) := by decide +kernel
theorem d_G_readAttributes_138 : decode prog_3_method_15_code 138 = .ok (.invokevirtual 185, 3) := by decide +kernel
theorem d_G_readAttributes_141 : decode prog_3_method_15_code 141 = .ok (.invokevirtual 188, 3) := by decide +kernel
theorem d_G_readAttributes_144 : decode prog_3_method_15_code 144 = .ok (.goto 45, 3) := by decide +kernel
theorem d_G_readAttributes_147 : decode prog_3_method_15_code 147 = .ok (.iload 6, 2) := by decide +kernel
theorem d_G_readAttributes_149 : decode prog_3_method_15_code 149 = .ok (.iconst 1, 1) := by decide +kernel
theorem d_G_readAttributes_150 : decode prog_3_method_15_code 150 = .ok (.if_icmp .ne 10, 3) := by decide +kernel
theorem d_G_readAttributes_153 : decode prog_3_method_15_code 153 = .ok (.aload_n 0, 1) := by decide +kernel
theorem d_G_readAttributes_154 : decode prog_3_method_15_code 154 = .ok (.invokevirtual 191, 3) := by decide +kernel
theorem d_G_readAttributes_157 : decode prog_3_method_15_code 157 = .ok (.goto 32, 3) := by decide +kernel
theorem d_G_readAttributes_160 : decode prog_3_method_15_code 160 = .ok (.iload 6, 2) := by decide +kernel
theorem d_G_readAttributes_162 : decode prog_3_method_15_code 162 = .ok (.iconst 4, 1) := by decide +kernel
theorem d_G_readAttributes_163 : decode prog_3_method_15_code 163 = .ok (.if_icmp .ne 10, 3) := by decide +kernel
theorem d_G_readAttributes_166 : decode prog_3_method_15_code 166 = .ok (.aload_n 0, 1) := by decide +kernel
theorem d_G_readAttributes_167 : decode prog_3_method_15_code 167 = .ok (.invokevirtual 194, 3) := by decide +kernel
theorem d_G_readAttributes_170 : decode prog_3_method_15_code 170 = .ok (.goto 19, 3) := by decide +kernel
theorem d_G_readAttributes_173 : decode prog_3_method_15_code 173 = .ok (.iload 6, 2) := by decide +kernel
theorem d_G_readAttributes_175 : decode prog_3_method_15_code 175 = .ok (.bipush 8, 2) := by decide +kernel
theorem d_G_readAttributes_177 : decode prog_3_method_15_code 177 = .ok (.if_icmp .ne 12, 3) := by decide +kernel
theorem d_G_readAttributes_180 : decode prog_3_method_15_code 180 = .ok (.aload_n 0, 1) := by decide +kernel
theorem d_G_readAttributes_181 : decode prog_3_method_15_code 181 = .ok (.getfield 31, 3) := by decide +kernel
theorem d_G_readAttributes_184 : decode prog_3_method_15_code 184 = .ok (.iconst 1, 1) := by decide +kernel
theorem d_G_readAttributes_185 : decode prog_3_method_15_code 185 = .ok (.invokevirtual 142, 3) := by decide +kernel
theorem d_G_readAttributes_188 : decode prog_3_method_15_code 188 = .ok (.pop, 1) := by decide +kernel
theorem d_G_readAttributes_189 : decode prog_3_method_15_code 189 = .ok (.aload_n 0, 1) := by decide +kernel
theorem d_G_readAttributes_190 : decode prog_3_method_15_code 190 = .ok (.getfield 22, 3) := by decide +kernel
theorem d_G_readAttributes_193 : decode prog_3_method_15_code 193 = .ok (.aload_n 0, 1) := by decide +kernel
theorem d_G_readAttributes_194 : decode prog_3_method_15_code 194 = .ok (.getfield 22, 3) := by decide +kernel
theorem d_G_readAttributes_197 : decode prog_3_method_15_code 197 = .ok (.getfield 106, 3) := by decide +kernel
theorem d_G_readAttributes_200 : decode prog_3_method_15_code 200 = .ok (.iload 9, 2) := by decide +kernel
theorem d_G_readAttributes_202 : decode prog_3_method_15_code 202 = .ok (.isub, 1) := by decide +kernel
theorem d_G_readAttributes_203 : decode prog_3_method_15_code 203 = .ok (.iload 8, 2) := by decide +kernel
theorem d_G_readAttributes_205 : decode prog_3_method_15_code 205 = .ok (.if_icmp .ne 7, 3) := by decide +kernel
theorem d_G_readAttributes_208 : decode prog_3_method_15_code 208 = .ok (.iconst 1, 1) := by decide +kernel
theorem d_G_readAttributes_209 : decode prog_3_method_15_code 209 = .ok (.goto 4, 3) := by decide +kernel
theorem d_G_readAttributes_212 : decode prog_3_method_15_code 212 = .ok (.iconst 0, 1) := by decide +kernel
theorem d_G_readAttributes_213 : decode prog_3_method_15_code 213 = .ok (.bipush 18, 2) := by decide +kernel
theorem d_G_readAttributes_215 : decode prog_3_method_15_code 215 = .ok (.iload 7, 2) := by decide +kernel
theorem d_G_readAttributes_217 : decode prog_3_method_15_code 217 = .ok (.invokevirtual 98, 3) := by decide +kernel
theorem d_G_readAttributes_220 : decode prog_3_method_15_code 220 = .ok (.iinc 4 1, 3) := by decide +kernel
theorem d_G_readAttributes_223 : decode prog_3_method_15_code 223 = .ok (.goto (-209), 3) := by decide +kernel
theorem d_G_readAttributes_226 : decode prog_3_method_15_code 226 = .ok (.iload_n 3, 1) := by decide +kernel
theorem d_G_readAttributes_227 : decode prog_3_method_15_code 227 = .ok (.ireturn, 1) := by decide +kernel
theorem d_G_classFlagsHold_0 : decode prog_3_method_6_code 0 = .ok (.iload_n 0, 1) := by decide +kernel
theorem d_G_classFlagsHold_1 : decode prog_3_method_6_code 1 = .ok (.sipush (-1586), 3) := by decide +kernel
theorem d_G_classFlagsHold_4 : decode prog_3_method_6_code 4 = .ok (.iand, 1) := by decide +kernel
theorem d_G_classFlagsHold_5 : decode prog_3_method_6_code 5 = .ok (.ifCond .eq 5, 3) := by decide +kernel
theorem d_G_classFlagsHold_8 : decode prog_3_method_6_code 8 = .ok (.iconst 0, 1) := by decide +kernel
theorem d_G_classFlagsHold_9 : decode prog_3_method_6_code 9 = .ok (.ireturn, 1) := by decide +kernel
theorem d_G_classFlagsHold_10 : decode prog_3_method_6_code 10 = .ok (.iload_n 0, 1) := by decide +kernel
theorem d_G_classFlagsHold_11 : decode prog_3_method_6_code 11 = .ok (.sipush 512, 3) := by decide +kernel
theorem d_G_classFlagsHold_14 : decode prog_3_method_6_code 14 = .ok (.iand, 1) := by decide +kernel
theorem d_G_classFlagsHold_15 : decode prog_3_method_6_code 15 = .ok (.ifCond .eq 20, 3) := by decide +kernel
theorem d_G_classFlagsHold_18 : decode prog_3_method_6_code 18 = .ok (.iload_n 0, 1) := by decide +kernel
theorem d_G_classFlagsHold_19 : decode prog_3_method_6_code 19 = .ok (.sipush 1072, 3) := by decide +kernel
theorem d_G_classFlagsHold_22 : decode prog_3_method_6_code 22 = .ok (.iand, 1) := by decide +kernel
theorem d_G_classFlagsHold_23 : decode prog_3_method_6_code 23 = .ok (.sipush 1024, 3) := by decide +kernel
theorem d_G_classFlagsHold_26 : decode prog_3_method_6_code 26 = .ok (.if_icmp .ne 7, 3) := by decide +kernel
theorem d_G_classFlagsHold_29 : decode prog_3_method_6_code 29 = .ok (.iconst 1, 1) := by decide +kernel
theorem d_G_classFlagsHold_30 : decode prog_3_method_6_code 30 = .ok (.goto 4, 3) := by decide +kernel
theorem d_G_classFlagsHold_33 : decode prog_3_method_6_code 33 = .ok (.iconst 0, 1) := by decide +kernel
theorem d_G_classFlagsHold_34 : decode prog_3_method_6_code 34 = .ok (.ireturn, 1) := by decide +kernel
theorem d_G_classFlagsHold_35 : decode prog_3_method_6_code 35 = .ok (.iload_n 0, 1) := by decide +kernel
theorem d_G_classFlagsHold_36 : decode prog_3_method_6_code 36 = .ok (.sipush 1040, 3) := by decide +kernel
theorem d_G_classFlagsHold_39 : decode prog_3_method_6_code 39 = .ok (.iand, 1) := by decide +kernel
theorem d_G_classFlagsHold_40 : decode prog_3_method_6_code 40 = .ok (.sipush 1040, 3) := by decide +kernel
theorem d_G_classFlagsHold_43 : decode prog_3_method_6_code 43 = .ok (.if_icmp .eq 7, 3) := by decide +kernel
theorem d_G_classFlagsHold_46 : decode prog_3_method_6_code 46 = .ok (.iconst 1, 1) := by decide +kernel
theorem d_G_classFlagsHold_47 : decode prog_3_method_6_code 47 = .ok (.goto 4, 3) := by decide +kernel
theorem d_G_classFlagsHold_50 : decode prog_3_method_6_code 50 = .ok (.iconst 0, 1) := by decide +kernel
theorem d_G_classFlagsHold_51 : decode prog_3_method_6_code 51 = .ok (.ireturn, 1) := by decide +kernel
theorem d_G_takeClassText_0 : decode prog_3_method_7_code 0 = .ok (.aload_n 0, 1) := by decide +kernel
theorem d_G_takeClassText_1 : decode prog_3_method_7_code 1 = .ok (.getfield 22, 3) := by decide +kernel
theorem d_G_takeClassText_4 : decode prog_3_method_7_code 4 = .ok (.getfield 106, 3) := by decide +kernel
theorem d_G_takeClassText_7 : decode prog_3_method_7_code 7 = .ok (.istore_n 1, 1) := by decide +kernel
theorem d_G_takeClassText_8 : decode prog_3_method_7_code 8 = .ok (.aload_n 0, 1) := by decide +kernel
theorem d_G_takeClassText_9 : decode prog_3_method_7_code 9 = .ok (.getfield 31, 3) := by decide +kernel
theorem d_G_takeClassText_12 : decode prog_3_method_7_code 12 = .ok (.bipush 7, 2) := by decide +kernel
theorem d_G_takeClassText_14 : decode prog_3_method_7_code 14 = .ok (.invokevirtual 142, 3) := by decide +kernel
theorem d_G_takeClassText_17 : decode prog_3_method_7_code 17 = .ok (.istore_n 2, 1) := by decide +kernel
theorem d_G_takeClassText_18 : decode prog_3_method_7_code 18 = .ok (.aload_n 0, 1) := by decide +kernel
theorem d_G_takeClassText_19 : decode prog_3_method_7_code 19 = .ok (.getfield 22, 3) := by decide +kernel
theorem d_G_takeClassText_22 : decode prog_3_method_7_code 22 = .ok (.aload_n 0, 1) := by decide +kernel
theorem d_G_takeClassText_23 : decode prog_3_method_7_code 23 = .ok (.getfield 31, 3) := by decide +kernel
theorem d_G_takeClassText_26 : decode prog_3_method_7_code 26 = .ok (.iload_n 2, 1) := by decide +kernel
theorem d_G_takeClassText_27 : decode prog_3_method_7_code 27 = .ok (.invokevirtual 145, 3) := by decide +kernel
theorem d_G_takeClassText_30 : decode prog_3_method_7_code 30 = .ok (.ifCond .ne 7, 3) := by decide +kernel
theorem d_G_takeClassText_33 : decode prog_3_method_7_code 33 = .ok (.iconst 1, 1) := by decide +kernel
theorem d_G_takeClassText_34 : decode prog_3_method_7_code 34 = .ok (.goto 4, 3) := by decide +kernel
theorem d_G_takeClassText_37 : decode prog_3_method_7_code 37 = .ok (.iconst 0, 1) := by decide +kernel
theorem d_G_takeClassText_38 : decode prog_3_method_7_code 38 = .ok (.bipush 9, 2) := by decide +kernel
theorem d_G_takeClassText_40 : decode prog_3_method_7_code 40 = .ok (.iload_n 1, 1) := by decide +kernel
theorem d_G_takeClassText_41 : decode prog_3_method_7_code 41 = .ok (.invokevirtual 98, 3) := by decide +kernel
theorem d_G_takeClassText_44 : decode prog_3_method_7_code 44 = .ok (.aload_n 0, 1) := by decide +kernel
theorem d_G_takeClassText_45 : decode prog_3_method_7_code 45 = .ok (.getfield 31, 3) := by decide +kernel
theorem d_G_takeClassText_48 : decode prog_3_method_7_code 48 = .ok (.iload_n 2, 1) := by decide +kernel
theorem d_G_takeClassText_49 : decode prog_3_method_7_code 49 = .ok (.invokevirtual 148, 3) := by decide +kernel
theorem d_G_takeClassText_52 : decode prog_3_method_7_code 52 = .ok (.ireturn, 1) := by decide +kernel
theorem d_G_readClass_0 : decode prog_3_method_5_code 0 = .ok (.aload_n 0, 1) := by decide +kernel
theorem d_G_readClass_1 : decode prog_3_method_5_code 1 = .ok (.getfield 22, 3) := by decide +kernel
theorem d_G_readClass_4 : decode prog_3_method_5_code 4 = .ok (.getfield 106, 3) := by decide +kernel
theorem d_G_readClass_7 : decode prog_3_method_5_code 7 = .ok (.istore_n 1, 1) := by decide +kernel
theorem d_G_readClass_8 : decode prog_3_method_5_code 8 = .ok (.aload_n 0, 1) := by decide +kernel
theorem d_G_readClass_9 : decode prog_3_method_5_code 9 = .ok (.aload_n 0, 1) := by decide +kernel
theorem d_G_readClass_10 : decode prog_3_method_5_code 10 = .ok (.getfield 22, 3) := by decide +kernel
theorem d_G_readClass_13 : decode prog_3_method_5_code 13 = .ok (.iconst 2, 1) := by decide +kernel
theorem d_G_readClass_14 : decode prog_3_method_5_code 14 = .ok (.invokevirtual 118, 3) := by decide +kernel
theorem d_G_readClass_17 : decode prog_3_method_5_code 17 = .ok (.putfield 115, 3) := by decide +kernel
theorem d_G_readClass_20 : decode prog_3_method_5_code 20 = .ok (.aload_n 0, 1) := by decide +kernel
theorem d_G_readClass_21 : decode prog_3_method_5_code 21 = .ok (.getfield 22, 3) := by decide +kernel
theorem d_G_readClass_24 : decode prog_3_method_5_code 24 = .ok (.aload_n 0, 1) := by decide +kernel
theorem d_G_readClass_25 : decode prog_3_method_5_code 25 = .ok (.getfield 115, 3) := by decide +kernel
theorem d_G_readClass_28 : decode prog_3_method_5_code 28 = .ok (.invokestatic 125, 3) := by decide +kernel
theorem d_G_readClass_31 : decode prog_3_method_5_code 31 = .ok (.bipush 13, 2) := by decide +kernel
theorem d_G_readClass_33 : decode prog_3_method_5_code 33 = .ok (.iload_n 1, 1) := by decide +kernel
theorem d_G_readClass_34 : decode prog_3_method_5_code 34 = .ok (.invokevirtual 98, 3) := by decide +kernel
theorem d_G_readClass_37 : decode prog_3_method_5_code 37 = .ok (.aload_n 0, 1) := by decide +kernel
theorem d_G_readClass_38 : decode prog_3_method_5_code 38 = .ok (.invokevirtual 129, 3) := by decide +kernel
theorem d_G_readClass_41 : decode prog_3_method_5_code 41 = .ok (.istore_n 2, 1) := by decide +kernel
theorem d_G_readClass_42 : decode prog_3_method_5_code 42 = .ok (.aload_n 0, 1) := by decide +kernel
theorem d_G_readClass_43 : decode prog_3_method_5_code 43 = .ok (.getfield 22, 3) := by decide +kernel
theorem d_G_readClass_46 : decode prog_3_method_5_code 46 = .ok (.getfield 106, 3) := by decide +kernel
theorem d_G_readClass_49 : decode prog_3_method_5_code 49 = .ok (.istore_n 1, 1) := by decide +kernel
theorem d_G_readClass_50 : decode prog_3_method_5_code 50 = .ok (.aload_n 0, 1) := by decide +kernel
theorem d_G_readClass_51 : decode prog_3_method_5_code 51 = .ok (.invokevirtual 129, 3) := by decide +kernel
theorem d_G_readClass_54 : decode prog_3_method_5_code 54 = .ok (.istore_n 3, 1) := by decide +kernel
theorem d_G_readClass_55 : decode prog_3_method_5_code 55 = .ok (.aload_n 0, 1) := by decide +kernel
theorem d_G_readClass_56 : decode prog_3_method_5_code 56 = .ok (.getfield 22, 3) := by decide +kernel
theorem d_G_readClass_59 : decode prog_3_method_5_code 59 = .ok (.aload_n 0, 1) := by decide +kernel
theorem d_G_readClass_60 : decode prog_3_method_5_code 60 = .ok (.getfield 31, 3) := by decide +kernel
theorem d_G_readClass_63 : decode prog_3_method_5_code 63 = .ok (.iload_n 2, 1) := by decide +kernel
theorem d_G_readClass_64 : decode prog_3_method_5_code 64 = .ok (.iload_n 3, 1) := by decide +kernel
theorem d_G_readClass_65 : decode prog_3_method_5_code 65 = .ok (.invokevirtual 133, 3) := by decide +kernel
theorem d_G_readClass_68 : decode prog_3_method_5_code 68 = .ok (.ifCond .ne 7, 3) := by decide +kernel
theorem d_G_readClass_71 : decode prog_3_method_5_code 71 = .ok (.iconst 1, 1) := by decide +kernel
theorem d_G_readClass_72 : decode prog_3_method_5_code 72 = .ok (.goto 4, 3) := by decide +kernel
theorem d_G_readClass_75 : decode prog_3_method_5_code 75 = .ok (.iconst 0, 1) := by decide +kernel
theorem d_G_readClass_76 : decode prog_3_method_5_code 76 = .ok (.bipush 14, 2) := by decide +kernel
theorem d_G_readClass_78 : decode prog_3_method_5_code 78 = .ok (.iload_n 1, 1) := by decide +kernel
theorem d_G_readClass_79 : decode prog_3_method_5_code 79 = .ok (.invokevirtual 98, 3) := by decide +kernel
theorem d_G_readClass_82 : decode prog_3_method_5_code 82 = .ok (.aload_n 0, 1) := by decide +kernel
theorem d_G_readClass_83 : decode prog_3_method_5_code 83 = .ok (.getfield 115, 3) := by decide +kernel
theorem d_G_readClass_86 : decode prog_3_method_5_code 86 = .ok (.sipush 512, 3) := by decide +kernel
theorem d_G_readClass_89 : decode prog_3_method_5_code 89 = .ok (.iand, 1) := by decide +kernel
theorem d_G_readClass_90 : decode prog_3_method_5_code 90 = .ok (.ifCond .ne 7, 3) := by decide +kernel
theorem d_G_readClass_93 : decode prog_3_method_5_code 93 = .ok (.iconst 1, 1) := by decide +kernel
theorem d_G_readClass_94 : decode prog_3_method_5_code 94 = .ok (.goto 4, 3) := by decide +kernel
theorem d_G_readClass_97 : decode prog_3_method_5_code 97 = .ok (.iconst 0, 1) := by decide +kernel
theorem d_G_readClass_98 : decode prog_3_method_5_code 98 = .ok (.istore 4, 2) := by decide +kernel
theorem d_G_readClass_100 : decode prog_3_method_5_code 100 = .ok (.aload_n 0, 1) := by decide +kernel
theorem d_G_readClass_101 : decode prog_3_method_5_code 101 = .ok (.getfield 22, 3) := by decide +kernel
theorem d_G_readClass_104 : decode prog_3_method_5_code 104 = .ok (.iload 4, 2) := by decide +kernel
theorem d_G_readClass_106 : decode prog_3_method_5_code 106 = .ok (.ifCond .ne 16, 3) := by decide +kernel
theorem d_G_readClass_109 : decode prog_3_method_5_code 109 = .ok (.aload_n 0, 1) := by decide +kernel
theorem d_G_readClass_110 : decode prog_3_method_5_code 110 = .ok (.getfield 31, 3) := by decide +kernel
theorem d_G_readClass_113 : decode prog_3_method_5_code 113 = .ok (.iload_n 3, 1) := by decide +kernel
theorem d_G_readClass_114 : decode prog_3_method_5_code 114 = .ok (.ldc 137, 2) := by decide +kernel
theorem d_G_readClass_116 : decode prog_3_method_5_code 116 = .ok (.invokevirtual 138, 3) := by decide +kernel
theorem d_G_readClass_119 : decode prog_3_method_5_code 119 = .ok (.ifCond .eq 7, 3) := by decide +kernel
theorem d_G_readClass_122 : decode prog_3_method_5_code 122 = .ok (.iconst 1, 1) := by decide +kernel
theorem d_G_readClass_123 : decode prog_3_method_5_code 123 = .ok (.goto 4, 3) := by decide +kernel
theorem d_G_readClass_126 : decode prog_3_method_5_code 126 = .ok (.iconst 0, 1) := by decide +kernel
theorem d_G_readClass_127 : decode prog_3_method_5_code 127 = .ok (.bipush 14, 2) := by decide +kernel
theorem d_G_readClass_129 : decode prog_3_method_5_code 129 = .ok (.iload_n 1, 1) := by decide +kernel
theorem d_G_readClass_130 : decode prog_3_method_5_code 130 = .ok (.invokevirtual 98, 3) := by decide +kernel
theorem d_G_readClass_133 : decode prog_3_method_5_code 133 = .ok (.return_, 1) := by decide +kernel
theorem d_G_readCount_0 : decode prog_3_method_4_code 0 = .ok (.aload_n 0, 1) := by decide +kernel
theorem d_G_readCount_1 : decode prog_3_method_4_code 1 = .ok (.getfield 22, 3) := by decide +kernel
theorem d_G_readCount_4 : decode prog_3_method_4_code 4 = .ok (.getfield 106, 3) := by decide +kernel
theorem d_G_readCount_7 : decode prog_3_method_4_code 7 = .ok (.istore_n 2, 1) := by decide +kernel
theorem d_G_readCount_8 : decode prog_3_method_4_code 8 = .ok (.aload_n 0, 1) := by decide +kernel
theorem d_G_readCount_9 : decode prog_3_method_4_code 9 = .ok (.getfield 22, 3) := by decide +kernel
theorem d_G_readCount_12 : decode prog_3_method_4_code 12 = .ok (.iconst 2, 1) := by decide +kernel
theorem d_G_readCount_13 : decode prog_3_method_4_code 13 = .ok (.invokevirtual 118, 3) := by decide +kernel
theorem d_G_readCount_16 : decode prog_3_method_4_code 16 = .ok (.istore_n 3, 1) := by decide +kernel
theorem d_G_readCount_17 : decode prog_3_method_4_code 17 = .ok (.aload_n 0, 1) := by decide +kernel
theorem d_G_readCount_18 : decode prog_3_method_4_code 18 = .ok (.getfield 22, 3) := by decide +kernel
theorem d_G_readCount_21 : decode prog_3_method_4_code 21 = .ok (.iload_n 3, 1) := by decide +kernel
theorem d_G_readCount_22 : decode prog_3_method_4_code 22 = .ok (.iload_n 1, 1) := by decide +kernel
theorem d_G_readCount_23 : decode prog_3_method_4_code 23 = .ok (.if_icmp .gt 7, 3) := by decide +kernel
theorem d_G_readCount_26 : decode prog_3_method_4_code 26 = .ok (.iconst 1, 1) := by decide +kernel
theorem d_G_readCount_27 : decode prog_3_method_4_code 27 = .ok (.goto 4, 3) := by decide +kernel
theorem d_G_readCount_30 : decode prog_3_method_4_code 30 = .ok (.iconst 0, 1) := by decide +kernel
theorem d_G_readCount_31 : decode prog_3_method_4_code 31 = .ok (.bipush 15, 2) := by decide +kernel
theorem d_G_readCount_33 : decode prog_3_method_4_code 33 = .ok (.iload_n 2, 1) := by decide +kernel
theorem d_G_readCount_34 : decode prog_3_method_4_code 34 = .ok (.invokevirtual 98, 3) := by decide +kernel
theorem d_G_readCount_37 : decode prog_3_method_4_code 37 = .ok (.aload_n 0, 1) := by decide +kernel
theorem d_G_readCount_38 : decode prog_3_method_4_code 38 = .ok (.getfield 22, 3) := by decide +kernel
theorem d_G_readCount_41 : decode prog_3_method_4_code 41 = .ok (.invokevirtual 68, 3) := by decide +kernel
theorem d_G_readCount_44 : decode prog_3_method_4_code 44 = .ok (.ifCond .eq 7, 3) := by decide +kernel
theorem d_G_readCount_47 : decode prog_3_method_4_code 47 = .ok (.iload_n 3, 1) := by decide +kernel
theorem d_G_readCount_48 : decode prog_3_method_4_code 48 = .ok (.goto 4, 3) := by decide +kernel
theorem d_G_readCount_51 : decode prog_3_method_4_code 51 = .ok (.iconst 0, 1) := by decide +kernel
theorem d_G_readCount_52 : decode prog_3_method_4_code 52 = .ok (.ireturn, 1) := by decide +kernel
theorem d_G_addMember_0 : decode prog_3_method_14_code 0 = .ok (.iload_n 1, 1) := by decide +kernel
theorem d_G_addMember_1 : decode prog_3_method_14_code 1 = .ok (.ifCond .lt 9, 3) := by decide +kernel
theorem d_G_addMember_4 : decode prog_3_method_14_code 4 = .ok (.iload_n 1, 1) := by decide +kernel
theorem d_G_addMember_5 : decode prog_3_method_14_code 5 = .ok (.bipush 60, 2) := by decide +kernel
theorem d_G_addMember_7 : decode prog_3_method_14_code 7 = .ok (.if_icmp .lt 4, 3) := by decide +kernel
theorem d_G_addMember_10 : decode prog_3_method_14_code 10 = .ok (.return_, 1) := by decide +kernel
theorem d_G_addMember_11 : decode prog_3_method_14_code 11 = .ok (.iconst 0, 1) := by decide +kernel
theorem d_G_addMember_12 : decode prog_3_method_14_code 12 = .ok (.istore_n 3, 1) := by decide +kernel
theorem d_G_addMember_13 : decode prog_3_method_14_code 13 = .ok (.iload_n 3, 1) := by decide +kernel
theorem d_G_addMember_14 : decode prog_3_method_14_code 14 = .ok (.iload_n 1, 1) := by decide +kernel
theorem d_G_addMember_15 : decode prog_3_method_14_code 15 = .ok (.if_icmp .ge 86, 3) := by decide +kernel
theorem d_G_addMember_18 : decode prog_3_method_14_code 18 = .ok (.aload_n 0, 1) := by decide +kernel
theorem d_G_addMember_19 : decode prog_3_method_14_code 19 = .ok (.getfield 22, 3) := by decide +kernel
theorem d_G_addMember_22 : decode prog_3_method_14_code 22 = .ok (.invokevirtual 68, 3) := by decide +kernel
theorem d_G_addMember_25 : decode prog_3_method_14_code 25 = .ok (.ifCond .eq 76, 3) := by decide +kernel
theorem d_G_addMember_28 : decode prog_3_method_14_code 28 = .ok (.aload_n 0, 1) := by decide +kernel
theorem d_G_addMember_29 : decode prog_3_method_14_code 29 = .ok (.getfield 31, 3) := by decide +kernel
theorem d_G_addMember_32 : decode prog_3_method_14_code 32 = .ok (.aload_n 0, 1) := by decide +kernel
theorem d_G_addMember_33 : decode prog_3_method_14_code 33 = .ok (.getfield 16, 3) := by decide +kernel
theorem d_G_addMember_36 : decode prog_3_method_14_code 36 = .ok (.iload_n 3, 1) := by decide +kernel
theorem d_G_addMember_37 : decode prog_3_method_14_code 37 = .ok (.iaload, 1) := by decide +kernel
theorem d_G_addMember_38 : decode prog_3_method_14_code 38 = .ok (.iload_n 2, 1) := by decide +kernel
theorem d_G_addMember_39 : decode prog_3_method_14_code 39 = .ok (.invokevirtual 133, 3) := by decide +kernel
theorem d_G_addMember_42 : decode prog_3_method_14_code 42 = .ok (.ifCond .eq 27, 3) := by decide +kernel
theorem d_G_addMember_45 : decode prog_3_method_14_code 45 = .ok (.aload_n 0, 1) := by decide +kernel
theorem d_G_addMember_46 : decode prog_3_method_14_code 46 = .ok (.getfield 31, 3) := by decide +kernel
theorem d_G_addMember_49 : decode prog_3_method_14_code 49 = .ok (.aload_n 0, 1) := by decide +kernel
theorem d_G_addMember_50 : decode prog_3_method_14_code 50 = .ok (.getfield 19, 3) := by decide +kernel
theorem d_G_addMember_53 : decode prog_3_method_14_code 53 = .ok (.iload_n 3, 1) := by decide +kernel
theorem d_G_addMember_54 : decode prog_3_method_14_code 54 = .ok (.iaload, 1) := by decide +kernel
theorem d_G_addMember_55 : decode prog_3_method_14_code 55 = .ok (.aload_n 0, 1) := by decide +kernel
theorem d_G_addMember_56 : decode prog_3_method_14_code 56 = .ok (.getfield 159, 3) := by decide +kernel
theorem d_G_addMember_59 : decode prog_3_method_14_code 59 = .ok (.invokevirtual 133, 3) := by decide +kernel
theorem d_G_addMember_62 : decode prog_3_method_14_code 62 = .ok (.ifCond .eq 7, 3) := by decide +kernel
theorem d_G_addMember_65 : decode prog_3_method_14_code 65 = .ok (.iconst 1, 1) := by decide +kernel
theorem d_G_addMember_66 : decode prog_3_method_14_code 66 = .ok (.goto 4, 3) := by decide +kernel
theorem d_G_addMember_69 : decode prog_3_method_14_code 69 = .ok (.iconst 0, 1) := by decide +kernel
theorem d_G_addMember_70 : decode prog_3_method_14_code 70 = .ok (.istore 4, 2) := by decide +kernel
theorem d_G_addMember_72 : decode prog_3_method_14_code 72 = .ok (.aload_n 0, 1) := by decide +kernel
theorem d_G_addMember_73 : decode prog_3_method_14_code 73 = .ok (.getfield 22, 3) := by decide +kernel
theorem d_G_addMember_76 : decode prog_3_method_14_code 76 = .ok (.iload 4, 2) := by decide +kernel
theorem d_G_addMember_78 : decode prog_3_method_14_code 78 = .ok (.ifCond .ne 7, 3) := by decide +kernel
theorem d_G_addMember_81 : decode prog_3_method_14_code 81 = .ok (.iconst 1, 1) := by decide +kernel
theorem d_G_addMember_82 : decode prog_3_method_14_code 82 = .ok (.goto 4, 3) := by decide +kernel
theorem d_G_addMember_85 : decode prog_3_method_14_code 85 = .ok (.iconst 0, 1) := by decide +kernel
theorem d_G_addMember_86 : decode prog_3_method_14_code 86 = .ok (.bipush 16, 2) := by decide +kernel
theorem d_G_addMember_88 : decode prog_3_method_14_code 88 = .ok (.aload_n 0, 1) := by decide +kernel
theorem d_G_addMember_89 : decode prog_3_method_14_code 89 = .ok (.getfield 95, 3) := by decide +kernel
theorem d_G_addMember_92 : decode prog_3_method_14_code 92 = .ok (.invokevirtual 98, 3) := by decide +kernel
theorem d_G_addMember_95 : decode prog_3_method_14_code 95 = .ok (.iinc 3 1, 3) := by decide +kernel
theorem d_G_addMember_98 : decode prog_3_method_14_code 98 = .ok (.goto (-85), 3) := by decide +kernel
theorem d_G_addMember_101 : decode prog_3_method_14_code 101 = .ok (.aload_n 0, 1) := by decide +kernel
theorem d_G_addMember_102 : decode prog_3_method_14_code 102 = .ok (.getfield 16, 3) := by decide +kernel
theorem d_G_addMember_105 : decode prog_3_method_14_code 105 = .ok (.iload_n 1, 1) := by decide +kernel
theorem d_G_addMember_106 : decode prog_3_method_14_code 106 = .ok (.iload_n 2, 1) := by decide +kernel
theorem d_G_addMember_107 : decode prog_3_method_14_code 107 = .ok (.iastore, 1) := by decide +kernel
theorem d_G_addMember_108 : decode prog_3_method_14_code 108 = .ok (.aload_n 0, 1) := by decide +kernel
theorem d_G_addMember_109 : decode prog_3_method_14_code 109 = .ok (.getfield 19, 3) := by decide +kernel
theorem d_G_addMember_112 : decode prog_3_method_14_code 112 = .ok (.iload_n 1, 1) := by decide +kernel
theorem d_G_addMember_113 : decode prog_3_method_14_code 113 = .ok (.aload_n 0, 1) := by decide +kernel
theorem d_G_addMember_114 : decode prog_3_method_14_code 114 = .ok (.getfield 159, 3) := by decide +kernel
theorem d_G_addMember_117 : decode prog_3_method_14_code 117 = .ok (.iastore, 1) := by decide +kernel
theorem d_G_addMember_118 : decode prog_3_method_14_code 118 = .ok (.return_, 1) := by decide +kernel
theorem d_G_fieldFlagsHold_0 : decode prog_3_method_10_code 0 = .ok (.aload_n 0, 1) := by decide +kernel
theorem d_G_fieldFlagsHold_1 : decode prog_3_method_10_code 1 = .ok (.getfield 115, 3) := by decide +kernel
theorem d_G_fieldFlagsHold_4 : decode prog_3_method_10_code 4 = .ok (.sipush 512, 3) := by decide +kernel
theorem d_G_fieldFlagsHold_7 : decode prog_3_method_10_code 7 = .ok (.iand, 1) := by decide +kernel
theorem d_G_fieldFlagsHold_8 : decode prog_3_method_10_code 8 = .ok (.ifCond .eq 15, 3) := by decide +kernel
theorem d_G_fieldFlagsHold_11 : decode prog_3_method_10_code 11 = .ok (.iload_n 1, 1) := by decide +kernel
theorem d_G_fieldFlagsHold_12 : decode prog_3_method_10_code 12 = .ok (.bipush 25, 2) := by decide +kernel
theorem d_G_fieldFlagsHold_14 : decode prog_3_method_10_code 14 = .ok (.if_icmp .ne 7, 3) := by decide +kernel
theorem d_G_fieldFlagsHold_17 : decode prog_3_method_10_code 17 = .ok (.iconst 1, 1) := by decide +kernel
theorem d_G_fieldFlagsHold_18 : decode prog_3_method_10_code 18 = .ok (.goto 4, 3) := by decide +kernel
theorem d_G_fieldFlagsHold_21 : decode prog_3_method_10_code 21 = .ok (.iconst 0, 1) := by decide +kernel
theorem d_G_fieldFlagsHold_22 : decode prog_3_method_10_code 22 = .ok (.ireturn, 1) := by decide +kernel
theorem d_G_fieldFlagsHold_23 : decode prog_3_method_10_code 23 = .ok (.iload_n 1, 1) := by decide +kernel
theorem d_G_fieldFlagsHold_24 : decode prog_3_method_10_code 24 = .ok (.sipush (-160), 3) := by decide +kernel
theorem d_G_fieldFlagsHold_27 : decode prog_3_method_10_code 27 = .ok (.iand, 1) := by decide +kernel
theorem d_G_fieldFlagsHold_28 : decode prog_3_method_10_code 28 = .ok (.ifCond .ne 18, 3) := by decide +kernel
theorem d_G_fieldFlagsHold_31 : decode prog_3_method_10_code 31 = .ok (.iload_n 1, 1) := by decide +kernel
theorem d_G_fieldFlagsHold_32 : decode prog_3_method_10_code 32 = .ok (.bipush 7, 2) := by decide +kernel
theorem d_G_fieldFlagsHold_34 : decode prog_3_method_10_code 34 = .ok (.iand, 1) := by decide +kernel
theorem d_G_fieldFlagsHold_35 : decode prog_3_method_10_code 35 = .ok (.invokestatic 170, 3) := by decide +kernel
theorem d_G_fieldFlagsHold_38 : decode prog_3_method_10_code 38 = .ok (.iconst 1, 1) := by decide +kernel
theorem d_G_fieldFlagsHold_39 : decode prog_3_method_10_code 39 = .ok (.if_icmp .gt 7, 3) := by decide +kernel
theorem d_G_fieldFlagsHold_42 : decode prog_3_method_10_code 42 = .ok (.iconst 1, 1) := by decide +kernel
theorem d_G_fieldFlagsHold_43 : decode prog_3_method_10_code 43 = .ok (.goto 4, 3) := by decide +kernel
theorem d_G_fieldFlagsHold_46 : decode prog_3_method_10_code 46 = .ok (.iconst 0, 1) := by decide +kernel
theorem d_G_fieldFlagsHold_47 : decode prog_3_method_10_code 47 = .ok (.ireturn, 1) := by decide +kernel
theorem d_G_readField_0 : decode prog_3_method_9_code 0 = .ok (.aload_n 0, 1) := by decide +kernel
theorem d_G_readField_1 : decode prog_3_method_9_code 1 = .ok (.aload_n 0, 1) := by decide +kernel
theorem d_G_readField_2 : decode prog_3_method_9_code 2 = .ok (.getfield 22, 3) := by decide +kernel
theorem d_G_readField_5 : decode prog_3_method_9_code 5 = .ok (.getfield 106, 3) := by decide +kernel
theorem d_G_readField_8 : decode prog_3_method_9_code 8 = .ok (.putfield 95, 3) := by decide +kernel
theorem d_G_readField_11 : decode prog_3_method_9_code 11 = .ok (.aload_n 0, 1) := by decide +kernel
theorem d_G_readField_12 : decode prog_3_method_9_code 12 = .ok (.aload_n 0, 1) := by decide +kernel
theorem d_G_readField_13 : decode prog_3_method_9_code 13 = .ok (.getfield 22, 3) := by decide +kernel
theorem d_G_readField_16 : decode prog_3_method_9_code 16 = .ok (.iconst 2, 1) := by decide +kernel
theorem d_G_readField_17 : decode prog_3_method_9_code 17 = .ok (.invokevirtual 118, 3) := by decide +kernel
theorem d_G_readField_20 : decode prog_3_method_9_code 20 = .ok (.putfield 79, 3) := by decide +kernel
theorem d_G_readField_23 : decode prog_3_method_9_code 23 = .ok (.aload_n 0, 1) := by decide +kernel
theorem d_G_readField_24 : decode prog_3_method_9_code 24 = .ok (.getfield 22, 3) := by decide +kernel
theorem d_G_readField_27 : decode prog_3_method_9_code 27 = .ok (.aload_n 0, 1) := by decide +kernel
theorem d_G_readField_28 : decode prog_3_method_9_code 28 = .ok (.aload_n 0, 1) := by decide +kernel
theorem d_G_readField_29 : decode prog_3_method_9_code 29 = .ok (.getfield 79, 3) := by decide +kernel
theorem d_G_readField_32 : decode prog_3_method_9_code 32 = .ok (.invokevirtual 151, 3) := by decide +kernel
theorem d_G_readField_35 : decode prog_3_method_9_code 35 = .ok (.bipush 13, 2) := by decide +kernel
theorem d_G_readField_37 : decode prog_3_method_9_code 37 = .ok (.aload_n 0, 1) := by decide +kernel
theorem d_G_readField_38 : decode prog_3_method_9_code 38 = .ok (.getfield 95, 3) := by decide +kernel
theorem d_G_readField_41 : decode prog_3_method_9_code 41 = .ok (.invokevirtual 98, 3) := by decide +kernel
theorem d_G_readField_44 : decode prog_3_method_9_code 44 = .ok (.aload_n 0, 1) := by decide +kernel
theorem d_G_readField_45 : decode prog_3_method_9_code 45 = .ok (.getfield 22, 3) := by decide +kernel
theorem d_G_readField_48 : decode prog_3_method_9_code 48 = .ok (.getfield 106, 3) := by decide +kernel
theorem d_G_readField_51 : decode prog_3_method_9_code 51 = .ok (.istore_n 2, 1) := by decide +kernel
theorem d_G_readField_52 : decode prog_3_method_9_code 52 = .ok (.aload_n 0, 1) := by decide +kernel
theorem d_G_readField_53 : decode prog_3_method_9_code 53 = .ok (.getfield 31, 3) := by decide +kernel
theorem d_G_readField_56 : decode prog_3_method_9_code 56 = .ok (.iconst 1, 1) := by decide +kernel
theorem d_G_readField_57 : decode prog_3_method_9_code 57 = .ok (.invokevirtual 142, 3) := by decide +kernel
theorem d_G_readField_60 : decode prog_3_method_9_code 60 = .ok (.istore_n 3, 1) := by decide +kernel
theorem d_G_readField_61 : decode prog_3_method_9_code 61 = .ok (.aload_n 0, 1) := by decide +kernel
theorem d_G_readField_62 : decode prog_3_method_9_code 62 = .ok (.getfield 22, 3) := by decide +kernel
theorem d_G_readField_65 : decode prog_3_method_9_code 65 = .ok (.aload_n 0, 1) := by decide +kernel
theorem d_G_readField_66 : decode prog_3_method_9_code 66 = .ok (.getfield 31, 3) := by decide +kernel
theorem d_G_readField_69 : decode prog_3_method_9_code 69 = .ok (.iload_n 3, 1) := by decide +kernel
theorem d_G_readField_70 : decode prog_3_method_9_code 70 = .ok (.invokevirtual 154, 3) := by decide +kernel
theorem d_G_readField_73 : decode prog_3_method_9_code 73 = .ok (.iconst 1, 1) := by decide +kernel
theorem d_G_readField_74 : decode prog_3_method_9_code 74 = .ok (.iand, 1) := by decide +kernel
theorem d_G_readField_75 : decode prog_3_method_9_code 75 = .ok (.ifCond .eq 7, 3) := by decide +kernel
theorem d_G_readField_78 : decode prog_3_method_9_code 78 = .ok (.iconst 1, 1) := by decide +kernel
theorem d_G_readField_79 : decode prog_3_method_9_code 79 = .ok (.goto 4, 3) := by decide +kernel
theorem d_G_readField_82 : decode prog_3_method_9_code 82 = .ok (.iconst 0, 1) := by decide +kernel
theorem d_G_readField_83 : decode prog_3_method_9_code 83 = .ok (.bipush 9, 2) := by decide +kernel
theorem d_G_readField_85 : decode prog_3_method_9_code 85 = .ok (.iload_n 2, 1) := by decide +kernel
theorem d_G_readField_86 : decode prog_3_method_9_code 86 = .ok (.invokevirtual 98, 3) := by decide +kernel
theorem d_G_readField_89 : decode prog_3_method_9_code 89 = .ok (.aload_n 0, 1) := by decide +kernel
theorem d_G_readField_90 : decode prog_3_method_9_code 90 = .ok (.getfield 22, 3) := by decide +kernel
theorem d_G_readField_93 : decode prog_3_method_9_code 93 = .ok (.getfield 106, 3) := by decide +kernel
theorem d_G_readField_96 : decode prog_3_method_9_code 96 = .ok (.istore_n 2, 1) := by decide +kernel
theorem d_G_readField_97 : decode prog_3_method_9_code 97 = .ok (.aload_n 0, 1) := by decide +kernel
theorem d_G_readField_98 : decode prog_3_method_9_code 98 = .ok (.aload_n 0, 1) := by decide +kernel
theorem d_G_readField_99 : decode prog_3_method_9_code 99 = .ok (.getfield 31, 3) := by decide +kernel
theorem d_G_readField_102 : decode prog_3_method_9_code 102 = .ok (.iconst 1, 1) := by decide +kernel
theorem d_G_readField_103 : decode prog_3_method_9_code 103 = .ok (.invokevirtual 142, 3) := by decide +kernel
theorem d_G_readField_106 : decode prog_3_method_9_code 106 = .ok (.putfield 159, 3) := by decide +kernel
theorem d_G_readField_109 : decode prog_3_method_9_code 109 = .ok (.aload_n 0, 1) := by decide +kernel
theorem d_G_readField_110 : decode prog_3_method_9_code 110 = .ok (.getfield 31, 3) := by decide +kernel
theorem d_G_readField_113 : decode prog_3_method_9_code 113 = .ok (.aload_n 0, 1) := by decide +kernel
theorem d_G_readField_114 : decode prog_3_method_9_code 114 = .ok (.getfield 159, 3) := by decide +kernel
theorem d_G_readField_117 : decode prog_3_method_9_code 117 = .ok (.bipush 16, 2) := by decide +kernel
theorem d_G_readField_119 : decode prog_3_method_9_code 119 = .ok (.iload_n 2, 1) := by decide +kernel
theorem d_G_readField_120 : decode prog_3_method_9_code 120 = .ok (.invokevirtual 162, 3) := by decide +kernel
theorem d_G_readField_123 : decode prog_3_method_9_code 123 = .ok (.aload_n 0, 1) := by decide +kernel
theorem d_G_readField_124 : decode prog_3_method_9_code 124 = .ok (.iload_n 1, 1) := by decide +kernel
theorem d_G_readField_125 : decode prog_3_method_9_code 125 = .ok (.iload_n 3, 1) := by decide +kernel
theorem d_G_readField_126 : decode prog_3_method_9_code 126 = .ok (.invokevirtual 166, 3) := by decide +kernel
theorem d_G_readField_129 : decode prog_3_method_9_code 129 = .ok (.return_, 1) := by decide +kernel
theorem d_G_readHead_0 : decode prog_3_method_3_code 0 = .ok (.aload_n 0, 1) := by decide +kernel
theorem d_G_readHead_1 : decode prog_3_method_3_code 1 = .ok (.getfield 22, 3) := by decide +kernel
theorem d_G_readHead_4 : decode prog_3_method_3_code 4 = .ok (.aload_n 0, 1) := by decide +kernel
theorem d_G_readHead_5 : decode prog_3_method_3_code 5 = .ok (.getfield 22, 3) := by decide +kernel
theorem d_G_readHead_8 : decode prog_3_method_3_code 8 = .ok (.iconst 4, 1) := by decide +kernel
theorem d_G_readHead_9 : decode prog_3_method_3_code 9 = .ok (.invokevirtual 118, 3) := by decide +kernel
theorem d_G_readHead_12 : decode prog_3_method_3_code 12 = .ok (.ldc 121, 2) := by decide +kernel
theorem d_G_readHead_14 : decode prog_3_method_3_code 14 = .ok (.if_icmp .ne 7, 3) := by decide +kernel
theorem d_G_readHead_17 : decode prog_3_method_3_code 17 = .ok (.iconst 1, 1) := by decide +kernel
theorem d_G_readHead_18 : decode prog_3_method_3_code 18 = .ok (.goto 4, 3) := by decide +kernel
theorem d_G_readHead_21 : decode prog_3_method_3_code 21 = .ok (.iconst 0, 1) := by decide +kernel
theorem d_G_readHead_22 : decode prog_3_method_3_code 22 = .ok (.iconst 2, 1) := by decide +kernel
theorem d_G_readHead_23 : decode prog_3_method_3_code 23 = .ok (.iconst 0, 1) := by decide +kernel
theorem d_G_readHead_24 : decode prog_3_method_3_code 24 = .ok (.invokevirtual 98, 3) := by decide +kernel
theorem d_G_readHead_27 : decode prog_3_method_3_code 27 = .ok (.aload_n 0, 1) := by decide +kernel
theorem d_G_readHead_28 : decode prog_3_method_3_code 28 = .ok (.getfield 22, 3) := by decide +kernel
theorem d_G_readHead_31 : decode prog_3_method_3_code 31 = .ok (.aload_n 0, 1) := by decide +kernel
theorem d_G_readHead_32 : decode prog_3_method_3_code 32 = .ok (.getfield 22, 3) := by decide +kernel
theorem d_G_readHead_35 : decode prog_3_method_3_code 35 = .ok (.iconst 2, 1) := by decide +kernel
theorem d_G_readHead_36 : decode prog_3_method_3_code 36 = .ok (.invokevirtual 118, 3) := by decide +kernel
theorem d_G_readHead_39 : decode prog_3_method_3_code 39 = .ok (.ifCond .ne 7, 3) := by decide +kernel
theorem d_G_readHead_42 : decode prog_3_method_3_code 42 = .ok (.iconst 1, 1) := by decide +kernel
theorem d_G_readHead_43 : decode prog_3_method_3_code 43 = .ok (.goto 4, 3) := by decide +kernel
theorem d_G_readHead_46 : decode prog_3_method_3_code 46 = .ok (.iconst 0, 1) := by decide +kernel
theorem d_G_readHead_47 : decode prog_3_method_3_code 47 = .ok (.iconst 3, 1) := by decide +kernel
theorem d_G_readHead_48 : decode prog_3_method_3_code 48 = .ok (.iconst 4, 1) := by decide +kernel
theorem d_G_readHead_49 : decode prog_3_method_3_code 49 = .ok (.invokevirtual 98, 3) := by decide +kernel
theorem d_G_readHead_52 : decode prog_3_method_3_code 52 = .ok (.aload_n 0, 1) := by decide +kernel
theorem d_G_readHead_53 : decode prog_3_method_3_code 53 = .ok (.aload_n 0, 1) := by decide +kernel
theorem d_G_readHead_54 : decode prog_3_method_3_code 54 = .ok (.getfield 22, 3) := by decide +kernel
theorem d_G_readHead_57 : decode prog_3_method_3_code 57 = .ok (.iconst 2, 1) := by decide +kernel
theorem d_G_readHead_58 : decode prog_3_method_3_code 58 = .ok (.invokevirtual 118, 3) := by decide +kernel
theorem d_G_readHead_61 : decode prog_3_method_3_code 61 = .ok (.putfield 122, 3) := by decide +kernel
theorem d_G_readHead_64 : decode prog_3_method_3_code 64 = .ok (.aload_n 0, 1) := by decide +kernel
theorem d_G_readHead_65 : decode prog_3_method_3_code 65 = .ok (.getfield 22, 3) := by decide +kernel
theorem d_G_readHead_68 : decode prog_3_method_3_code 68 = .ok (.aload_n 0, 1) := by decide +kernel
theorem d_G_readHead_69 : decode prog_3_method_3_code 69 = .ok (.getfield 122, 3) := by decide +kernel
theorem d_G_readHead_72 : decode prog_3_method_3_code 72 = .ok (.bipush 45, 2) := by decide +kernel
theorem d_G_readHead_74 : decode prog_3_method_3_code 74 = .ok (.if_icmp .lt 16, 3) := by decide +kernel
theorem d_G_readHead_77 : decode prog_3_method_3_code 77 = .ok (.aload_n 0, 1) := by decide +kernel
theorem d_G_readHead_78 : decode prog_3_method_3_code 78 = .ok (.getfield 122, 3) := by decide +kernel
theorem d_G_readHead_81 : decode prog_3_method_3_code 81 = .ok (.bipush 61, 2) := by decide +kernel
theorem d_G_readHead_83 : decode prog_3_method_3_code 83 = .ok (.if_icmp .gt 7, 3) := by decide +kernel
theorem d_G_readHead_86 : decode prog_3_method_3_code 86 = .ok (.iconst 1, 1) := by decide +kernel
theorem d_G_readHead_87 : decode prog_3_method_3_code 87 = .ok (.goto 4, 3) := by decide +kernel
theorem d_G_readHead_90 : decode prog_3_method_3_code 90 = .ok (.iconst 0, 1) := by decide +kernel
theorem d_G_readHead_91 : decode prog_3_method_3_code 91 = .ok (.iconst 3, 1) := by decide +kernel
theorem d_G_readHead_92 : decode prog_3_method_3_code 92 = .ok (.bipush 6, 2) := by decide +kernel
theorem d_G_readHead_94 : decode prog_3_method_3_code 94 = .ok (.invokevirtual 98, 3) := by decide +kernel
theorem d_G_readHead_97 : decode prog_3_method_3_code 97 = .ok (.return_, 1) := by decide +kernel
theorem d_G_readInterface_0 : decode prog_3_method_8_code 0 = .ok (.aload_n 0, 1) := by decide +kernel
theorem d_G_readInterface_1 : decode prog_3_method_8_code 1 = .ok (.getfield 22, 3) := by decide +kernel
theorem d_G_readInterface_4 : decode prog_3_method_8_code 4 = .ok (.getfield 106, 3) := by decide +kernel
theorem d_G_readInterface_7 : decode prog_3_method_8_code 7 = .ok (.istore_n 2, 1) := by decide +kernel
theorem d_G_readInterface_8 : decode prog_3_method_8_code 8 = .ok (.aload_n 0, 1) := by decide +kernel
theorem d_G_readInterface_9 : decode prog_3_method_8_code 9 = .ok (.invokevirtual 129, 3) := by decide +kernel
theorem d_G_readInterface_12 : decode prog_3_method_8_code 12 = .ok (.istore_n 3, 1) := by decide +kernel
theorem d_G_readInterface_13 : decode prog_3_method_8_code 13 = .ok (.iconst 0, 1) := by decide +kernel
theorem d_G_readInterface_14 : decode prog_3_method_8_code 14 = .ok (.istore 4, 2) := by decide +kernel
theorem d_G_readInterface_16 : decode prog_3_method_8_code 16 = .ok (.iload 4, 2) := by decide +kernel
theorem d_G_readInterface_18 : decode prog_3_method_8_code 18 = .ok (.iload_n 1, 1) := by decide +kernel
theorem d_G_readInterface_19 : decode prog_3_method_8_code 19 = .ok (.if_icmp .ge 49, 3) := by decide +kernel
theorem d_G_readInterface_22 : decode prog_3_method_8_code 22 = .ok (.iload 4, 2) := by decide +kernel
theorem d_G_readInterface_24 : decode prog_3_method_8_code 24 = .ok (.bipush 60, 2) := by decide +kernel
theorem d_G_readInterface_26 : decode prog_3_method_8_code 26 = .ok (.if_icmp .ge 42, 3) := by decide +kernel
theorem d_G_readInterface_29 : decode prog_3_method_8_code 29 = .ok (.aload_n 0, 1) := by decide +kernel
theorem d_G_readInterface_30 : decode prog_3_method_8_code 30 = .ok (.getfield 22, 3) := by decide +kernel
theorem d_G_readInterface_33 : decode prog_3_method_8_code 33 = .ok (.aload_n 0, 1) := by decide +kernel
theorem d_G_readInterface_34 : decode prog_3_method_8_code 34 = .ok (.getfield 31, 3) := by decide +kernel
theorem d_G_readInterface_37 : decode prog_3_method_8_code 37 = .ok (.aload_n 0, 1) := by decide +kernel
theorem d_G_readInterface_38 : decode prog_3_method_8_code 38 = .ok (.getfield 16, 3) := by decide +kernel
theorem d_G_readInterface_41 : decode prog_3_method_8_code 41 = .ok (.iload 4, 2) := by decide +kernel
theorem d_G_readInterface_43 : decode prog_3_method_8_code 43 = .ok (.iaload, 1) := by decide +kernel
theorem d_G_readInterface_44 : decode prog_3_method_8_code 44 = .ok (.iload_n 3, 1) := by decide +kernel
theorem d_G_readInterface_45 : decode prog_3_method_8_code 45 = .ok (.invokevirtual 133, 3) := by decide +kernel
theorem d_G_readInterface_48 : decode prog_3_method_8_code 48 = .ok (.ifCond .ne 7, 3) := by decide +kernel
theorem d_G_readInterface_51 : decode prog_3_method_8_code 51 = .ok (.iconst 1, 1) := by decide +kernel
theorem d_G_readInterface_52 : decode prog_3_method_8_code 52 = .ok (.goto 4, 3) := by decide +kernel
theorem d_G_readInterface_55 : decode prog_3_method_8_code 55 = .ok (.iconst 0, 1) := by decide +kernel
theorem d_G_readInterface_56 : decode prog_3_method_8_code 56 = .ok (.bipush 16, 2) := by decide +kernel
theorem d_G_readInterface_58 : decode prog_3_method_8_code 58 = .ok (.iload_n 2, 1) := by decide +kernel
theorem d_G_readInterface_59 : decode prog_3_method_8_code 59 = .ok (.invokevirtual 98, 3) := by decide +kernel
theorem d_G_readInterface_62 : decode prog_3_method_8_code 62 = .ok (.iinc 4 1, 3) := by decide +kernel
theorem d_G_readInterface_65 : decode prog_3_method_8_code 65 = .ok (.goto (-49), 3) := by decide +kernel
theorem d_G_readInterface_68 : decode prog_3_method_8_code 68 = .ok (.iload_n 1, 1) := by decide +kernel
theorem d_G_readInterface_69 : decode prog_3_method_8_code 69 = .ok (.bipush 60, 2) := by decide +kernel
theorem d_G_readInterface_71 : decode prog_3_method_8_code 71 = .ok (.if_icmp .ge 10, 3) := by decide +kernel
theorem d_G_readInterface_74 : decode prog_3_method_8_code 74 = .ok (.aload_n 0, 1) := by decide +kernel
theorem d_G_readInterface_75 : decode prog_3_method_8_code 75 = .ok (.getfield 16, 3) := by decide +kernel
theorem d_G_readInterface_78 : decode prog_3_method_8_code 78 = .ok (.iload_n 1, 1) := by decide +kernel
theorem d_G_readInterface_79 : decode prog_3_method_8_code 79 = .ok (.iload_n 3, 1) := by decide +kernel
theorem d_G_readInterface_80 : decode prog_3_method_8_code 80 = .ok (.iastore, 1) := by decide +kernel
theorem d_G_readInterface_81 : decode prog_3_method_8_code 81 = .ok (.return_, 1) := by decide +kernel
theorem d_G_methodFlagsHold_0 : decode prog_3_method_12_code 0 = .ok (.iload_n 1, 1) := by decide +kernel
theorem d_G_methodFlagsHold_1 : decode prog_3_method_12_code 1 = .ok (.sipush (-1056), 3) := by decide +kernel
theorem d_G_methodFlagsHold_4 : decode prog_3_method_12_code 4 = .ok (.iand, 1) := by decide +kernel
theorem d_G_methodFlagsHold_5 : decode prog_3_method_12_code 5 = .ok (.ifCond .ne 14, 3) := by decide +kernel
theorem d_G_methodFlagsHold_8 : decode prog_3_method_12_code 8 = .ok (.iload_n 1, 1) := by decide +kernel
theorem d_G_methodFlagsHold_9 : decode prog_3_method_12_code 9 = .ok (.bipush 7, 2) := by decide +kernel
theorem d_G_methodFlagsHold_11 : decode prog_3_method_12_code 11 = .ok (.iand, 1) := by decide +kernel
theorem d_G_methodFlagsHold_12 : decode prog_3_method_12_code 12 = .ok (.invokestatic 170, 3) := by decide +kernel
theorem d_G_methodFlagsHold_15 : decode prog_3_method_12_code 15 = .ok (.iconst 1, 1) := by decide +kernel
theorem d_G_methodFlagsHold_16 : decode prog_3_method_12_code 16 = .ok (.if_icmp .le 5, 3) := by decide +kernel
theorem d_G_methodFlagsHold_19 : decode prog_3_method_12_code 19 = .ok (.iconst 0, 1) := by decide +kernel
theorem d_G_methodFlagsHold_20 : decode prog_3_method_12_code 20 = .ok (.ireturn, 1) := by decide +kernel
theorem d_G_methodFlagsHold_21 : decode prog_3_method_12_code 21 = .ok (.iload_n 1, 1) := by decide +kernel
theorem d_G_methodFlagsHold_22 : decode prog_3_method_12_code 22 = .ok (.sipush 1024, 3) := by decide +kernel
theorem d_G_methodFlagsHold_25 : decode prog_3_method_12_code 25 = .ok (.iand, 1) := by decide +kernel
theorem d_G_methodFlagsHold_26 : decode prog_3_method_12_code 26 = .ok (.ifCond .eq 23, 3) := by decide +kernel
theorem d_G_methodFlagsHold_29 : decode prog_3_method_12_code 29 = .ok (.iload_n 1, 1) := by decide +kernel
theorem d_G_methodFlagsHold_30 : decode prog_3_method_12_code 30 = .ok (.bipush 26, 2) := by decide +kernel
theorem d_G_methodFlagsHold_32 : decode prog_3_method_12_code 32 = .ok (.iand, 1) := by decide +kernel
theorem d_G_methodFlagsHold_33 : decode prog_3_method_12_code 33 = .ok (.ifCond .ne 14, 3) := by decide +kernel
theorem d_G_methodFlagsHold_36 : decode prog_3_method_12_code 36 = .ok (.aload_n 0, 1) := by decide +kernel
theorem d_G_methodFlagsHold_37 : decode prog_3_method_12_code 37 = .ok (.getfield 115, 3) := by decide +kernel
theorem d_G_methodFlagsHold_40 : decode prog_3_method_12_code 40 = .ok (.sipush 1024, 3) := by decide +kernel
theorem d_G_methodFlagsHold_43 : decode prog_3_method_12_code 43 = .ok (.iand, 1) := by decide +kernel
theorem d_G_methodFlagsHold_44 : decode prog_3_method_12_code 44 = .ok (.ifCond .ne 5, 3) := by decide +kernel
theorem d_G_methodFlagsHold_47 : decode prog_3_method_12_code 47 = .ok (.iconst 0, 1) := by decide +kernel
theorem d_G_methodFlagsHold_48 : decode prog_3_method_12_code 48 = .ok (.ireturn, 1) := by decide +kernel
theorem d_G_methodFlagsHold_49 : decode prog_3_method_12_code 49 = .ok (.aload_n 0, 1) := by decide +kernel
theorem d_G_methodFlagsHold_50 : decode prog_3_method_12_code 50 = .ok (.getfield 115, 3) := by decide +kernel
theorem d_G_methodFlagsHold_53 : decode prog_3_method_12_code 53 = .ok (.sipush 512, 3) := by decide +kernel
theorem d_G_methodFlagsHold_56 : decode prog_3_method_12_code 56 = .ok (.iand, 1) := by decide +kernel
theorem d_G_methodFlagsHold_57 : decode prog_3_method_12_code 57 = .ok (.ifCond .eq 16, 3) := by decide +kernel
theorem d_G_methodFlagsHold_60 : decode prog_3_method_12_code 60 = .ok (.iload_n 1, 1) := by decide +kernel
theorem d_G_methodFlagsHold_61 : decode prog_3_method_12_code 61 = .ok (.iconst 3, 1) := by decide +kernel
theorem d_G_methodFlagsHold_62 : decode prog_3_method_12_code 62 = .ok (.iand, 1) := by decide +kernel
theorem d_G_methodFlagsHold_63 : decode prog_3_method_12_code 63 = .ok (.ifCond .eq 14, 3) := by decide +kernel
theorem d_G_methodFlagsHold_66 : decode prog_3_method_12_code 66 = .ok (.iload_n 1, 1) := by decide +kernel
theorem d_G_methodFlagsHold_67 : decode prog_3_method_12_code 67 = .ok (.bipush 16, 2) := by decide +kernel
theorem d_G_methodFlagsHold_69 : decode prog_3_method_12_code 69 = .ok (.iand, 1) := by decide +kernel
theorem d_G_methodFlagsHold_70 : decode prog_3_method_12_code 70 = .ok (.ifCond .ne 7, 3) := by decide +kernel
theorem d_G_methodFlagsHold_73 : decode prog_3_method_12_code 73 = .ok (.iconst 1, 1) := by decide +kernel
theorem d_G_methodFlagsHold_74 : decode prog_3_method_12_code 74 = .ok (.goto 4, 3) := by decide +kernel
theorem d_G_methodFlagsHold_77 : decode prog_3_method_12_code 77 = .ok (.iconst 0, 1) := by decide +kernel
theorem d_G_methodFlagsHold_78 : decode prog_3_method_12_code 78 = .ok (.ireturn, 1) := by decide +kernel
theorem d_G_specialNameHolds_0 : decode prog_3_method_13_code 0 = .ok (.iload_n 1, 1) := by decide +kernel
theorem d_G_specialNameHolds_1 : decode prog_3_method_13_code 1 = .ok (.iconst 4, 1) := by decide +kernel
theorem d_G_specialNameHolds_2 : decode prog_3_method_13_code 2 = .ok (.iand, 1) := by decide +kernel
theorem d_G_specialNameHolds_3 : decode prog_3_method_13_code 3 = .ok (.ifCond .eq 49, 3) := by decide +kernel
theorem d_G_specialNameHolds_6 : decode prog_3_method_13_code 6 = .ok (.aload_n 0, 1) := by decide +kernel
theorem d_G_specialNameHolds_7 : decode prog_3_method_13_code 7 = .ok (.getfield 115, 3) := by decide +kernel
theorem d_G_specialNameHolds_10 : decode prog_3_method_13_code 10 = .ok (.sipush 512, 3) := by decide +kernel
theorem d_G_specialNameHolds_13 : decode prog_3_method_13_code 13 = .ok (.iand, 1) := by decide +kernel
theorem d_G_specialNameHolds_14 : decode prog_3_method_13_code 14 = .ok (.ifCond .ne 36, 3) := by decide +kernel
theorem d_G_specialNameHolds_17 : decode prog_3_method_13_code 17 = .ok (.aload_n 0, 1) := by decide +kernel
theorem d_G_specialNameHolds_18 : decode prog_3_method_13_code 18 = .ok (.getfield 31, 3) := by decide +kernel
theorem d_G_specialNameHolds_21 : decode prog_3_method_13_code 21 = .ok (.aload_n 0, 1) := by decide +kernel
theorem d_G_specialNameHolds_22 : decode prog_3_method_13_code 22 = .ok (.getfield 159, 3) := by decide +kernel
theorem d_G_specialNameHolds_25 : decode prog_3_method_13_code 25 = .ok (.invokevirtual 154, 3) := by decide +kernel
theorem d_G_specialNameHolds_28 : decode prog_3_method_13_code 28 = .ok (.sipush 128, 3) := by decide +kernel
theorem d_G_specialNameHolds_31 : decode prog_3_method_13_code 31 = .ok (.iand, 1) := by decide +kernel
theorem d_G_specialNameHolds_32 : decode prog_3_method_13_code 32 = .ok (.ifCond .eq 18, 3) := by decide +kernel
theorem d_G_specialNameHolds_35 : decode prog_3_method_13_code 35 = .ok (.aload_n 0, 1) := by decide +kernel
theorem d_G_specialNameHolds_36 : decode prog_3_method_13_code 36 = .ok (.getfield 79, 3) := by decide +kernel
theorem d_G_specialNameHolds_39 : decode prog_3_method_13_code 39 = .ok (.sipush 1048, 3) := by decide +kernel
theorem d_G_specialNameHolds_42 : decode prog_3_method_13_code 42 = .ok (.iand, 1) := by decide +kernel
theorem d_G_specialNameHolds_43 : decode prog_3_method_13_code 43 = .ok (.ifCond .ne 7, 3) := by decide +kernel
theorem d_G_specialNameHolds_46 : decode prog_3_method_13_code 46 = .ok (.iconst 1, 1) := by decide +kernel
theorem d_G_specialNameHolds_47 : decode prog_3_method_13_code 47 = .ok (.goto 4, 3) := by decide +kernel
theorem d_G_specialNameHolds_50 : decode prog_3_method_13_code 50 = .ok (.iconst 0, 1) := by decide +kernel
theorem d_G_specialNameHolds_51 : decode prog_3_method_13_code 51 = .ok (.ireturn, 1) := by decide +kernel
theorem d_G_specialNameHolds_52 : decode prog_3_method_13_code 52 = .ok (.iload_n 1, 1) := by decide +kernel
theorem d_G_specialNameHolds_53 : decode prog_3_method_13_code 53 = .ok (.bipush 8, 2) := by decide +kernel
theorem d_G_specialNameHolds_55 : decode prog_3_method_13_code 55 = .ok (.iand, 1) := by decide +kernel
theorem d_G_specialNameHolds_56 : decode prog_3_method_13_code 56 = .ok (.ifCond .eq 34, 3) := by decide +kernel
theorem d_G_specialNameHolds_59 : decode prog_3_method_13_code 59 = .ok (.aload_n 0, 1) := by decide +kernel
theorem d_G_specialNameHolds_60 : decode prog_3_method_13_code 60 = .ok (.getfield 79, 3) := by decide +kernel
theorem d_G_specialNameHolds_63 : decode prog_3_method_13_code 63 = .ok (.bipush 8, 2) := by decide +kernel
theorem d_G_specialNameHolds_65 : decode prog_3_method_13_code 65 = .ok (.if_icmp .ne 23, 3) := by decide +kernel
theorem d_G_specialNameHolds_68 : decode prog_3_method_13_code 68 = .ok (.aload_n 0, 1) := by decide +kernel
theorem d_G_specialNameHolds_69 : decode prog_3_method_13_code 69 = .ok (.getfield 31, 3) := by decide +kernel
theorem d_G_specialNameHolds_72 : decode prog_3_method_13_code 72 = .ok (.aload_n 0, 1) := by decide +kernel
theorem d_G_specialNameHolds_73 : decode prog_3_method_13_code 73 = .ok (.getfield 159, 3) := by decide +kernel
theorem d_G_specialNameHolds_76 : decode prog_3_method_13_code 76 = .ok (.ldc 181, 2) := by decide +kernel
theorem d_G_specialNameHolds_78 : decode prog_3_method_13_code 78 = .ok (.invokevirtual 138, 3) := by decide +kernel
theorem d_G_specialNameHolds_81 : decode prog_3_method_13_code 81 = .ok (.ifCond .eq 7, 3) := by decide +kernel
theorem d_G_specialNameHolds_84 : decode prog_3_method_13_code 84 = .ok (.iconst 1, 1) := by decide +kernel
theorem d_G_specialNameHolds_85 : decode prog_3_method_13_code 85 = .ok (.goto 4, 3) := by decide +kernel
theorem d_G_specialNameHolds_88 : decode prog_3_method_13_code 88 = .ok (.iconst 0, 1) := by decide +kernel
theorem d_G_specialNameHolds_89 : decode prog_3_method_13_code 89 = .ok (.ireturn, 1) := by decide +kernel
theorem d_G_specialNameHolds_90 : decode prog_3_method_13_code 90 = .ok (.iconst 1, 1) := by decide +kernel
theorem d_G_specialNameHolds_91 : decode prog_3_method_13_code 91 = .ok (.ireturn, 1) := by decide +kernel
theorem d_G_readMethod_0 : decode prog_3_method_11_code 0 = .ok (.aload_n 0, 1) := by decide +kernel
theorem d_G_readMethod_1 : decode prog_3_method_11_code 1 = .ok (.aload_n 0, 1) := by decide +kernel
theorem d_G_readMethod_2 : decode prog_3_method_11_code 2 = .ok (.getfield 22, 3) := by decide +kernel
theorem d_G_readMethod_5 : decode prog_3_method_11_code 5 = .ok (.getfield 106, 3) := by decide +kernel
theorem d_G_readMethod_8 : decode prog_3_method_11_code 8 = .ok (.putfield 95, 3) := by decide +kernel
theorem d_G_readMethod_11 : decode prog_3_method_11_code 11 = .ok (.aload_n 0, 1) := by decide +kernel
theorem d_G_readMethod_12 : decode prog_3_method_11_code 12 = .ok (.aload_n 0, 1) := by decide +kernel
theorem d_G_readMethod_13 : decode prog_3_method_11_code 13 = .ok (.getfield 22, 3) := by decide +kernel
theorem d_G_readMethod_16 : decode prog_3_method_11_code 16 = .ok (.iconst 2, 1) := by decide +kernel
theorem d_G_readMethod_17 : decode prog_3_method_11_code 17 = .ok (.invokevirtual 118, 3) := by decide +kernel
theorem d_G_readMethod_20 : decode prog_3_method_11_code 20 = .ok (.putfield 79, 3) := by decide +kernel
theorem d_G_readMethod_23 : decode prog_3_method_11_code 23 = .ok (.aload_n 0, 1) := by decide +kernel
theorem d_G_readMethod_24 : decode prog_3_method_11_code 24 = .ok (.getfield 22, 3) := by decide +kernel
theorem d_G_readMethod_27 : decode prog_3_method_11_code 27 = .ok (.aload_n 0, 1) := by decide +kernel
theorem d_G_readMethod_28 : decode prog_3_method_11_code 28 = .ok (.aload_n 0, 1) := by decide +kernel
theorem d_G_readMethod_29 : decode prog_3_method_11_code 29 = .ok (.getfield 79, 3) := by decide +kernel
theorem d_G_readMethod_32 : decode prog_3_method_11_code 32 = .ok (.invokevirtual 175, 3) := by decide +kernel
theorem d_G_readMethod_35 : decode prog_3_method_11_code 35 = .ok (.bipush 13, 2) := by decide +kernel
theorem d_G_readMethod_37 : decode prog_3_method_11_code 37 = .ok (.aload_n 0, 1) := by decide +kernel
theorem d_G_readMethod_38 : decode prog_3_method_11_code 38 = .ok (.getfield 95, 3) := by decide +kernel
theorem d_G_readMethod_41 : decode prog_3_method_11_code 41 = .ok (.invokevirtual 98, 3) := by decide +kernel
theorem d_G_readMethod_44 : decode prog_3_method_11_code 44 = .ok (.aload_n 0, 1) := by decide +kernel
theorem d_G_readMethod_45 : decode prog_3_method_11_code 45 = .ok (.getfield 22, 3) := by decide +kernel
theorem d_G_readMethod_48 : decode prog_3_method_11_code 48 = .ok (.getfield 106, 3) := by decide +kernel
theorem d_G_readMethod_51 : decode prog_3_method_11_code 51 = .ok (.istore_n 2, 1) := by decide +kernel
theorem d_G_readMethod_52 : decode prog_3_method_11_code 52 = .ok (.aload_n 0, 1) := by decide +kernel
theorem d_G_readMethod_53 : decode prog_3_method_11_code 53 = .ok (.getfield 31, 3) := by decide +kernel
theorem d_G_readMethod_56 : decode prog_3_method_11_code 56 = .ok (.iconst 1, 1) := by decide +kernel
theorem d_G_readMethod_57 : decode prog_3_method_11_code 57 = .ok (.invokevirtual 142, 3) := by decide +kernel
theorem d_G_readMethod_60 : decode prog_3_method_11_code 60 = .ok (.istore_n 3, 1) := by decide +kernel
theorem d_G_readMethod_61 : decode prog_3_method_11_code 61 = .ok (.aload_n 0, 1) := by decide +kernel
theorem d_G_readMethod_62 : decode prog_3_method_11_code 62 = .ok (.getfield 22, 3) := by decide +kernel
theorem d_G_readMethod_65 : decode prog_3_method_11_code 65 = .ok (.aload_n 0, 1) := by decide +kernel
theorem d_G_readMethod_66 : decode prog_3_method_11_code 66 = .ok (.getfield 31, 3) := by decide +kernel
theorem d_G_readMethod_69 : decode prog_3_method_11_code 69 = .ok (.iload_n 3, 1) := by decide +kernel
theorem d_G_readMethod_70 : decode prog_3_method_11_code 70 = .ok (.invokevirtual 154, 3) := by decide +kernel
theorem d_G_readMethod_73 : decode prog_3_method_11_code 73 = .ok (.bipush 13, 2) := by decide +kernel
theorem d_G_readMethod_75 : decode prog_3_method_11_code 75 = .ok (.iand, 1) := by decide +kernel
theorem d_G_readMethod_76 : decode prog_3_method_11_code 76 = .ok (.ifCond .eq 7, 3) := by decide +kernel
theorem d_G_readMethod_79 : decode prog_3_method_11_code 79 = .ok (.iconst 1, 1) := by decide +kernel
theorem d_G_readMethod_80 : decode prog_3_method_11_code 80 = .ok (.goto 4, 3) := by decide +kernel
theorem d_G_readMethod_83 : decode prog_3_method_11_code 83 = .ok (.iconst 0, 1) := by decide +kernel
theorem d_G_readMethod_84 : decode prog_3_method_11_code 84 = .ok (.bipush 9, 2) := by decide +kernel
theorem d_G_readMethod_86 : decode prog_3_method_11_code 86 = .ok (.iload_n 2, 1) := by decide +kernel
theorem d_G_readMethod_87 : decode prog_3_method_11_code 87 = .ok (.invokevirtual 98, 3) := by decide +kernel
theorem d_G_readMethod_90 : decode prog_3_method_11_code 90 = .ok (.aload_n 0, 1) := by decide +kernel
theorem d_G_readMethod_91 : decode prog_3_method_11_code 91 = .ok (.getfield 22, 3) := by decide +kernel
theorem d_G_readMethod_94 : decode prog_3_method_11_code 94 = .ok (.getfield 106, 3) := by decide +kernel
theorem d_G_readMethod_97 : decode prog_3_method_11_code 97 = .ok (.istore 4, 2) := by decide +kernel
theorem d_G_readMethod_99 : decode prog_3_method_11_code 99 = .ok (.aload_n 0, 1) := by decide +kernel
theorem d_G_readMethod_100 : decode prog_3_method_11_code 100 = .ok (.aload_n 0, 1) := by decide +kernel
theorem d_G_readMethod_101 : decode prog_3_method_11_code 101 = .ok (.getfield 31, 3) := by decide +kernel
theorem d_G_readMethod_104 : decode prog_3_method_11_code 104 = .ok (.iconst 1, 1) := by decide +kernel
theorem d_G_readMethod_105 : decode prog_3_method_11_code 105 = .ok (.invokevirtual 142, 3) := by decide +kernel
theorem d_G_readMethod_108 : decode prog_3_method_11_code 108 = .ok (.putfield 159, 3) := by decide +kernel
theorem d_G_readMethod_111 : decode prog_3_method_11_code 111 = .ok (.aload_n 0, 1) := by decide +kernel
theorem d_G_readMethod_112 : decode prog_3_method_11_code 112 = .ok (.getfield 31, 3) := by decide +kernel
theorem d_G_readMethod_115 : decode prog_3_method_11_code 115 = .ok (.aload_n 0, 1) := by decide +kernel
theorem d_G_readMethod_116 : decode prog_3_method_11_code 116 = .ok (.getfield 159, 3) := by decide +kernel
theorem d_G_readMethod_119 : decode prog_3_method_11_code 119 = .ok (.bipush 32, 2) := by decide +kernel
theorem d_G_readMethod_121 : decode prog_3_method_11_code 121 = .ok (.iload 4, 2) := by decide +kernel
theorem d_G_readMethod_123 : decode prog_3_method_11_code 123 = .ok (.invokevirtual 162, 3) := by decide +kernel
theorem d_G_readMethod_126 : decode prog_3_method_11_code 126 = .ok (.aload_n 0, 1) := by decide +kernel
theorem d_G_readMethod_127 : decode prog_3_method_11_code 127 = .ok (.getfield 22, 3) := by decide +kernel
theorem d_G_readMethod_130 : decode prog_3_method_11_code 130 = .ok (.aload_n 0, 1) := by decide +kernel
theorem d_G_readMethod_131 : decode prog_3_method_11_code 131 = .ok (.aload_n 0, 1) := by decide +kernel
theorem d_G_readMethod_132 : decode prog_3_method_11_code 132 = .ok (.getfield 31, 3) := by decide +kernel
theorem d_G_readMethod_135 : decode prog_3_method_11_code 135 = .ok (.iload_n 3, 1) := by decide +kernel
theorem d_G_readMethod_136 : decode prog_3_method_11_code 136 = .ok (.invokevirtual 154, 3) := by decide +kernel
theorem d_G_readMethod_139 : decode prog_3_method_11_code 139 = .ok (.invokevirtual 178, 3) := by decide +kernel
theorem d_G_readMethod_142 : decode prog_3_method_11_code 142 = .ok (.bipush 17, 2) := by decide +kernel
theorem d_G_readMethod_144 : decode prog_3_method_11_code 144 = .ok (.iload_n 2, 1) := by decide +kernel
theorem d_G_readMethod_145 : decode prog_3_method_11_code 145 = .ok (.invokevirtual 98, 3) := by decide +kernel
theorem d_G_readMethod_148 : decode prog_3_method_11_code 148 = .ok (.aload_n 0, 1) := by decide +kernel
theorem d_G_readMethod_149 : decode prog_3_method_11_code 149 = .ok (.iload_n 1, 1) := by decide +kernel
theorem d_G_readMethod_150 : decode prog_3_method_11_code 150 = .ok (.iload_n 3, 1) := by decide +kernel
theorem d_G_readMethod_151 : decode prog_3_method_11_code 151 = .ok (.invokevirtual 166, 3) := by decide +kernel
theorem d_G_readMethod_154 : decode prog_3_method_11_code 154 = .ok (.return_, 1) := by decide +kernel
theorem d_G_passes_0 : decode prog_3_method_2_code 0 = .ok (.aload_n 0, 1) := by decide +kernel
theorem d_G_passes_1 : decode prog_3_method_2_code 1 = .ok (.getfield 22, 3) := by decide +kernel
theorem d_G_passes_4 : decode prog_3_method_2_code 4 = .ok (.invokevirtual 44, 3) := by decide +kernel
theorem d_G_passes_7 : decode prog_3_method_2_code 7 = .ok (.aload_n 0, 1) := by decide +kernel
theorem d_G_passes_8 : decode prog_3_method_2_code 8 = .ok (.invokevirtual 49, 3) := by decide +kernel
theorem d_G_passes_11 : decode prog_3_method_2_code 11 = .ok (.aload_n 0, 1) := by decide +kernel
theorem d_G_passes_12 : decode prog_3_method_2_code 12 = .ok (.getfield 31, 3) := by decide +kernel
theorem d_G_passes_15 : decode prog_3_method_2_code 15 = .ok (.invokevirtual 52, 3) := by decide +kernel
theorem d_G_passes_18 : decode prog_3_method_2_code 18 = .ok (.aload_n 0, 1) := by decide +kernel
theorem d_G_passes_19 : decode prog_3_method_2_code 19 = .ok (.getfield 31, 3) := by decide +kernel
theorem d_G_passes_22 : decode prog_3_method_2_code 22 = .ok (.invokevirtual 55, 3) := by decide +kernel
theorem d_G_passes_25 : decode prog_3_method_2_code 25 = .ok (.aload_n 0, 1) := by decide +kernel
theorem d_G_passes_26 : decode prog_3_method_2_code 26 = .ok (.getfield 31, 3) := by decide +kernel
theorem d_G_passes_29 : decode prog_3_method_2_code 29 = .ok (.invokevirtual 58, 3) := by decide +kernel
theorem d_G_passes_32 : decode prog_3_method_2_code 32 = .ok (.aload_n 0, 1) := by decide +kernel
theorem d_G_passes_33 : decode prog_3_method_2_code 33 = .ok (.invokevirtual 61, 3) := by decide +kernel
theorem d_G_passes_36 : decode prog_3_method_2_code 36 = .ok (.aload_n 0, 1) := by decide +kernel
theorem d_G_passes_37 : decode prog_3_method_2_code 37 = .ok (.bipush 20, 2) := by decide +kernel
theorem d_G_passes_39 : decode prog_3_method_2_code 39 = .ok (.invokevirtual 64, 3) := by decide +kernel
theorem d_G_passes_42 : decode prog_3_method_2_code 42 = .ok (.istore_n 1, 1) := by decide +kernel
theorem d_G_passes_43 : decode prog_3_method_2_code 43 = .ok (.iconst 0, 1) := by decide +kernel
theorem d_G_passes_44 : decode prog_3_method_2_code 44 = .ok (.istore_n 2, 1) := by decide +kernel
theorem d_G_passes_45 : decode prog_3_method_2_code 45 = .ok (.iload_n 2, 1) := by decide +kernel
theorem d_G_passes_46 : decode prog_3_method_2_code 46 = .ok (.iload_n 1, 1) := by decide +kernel
theorem d_G_passes_47 : decode prog_3_method_2_code 47 = .ok (.if_icmp .ge 24, 3) := by decide +kernel
theorem d_G_passes_50 : decode prog_3_method_2_code 50 = .ok (.aload_n 0, 1) := by decide +kernel
theorem d_G_passes_51 : decode prog_3_method_2_code 51 = .ok (.getfield 22, 3) := by decide +kernel
theorem d_G_passes_54 : decode prog_3_method_2_code 54 = .ok (.invokevirtual 68, 3) := by decide +kernel
theorem d_G_passes_57 : decode prog_3_method_2_code 57 = .ok (.ifCond .eq 14, 3) := by decide +kernel
theorem d_G_passes_60 : decode prog_3_method_2_code 60 = .ok (.aload_n 0, 1) := by decide +kernel
theorem d_G_passes_61 : decode prog_3_method_2_code 61 = .ok (.iload_n 2, 1) := by decide +kernel
theorem d_G_passes_62 : decode prog_3_method_2_code 62 = .ok (.invokevirtual 72, 3) := by decide +kernel
theorem d_G_passes_65 : decode prog_3_method_2_code 65 = .ok (.iinc 2 1, 3) := by decide +kernel
theorem d_G_passes_68 : decode prog_3_method_2_code 68 = .ok (.goto (-23), 3) := by decide +kernel
theorem d_G_passes_71 : decode prog_3_method_2_code 71 = .ok (.aload_n 0, 1) := by decide +kernel
theorem d_G_passes_72 : decode prog_3_method_2_code 72 = .ok (.bipush 60, 2) := by decide +kernel
theorem d_G_passes_74 : decode prog_3_method_2_code 74 = .ok (.invokevirtual 64, 3) := by decide +kernel
theorem d_G_passes_77 : decode prog_3_method_2_code 77 = .ok (.istore_n 2, 1) := by decide +kernel
theorem d_G_passes_78 : decode prog_3_method_2_code 78 = .ok (.iconst 0, 1) := by decide +kernel
theorem d_G_passes_79 : decode prog_3_method_2_code 79 = .ok (.istore_n 3, 1) := by decide +kernel
theorem d_G_passes_80 : decode prog_3_method_2_code 80 = .ok (.iload_n 3, 1) := by decide +kernel
theorem d_G_passes_81 : decode prog_3_method_2_code 81 = .ok (.iload_n 2, 1) := by decide +kernel
theorem d_G_passes_82 : decode prog_3_method_2_code 82 = .ok (.if_icmp .ge 44, 3) := by decide +kernel
theorem d_G_passes_85 : decode prog_3_method_2_code 85 = .ok (.aload_n 0, 1) := by decide +kernel
theorem d_G_passes_86 : decode prog_3_method_2_code 86 = .ok (.getfield 22, 3) := by decide +kernel
theorem d_G_passes_89 : decode prog_3_method_2_code 89 = .ok (.invokevirtual 68, 3) := by decide +kernel
theorem d_G_passes_92 : decode prog_3_method_2_code 92 = .ok (.ifCond .eq 34, 3) := by decide +kernel
theorem d_G_passes_95 : decode prog_3_method_2_code 95 = .ok (.aload_n 0, 1) := by decide +kernel
theorem d_G_passes_96 : decode prog_3_method_2_code 96 = .ok (.iload_n 3, 1) := by decide +kernel
theorem d_G_passes_97 : decode prog_3_method_2_code 97 = .ok (.invokevirtual 76, 3) := by decide +kernel
theorem d_G_passes_100 : decode prog_3_method_2_code 100 = .ok (.aload_n 0, 1) := by decide +kernel
theorem d_G_passes_101 : decode prog_3_method_2_code 101 = .ok (.aload_n 0, 1) := by decide +kernel
theorem d_G_passes_102 : decode prog_3_method_2_code 102 = .ok (.getfield 79, 3) := by decide +kernel
theorem d_G_passes_105 : decode prog_3_method_2_code 105 = .ok (.bipush 8, 2) := by decide +kernel
theorem d_G_passes_107 : decode prog_3_method_2_code 107 = .ok (.iand, 1) := by decide +kernel
theorem d_G_passes_108 : decode prog_3_method_2_code 108 = .ok (.ifCond .eq 7, 3) := by decide +kernel
theorem d_G_passes_111 : decode prog_3_method_2_code 111 = .ok (.iconst 1, 1) := by decide +kernel
theorem d_G_passes_112 : decode prog_3_method_2_code 112 = .ok (.goto 4, 3) := by decide +kernel
theorem d_G_passes_115 : decode prog_3_method_2_code 115 = .ok (.iconst 0, 1) := by decide +kernel
theorem d_G_passes_116 : decode prog_3_method_2_code 116 = .ok (.invokevirtual 83, 3) := by decide +kernel
theorem d_G_passes_119 : decode prog_3_method_2_code 119 = .ok (.pop, 1) := by decide +kernel
theorem d_G_passes_120 : decode prog_3_method_2_code 120 = .ok (.iinc 3 1, 3) := by decide +kernel
theorem d_G_passes_123 : decode prog_3_method_2_code 123 = .ok (.goto (-43), 3) := by decide +kernel
theorem d_G_passes_126 : decode prog_3_method_2_code 126 = .ok (.aload_n 0, 1) := by decide +kernel
theorem d_G_passes_127 : decode prog_3_method_2_code 127 = .ok (.invokevirtual 86, 3) := by decide +kernel
theorem d_G_passes_130 : decode prog_3_method_2_code 130 = .ok (.aload_n 0, 1) := by decide +kernel
theorem d_G_passes_131 : decode prog_3_method_2_code 131 = .ok (.bipush 60, 2) := by decide +kernel
theorem d_G_passes_133 : decode prog_3_method_2_code 133 = .ok (.invokevirtual 64, 3) := by decide +kernel
theorem d_G_passes_136 : decode prog_3_method_2_code 136 = .ok (.istore_n 3, 1) := by decide +kernel
theorem d_G_passes_137 : decode prog_3_method_2_code 137 = .ok (.iconst 0, 1) := by decide +kernel
theorem d_G_passes_138 : decode prog_3_method_2_code 138 = .ok (.istore 4, 2) := by decide +kernel
theorem d_G_passes_140 : decode prog_3_method_2_code 140 = .ok (.iload 4, 2) := by decide +kernel
theorem d_G_passes_142 : decode prog_3_method_2_code 142 = .ok (.iload_n 3, 1) := by decide +kernel
theorem d_G_passes_143 : decode prog_3_method_2_code 143 = .ok (.if_icmp .ge 104, 3) := by decide +kernel
theorem d_G_passes_146 : decode prog_3_method_2_code 146 = .ok (.aload_n 0, 1) := by decide +kernel
theorem d_G_passes_147 : decode prog_3_method_2_code 147 = .ok (.getfield 22, 3) := by decide +kernel
theorem d_G_passes_150 : decode prog_3_method_2_code 150 = .ok (.invokevirtual 68, 3) := by decide +kernel
theorem d_G_passes_153 : decode prog_3_method_2_code 153 = .ok (.ifCond .eq 94, 3) := by decide +kernel
theorem d_G_passes_156 : decode prog_3_method_2_code 156 = .ok (.aload_n 0, 1) := by decide +kernel
theorem d_G_passes_157 : decode prog_3_method_2_code 157 = .ok (.iload 4, 2) := by decide +kernel
theorem d_G_passes_159 : decode prog_3_method_2_code 159 = .ok (.invokevirtual 89, 3) := by decide +kernel
theorem d_G_passes_162 : decode prog_3_method_2_code 162 = .ok (.aload_n 0, 1) := by decide +kernel
theorem d_G_passes_163 : decode prog_3_method_2_code 163 = .ok (.getfield 79, 3) := by decide +kernel
theorem d_G_passes_166 : decode prog_3_method_2_code 166 = .ok (.sipush 1024, 3) := by decide +kernel
theorem d_G_passes_169 : decode prog_3_method_2_code 169 = .ok (.iand, 1) := by decide +kernel
theorem d_G_passes_170 : decode prog_3_method_2_code 170 = .ok (.ifCond .eq 7, 3) := by decide +kernel
theorem d_G_passes_173 : decode prog_3_method_2_code 173 = .ok (.iconst 0, 1) := by decide +kernel
theorem d_G_passes_174 : decode prog_3_method_2_code 174 = .ok (.goto 4, 3) := by decide +kernel
theorem d_G_passes_177 : decode prog_3_method_2_code 177 = .ok (.iconst 2, 1) := by decide +kernel
theorem d_G_passes_178 : decode prog_3_method_2_code 178 = .ok (.istore 5, 2) := by decide +kernel
theorem d_G_passes_180 : decode prog_3_method_2_code 180 = .ok (.aload_n 0, 1) := by decide +kernel
theorem d_G_passes_181 : decode prog_3_method_2_code 181 = .ok (.iconst 0, 1) := by decide +kernel
theorem d_G_passes_182 : decode prog_3_method_2_code 182 = .ok (.putfield 92, 3) := by decide +kernel
theorem d_G_passes_185 : decode prog_3_method_2_code 185 = .ok (.aload_n 0, 1) := by decide +kernel
theorem d_G_passes_186 : decode prog_3_method_2_code 186 = .ok (.iload 5, 2) := by decide +kernel
theorem d_G_passes_188 : decode prog_3_method_2_code 188 = .ok (.iconst 4, 1) := by decide +kernel
theorem d_G_passes_189 : decode prog_3_method_2_code 189 = .ok (.ior, 1) := by decide +kernel
theorem d_G_passes_190 : decode prog_3_method_2_code 190 = .ok (.invokevirtual 83, 3) := by decide +kernel
theorem d_G_passes_193 : decode prog_3_method_2_code 193 = .ok (.istore 6, 2) := by decide +kernel
theorem d_G_passes_195 : decode prog_3_method_2_code 195 = .ok (.aload_n 0, 1) := by decide +kernel
theorem d_G_passes_196 : decode prog_3_method_2_code 196 = .ok (.getfield 22, 3) := by decide +kernel
theorem d_G_passes_199 : decode prog_3_method_2_code 199 = .ok (.iload 6, 2) := by decide +kernel
theorem d_G_passes_201 : decode prog_3_method_2_code 201 = .ok (.iload 5, 2) := by decide +kernel
theorem d_G_passes_203 : decode prog_3_method_2_code 203 = .ok (.iand, 1) := by decide +kernel
theorem d_G_passes_204 : decode prog_3_method_2_code 204 = .ok (.iload 5, 2) := by decide +kernel
theorem d_G_passes_206 : decode prog_3_method_2_code 206 = .ok (.if_icmp .ne 7, 3) := by decide +kernel
theorem d_G_passes_209 : decode prog_3_method_2_code 209 = .ok (.iconst 1, 1) := by decide +kernel
theorem d_G_passes_210 : decode prog_3_method_2_code 210 = .ok (.goto 4, 3) := by decide +kernel
theorem d_G_passes_213 : decode prog_3_method_2_code 213 = .ok (.iconst 0, 1) := by decide +kernel
theorem d_G_passes_214 : decode prog_3_method_2_code 214 = .ok (.bipush 20, 2) := by decide +kernel
theorem d_G_passes_216 : decode prog_3_method_2_code 216 = .ok (.aload_n 0, 1) := by decide +kernel
theorem d_G_passes_217 : decode prog_3_method_2_code 217 = .ok (.getfield 95, 3) := by decide +kernel
theorem d_G_passes_220 : decode prog_3_method_2_code 220 = .ok (.invokevirtual 98, 3) := by decide +kernel
theorem d_G_passes_223 : decode prog_3_method_2_code 223 = .ok (.aload_n 0, 1) := by decide +kernel
theorem d_G_passes_224 : decode prog_3_method_2_code 224 = .ok (.iload 4, 2) := by decide +kernel
theorem d_G_passes_226 : decode prog_3_method_2_code 226 = .ok (.iload 6, 2) := by decide +kernel
theorem d_G_passes_228 : decode prog_3_method_2_code 228 = .ok (.iconst 2, 1) := by decide +kernel
theorem d_G_passes_229 : decode prog_3_method_2_code 229 = .ok (.iand, 1) := by decide +kernel
theorem d_G_passes_230 : decode prog_3_method_2_code 230 = .ok (.ifCond .eq 7, 3) := by decide +kernel
theorem d_G_passes_233 : decode prog_3_method_2_code 233 = .ok (.iconst 1, 1) := by decide +kernel
theorem d_G_passes_234 : decode prog_3_method_2_code 234 = .ok (.goto 4, 3) := by decide +kernel
theorem d_G_passes_237 : decode prog_3_method_2_code 237 = .ok (.iconst 0, 1) := by decide +kernel
theorem d_G_passes_238 : decode prog_3_method_2_code 238 = .ok (.invokevirtual 102, 3) := by decide +kernel
theorem d_G_passes_241 : decode prog_3_method_2_code 241 = .ok (.iinc 4 1, 3) := by decide +kernel
theorem d_G_passes_244 : decode prog_3_method_2_code 244 = .ok (.goto (-104), 3) := by decide +kernel
theorem d_G_passes_247 : decode prog_3_method_2_code 247 = .ok (.aload_n 0, 1) := by decide +kernel
theorem d_G_passes_248 : decode prog_3_method_2_code 248 = .ok (.bipush 8, 2) := by decide +kernel
theorem d_G_passes_250 : decode prog_3_method_2_code 250 = .ok (.invokevirtual 83, 3) := by decide +kernel
theorem d_G_passes_253 : decode prog_3_method_2_code 253 = .ok (.pop, 1) := by decide +kernel
theorem d_G_passes_254 : decode prog_3_method_2_code 254 = .ok (.aload_n 0, 1) := by decide +kernel
theorem d_G_passes_255 : decode prog_3_method_2_code 255 = .ok (.getfield 22, 3) := by decide +kernel
theorem d_G_passes_258 : decode prog_3_method_2_code 258 = .ok (.aload_n 0, 1) := by decide +kernel
theorem d_G_passes_259 : decode prog_3_method_2_code 259 = .ok (.getfield 22, 3) := by decide +kernel
theorem d_G_passes_262 : decode prog_3_method_2_code 262 = .ok (.getfield 106, 3) := by decide +kernel
theorem d_G_passes_265 : decode prog_3_method_2_code 265 = .ok (.aload_n 0, 1) := by decide +kernel
theorem d_G_passes_266 : decode prog_3_method_2_code 266 = .ok (.getfield 22, 3) := by decide +kernel
theorem d_G_passes_269 : decode prog_3_method_2_code 269 = .ok (.getfield 109, 3) := by decide +kernel
theorem d_G_passes_272 : decode prog_3_method_2_code 272 = .ok (.if_icmp .ne 7, 3) := by decide +kernel
theorem d_G_passes_275 : decode prog_3_method_2_code 275 = .ok (.iconst 1, 1) := by decide +kernel
theorem d_G_passes_276 : decode prog_3_method_2_code 276 = .ok (.goto 4, 3) := by decide +kernel
theorem d_G_passes_279 : decode prog_3_method_2_code 279 = .ok (.iconst 0, 1) := by decide +kernel
theorem d_G_passes_280 : decode prog_3_method_2_code 280 = .ok (.bipush 29, 2) := by decide +kernel
theorem d_G_passes_282 : decode prog_3_method_2_code 282 = .ok (.aload_n 0, 1) := by decide +kernel
theorem d_G_passes_283 : decode prog_3_method_2_code 283 = .ok (.getfield 22, 3) := by decide +kernel
theorem d_G_passes_286 : decode prog_3_method_2_code 286 = .ok (.getfield 106, 3) := by decide +kernel
theorem d_G_passes_289 : decode prog_3_method_2_code 289 = .ok (.invokevirtual 98, 3) := by decide +kernel
theorem d_G_passes_292 : decode prog_3_method_2_code 292 = .ok (.aload_n 0, 1) := by decide +kernel
theorem d_G_passes_293 : decode prog_3_method_2_code 293 = .ok (.getfield 9, 3) := by decide +kernel
theorem d_G_passes_296 : decode prog_3_method_2_code 296 = .ok (.iconst 0, 1) := by decide +kernel
theorem d_G_passes_297 : decode prog_3_method_2_code 297 = .ok (.aload_n 0, 1) := by decide +kernel
theorem d_G_passes_298 : decode prog_3_method_2_code 298 = .ok (.getfield 31, 3) := by decide +kernel
theorem d_G_passes_301 : decode prog_3_method_2_code 301 = .ok (.getfield 112, 3) := by decide +kernel
theorem d_G_passes_304 : decode prog_3_method_2_code 304 = .ok (.iastore, 1) := by decide +kernel
theorem d_G_passes_305 : decode prog_3_method_2_code 305 = .ok (.aload_n 0, 1) := by decide +kernel
theorem d_G_passes_306 : decode prog_3_method_2_code 306 = .ok (.getfield 9, 3) := by decide +kernel
theorem d_G_passes_309 : decode prog_3_method_2_code 309 = .ok (.iconst 1, 1) := by decide +kernel
theorem d_G_passes_310 : decode prog_3_method_2_code 310 = .ok (.iload_n 1, 1) := by decide +kernel
theorem d_G_passes_311 : decode prog_3_method_2_code 311 = .ok (.iastore, 1) := by decide +kernel
theorem d_G_passes_312 : decode prog_3_method_2_code 312 = .ok (.aload_n 0, 1) := by decide +kernel
theorem d_G_passes_313 : decode prog_3_method_2_code 313 = .ok (.getfield 9, 3) := by decide +kernel
theorem d_G_passes_316 : decode prog_3_method_2_code 316 = .ok (.iconst 2, 1) := by decide +kernel
theorem d_G_passes_317 : decode prog_3_method_2_code 317 = .ok (.iload_n 2, 1) := by decide +kernel
theorem d_G_passes_318 : decode prog_3_method_2_code 318 = .ok (.iastore, 1) := by decide +kernel
theorem d_G_passes_319 : decode prog_3_method_2_code 319 = .ok (.aload_n 0, 1) := by decide +kernel
theorem d_G_passes_320 : decode prog_3_method_2_code 320 = .ok (.getfield 9, 3) := by decide +kernel
theorem d_G_passes_323 : decode prog_3_method_2_code 323 = .ok (.iconst 3, 1) := by decide +kernel
theorem d_G_passes_324 : decode prog_3_method_2_code 324 = .ok (.iload_n 3, 1) := by decide +kernel
theorem d_G_passes_325 : decode prog_3_method_2_code 325 = .ok (.iastore, 1) := by decide +kernel
theorem d_G_passes_326 : decode prog_3_method_2_code 326 = .ok (.aload_n 0, 1) := by decide +kernel
theorem d_G_passes_327 : decode prog_3_method_2_code 327 = .ok (.getfield 9, 3) := by decide +kernel
theorem d_G_passes_330 : decode prog_3_method_2_code 330 = .ok (.bipush 8, 2) := by decide +kernel
theorem d_G_passes_332 : decode prog_3_method_2_code 332 = .ok (.aload_n 0, 1) := by decide +kernel
theorem d_G_passes_333 : decode prog_3_method_2_code 333 = .ok (.getfield 115, 3) := by decide +kernel
theorem d_G_passes_336 : decode prog_3_method_2_code 336 = .ok (.iastore, 1) := by decide +kernel
theorem d_G_passes_337 : decode prog_3_method_2_code 337 = .ok (.aload_n 0, 1) := by decide +kernel
theorem d_G_passes_338 : decode prog_3_method_2_code 338 = .ok (.getfield 22, 3) := by decide +kernel
theorem d_G_passes_341 : decode prog_3_method_2_code 341 = .ok (.invokevirtual 68, 3) := by decide +kernel
theorem d_G_passes_344 : decode prog_3_method_2_code 344 = .ok (.ireturn, 1) := by decide +kernel
theorem d_R_keep_0 : decode prog_5_method_2_code 0 = .ok (.aload_n 0, 1) := by decide +kernel
theorem d_R_keep_1 : decode prog_5_method_2_code 1 = .ok (.iload_n 2, 1) := by decide +kernel
theorem d_R_keep_2 : decode prog_5_method_2_code 2 = .ok (.putfield 23, 3) := by decide +kernel
theorem d_R_keep_5 : decode prog_5_method_2_code 5 = .ok (.aload_n 0, 1) := by decide +kernel
theorem d_R_keep_6 : decode prog_5_method_2_code 6 = .ok (.iload_n 3, 1) := by decide +kernel
theorem d_R_keep_7 : decode prog_5_method_2_code 7 = .ok (.putfield 27, 3) := by decide +kernel
theorem d_R_keep_10 : decode prog_5_method_2_code 10 = .ok (.iload_n 2, 1) := by decide +kernel
theorem d_R_keep_11 : decode prog_5_method_2_code 11 = .ok (.ifCond .eq 60, 3) := by decide +kernel
theorem d_R_keep_14 : decode prog_5_method_2_code 14 = .ok (.aload_n 1, 1) := by decide +kernel
theorem d_R_keep_15 : decode prog_5_method_2_code 15 = .ok (.getfield 31, 3) := by decide +kernel
theorem d_R_keep_18 : decode prog_5_method_2_code 18 = .ok (.iconst 0, 1) := by decide +kernel
theorem d_R_keep_19 : decode prog_5_method_2_code 19 = .ok (.aload_n 0, 1) := by decide +kernel
theorem d_R_keep_20 : decode prog_5_method_2_code 20 = .ok (.getfield 9, 3) := by decide +kernel
theorem d_R_keep_23 : decode prog_5_method_2_code 23 = .ok (.iconst 0, 1) := by decide +kernel
theorem d_R_keep_24 : decode prog_5_method_2_code 24 = .ok (.aload_n 0, 1) := by decide +kernel
theorem d_R_keep_25 : decode prog_5_method_2_code 25 = .ok (.getfield 9, 3) := by decide +kernel
theorem d_R_keep_28 : decode prog_5_method_2_code 28 = .ok (.arraylength, 1) := by decide +kernel
theorem d_R_keep_29 : decode prog_5_method_2_code 29 = .ok (.invokestatic 32, 3) := by decide +kernel
theorem d_R_keep_32 : decode prog_5_method_2_code 32 = .ok (.aload_n 1, 1) := by decide +kernel
theorem d_R_keep_33 : decode prog_5_method_2_code 33 = .ok (.getfield 38, 3) := by decide +kernel
theorem d_R_keep_36 : decode prog_5_method_2_code 36 = .ok (.iconst 0, 1) := by decide +kernel
theorem d_R_keep_37 : decode prog_5_method_2_code 37 = .ok (.aload_n 0, 1) := by decide +kernel
theorem d_R_keep_38 : decode prog_5_method_2_code 38 = .ok (.getfield 15, 3) := by decide +kernel
theorem d_R_keep_41 : decode prog_5_method_2_code 41 = .ok (.iconst 0, 1) := by decide +kernel
theorem d_R_keep_42 : decode prog_5_method_2_code 42 = .ok (.aload_n 0, 1) := by decide +kernel
theorem d_R_keep_43 : decode prog_5_method_2_code 43 = .ok (.getfield 15, 3) := by decide +kernel
theorem d_R_keep_46 : decode prog_5_method_2_code 46 = .ok (.arraylength, 1) := by decide +kernel
theorem d_R_keep_47 : decode prog_5_method_2_code 47 = .ok (.invokestatic 32, 3) := by decide +kernel
theorem d_R_keep_50 : decode prog_5_method_2_code 50 = .ok (.aload_n 1, 1) := by decide +kernel
theorem d_R_keep_51 : decode prog_5_method_2_code 51 = .ok (.getfield 39, 3) := by decide +kernel
theorem d_R_keep_54 : decode prog_5_method_2_code 54 = .ok (.getfield 43, 3) := by decide +kernel
theorem d_R_keep_57 : decode prog_5_method_2_code 57 = .ok (.iconst 0, 1) := by decide +kernel
theorem d_R_keep_58 : decode prog_5_method_2_code 58 = .ok (.aload_n 0, 1) := by decide +kernel
theorem d_R_keep_59 : decode prog_5_method_2_code 59 = .ok (.getfield 20, 3) := by decide +kernel
theorem d_R_keep_62 : decode prog_5_method_2_code 62 = .ok (.iconst 0, 1) := by decide +kernel
theorem d_R_keep_63 : decode prog_5_method_2_code 63 = .ok (.aload_n 0, 1) := by decide +kernel
theorem d_R_keep_64 : decode prog_5_method_2_code 64 = .ok (.getfield 20, 3) := by decide +kernel
theorem d_R_keep_67 : decode prog_5_method_2_code 67 = .ok (.arraylength, 1) := by decide +kernel
theorem d_R_keep_68 : decode prog_5_method_2_code 68 = .ok (.invokestatic 32, 3) := by decide +kernel
theorem d_R_keep_71 : decode prog_5_method_2_code 71 = .ok (.return_, 1) := by decide +kernel
theorem d_X_feed_0 : decode prog_1_method_2_code 0 = .ok (.iload 5, 2) := by decide +kernel
theorem d_X_feed_2 : decode prog_1_method_2_code 2 = .ok (.iconst 1, 1) := by decide +kernel
theorem d_X_feed_3 : decode prog_1_method_2_code 3 = .ok (.if_icmp .lt 10, 3) := by decide +kernel
theorem d_X_feed_6 : decode prog_1_method_2_code 6 = .ok (.iload 5, 2) := by decide +kernel
theorem d_X_feed_8 : decode prog_1_method_2_code 8 = .ok (.bipush 16, 2) := by decide +kernel
theorem d_X_feed_10 : decode prog_1_method_2_code 10 = .ok (.if_icmp .le 5, 3) := by decide +kernel
theorem d_X_feed_13 : decode prog_1_method_2_code 13 = .ok (.iconst (-1), 1) := by decide +kernel
theorem d_X_feed_14 : decode prog_1_method_2_code 14 = .ok (.ireturn, 1) := by decide +kernel
theorem d_X_feed_15 : decode prog_1_method_2_code 15 = .ok (.aload_n 0, 1) := by decide +kernel
theorem d_X_feed_16 : decode prog_1_method_2_code 16 = .ok (.getfield 10, 3) := by decide +kernel
theorem d_X_feed_19 : decode prog_1_method_2_code 19 = .ok (.getfield 32, 3) := by decide +kernel
theorem d_X_feed_22 : decode prog_1_method_2_code 22 = .ok (.iload 5, 2) := by decide +kernel
theorem d_X_feed_24 : decode prog_1_method_2_code 24 = .ok (.iadd, 1) := by decide +kernel
theorem d_X_feed_25 : decode prog_1_method_2_code 25 = .ok (.sipush 4000, 3) := by decide +kernel
theorem d_X_feed_28 : decode prog_1_method_2_code 28 = .ok (.if_icmp .le 6, 3) := by decide +kernel
theorem d_X_feed_31 : decode prog_1_method_2_code 31 = .ok (.bipush (-2), 2) := by decide +kernel
theorem d_X_feed_33 : decode prog_1_method_2_code 33 = .ok (.ireturn, 1) := by decide +kernel
theorem d_X_feed_34 : decode prog_1_method_2_code 34 = .ok (.iconst 0, 1) := by decide +kernel
theorem d_X_feed_35 : decode prog_1_method_2_code 35 = .ok (.istore 6, 2) := by decide +kernel
theorem d_X_feed_37 : decode prog_1_method_2_code 37 = .ok (.iload 6, 2) := by decide +kernel
theorem d_X_feed_39 : decode prog_1_method_2_code 39 = .ok (.iload 5, 2) := by decide +kernel
theorem d_X_feed_41 : decode prog_1_method_2_code 41 = .ok (.if_icmp .ge 65, 3) := by decide +kernel
theorem d_X_feed_44 : decode prog_1_method_2_code 44 = .ok (.iload 6, 2) := by decide +kernel
theorem d_X_feed_46 : decode prog_1_method_2_code 46 = .ok (.iconst 4, 1) := by decide +kernel
theorem d_X_feed_47 : decode prog_1_method_2_code 47 = .ok (.if_icmp .ge 7, 3) := by decide +kernel
theorem d_X_feed_50 : decode prog_1_method_2_code 50 = .ok (.iload_n 1, 1) := by decide +kernel
theorem d_X_feed_51 : decode prog_1_method_2_code 51 = .ok (.goto 27, 3) := by decide +kernel
theorem d_X_feed_54 : decode prog_1_method_2_code 54 = .ok (.iload 6, 2) := by decide +kernel
theorem d_X_feed_56 : decode prog_1_method_2_code 56 = .ok (.bipush 8, 2) := by decide +kernel
theorem d_X_feed_58 : decode prog_1_method_2_code 58 = .ok (.if_icmp .ge 7, 3) := by decide +kernel
theorem d_X_feed_61 : decode prog_1_method_2_code 61 = .ok (.iload_n 2, 1) := by decide +kernel
theorem d_X_feed_62 : decode prog_1_method_2_code 62 = .ok (.goto 16, 3) := by decide +kernel
theorem d_X_feed_65 : decode prog_1_method_2_code 65 = .ok (.iload 6, 2) := by decide +kernel
theorem d_X_feed_67 : decode prog_1_method_2_code 67 = .ok (.bipush 12, 2) := by decide +kernel
theorem d_X_feed_69 : decode prog_1_method_2_code 69 = .ok (.if_icmp .ge 7, 3) := by decide +kernel
theorem d_X_feed_72 : decode prog_1_method_2_code 72 = .ok (.iload_n 3, 1) := by decide +kernel
theorem d_X_feed_73 : decode prog_1_method_2_code 73 = .ok (.goto 5, 3) := by decide +kernel
theorem d_X_feed_76 : decode prog_1_method_2_code 76 = .ok (.iload 4, 2) := by decide +kernel
theorem d_X_feed_78 : decode prog_1_method_2_code 78 = .ok (.istore 7, 2) := by decide +kernel
theorem d_X_feed_80 : decode prog_1_method_2_code 80 = .ok (.aload_n 0, 1) := by decide +kernel
theorem d_X_feed_81 : decode prog_1_method_2_code 81 = .ok (.getfield 10, 3) := by decide +kernel
theorem d_X_feed_84 : decode prog_1_method_2_code 84 = .ok (.iload 7, 2) := by decide +kernel
theorem d_X_feed_86 : decode prog_1_method_2_code 86 = .ok (.bipush 24, 2) := by decide +kernel
theorem d_X_feed_88 : decode prog_1_method_2_code 88 = .ok (.bipush 8, 2) := by decide +kernel
theorem d_X_feed_90 : decode prog_1_method_2_code 90 = .ok (.iload 6, 2) := by decide +kernel
theorem d_X_feed_92 : decode prog_1_method_2_code 92 = .ok (.iconst 3, 1) := by decide +kernel
theorem d_X_feed_93 : decode prog_1_method_2_code 93 = .ok (.iand, 1) := by decide +kernel
theorem d_X_feed_94 : decode prog_1_method_2_code 94 = .ok (.imul, 1) := by decide +kernel
theorem d_X_feed_95 : decode prog_1_method_2_code 95 = .ok (.isub, 1) := by decide +kernel
theorem d_X_feed_96 : decode prog_1_method_2_code 96 = .ok (.ishr, 1) := by decide +kernel
theorem d_X_feed_97 : decode prog_1_method_2_code 97 = .ok (.invokevirtual 36, 3) := by decide +kernel
theorem d_X_feed_100 : decode prog_1_method_2_code 100 = .ok (.iinc 6 1, 3) := by decide +kernel
theorem d_X_feed_103 : decode prog_1_method_2_code 103 = .ok (.goto (-66), 3) := by decide +kernel
theorem d_X_feed_106 : decode prog_1_method_2_code 106 = .ok (.aload_n 0, 1) := by decide +kernel
theorem d_X_feed_107 : decode prog_1_method_2_code 107 = .ok (.getfield 10, 3) := by decide +kernel
theorem d_X_feed_110 : decode prog_1_method_2_code 110 = .ok (.getfield 32, 3) := by decide +kernel
theorem d_X_feed_113 : decode prog_1_method_2_code 113 = .ok (.ireturn, 1) := by decide +kernel
theorem d_X_cut_0 : decode prog_1_method_3_code 0 = .ok (.iload_n 1, 1) := by decide +kernel
theorem d_X_cut_1 : decode prog_1_method_3_code 1 = .ok (.ifCond .lt 14, 3) := by decide +kernel
theorem d_X_cut_4 : decode prog_1_method_3_code 4 = .ok (.iload_n 1, 1) := by decide +kernel
theorem d_X_cut_5 : decode prog_1_method_3_code 5 = .ok (.aload_n 0, 1) := by decide +kernel
theorem d_X_cut_6 : decode prog_1_method_3_code 6 = .ok (.getfield 10, 3) := by decide +kernel
theorem d_X_cut_9 : decode prog_1_method_3_code 9 = .ok (.getfield 32, 3) := by decide +kernel
theorem d_X_cut_12 : decode prog_1_method_3_code 12 = .ok (.if_icmp .le 5, 3) := by decide +kernel
theorem d_X_cut_15 : decode prog_1_method_3_code 15 = .ok (.iconst (-1), 1) := by decide +kernel
theorem d_X_cut_16 : decode prog_1_method_3_code 16 = .ok (.ireturn, 1) := by decide +kernel
theorem d_X_cut_17 : decode prog_1_method_3_code 17 = .ok (.aload_n 0, 1) := by decide +kernel
theorem d_X_cut_18 : decode prog_1_method_3_code 18 = .ok (.getfield 10, 3) := by decide +kernel
theorem d_X_cut_21 : decode prog_1_method_3_code 21 = .ok (.dup, 1) := by decide +kernel
theorem d_X_cut_22 : decode prog_1_method_3_code 22 = .ok (.getfield 32, 3) := by decide +kernel
theorem d_X_cut_25 : decode prog_1_method_3_code 25 = .ok (.iload_n 1, 1) := by decide +kernel
theorem d_X_cut_26 : decode prog_1_method_3_code 26 = .ok (.isub, 1) := by decide +kernel
theorem d_X_cut_27 : decode prog_1_method_3_code 27 = .ok (.putfield 32, 3) := by decide +kernel
theorem d_X_cut_30 : decode prog_1_method_3_code 30 = .ok (.aload_n 0, 1) := by decide +kernel
theorem d_X_cut_31 : decode prog_1_method_3_code 31 = .ok (.getfield 10, 3) := by decide +kernel
theorem d_X_cut_34 : decode prog_1_method_3_code 34 = .ok (.getfield 32, 3) := by decide +kernel
theorem d_X_cut_37 : decode prog_1_method_3_code 37 = .ok (.ireturn, 1) := by decide +kernel
theorem d_X_turn_0 : decode prog_1_method_4_code 0 = .ok (.iload_n 1, 1) := by decide +kernel
theorem d_X_turn_1 : decode prog_1_method_4_code 1 = .ok (.ifCond .lt 14, 3) := by decide +kernel
theorem d_X_turn_4 : decode prog_1_method_4_code 4 = .ok (.iload_n 1, 1) := by decide +kernel
theorem d_X_turn_5 : decode prog_1_method_4_code 5 = .ok (.aload_n 0, 1) := by decide +kernel
theorem d_X_turn_6 : decode prog_1_method_4_code 6 = .ok (.getfield 10, 3) := by decide +kernel
theorem d_X_turn_9 : decode prog_1_method_4_code 9 = .ok (.getfield 32, 3) := by decide +kernel
theorem d_X_turn_12 : decode prog_1_method_4_code 12 = .ok (.if_icmp .lt 5, 3) := by decide +kernel
theorem d_X_turn_15 : decode prog_1_method_4_code 15 = .ok (.iconst (-1), 1) := by decide +kernel
theorem d_X_turn_16 : decode prog_1_method_4_code 16 = .ok (.ireturn, 1) := by decide +kernel
theorem d_X_turn_17 : decode prog_1_method_4_code 17 = .ok (.aload_n 0, 1) := by decide +kernel
theorem d_X_turn_18 : decode prog_1_method_4_code 18 = .ok (.getfield 10, 3) := by decide +kernel
theorem d_X_turn_21 : decode prog_1_method_4_code 21 = .ok (.iload_n 1, 1) := by decide +kernel
theorem d_X_turn_22 : decode prog_1_method_4_code 22 = .ok (.iload_n 2, 1) := by decide +kernel
theorem d_X_turn_23 : decode prog_1_method_4_code 23 = .ok (.invokevirtual 40, 3) := by decide +kernel
theorem d_X_turn_26 : decode prog_1_method_4_code 26 = .ok (.aload_n 0, 1) := by decide +kernel
theorem d_X_turn_27 : decode prog_1_method_4_code 27 = .ok (.getfield 10, 3) := by decide +kernel
theorem d_X_turn_30 : decode prog_1_method_4_code 30 = .ok (.iload_n 1, 1) := by decide +kernel
theorem d_X_turn_31 : decode prog_1_method_4_code 31 = .ok (.iconst 1, 1) := by decide +kernel
theorem d_X_turn_32 : decode prog_1_method_4_code 32 = .ok (.invokevirtual 44, 3) := by decide +kernel
theorem d_X_turn_35 : decode prog_1_method_4_code 35 = .ok (.ireturn, 1) := by decide +kernel
theorem d_X_byteAt_0 : decode prog_1_method_5_code 0 = .ok (.iload_n 1, 1) := by decide +kernel
theorem d_X_byteAt_1 : decode prog_1_method_5_code 1 = .ok (.ifCond .lt 14, 3) := by decide +kernel
theorem d_X_byteAt_4 : decode prog_1_method_5_code 4 = .ok (.iload_n 1, 1) := by decide +kernel
theorem d_X_byteAt_5 : decode prog_1_method_5_code 5 = .ok (.aload_n 0, 1) := by decide +kernel
theorem d_X_byteAt_6 : decode prog_1_method_5_code 6 = .ok (.getfield 10, 3) := by decide +kernel
theorem d_X_byteAt_9 : decode prog_1_method_5_code 9 = .ok (.getfield 32, 3) := by decide +kernel
theorem d_X_byteAt_12 : decode prog_1_method_5_code 12 = .ok (.if_icmp .lt 7, 3) := by decide +kernel
theorem d_X_byteAt_15 : decode prog_1_method_5_code 15 = .ok (.iconst (-1), 1) := by decide +kernel
theorem d_X_byteAt_16 : decode prog_1_method_5_code 16 = .ok (.goto 12, 3) := by decide +kernel
theorem d_X_byteAt_19 : decode prog_1_method_5_code 19 = .ok (.aload_n 0, 1) := by decide +kernel
theorem d_X_byteAt_20 : decode prog_1_method_5_code 20 = .ok (.getfield 10, 3) := by decide +kernel
theorem d_X_byteAt_23 : decode prog_1_method_5_code 23 = .ok (.iload_n 1, 1) := by decide +kernel
theorem d_X_byteAt_24 : decode prog_1_method_5_code 24 = .ok (.iconst 1, 1) := by decide +kernel
theorem d_X_byteAt_25 : decode prog_1_method_5_code 25 = .ok (.invokevirtual 44, 3) := by decide +kernel
theorem d_X_byteAt_28 : decode prog_1_method_5_code 28 = .ok (.ireturn, 1) := by decide +kernel
theorem d_X_judge_0 : decode prog_1_method_6_code 0 = .ok (.aload_n 0, 1) := by decide +kernel
theorem d_X_judge_1 : decode prog_1_method_6_code 1 = .ok (.getfield 28, 3) := by decide +kernel
theorem d_X_judge_4 : decode prog_1_method_6_code 4 = .ok (.aload_n 0, 1) := by decide +kernel
theorem d_X_judge_5 : decode prog_1_method_6_code 5 = .ok (.getfield 21, 3) := by decide +kernel
theorem d_X_judge_8 : decode prog_1_method_6_code 8 = .ok (.aload_n 0, 1) := by decide +kernel
theorem d_X_judge_9 : decode prog_1_method_6_code 9 = .ok (.getfield 21, 3) := by decide +kernel
theorem d_X_judge_12 : decode prog_1_method_6_code 12 = .ok (.invokevirtual 48, 3) := by decide +kernel
theorem d_X_judge_15 : decode prog_1_method_6_code 15 = .ok (.aload_n 0, 1) := by decide +kernel
theorem d_X_judge_16 : decode prog_1_method_6_code 16 = .ok (.getfield 10, 3) := by decide +kernel
theorem d_X_judge_19 : decode prog_1_method_6_code 19 = .ok (.getfield 52, 3) := by decide +kernel
theorem d_X_judge_22 : decode prog_1_method_6_code 22 = .ok (.invokevirtual 55, 3) := by decide +kernel
theorem d_X_judge_25 : decode prog_1_method_6_code 25 = .ok (.aload_n 0, 1) := by decide +kernel
theorem d_X_judge_26 : decode prog_1_method_6_code 26 = .ok (.getfield 10, 3) := by decide +kernel
theorem d_X_judge_29 : decode prog_1_method_6_code 29 = .ok (.invokevirtual 59, 3) := by decide +kernel
theorem d_X_judge_32 : decode prog_1_method_6_code 32 = .ok (.ifCond .eq 7, 3) := by decide +kernel
theorem d_X_judge_35 : decode prog_1_method_6_code 35 = .ok (.iconst 0, 1) := by decide +kernel
theorem d_X_judge_36 : decode prog_1_method_6_code 36 = .ok (.goto 12, 3) := by decide +kernel
theorem d_X_judge_39 : decode prog_1_method_6_code 39 = .ok (.iconst 1, 1) := by decide +kernel
theorem d_X_judge_40 : decode prog_1_method_6_code 40 = .ok (.aload_n 0, 1) := by decide +kernel
theorem d_X_judge_41 : decode prog_1_method_6_code 41 = .ok (.getfield 10, 3) := by decide +kernel
theorem d_X_judge_44 : decode prog_1_method_6_code 44 = .ok (.getfield 62, 3) := by decide +kernel
theorem d_X_judge_47 : decode prog_1_method_6_code 47 = .ok (.iadd, 1) := by decide +kernel
theorem d_X_judge_48 : decode prog_1_method_6_code 48 = .ok (.ireturn, 1) := by decide +kernel
theorem d_X_rule_0 : decode prog_1_method_7_code 0 = .ok (.aload_n 0, 1) := by decide +kernel
theorem d_X_rule_1 : decode prog_1_method_7_code 1 = .ok (.getfield 28, 3) := by decide +kernel
theorem d_X_rule_4 : decode prog_1_method_7_code 4 = .ok (.getfield 65, 3) := by decide +kernel
theorem d_X_rule_7 : decode prog_1_method_7_code 7 = .ok (.ireturn, 1) := by decide +kernel
theorem d_X_told_0 : decode prog_1_method_8_code 0 = .ok (.aload_n 0, 1) := by decide +kernel
theorem d_X_told_1 : decode prog_1_method_8_code 1 = .ok (.getfield 28, 3) := by decide +kernel
theorem d_X_told_4 : decode prog_1_method_8_code 4 = .ok (.getfield 66, 3) := by decide +kernel
theorem d_X_told_7 : decode prog_1_method_8_code 7 = .ok (.ifCond .eq 13, 3) := by decide +kernel
theorem d_X_told_10 : decode prog_1_method_8_code 10 = .ok (.iload_n 1, 1) := by decide +kernel
theorem d_X_told_11 : decode prog_1_method_8_code 11 = .ok (.ifCond .lt 9, 3) := by decide +kernel
theorem d_X_told_14 : decode prog_1_method_8_code 14 = .ok (.iload_n 1, 1) := by decide +kernel
theorem d_X_told_15 : decode prog_1_method_8_code 15 = .ok (.bipush 9, 2) := by decide +kernel
theorem d_X_told_17 : decode prog_1_method_8_code 17 = .ok (.if_icmp .lt 5, 3) := by decide +kernel
theorem d_X_told_20 : decode prog_1_method_8_code 20 = .ok (.iconst (-1), 1) := by decide +kernel
theorem d_X_told_21 : decode prog_1_method_8_code 21 = .ok (.ireturn, 1) := by decide +kernel
theorem d_X_told_22 : decode prog_1_method_8_code 22 = .ok (.aload_n 0, 1) := by decide +kernel
theorem d_X_told_23 : decode prog_1_method_8_code 23 = .ok (.getfield 28, 3) := by decide +kernel
theorem d_X_told_26 : decode prog_1_method_8_code 26 = .ok (.getfield 70, 3) := by decide +kernel
theorem d_X_told_29 : decode prog_1_method_8_code 29 = .ok (.iload_n 1, 1) := by decide +kernel
theorem d_X_told_30 : decode prog_1_method_8_code 30 = .ok (.iaload, 1) := by decide +kernel
theorem d_X_told_31 : decode prog_1_method_8_code 31 = .ok (.ireturn, 1) := by decide +kernel
theorem d_X_method_0 : decode prog_1_method_9_code 0 = .ok (.aload_n 0, 1) := by decide +kernel
theorem d_X_method_1 : decode prog_1_method_9_code 1 = .ok (.getfield 28, 3) := by decide +kernel
theorem d_X_method_4 : decode prog_1_method_9_code 4 = .ok (.getfield 66, 3) := by decide +kernel
theorem d_X_method_7 : decode prog_1_method_9_code 7 = .ok (.ifCond .eq 26, 3) := by decide +kernel
theorem d_X_method_10 : decode prog_1_method_9_code 10 = .ok (.iload_n 1, 1) := by decide +kernel
theorem d_X_method_11 : decode prog_1_method_9_code 11 = .ok (.ifCond .lt 22, 3) := by decide +kernel
theorem d_X_method_14 : decode prog_1_method_9_code 14 = .ok (.iload_n 1, 1) := by decide +kernel
theorem d_X_method_15 : decode prog_1_method_9_code 15 = .ok (.aload_n 0, 1) := by decide +kernel
theorem d_X_method_16 : decode prog_1_method_9_code 16 = .ok (.getfield 28, 3) := by decide +kernel
theorem d_X_method_19 : decode prog_1_method_9_code 19 = .ok (.getfield 70, 3) := by decide +kernel
theorem d_X_method_22 : decode prog_1_method_9_code 22 = .ok (.iconst 3, 1) := by decide +kernel
theorem d_X_method_23 : decode prog_1_method_9_code 23 = .ok (.iaload, 1) := by decide +kernel
theorem d_X_method_24 : decode prog_1_method_9_code 24 = .ok (.if_icmp .ge 9, 3) := by decide +kernel
theorem d_X_method_27 : decode prog_1_method_9_code 27 = .ok (.iload_n 1, 1) := by decide +kernel
theorem d_X_method_28 : decode prog_1_method_9_code 28 = .ok (.bipush 60, 2) := by decide +kernel
theorem d_X_method_30 : decode prog_1_method_9_code 30 = .ok (.if_icmp .lt 5, 3) := by decide +kernel
theorem d_X_method_33 : decode prog_1_method_9_code 33 = .ok (.iconst (-1), 1) := by decide +kernel
theorem d_X_method_34 : decode prog_1_method_9_code 34 = .ok (.ireturn, 1) := by decide +kernel
theorem d_X_method_35 : decode prog_1_method_9_code 35 = .ok (.iload_n 2, 1) := by decide +kernel
theorem d_X_method_36 : decode prog_1_method_9_code 36 = .ok (.ifCond .lt 9, 3) := by decide +kernel
theorem d_X_method_39 : decode prog_1_method_9_code 39 = .ok (.iload_n 2, 1) := by decide +kernel
theorem d_X_method_40 : decode prog_1_method_9_code 40 = .ok (.bipush 6, 2) := by decide +kernel
theorem d_X_method_42 : decode prog_1_method_9_code 42 = .ok (.if_icmp .lt 5, 3) := by decide +kernel
theorem d_X_method_45 : decode prog_1_method_9_code 45 = .ok (.iconst (-1), 1) := by decide +kernel
theorem d_X_method_46 : decode prog_1_method_9_code 46 = .ok (.ireturn, 1) := by decide +kernel
theorem d_X_method_47 : decode prog_1_method_9_code 47 = .ok (.aload_n 0, 1) := by decide +kernel
theorem d_X_method_48 : decode prog_1_method_9_code 48 = .ok (.getfield 28, 3) := by decide +kernel
theorem d_X_method_51 : decode prog_1_method_9_code 51 = .ok (.getfield 74, 3) := by decide +kernel
theorem d_X_method_54 : decode prog_1_method_9_code 54 = .ok (.iload_n 1, 1) := by decide +kernel
theorem d_X_method_55 : decode prog_1_method_9_code 55 = .ok (.bipush 6, 2) := by decide +kernel
theorem d_X_method_57 : decode prog_1_method_9_code 57 = .ok (.imul, 1) := by decide +kernel
theorem d_X_method_58 : decode prog_1_method_9_code 58 = .ok (.iload_n 2, 1) := by decide +kernel
theorem d_X_method_59 : decode prog_1_method_9_code 59 = .ok (.iadd, 1) := by decide +kernel
theorem d_X_method_60 : decode prog_1_method_9_code 60 = .ok (.iaload, 1) := by decide +kernel
theorem d_X_method_61 : decode prog_1_method_9_code 61 = .ok (.ireturn, 1) := by decide +kernel
theorem d_X_entry_0 : decode prog_1_method_10_code 0 = .ok (.aload_n 0, 1) := by decide +kernel
theorem d_X_entry_1 : decode prog_1_method_10_code 1 = .ok (.getfield 28, 3) := by decide +kernel
theorem d_X_entry_4 : decode prog_1_method_10_code 4 = .ok (.getfield 66, 3) := by decide +kernel
theorem d_X_entry_7 : decode prog_1_method_10_code 7 = .ok (.ifCond .eq 28, 3) := by decide +kernel
theorem d_X_entry_10 : decode prog_1_method_10_code 10 = .ok (.iload_n 1, 1) := by decide +kernel
theorem d_X_entry_11 : decode prog_1_method_10_code 11 = .ok (.iconst 1, 1) := by decide +kernel
theorem d_X_entry_12 : decode prog_1_method_10_code 12 = .ok (.if_icmp .lt 23, 3) := by decide +kernel
theorem d_X_entry_15 : decode prog_1_method_10_code 15 = .ok (.iload_n 1, 1) := by decide +kernel
theorem d_X_entry_16 : decode prog_1_method_10_code 16 = .ok (.aload_n 0, 1) := by decide +kernel
theorem d_X_entry_17 : decode prog_1_method_10_code 17 = .ok (.getfield 28, 3) := by decide +kernel
theorem d_X_entry_20 : decode prog_1_method_10_code 20 = .ok (.getfield 70, 3) := by decide +kernel
theorem d_X_entry_23 : decode prog_1_method_10_code 23 = .ok (.iconst 0, 1) := by decide +kernel
theorem d_X_entry_24 : decode prog_1_method_10_code 24 = .ok (.iaload, 1) := by decide +kernel
theorem d_X_entry_25 : decode prog_1_method_10_code 25 = .ok (.if_icmp .ge 10, 3) := by decide +kernel
theorem d_X_entry_28 : decode prog_1_method_10_code 28 = .ok (.iload_n 1, 1) := by decide +kernel
theorem d_X_entry_29 : decode prog_1_method_10_code 29 = .ok (.sipush 300, 3) := by decide +kernel
theorem d_X_entry_32 : decode prog_1_method_10_code 32 = .ok (.if_icmp .lt 5, 3) := by decide +kernel
theorem d_X_entry_35 : decode prog_1_method_10_code 35 = .ok (.iconst (-1), 1) := by decide +kernel
theorem d_X_entry_36 : decode prog_1_method_10_code 36 = .ok (.ireturn, 1) := by decide +kernel
theorem d_X_entry_37 : decode prog_1_method_10_code 37 = .ok (.aload_n 0, 1) := by decide +kernel
theorem d_X_entry_38 : decode prog_1_method_10_code 38 = .ok (.getfield 28, 3) := by decide +kernel
theorem d_X_entry_41 : decode prog_1_method_10_code 41 = .ok (.getfield 79, 3) := by decide +kernel
theorem d_X_entry_44 : decode prog_1_method_10_code 44 = .ok (.iload_n 1, 1) := by decide +kernel
theorem d_X_entry_45 : decode prog_1_method_10_code 45 = .ok (.iaload, 1) := by decide +kernel
theorem d_X_entry_46 : decode prog_1_method_10_code 46 = .ok (.ireturn, 1) := by decide +kernel
theorem d_X_guarded_0 : decode prog_1_method_11_code 0 = .ok (.iload_n 1, 1) := by decide +kernel
theorem d_X_guarded_1 : decode prog_1_method_11_code 1 = .ok (.iconst 1, 1) := by decide +kernel
theorem d_X_guarded_2 : decode prog_1_method_11_code 2 = .ok (.if_icmp .lt 20, 3) := by decide +kernel
theorem d_X_guarded_5 : decode prog_1_method_11_code 5 = .ok (.iload_n 1, 1) := by decide +kernel
theorem d_X_guarded_6 : decode prog_1_method_11_code 6 = .ok (.sipush 255, 3) := by decide +kernel
theorem d_X_guarded_9 : decode prog_1_method_11_code 9 = .ok (.if_icmp .gt 13, 3) := by decide +kernel
theorem d_X_guarded_12 : decode prog_1_method_11_code 12 = .ok (.aload_n 0, 1) := by decide +kernel
theorem d_X_guarded_13 : decode prog_1_method_11_code 13 = .ok (.getfield 21, 3) := by decide +kernel
theorem d_X_guarded_16 : decode prog_1_method_11_code 16 = .ok (.invokevirtual 48, 3) := by decide +kernel
theorem d_X_guarded_19 : decode prog_1_method_11_code 19 = .ok (.ifCond .ne 5, 3) := by decide +kernel
theorem d_X_guarded_22 : decode prog_1_method_11_code 22 = .ok (.iconst (-1), 1) := by decide +kernel
theorem d_X_guarded_23 : decode prog_1_method_11_code 23 = .ok (.ireturn, 1) := by decide +kernel
theorem d_X_guarded_24 : decode prog_1_method_11_code 24 = .ok (.iconst 0, 1) := by decide +kernel
theorem d_X_guarded_25 : decode prog_1_method_11_code 25 = .ok (.istore_n 2, 1) := by decide +kernel
theorem d_X_guarded_26 : decode prog_1_method_11_code 26 = .ok (.iconst 0, 1) := by decide +kernel
theorem d_X_guarded_27 : decode prog_1_method_11_code 27 = .ok (.istore_n 3, 1) := by decide +kernel
theorem d_X_guarded_28 : decode prog_1_method_11_code 28 = .ok (.iload_n 3, 1) := by decide +kernel
theorem d_X_guarded_29 : decode prog_1_method_11_code 29 = .ok (.aload_n 0, 1) := by decide +kernel
theorem d_X_guarded_30 : decode prog_1_method_11_code 30 = .ok (.getfield 10, 3) := by decide +kernel
theorem d_X_guarded_33 : decode prog_1_method_11_code 33 = .ok (.getfield 32, 3) := by decide +kernel
theorem d_X_guarded_36 : decode prog_1_method_11_code 36 = .ok (.if_icmp .ge 40, 3) := by decide +kernel
theorem d_X_guarded_39 : decode prog_1_method_11_code 39 = .ok (.aload_n 0, 1) := by decide +kernel
theorem d_X_guarded_40 : decode prog_1_method_11_code 40 = .ok (.getfield 10, 3) := by decide +kernel
theorem d_X_guarded_43 : decode prog_1_method_11_code 43 = .ok (.iload_n 3, 1) := by decide +kernel
theorem d_X_guarded_44 : decode prog_1_method_11_code 44 = .ok (.iload_n 1, 1) := by decide +kernel
theorem d_X_guarded_45 : decode prog_1_method_11_code 45 = .ok (.invokevirtual 40, 3) := by decide +kernel
theorem d_X_guarded_48 : decode prog_1_method_11_code 48 = .ok (.aload_n 0, 1) := by decide +kernel
theorem d_X_guarded_49 : decode prog_1_method_11_code 49 = .ok (.getfield 21, 3) := by decide +kernel
theorem d_X_guarded_52 : decode prog_1_method_11_code 52 = .ok (.invokevirtual 48, 3) := by decide +kernel
theorem d_X_guarded_55 : decode prog_1_method_11_code 55 = .ok (.ifCond .ne 6, 3) := by decide +kernel
theorem d_X_guarded_58 : decode prog_1_method_11_code 58 = .ok (.iinc 2 1, 3) := by decide +kernel
theorem d_X_guarded_61 : decode prog_1_method_11_code 61 = .ok (.aload_n 0, 1) := by decide +kernel
theorem d_X_guarded_62 : decode prog_1_method_11_code 62 = .ok (.getfield 10, 3) := by decide +kernel
theorem d_X_guarded_65 : decode prog_1_method_11_code 65 = .ok (.iload_n 3, 1) := by decide +kernel
theorem d_X_guarded_66 : decode prog_1_method_11_code 66 = .ok (.iload_n 1, 1) := by decide +kernel
theorem d_X_guarded_67 : decode prog_1_method_11_code 67 = .ok (.invokevirtual 40, 3) := by decide +kernel
theorem d_X_guarded_70 : decode prog_1_method_11_code 70 = .ok (.iinc 3 1, 3) := by decide +kernel
theorem d_X_guarded_73 : decode prog_1_method_11_code 73 = .ok (.goto (-45), 3) := by decide +kernel
theorem d_X_guarded_76 : decode prog_1_method_11_code 76 = .ok (.iload_n 2, 1) := by decide +kernel
theorem d_X_guarded_77 : decode prog_1_method_11_code 77 = .ok (.ireturn, 1) := by decide +kernel
theorem d_X_beginnings_0 : decode prog_1_method_12_code 0 = .ok (.aload_n 0, 1) := by decide +kernel
theorem d_X_beginnings_1 : decode prog_1_method_12_code 1 = .ok (.getfield 21, 3) := by decide +kernel
theorem d_X_beginnings_4 : decode prog_1_method_12_code 4 = .ok (.invokevirtual 48, 3) := by decide +kernel
theorem d_X_beginnings_7 : decode prog_1_method_12_code 7 = .ok (.ifCond .eq 13, 3) := by decide +kernel
theorem d_X_beginnings_10 : decode prog_1_method_12_code 10 = .ok (.aload_n 0, 1) := by decide +kernel
theorem d_X_beginnings_11 : decode prog_1_method_12_code 11 = .ok (.getfield 10, 3) := by decide +kernel
theorem d_X_beginnings_14 : decode prog_1_method_12_code 14 = .ok (.getfield 32, 3) := by decide +kernel
theorem d_X_beginnings_17 : decode prog_1_method_12_code 17 = .ok (.goto 4, 3) := by decide +kernel
theorem d_X_beginnings_20 : decode prog_1_method_12_code 20 = .ok (.iconst (-1), 1) := by decide +kernel
theorem d_X_beginnings_21 : decode prog_1_method_12_code 21 = .ok (.ireturn, 1) := by decide +kernel
def rm_G_clearCodeTallies : Room := { frames := 0, cells := 0, slots := 0, locals := 0 }
noncomputable def f_G_clearCodeTallies_L2 : Nat → St → Int32 → Option (St)
  | 0, _, _ => none
  | n + 1, u, x1 => if 7 < x1 then (some (u)) else (gd x1 9 (bnd (sa u 12 x1.toNatClampNeg 0) fun u1 => f_G_clearCodeTallies_L2 n u1 (x1 + 1)))
noncomputable def f_G_clearCodeTallies (u : St) : Option (St) := cT (f_G_clearCodeTallies_L2 FU u 4) fun (u2 : St) => some u2
set_option maxHeartbeats 4000000 in
set_option maxRecDepth 100000 in
theorem w_G_clearCodeTallies_L2 {Z : zT} {D : va_G} {cs : Nat → ClassId} {a : Nat → Nat} {p : Program} {l : Launch} {e : Env} {s : State} {m : MethodId} {args : Array Value} {below : List Frame} {meth : Method} {c : Code} {Q : State → Prop}  {u2 : St} (C : Cx clA R_G prog_3_method_21_code 2 D cs (xW a cs) Z p s m args c) (hE : ∀ (H : Heap) (locs : List Loc) (ls : Array Slot), Dy clA D (xW a cs) s H locs u2 → lv_has ls 2 [] → W p l e rm_G_clearCodeTallies s m args below meth c H locs 0 0 Q (F0 m 21 ls [])) : ∀ (n : Nat) (u : St) (x1 : Int32) (H : Heap) (locs : List Loc) (ls : Array Slot), f_G_clearCodeTallies_L2 n u x1 = some u2 → Dy clA D (xW a cs) s H locs u → lv_has ls 2 [(0, .ref (a 1)), (1, .int x1)] → W p l e rm_G_clearCodeTallies s m args below meth c H locs 0 0 Q (F0 m 2 ls []) := by
  have hx := C.1.1
  have hb := C.1.2.1
  intro n
  induction n with
  | zero =>
    intro u x1 H locs ls hk I hl
    rw [f_G_clearCodeTallies_L2] at hk
    cases hk
  | succ n ih =>
    intro u x1 H locs ls hk I hl
    rw [f_G_clearCodeTallies_L2] at hk
    refine lv_iload_n hx hb d_G_clearCodeTallies_2 rfl (lv_at hl 1 rfl) ?_
    refine lv_bipush (v := 7) hx hb d_G_clearCodeTallies_3 (by decide) ?_
    refine lv_icmp_gt (tgt := 21) hx hb d_G_clearCodeTallies_5 (by decide) (fun hc => ?_) (fun hc => ?_)
    · replace hk := it_u hc hk
      obtain rfl := eo1 hk
      exact hE _ _ _ I (lv_sub hl [] rfl)
    · replace hk := ie_u hc hk
      refine lv_aload_n hx hb d_G_clearCodeTallies_8 rfl (lv_at hl 0 rfl) ?_
      refine g_G_tally C I k_161 d_G_clearCodeTallies_9 ?_
      refine lv_iload_n hx hb d_G_clearCodeTallies_12 rfl (lv_at hl 1 rfl) ?_
      refine lv_iconst (v := 0) hx hb d_G_clearCodeTallies_13 (by decide) ?_
      obtain ⟨hi, hk⟩ := gd_u hk
      refine s_G_tally C I hi d_G_clearCodeTallies_14 (fun H locs I => ?_)
      obtain ⟨u1, hu, hk⟩ := bnd_u hk
      rw [hu] at I
      clear hu
      refine lv_iinc (v := (x1 + 1)) (lv' := [(1, .int (x1 + 1)), (0, .ref (a 1))]) hx hb d_G_clearCodeTallies_15 hl (k := 1) rfl rfl (by decide) rfl (fun ls hl => ?_)
      refine lv_goto (tgt := 2) hx hb d_G_clearCodeTallies_18 (by decide) ?_
      exact ih u1 (x1 + 1) _ _ _ hk I (lv_sub hl [1, 0] rfl)
set_option maxHeartbeats 4000000 in
set_option maxRecDepth 100000 in
theorem c_G_clearCodeTallies {Z : zT} {D : va_G} {cs : Nat → ClassId} {a : Nat → Nat} (hw : wD (xW a cs)) (hz : zOK Z) (l : Launch) {u : St} {u' : St} (hk : f_G_clearCodeTallies u = some u') : KV clA D cs (xW a cs) Z l y_G_clearCodeTallies (.code y_G_clearCodeTallies prog_3_method_21_code 2 (Option.none : Option Jvm.ClassFile.FieldType)) rm_G_clearCodeTallies [.ref (a 1)] u u' := by
  unfold f_G_clearCodeTallies at hk
  refine KV.of (by decide) (Nat.le_of_ble_eq_true rfl) hw hz ?_
  intro p e s m args below meth c Q C I hQ ls hl
  have hl : lv_has ls 2 [(0, .ref (a 1))] := hl
  have hx := C.1.1
  have hb := C.1.2.1
  refine lv_iconst (v := 4) hx hb d_G_clearCodeTallies_0 (by decide) ?_
  refine lv_istore_n (lv' := [(1, .int 4), (0, .ref (a 1))]) hx hb d_G_clearCodeTallies_1 rfl hl (by decide) rfl (fun ls hl => ?_)
  obtain ⟨u2, hj3, hk⟩ := cT_u hk
  refine w_G_clearCodeTallies_L2 C (fun H locs ls I hl => ?_) FU u 4 _ _ _ hj3 I (lv_sub hl [1, 0] rfl)
  exact hQ _ _ _ _ _ I hk d_G_clearCodeTallies_21
def rm_G_noteMethod : Room := { frames := 1, cells := 0, slots := 0, locals := 21 }
noncomputable def f_G_noteMethod (u : St) (x1 : Int32) (x2 : Int32) : Option (St) := if x1 < 0 then (some u) else (if x1 < 60 then (gd (x1 * 6) 360 (bnd (sa u 13 (x1 * 6).toNatClampNeg (u.1 18)) fun u1 => cI (f_P_measureOf u1 (u1.1 19)) fun r4 u2 => gd ((x1 * 6) + 1) 360 (bnd (sa u2 13 ((x1 * 6) + 1).toNatClampNeg r4) fun u5 => bnd (if x2 = 0 then (0) else ((u5.1 7))) fun (z6 : Int32) => gd ((x1 * 6) + 2) 360 (bnd (sa u5 13 ((x1 * 6) + 2).toNatClampNeg z6) fun u7 => bnd (if x2 = 0 then (0) else ((u7.1 8))) fun (z8 : Int32) => gd ((x1 * 6) + 3) 360 (bnd (sa u7 13 ((x1 * 6) + 3).toNatClampNeg z8) fun u9 => bnd (if x2 = 0 then (0) else ((u9.1 10))) fun (z10 : Int32) => gd ((x1 * 6) + 4) 360 (bnd (sa u9 13 ((x1 * 6) + 4).toNatClampNeg z10) fun u11 => gd ((x1 * 6) + 5) 360 (bnd (sa u11 13 ((x1 * 6) + 5).toNatClampNeg (u11.1 20)) fun u12 => cT (if x2 = 0 then (some (u12)) else (gd 4 9 (gd 4 9 (bnd (sa u12 12 (4 : Int32).toNatClampNeg ((u12.2 12 (4 : Int32).toNatClampNeg) + (u12.1 10))) fun u15 => gd 5 9 (gd 5 9 (bnd (sa u15 12 (5 : Int32).toNatClampNeg ((u15.2 12 (5 : Int32).toNatClampNeg) + (u15.1 9))) fun u16 => gd 6 9 (gd 6 9 (bnd (sa u16 12 (6 : Int32).toNatClampNeg ((u16.2 12 (6 : Int32).toNatClampNeg) + (u16.1 11))) fun u17 => gd 7 9 (gd 7 9 (bnd (sa u17 12 (7 : Int32).toNatClampNeg ((u17.2 12 (7 : Int32).toNatClampNeg) + (u17.1 12))) fun u18 => some (u18))))))))))) fun (u13 : St) => some u13))))))) else (some u))
set_option maxHeartbeats 4000000 in
set_option maxRecDepth 100000 in
theorem c_G_noteMethod {Z : zT} {D : va_G} {cs : Nat → ClassId} {a : Nat → Nat} (hw : wD (xW a cs)) (hz : zOK Z) (l : Launch) {u : St} {x1 : Int32} {x2 : Int32} {u' : St} (hk : f_G_noteMethod u x1 x2 = some u') : KV clA D cs (xW a cs) Z l y_G_noteMethod (.code y_G_noteMethod prog_3_method_22_code 4 (Option.none : Option Jvm.ClassFile.FieldType)) rm_G_noteMethod [.ref (a 1), .int x1, .int x2] u u' := by
  unfold f_G_noteMethod at hk
  refine KV.of (by decide) (Nat.le_of_ble_eq_true rfl) hw hz ?_
  intro p e s m args below meth c Q C I hQ ls hl
  have hl : lv_has ls 4 [(0, .ref (a 1)), (1, .int x1), (2, .int x2)] := hl
  have hx := C.1.1
  have hb := C.1.2.1
  refine lv_iload_n hx hb d_G_noteMethod_0 rfl (lv_at hl 1 rfl) ?_
  refine lv_if_lt (tgt := 10) hx hb d_G_noteMethod_1 (by decide) (fun hc => ?_) (fun hc => ?_)
  · replace hk := it_u hc hk
    exact hQ _ _ _ _ _ I hk d_G_noteMethod_10
  · replace hk := ie_u hc hk
    refine lv_iload_n hx hb d_G_noteMethod_4 rfl (lv_at hl 1 rfl) ?_
    refine lv_bipush (v := 60) hx hb d_G_noteMethod_5 (by decide) ?_
    refine lv_icmp_lt (tgt := 11) hx hb d_G_noteMethod_7 (by decide) (fun hc => ?_) (fun hc => ?_)
    · replace hk := it_u hc hk
      refine lv_iload_n hx hb d_G_noteMethod_11 rfl (lv_at hl 1 rfl) ?_
      refine lv_bipush (v := 6) hx hb d_G_noteMethod_12 (by decide) ?_
      refine lv_imul hx hb d_G_noteMethod_14 ?_
      refine lv_istore_n (lv' := [(3, .int (x1 * 6)), (0, .ref (a 1)), (1, .int x1), (2, .int x2)]) hx hb d_G_noteMethod_15 rfl hl (by decide) rfl (fun ls hl => ?_)
      refine lv_aload_n hx hb d_G_noteMethod_16 rfl (lv_at hl 1 rfl) ?_
      refine g_G_methodRows C I k_163 d_G_noteMethod_17 ?_
      refine lv_iload_n hx hb d_G_noteMethod_20 rfl (lv_at hl 0 rfl) ?_
      refine lv_aload_n hx hb d_G_noteMethod_21 rfl (lv_at hl 1 rfl) ?_
      refine g_G_memberFlags C I k_172 d_G_noteMethod_22 ?_
      obtain ⟨hi, hk⟩ := gd_u hk
      refine s_G_methodRows C I hi d_G_noteMethod_25 (fun H locs I => ?_)
      obtain ⟨u1, hu, hk⟩ := bnd_u hk
      rw [hu] at I
      clear hu
      refine lv_aload_n hx hb d_G_noteMethod_26 rfl (lv_at hl 1 rfl) ?_
      refine g_G_methodRows C I k_163 d_G_noteMethod_27 ?_
      refine lv_iload_n hx hb d_G_noteMethod_30 rfl (lv_at hl 0 rfl) ?_
      refine lv_iconst (v := 1) hx hb d_G_noteMethod_31 (by decide) ?_
      refine lv_iadd hx hb d_G_noteMethod_32 ?_
      refine lv_aload_n hx hb d_G_noteMethod_33 rfl (lv_at hl 1 rfl) ?_
      refine g_G_pool C I k_159 d_G_noteMethod_34 ?_
      refine lv_aload_n hx hb d_G_noteMethod_37 rfl (lv_at hl 1 rfl) ?_
      refine g_G_memberType C I k_173 d_G_noteMethod_38 ?_
      obtain ⟨r4, u2, h3, hk⟩ := cI_u hk
      refine go_I I (call_runV (rest := [.int ((x1 * 6) + 1), .ref (a 20)]) C I (c_P_measureOf C.2.2.2.1 C.2.2.2.2.1 l h3 _) wd_P_measureOf (q0 := 2) (ci := 2) rfl rfl k_488 ⟨rfl, rfl⟩ ⟨by decide, by decide⟩ rfl hl.1 rfl (Nat.le_of_ble_eq_true rfl) d_G_noteMethod_41) (fun H locs I => ?_)
      obtain ⟨hi, hk⟩ := gd_u hk
      refine s_G_methodRows C I hi d_G_noteMethod_44 (fun H locs I => ?_)
      obtain ⟨u5, hu, hk⟩ := bnd_u hk
      rw [hu] at I
      clear hu
      refine lv_aload_n hx hb d_G_noteMethod_45 rfl (lv_at hl 1 rfl) ?_
      refine g_G_methodRows C I k_163 d_G_noteMethod_46 ?_
      refine lv_iload_n hx hb d_G_noteMethod_49 rfl (lv_at hl 0 rfl) ?_
      refine lv_iconst (v := 2) hx hb d_G_noteMethod_50 (by decide) ?_
      refine lv_iadd hx hb d_G_noteMethod_51 ?_
      refine lv_iload_n hx hb d_G_noteMethod_52 rfl (lv_at hl 3 rfl) ?_
      obtain ⟨z6, hj21, hk⟩ := bnd_u hk
      have Khj21 : ∀ (H : Heap) (locs : List Loc) (ls : Array Slot), Dy clA D (xW a cs) s H locs u5 → lv_has ls 4 [(0, .ref (a 1)), (2, .int x2), (3, .int (x1 * 6))] → W p l e rm_G_noteMethod s m args below meth c H locs 0 0 Q (F0 m 67 ls [.int z6, .int ((x1 * 6) + 2), .ref (a 20)]) := by
        intro H locs ls I hl
        obtain ⟨hi, hk⟩ := gd_u hk
        refine s_G_methodRows C I hi d_G_noteMethod_67 (fun H locs I => ?_)
        obtain ⟨u7, hu, hk⟩ := bnd_u hk
        rw [hu] at I
        clear hu
        refine lv_aload_n hx hb d_G_noteMethod_68 rfl (lv_at hl 0 rfl) ?_
        refine g_G_methodRows C I k_163 d_G_noteMethod_69 ?_
        refine lv_iload_n hx hb d_G_noteMethod_72 rfl (lv_at hl 2 rfl) ?_
        refine lv_iconst (v := 3) hx hb d_G_noteMethod_73 (by decide) ?_
        refine lv_iadd hx hb d_G_noteMethod_74 ?_
        refine lv_iload_n hx hb d_G_noteMethod_75 rfl (lv_at hl 1 rfl) ?_
        obtain ⟨z8, hj20, hk⟩ := bnd_u hk
        have Khj20 : ∀ (H : Heap) (locs : List Loc) (ls : Array Slot), Dy clA D (xW a cs) s H locs u7 → lv_has ls 4 [(0, .ref (a 1)), (2, .int x2), (3, .int (x1 * 6))] → W p l e rm_G_noteMethod s m args below meth c H locs 0 0 Q (F0 m 90 ls [.int z8, .int ((x1 * 6) + 3), .ref (a 20)]) := by
          intro H locs ls I hl
          obtain ⟨hi, hk⟩ := gd_u hk
          refine s_G_methodRows C I hi d_G_noteMethod_90 (fun H locs I => ?_)
          obtain ⟨u9, hu, hk⟩ := bnd_u hk
          rw [hu] at I
          clear hu
          refine lv_aload_n hx hb d_G_noteMethod_91 rfl (lv_at hl 0 rfl) ?_
          refine g_G_methodRows C I k_163 d_G_noteMethod_92 ?_
          refine lv_iload_n hx hb d_G_noteMethod_95 rfl (lv_at hl 2 rfl) ?_
          refine lv_iconst (v := 4) hx hb d_G_noteMethod_96 (by decide) ?_
          refine lv_iadd hx hb d_G_noteMethod_97 ?_
          refine lv_iload_n hx hb d_G_noteMethod_98 rfl (lv_at hl 1 rfl) ?_
          obtain ⟨z10, hj19, hk⟩ := bnd_u hk
          have Khj19 : ∀ (H : Heap) (locs : List Loc) (ls : Array Slot), Dy clA D (xW a cs) s H locs u9 → lv_has ls 4 [(0, .ref (a 1)), (2, .int x2), (3, .int (x1 * 6))] → W p l e rm_G_noteMethod s m args below meth c H locs 0 0 Q (F0 m 113 ls [.int z10, .int ((x1 * 6) + 4), .ref (a 20)]) := by
            intro H locs ls I hl
            obtain ⟨hi, hk⟩ := gd_u hk
            refine s_G_methodRows C I hi d_G_noteMethod_113 (fun H locs I => ?_)
            obtain ⟨u11, hu, hk⟩ := bnd_u hk
            rw [hu] at I
            clear hu
            refine lv_aload_n hx hb d_G_noteMethod_114 rfl (lv_at hl 0 rfl) ?_
            refine g_G_methodRows C I k_163 d_G_noteMethod_115 ?_
            refine lv_iload_n hx hb d_G_noteMethod_118 rfl (lv_at hl 2 rfl) ?_
            refine lv_iconst (v := 5) hx hb d_G_noteMethod_119 (by decide) ?_
            refine lv_iadd hx hb d_G_noteMethod_120 ?_
            refine lv_aload_n hx hb d_G_noteMethod_121 rfl (lv_at hl 0 rfl) ?_
            refine g_G_thrown C I k_174 d_G_noteMethod_122 ?_
            obtain ⟨hi, hk⟩ := gd_u hk
            refine s_G_methodRows C I hi d_G_noteMethod_125 (fun H locs I => ?_)
            obtain ⟨u12, hu, hk⟩ := bnd_u hk
            rw [hu] at I
            clear hu
            refine lv_iload_n hx hb d_G_noteMethod_126 rfl (lv_at hl 1 rfl) ?_
            obtain ⟨u13, hj14, hk⟩ := cT_u hk
            have Khj14 : ∀ (H : Heap) (locs : List Loc) (ls : Array Slot), Dy clA D (xW a cs) s H locs u13 → lv_has ls 4 [] → W p l e rm_G_noteMethod s m args below meth c H locs 0 0 Q (F0 m 196 ls []) := by
              intro H locs ls I hl
              exact hQ _ _ _ _ _ I hk d_G_noteMethod_196
            refine lv_if_eq (tgt := 196) hx hb d_G_noteMethod_127 (by decide) (fun hc => ?_) (fun hc => ?_)
            · replace hj14 := it_u hc hj14
              obtain rfl := eo1 hj14
              exact Khj14 _ _ _ I (lv_sub hl [] rfl)
            · replace hj14 := ie_u hc hj14
              refine lv_aload_n hx hb d_G_noteMethod_130 rfl (lv_at hl 0 rfl) ?_
              refine g_G_tally C I k_161 d_G_noteMethod_131 ?_
              refine lv_iconst (v := 4) hx hb d_G_noteMethod_134 (by decide) ?_
              refine lv_dup2_11 hx hb d_G_noteMethod_135 rfl rfl ?_
              obtain ⟨hi, hj14⟩ := gd_u hj14
              refine l_G_tally C I hi d_G_noteMethod_136 ?_
              refine lv_aload_n hx hb d_G_noteMethod_137 rfl (lv_at hl 0 rfl) ?_
              refine g_G_code C I k_166 d_G_noteMethod_138 ?_
              refine g_C_instructions C I k_120 d_G_noteMethod_141 ?_
              refine lv_iadd hx hb d_G_noteMethod_144 ?_
              obtain ⟨hi, hj14⟩ := gd_u hj14
              refine s_G_tally C I hi d_G_noteMethod_145 (fun H locs I => ?_)
              obtain ⟨u15, hu, hj14⟩ := bnd_u hj14
              rw [hu] at I
              clear hu
              refine lv_aload_n hx hb d_G_noteMethod_146 rfl (lv_at hl 0 rfl) ?_
              refine g_G_tally C I k_161 d_G_noteMethod_147 ?_
              refine lv_iconst (v := 5) hx hb d_G_noteMethod_150 (by decide) ?_
              refine lv_dup2_11 hx hb d_G_noteMethod_151 rfl rfl ?_
              obtain ⟨hi, hj14⟩ := gd_u hj14
              refine l_G_tally C I hi d_G_noteMethod_152 ?_
              refine lv_aload_n hx hb d_G_noteMethod_153 rfl (lv_at hl 0 rfl) ?_
              refine g_G_code C I k_166 d_G_noteMethod_154 ?_
              refine g_C_size C I k_118 d_G_noteMethod_157 ?_
              refine lv_iadd hx hb d_G_noteMethod_160 ?_
              obtain ⟨hi, hj14⟩ := gd_u hj14
              refine s_G_tally C I hi d_G_noteMethod_161 (fun H locs I => ?_)
              obtain ⟨u16, hu, hj14⟩ := bnd_u hj14
              rw [hu] at I
              clear hu
              refine lv_aload_n hx hb d_G_noteMethod_162 rfl (lv_at hl 0 rfl) ?_
              refine g_G_tally C I k_161 d_G_noteMethod_163 ?_
              refine lv_bipush (v := 6) hx hb d_G_noteMethod_166 (by decide) ?_
              refine lv_dup2_11 hx hb d_G_noteMethod_168 rfl rfl ?_
              obtain ⟨hi, hj14⟩ := gd_u hj14
              refine l_G_tally C I hi d_G_noteMethod_169 ?_
              refine lv_aload_n hx hb d_G_noteMethod_170 rfl (lv_at hl 0 rfl) ?_
              refine g_G_code C I k_166 d_G_noteMethod_171 ?_
              refine g_C_jumps C I k_122 d_G_noteMethod_174 ?_
              refine lv_iadd hx hb d_G_noteMethod_177 ?_
              obtain ⟨hi, hj14⟩ := gd_u hj14
              refine s_G_tally C I hi d_G_noteMethod_178 (fun H locs I => ?_)
              obtain ⟨u17, hu, hj14⟩ := bnd_u hj14
              rw [hu] at I
              clear hu
              refine lv_aload_n hx hb d_G_noteMethod_179 rfl (lv_at hl 0 rfl) ?_
              refine g_G_tally C I k_161 d_G_noteMethod_180 ?_
              refine lv_bipush (v := 7) hx hb d_G_noteMethod_183 (by decide) ?_
              refine lv_dup2_11 hx hb d_G_noteMethod_185 rfl rfl ?_
              obtain ⟨hi, hj14⟩ := gd_u hj14
              refine l_G_tally C I hi d_G_noteMethod_186 ?_
              refine lv_aload_n hx hb d_G_noteMethod_187 rfl (lv_at hl 0 rfl) ?_
              refine g_G_code C I k_166 d_G_noteMethod_188 ?_
              refine g_C_rows C I k_124 d_G_noteMethod_191 ?_
              refine lv_iadd hx hb d_G_noteMethod_194 ?_
              obtain ⟨hi, hj14⟩ := gd_u hj14
              refine s_G_tally C I hi d_G_noteMethod_195 (fun H locs I => ?_)
              obtain ⟨u18, hu, hj14⟩ := bnd_u hj14
              rw [hu] at I
              clear hu
              obtain rfl := eo1 hj14
              exact Khj14 _ _ _ I (lv_sub hl [] rfl)
          refine lv_if_eq (tgt := 112) hx hb d_G_noteMethod_99 (by decide) (fun hc => ?_) (fun hc => ?_)
          · replace hj19 := it_u hc hj19
            refine lv_iconst (v := 0) hx hb d_G_noteMethod_112 (by decide) ?_
            obtain rfl := ep1 hj19
            exact Khj19 _ _ _ I (lv_sub hl [0, 1, 2] rfl)
          · replace hj19 := ie_u hc hj19
            refine lv_aload_n hx hb d_G_noteMethod_102 rfl (lv_at hl 0 rfl) ?_
            refine g_G_code C I k_166 d_G_noteMethod_103 ?_
            refine g_C_instructions C I k_120 d_G_noteMethod_106 ?_
            refine lv_goto (tgt := 113) hx hb d_G_noteMethod_109 (by decide) ?_
            obtain rfl := ep1 hj19
            exact Khj19 _ _ _ I (lv_sub hl [0, 1, 2] rfl)
        refine lv_if_eq (tgt := 89) hx hb d_G_noteMethod_76 (by decide) (fun hc => ?_) (fun hc => ?_)
        · replace hj20 := it_u hc hj20
          refine lv_iconst (v := 0) hx hb d_G_noteMethod_89 (by decide) ?_
          obtain rfl := ep1 hj20
          exact Khj20 _ _ _ I (lv_sub hl [0, 1, 2] rfl)
        · replace hj20 := ie_u hc hj20
          refine lv_aload_n hx hb d_G_noteMethod_79 rfl (lv_at hl 0 rfl) ?_
          refine g_G_code C I k_166 d_G_noteMethod_80 ?_
          refine g_C_locals C I k_116 d_G_noteMethod_83 ?_
          refine lv_goto (tgt := 90) hx hb d_G_noteMethod_86 (by decide) ?_
          obtain rfl := ep1 hj20
          exact Khj20 _ _ _ I (lv_sub hl [0, 1, 2] rfl)
      refine lv_if_eq (tgt := 66) hx hb d_G_noteMethod_53 (by decide) (fun hc => ?_) (fun hc => ?_)
      · replace hj21 := it_u hc hj21
        refine lv_iconst (v := 0) hx hb d_G_noteMethod_66 (by decide) ?_
        obtain rfl := ep1 hj21
        exact Khj21 _ _ _ I (lv_sub hl [1, 3, 0] rfl)
      · replace hj21 := ie_u hc hj21
        refine lv_aload_n hx hb d_G_noteMethod_56 rfl (lv_at hl 1 rfl) ?_
        refine g_G_code C I k_166 d_G_noteMethod_57 ?_
        refine g_C_stack C I k_114 d_G_noteMethod_60 ?_
        refine lv_goto (tgt := 67) hx hb d_G_noteMethod_63 (by decide) ?_
        obtain rfl := ep1 hj21
        exact Khj21 _ _ _ I (lv_sub hl [1, 3, 0] rfl)
    · replace hk := ie_u hc hk
      exact hQ _ _ _ _ _ I hk d_G_noteMethod_10
def rm_G_attributeOf : Room := { frames := 5, cells := 0, slots := 0, locals := 113 }
noncomputable def f_G_attributeOf (u : St) (x1 : Int32) : Option (Int32 × St) := cI (f_P_spells u x1 3) fun r3 u1 => if r3 = 0 then (cI (f_P_spells u1 x1 4) fun r6 u4 => if r6 = 0 then (cI (f_P_spells u4 x1 5) fun r9 u7 => if r9 = 0 then (cI (f_P_spells u7 x1 6) fun r12 u10 => bnd (if r12 = 0 then (0) else (8)) fun (z13 : Int32) => some (z13, u10)) else (some (4, u7))) else (some (1, u4))) else (some (2, u1))
set_option maxHeartbeats 4000000 in
set_option maxRecDepth 100000 in
theorem c_G_attributeOf {sk sv9 st : Nat → Nat} {D : va_G} {cs : Nat → ClassId} {a : Nat → Nat} (hw : wD (xW a cs)) (hz : zOK (xZ sk sv9 st)) (l : Launch) {u : St} {x1 : Int32} {r : Int32} {u' : St} (hk : f_G_attributeOf u x1 = some (r, u')) : KI clA D cs (xW a cs) (xZ sk sv9 st) l y_G_attributeOf (.code y_G_attributeOf prog_3_method_16_code 2 (Option.some Jvm.ClassFile.FieldType.int)) rm_G_attributeOf [.ref (a 1), .int x1] u r u' := by
  unfold f_G_attributeOf at hk
  refine KI.of (by decide) (Nat.le_of_ble_eq_true rfl) rfl hw hz ?_
  intro p e s m args below meth c Q C I hQ ls hl
  have hl : lv_has ls 2 [(0, .ref (a 1)), (1, .int x1)] := hl
  have hx := C.1.1
  have hb := C.1.2.1
  refine lv_aload_n hx hb d_G_attributeOf_0 rfl (lv_at hl 0 rfl) ?_
  refine g_G_pool C I k_159 d_G_attributeOf_1 ?_
  refine lv_iload_n hx hb d_G_attributeOf_4 rfl (lv_at hl 1 rfl) ?_
  refine ld_str 3 C (tx := "Code") rfl d_G_attributeOf_5 ?_
  obtain ⟨r3, u1, h2, hk⟩ := cI_u hk
  refine go_I I (call_runV (rest := []) C I (c_P_spells C.2.2.2.1 C.2.2.2.2.1 l h2 _) wd_P_spells (q0 := 2) (ci := 2) rfl rfl k_495 ⟨rfl, rfl⟩ ⟨by decide, by decide⟩ rfl hl.1 rfl (Nat.le_of_ble_eq_true rfl) d_G_attributeOf_7) (fun H locs I => ?_)
  refine lv_if_eq (tgt := 15) hx hb d_G_attributeOf_10 (by decide) (fun hc => ?_) (fun hc => ?_)
  · replace hk := it_u hc hk
    refine lv_aload_n hx hb d_G_attributeOf_15 rfl (lv_at hl 0 rfl) ?_
    refine g_G_pool C I k_159 d_G_attributeOf_16 ?_
    refine lv_iload_n hx hb d_G_attributeOf_19 rfl (lv_at hl 1 rfl) ?_
    refine ld_str 4 C (tx := "ConstantValue") rfl d_G_attributeOf_20 ?_
    obtain ⟨r6, u4, h5, hk⟩ := cI_u hk
    refine go_I I (call_runV (rest := []) C I (c_P_spells C.2.2.2.1 C.2.2.2.2.1 l h5 _) wd_P_spells (q0 := 2) (ci := 2) rfl rfl k_495 ⟨rfl, rfl⟩ ⟨by decide, by decide⟩ rfl hl.1 rfl (Nat.le_of_ble_eq_true rfl) d_G_attributeOf_22) (fun H locs I => ?_)
    refine lv_if_eq (tgt := 30) hx hb d_G_attributeOf_25 (by decide) (fun hc => ?_) (fun hc => ?_)
    · replace hk := it_u hc hk
      refine lv_aload_n hx hb d_G_attributeOf_30 rfl (lv_at hl 0 rfl) ?_
      refine g_G_pool C I k_159 d_G_attributeOf_31 ?_
      refine lv_iload_n hx hb d_G_attributeOf_34 rfl (lv_at hl 1 rfl) ?_
      refine ld_str 5 C (tx := "Exceptions") rfl d_G_attributeOf_35 ?_
      obtain ⟨r9, u7, h8, hk⟩ := cI_u hk
      refine go_I I (call_runV (rest := []) C I (c_P_spells C.2.2.2.1 C.2.2.2.2.1 l h8 _) wd_P_spells (q0 := 2) (ci := 2) rfl rfl k_495 ⟨rfl, rfl⟩ ⟨by decide, by decide⟩ rfl hl.1 rfl (Nat.le_of_ble_eq_true rfl) d_G_attributeOf_37) (fun H locs I => ?_)
      refine lv_if_eq (tgt := 45) hx hb d_G_attributeOf_40 (by decide) (fun hc => ?_) (fun hc => ?_)
      · replace hk := it_u hc hk
        refine lv_aload_n hx hb d_G_attributeOf_45 rfl (lv_at hl 0 rfl) ?_
        refine g_G_pool C I k_159 d_G_attributeOf_46 ?_
        refine lv_iload_n hx hb d_G_attributeOf_49 rfl (lv_at hl 1 rfl) ?_
        refine ld_str 6 C (tx := "SourceFile") rfl d_G_attributeOf_50 ?_
        obtain ⟨r12, u10, h11, hk⟩ := cI_u hk
        refine go_I I (call_runV (rest := []) C I (c_P_spells C.2.2.2.1 C.2.2.2.2.1 l h11 _) wd_P_spells (q0 := 2) (ci := 2) rfl rfl k_495 ⟨rfl, rfl⟩ ⟨by decide, by decide⟩ rfl hl.1 rfl (Nat.le_of_ble_eq_true rfl) d_G_attributeOf_52) (fun H locs I => ?_)
        obtain ⟨z13, hj14, hk⟩ := bnd_u hk
        have Khj14 : ∀ (H : Heap) (locs : List Loc) (ls : Array Slot), Dy clA D (xW a cs) s H locs u10 → lv_has ls 2 [] → W p l e rm_G_attributeOf s m args below meth c H locs 0 0 Q (F0 m 64 ls [.int z13]) := by
          intro H locs ls I hl
          exact hQ _ _ _ _ _ _ I hk d_G_attributeOf_64
        refine lv_if_eq (tgt := 63) hx hb d_G_attributeOf_55 (by decide) (fun hc => ?_) (fun hc => ?_)
        · replace hj14 := it_u hc hj14
          refine lv_iconst (v := 0) hx hb d_G_attributeOf_63 (by decide) ?_
          obtain rfl := ep1 hj14
          exact Khj14 _ _ _ I (lv_sub hl [] rfl)
        · replace hj14 := ie_u hc hj14
          refine lv_bipush (v := 8) hx hb d_G_attributeOf_58 (by decide) ?_
          refine lv_goto (tgt := 64) hx hb d_G_attributeOf_60 (by decide) ?_
          obtain rfl := ep1 hj14
          exact Khj14 _ _ _ I (lv_sub hl [] rfl)
      · replace hk := ie_u hc hk
        refine lv_iconst (v := 4) hx hb d_G_attributeOf_43 (by decide) ?_
        exact hQ _ _ _ _ _ _ I hk d_G_attributeOf_44
    · replace hk := ie_u hc hk
      refine lv_iconst (v := 1) hx hb d_G_attributeOf_28 (by decide) ?_
      exact hQ _ _ _ _ _ _ I hk d_G_attributeOf_29
  · replace hk := ie_u hc hk
    refine lv_iconst (v := 2) hx hb d_G_attributeOf_13 (by decide) ?_
    exact hQ _ _ _ _ _ _ I hk d_G_attributeOf_14
def rm_G_leastLocals : Room := { frames := 1, cells := 0, slots := 0, locals := 21 }
noncomputable def f_G_leastLocals (u : St) : Option (Int32 × St) := cI (f_P_measureOf u (u.1 19)) fun r3 u1 => bnd (if ((u1.1 18) &&& 8) = 0 then (1) else (0)) fun (z4 : Int32) => some ((r3 + z4), u1)
set_option maxHeartbeats 4000000 in
set_option maxRecDepth 100000 in
theorem c_G_leastLocals {Z : zT} {D : va_G} {cs : Nat → ClassId} {a : Nat → Nat} (hw : wD (xW a cs)) (hz : zOK Z) (l : Launch) {u : St} {r : Int32} {u' : St} (hk : f_G_leastLocals u = some (r, u')) : KI clA D cs (xW a cs) Z l y_G_leastLocals (.code y_G_leastLocals prog_3_method_17_code 1 (Option.some Jvm.ClassFile.FieldType.int)) rm_G_leastLocals [.ref (a 1)] u r u' := by
  unfold f_G_leastLocals at hk
  refine KI.of (by decide) (Nat.le_of_ble_eq_true rfl) rfl hw hz ?_
  intro p e s m args below meth c Q C I hQ ls hl
  have hl : lv_has ls 1 [(0, .ref (a 1))] := hl
  have hx := C.1.1
  have hb := C.1.2.1
  refine lv_aload_n hx hb d_G_leastLocals_0 rfl (lv_at hl 0 rfl) ?_
  refine g_G_pool C I k_159 d_G_leastLocals_1 ?_
  refine lv_aload_n hx hb d_G_leastLocals_4 rfl (lv_at hl 0 rfl) ?_
  refine g_G_memberType C I k_173 d_G_leastLocals_5 ?_
  obtain ⟨r3, u1, h2, hk⟩ := cI_u hk
  refine go_I I (call_runV (rest := []) C I (c_P_measureOf C.2.2.2.1 C.2.2.2.2.1 l h2 _) wd_P_measureOf (q0 := 2) (ci := 2) rfl rfl k_488 ⟨rfl, rfl⟩ ⟨by decide, by decide⟩ rfl hl.1 rfl (Nat.le_of_ble_eq_true rfl) d_G_leastLocals_8) (fun H locs I => ?_)
  refine lv_aload_n hx hb d_G_leastLocals_11 rfl (lv_at hl 0 rfl) ?_
  refine g_G_memberFlags C I k_172 d_G_leastLocals_12 ?_
  refine lv_bipush (v := 8) hx hb d_G_leastLocals_15 (by decide) ?_
  refine lv_iand hx hb d_G_leastLocals_17 ?_
  obtain ⟨z4, hj5, hk⟩ := bnd_u hk
  have Khj5 : ∀ (H : Heap) (locs : List Loc) (ls : Array Slot), Dy clA D (xW a cs) s H locs u1 → lv_has ls 1 [] → W p l e rm_G_leastLocals s m args below meth c H locs 0 0 Q (F0 m 26 ls [.int z4, .int r3]) := by
    intro H locs ls I hl
    refine lv_iadd hx hb d_G_leastLocals_26 ?_
    exact hQ _ _ _ _ _ _ I hk d_G_leastLocals_27
  refine lv_if_eq (tgt := 25) hx hb d_G_leastLocals_18 (by decide) (fun hc => ?_) (fun hc => ?_)
  · replace hj5 := it_u hc hj5
    refine lv_iconst (v := 1) hx hb d_G_leastLocals_25 (by decide) ?_
    obtain rfl := ep1 hj5
    exact Khj5 _ _ _ I (lv_sub hl [] rfl)
  · replace hj5 := ie_u hc hj5
    refine lv_iconst (v := 0) hx hb d_G_leastLocals_21 (by decide) ?_
    refine lv_goto (tgt := 26) hx hb d_G_leastLocals_22 (by decide) ?_
    obtain rfl := ep1 hj5
    exact Khj5 _ _ _ I (lv_sub hl [] rfl)
def rm_G_constantKind : Room := { frames := 5, cells := 0, slots := 0, locals := 113 }
noncomputable def f_G_constantKind (u : St) : Option (Int32 × St) := cI (f_P_spells u (u.1 19) 7) fun r3 u1 => if r3 = 0 then (cI (f_P_spells u1 (u1.1 19) 8) fun r6 u4 => if r6 = 0 then (cI (f_P_firstOf u4 (u4.1 19)) fun r9 u7 => bnd (if r9 = 1 then (3) else (0)) fun (z10 : Int32) => some (z10, u7)) else (some (8, u4))) else (some (5, u1))
set_option maxHeartbeats 4000000 in
set_option maxRecDepth 100000 in
theorem c_G_constantKind {sk sv9 st : Nat → Nat} {D : va_G} {cs : Nat → ClassId} {a : Nat → Nat} (hw : wD (xW a cs)) (hz : zOK (xZ sk sv9 st)) (l : Launch) {u : St} {r : Int32} {u' : St} (hk : f_G_constantKind u = some (r, u')) : KI clA D cs (xW a cs) (xZ sk sv9 st) l y_G_constantKind (.code y_G_constantKind prog_3_method_19_code 1 (Option.some Jvm.ClassFile.FieldType.int)) rm_G_constantKind [.ref (a 1)] u r u' := by
  unfold f_G_constantKind at hk
  refine KI.of (by decide) (Nat.le_of_ble_eq_true rfl) rfl hw hz ?_
  intro p e s m args below meth c Q C I hQ ls hl
  have hl : lv_has ls 1 [(0, .ref (a 1))] := hl
  have hx := C.1.1
  have hb := C.1.2.1
  refine lv_aload_n hx hb d_G_constantKind_0 rfl (lv_at hl 0 rfl) ?_
  refine g_G_pool C I k_159 d_G_constantKind_1 ?_
  refine lv_aload_n hx hb d_G_constantKind_4 rfl (lv_at hl 0 rfl) ?_
  refine g_G_memberType C I k_173 d_G_constantKind_5 ?_
  refine ld_str 7 C (tx := "J") rfl d_G_constantKind_8 ?_
  obtain ⟨r3, u1, h2, hk⟩ := cI_u hk
  refine go_I I (call_runV (rest := []) C I (c_P_spells C.2.2.2.1 C.2.2.2.2.1 l h2 _) wd_P_spells (q0 := 2) (ci := 2) rfl rfl k_495 ⟨rfl, rfl⟩ ⟨by decide, by decide⟩ rfl hl.1 rfl (Nat.le_of_ble_eq_true rfl) d_G_constantKind_10) (fun H locs I => ?_)
  refine lv_if_eq (tgt := 18) hx hb d_G_constantKind_13 (by decide) (fun hc => ?_) (fun hc => ?_)
  · replace hk := it_u hc hk
    refine lv_aload_n hx hb d_G_constantKind_18 rfl (lv_at hl 0 rfl) ?_
    refine g_G_pool C I k_159 d_G_constantKind_19 ?_
    refine lv_aload_n hx hb d_G_constantKind_22 rfl (lv_at hl 0 rfl) ?_
    refine g_G_memberType C I k_173 d_G_constantKind_23 ?_
    refine ld_str 8 C (tx := "Ljava/lang/String;") rfl d_G_constantKind_26 ?_
    obtain ⟨r6, u4, h5, hk⟩ := cI_u hk
    refine go_I I (call_runV (rest := []) C I (c_P_spells C.2.2.2.1 C.2.2.2.2.1 l h5 _) wd_P_spells (q0 := 2) (ci := 2) rfl rfl k_495 ⟨rfl, rfl⟩ ⟨by decide, by decide⟩ rfl hl.1 rfl (Nat.le_of_ble_eq_true rfl) d_G_constantKind_28) (fun H locs I => ?_)
    refine lv_if_eq (tgt := 37) hx hb d_G_constantKind_31 (by decide) (fun hc => ?_) (fun hc => ?_)
    · replace hk := it_u hc hk
      refine lv_aload_n hx hb d_G_constantKind_37 rfl (lv_at hl 0 rfl) ?_
      refine g_G_pool C I k_159 d_G_constantKind_38 ?_
      refine lv_aload_n hx hb d_G_constantKind_41 rfl (lv_at hl 0 rfl) ?_
      refine g_G_memberType C I k_173 d_G_constantKind_42 ?_
      obtain ⟨r9, u7, h8, hk⟩ := cI_u hk
      refine go_I I (call_runV (rest := []) C I (c_P_firstOf C.2.2.2.1 C.2.2.2.2.1 l h8 _) wd_P_firstOf (q0 := 2) (ci := 2) rfl rfl k_489 ⟨rfl, rfl⟩ ⟨by decide, by decide⟩ rfl hl.1 rfl (Nat.le_of_ble_eq_true rfl) d_G_constantKind_45) (fun H locs I => ?_)
      refine lv_iconst (v := 1) hx hb d_G_constantKind_48 (by decide) ?_
      obtain ⟨z10, hj11, hk⟩ := bnd_u hk
      have Khj11 : ∀ (H : Heap) (locs : List Loc) (ls : Array Slot), Dy clA D (xW a cs) s H locs u7 → lv_has ls 1 [] → W p l e rm_G_constantKind s m args below meth c H locs 0 0 Q (F0 m 57 ls [.int z10]) := by
        intro H locs ls I hl
        exact hQ _ _ _ _ _ _ I hk d_G_constantKind_57
      refine lv_icmp_ne (tgt := 56) hx hb d_G_constantKind_49 (by decide) (fun hc => ?_) (fun hc => ?_)
      · replace hj11 := ie_u hc hj11
        refine lv_iconst (v := 0) hx hb d_G_constantKind_56 (by decide) ?_
        obtain rfl := ep1 hj11
        exact Khj11 _ _ _ I (lv_sub hl [] rfl)
      · replace hj11 := it_u hc hj11
        refine lv_iconst (v := 3) hx hb d_G_constantKind_52 (by decide) ?_
        refine lv_goto (tgt := 57) hx hb d_G_constantKind_53 (by decide) ?_
        obtain rfl := ep1 hj11
        exact Khj11 _ _ _ I (lv_sub hl [] rfl)
    · replace hk := ie_u hc hk
      refine lv_bipush (v := 8) hx hb d_G_constantKind_34 (by decide) ?_
      exact hQ _ _ _ _ _ _ I hk d_G_constantKind_36
  · replace hk := ie_u hc hk
    refine lv_iconst (v := 5) hx hb d_G_constantKind_16 (by decide) ?_
    exact hQ _ _ _ _ _ _ I hk d_G_constantKind_17
def rm_G_readConstant : Room := { frames := 6, cells := 0, slots := 0, locals := 133 }
noncomputable def f_G_readConstant (u : St) : Option (St) := cI (f_W_next u 2) fun r3 u1 => cI (f_P_kindOf u1 r3) fun r6 u4 => cI (f_G_constantKind u4) fun r9 u7 => bnd (if r9 = 0 then (0) else (if r6 = r9 then (1) else (0))) fun (z10 : Int32) => cV (f_W_need u7 z10 8 (u.1 1)) fun u11 => some u11
set_option maxHeartbeats 4000000 in
set_option maxRecDepth 100000 in
theorem c_G_readConstant {sk sv9 st : Nat → Nat} {D : va_G} {cs : Nat → ClassId} {a : Nat → Nat} (hw : wD (xW a cs)) (hz : zOK (xZ sk sv9 st)) (l : Launch) {u : St} {u' : St} (hk : f_G_readConstant u = some u') : KV clA D cs (xW a cs) (xZ sk sv9 st) l y_G_readConstant (.code y_G_readConstant prog_3_method_18_code 4 (Option.none : Option Jvm.ClassFile.FieldType)) rm_G_readConstant [.ref (a 1)] u u' := by
  unfold f_G_readConstant at hk
  refine KV.of (by decide) (Nat.le_of_ble_eq_true rfl) hw hz ?_
  intro p e s m args below meth c Q C I hQ ls hl
  have hl : lv_has ls 4 [(0, .ref (a 1))] := hl
  have hx := C.1.1
  have hb := C.1.2.1
  refine lv_aload_n hx hb d_G_readConstant_0 rfl (lv_at hl 0 rfl) ?_
  refine g_G_walk C I k_165 d_G_readConstant_1 ?_
  refine g_W_at C I k_39 d_G_readConstant_4 ?_
  refine lv_istore_n (lv' := [(1, .int (u.1 1)), (0, .ref (a 1))]) hx hb d_G_readConstant_7 rfl hl (by decide) rfl (fun ls hl => ?_)
  refine lv_aload_n hx hb d_G_readConstant_8 rfl (lv_at hl 1 rfl) ?_
  refine g_G_pool C I k_159 d_G_readConstant_9 ?_
  refine lv_aload_n hx hb d_G_readConstant_12 rfl (lv_at hl 1 rfl) ?_
  refine g_G_walk C I k_165 d_G_readConstant_13 ?_
  refine lv_iconst (v := 2) hx hb d_G_readConstant_16 (by decide) ?_
  obtain ⟨r3, u1, h2, hk⟩ := cI_u hk
  refine go_I I (call_runV (rest := [.ref (a 2)]) C I (c_W_next C.2.2.2.1 C.2.2.2.2.1 l h2 _) wd_W_next (q0 := 4) (ci := 4) rfl rfl k_283 ⟨rfl, rfl⟩ ⟨by decide, by decide⟩ rfl hl.1 rfl (Nat.le_of_ble_eq_true rfl) d_G_readConstant_17) (fun H locs I => ?_)
  obtain ⟨r6, u4, h5, hk⟩ := cI_u hk
  refine go_I I (call_runV (rest := []) C I (c_P_kindOf C.2.2.2.1 C.2.2.2.2.1 l h5 _) wd_P_kindOf (q0 := 2) (ci := 2) rfl rfl k_624 ⟨rfl, rfl⟩ ⟨by decide, by decide⟩ rfl hl.1 rfl (Nat.le_of_ble_eq_true rfl) d_G_readConstant_20) (fun H locs I => ?_)
  refine lv_istore_n (lv' := [(2, .int r6), (1, .int (u.1 1)), (0, .ref (a 1))]) hx hb d_G_readConstant_23 rfl hl (by decide) rfl (fun ls hl => ?_)
  refine lv_aload_n hx hb d_G_readConstant_24 rfl (lv_at hl 2 rfl) ?_
  obtain ⟨r9, u7, h8, hk⟩ := cI_u hk
  refine go_I I (call_runV (rest := []) C I (c_G_constantKind C.2.2.2.1 C.2.2.2.2.1 l h8 _) wd_G_constantKind (q0 := 1) (ci := 1) rfl rfl k_625 ⟨rfl, rfl⟩ ⟨by decide, by decide⟩ rfl hl.1 rfl (Nat.le_of_ble_eq_true rfl) d_G_readConstant_25) (fun H locs I => ?_)
  refine lv_istore_n (lv' := [(3, .int r9), (2, .int r6), (1, .int (u.1 1)), (0, .ref (a 1))]) hx hb d_G_readConstant_28 rfl hl (by decide) rfl (fun ls hl => ?_)
  refine lv_aload_n hx hb d_G_readConstant_29 rfl (lv_at hl 3 rfl) ?_
  refine g_G_walk C I k_165 d_G_readConstant_30 ?_
  refine lv_iload_n hx hb d_G_readConstant_33 rfl (lv_at hl 0 rfl) ?_
  obtain ⟨z10, hj13, hk⟩ := bnd_u hk
  have Khj13 : ∀ (H : Heap) (locs : List Loc) (ls : Array Slot), Dy clA D (xW a cs) s H locs u7 → lv_has ls 4 [(1, .int (u.1 1))] → W p l e rm_G_readConstant s m args below meth c H locs 0 0 Q (F0 m 47 ls [.int z10, .ref (a 4)]) := by
    intro H locs ls I hl
    refine lv_bipush (v := 8) hx hb d_G_readConstant_47 (by decide) ?_
    refine lv_iload_n hx hb d_G_readConstant_49 rfl (lv_at hl 0 rfl) ?_
    obtain ⟨u11, h12, hk⟩ := cV_u hk
    refine go_V I (call_runV (rest := []) C I (c_W_need C.2.2.2.1 C.2.2.2.2.1 l h12 _) wd_W_need (q0 := 4) (ci := 4) rfl rfl k_289 ⟨rfl, rfl⟩ ⟨by decide, by decide⟩ rfl hl.1 rfl (Nat.le_of_ble_eq_true rfl) d_G_readConstant_50) (fun H locs I => ?_)
    exact hQ _ _ _ _ _ I hk d_G_readConstant_53
  refine lv_if_eq (tgt := 46) hx hb d_G_readConstant_34 (by decide) (fun hc => ?_) (fun hc => ?_)
  · replace hj13 := it_u hc hj13
    refine lv_iconst (v := 0) hx hb d_G_readConstant_46 (by decide) ?_
    obtain rfl := ep1 hj13
    exact Khj13 _ _ _ I (lv_sub hl [2] rfl)
  · replace hj13 := ie_u hc hj13
    refine lv_iload_n hx hb d_G_readConstant_37 rfl (lv_at hl 1 rfl) ?_
    refine lv_iload_n hx hb d_G_readConstant_38 rfl (lv_at hl 0 rfl) ?_
    refine lv_icmp_ne (tgt := 46) hx hb d_G_readConstant_39 (by decide) (fun hc => ?_) (fun hc => ?_)
    · replace hj13 := ie_u hc hj13
      refine lv_iconst (v := 0) hx hb d_G_readConstant_46 (by decide) ?_
      obtain rfl := ep1 hj13
      exact Khj13 _ _ _ I (lv_sub hl [2] rfl)
    · replace hj13 := it_u hc hj13
      refine lv_iconst (v := 1) hx hb d_G_readConstant_42 (by decide) ?_
      refine lv_goto (tgt := 47) hx hb d_G_readConstant_43 (by decide) ?_
      obtain rfl := ep1 hj13
      exact Khj13 _ _ _ I (lv_sub hl [2] rfl)
def rm_G_readExceptions : Room := { frames := 3, cells := 0, slots := 0, locals := 69 }
noncomputable def f_G_readExceptions_L14 : Nat → St → Int32 → Option (St)
  | 0, _, _ => none
  | n + 1, u, x1 => if (u.1 20) ≤ x1 then (some (u)) else (cI (f_W_sound u) fun r7 u5 => if r7 = 0 then (some (u5)) else (cI (f_P_take u5 7) fun r10 u8 => f_G_readExceptions_L14 n u8 (x1 + 1)))
noncomputable def f_G_readExceptions (u : St) : Option (St) := cI (f_W_next u 2) fun r3 u1 => bnd (sv u1 20 r3) fun u4 => cT (f_G_readExceptions_L14 FU u4 0) fun (u11 : St) => some u11
set_option maxHeartbeats 4000000 in
set_option maxRecDepth 100000 in
theorem w_G_readExceptions_L14 {Z : zT} {D : va_G} {cs : Nat → ClassId} {a : Nat → Nat} {p : Program} {l : Launch} {e : Env} {s : State} {m : MethodId} {args : Array Value} {below : List Frame} {meth : Method} {c : Code} {Q : State → Prop}  {u2 : St} (C : Cx clA R_G prog_3_method_20_code 2 D cs (xW a cs) Z p s m args c) (hE : ∀ (H : Heap) (locs : List Loc) (ls : Array Slot), Dy clA D (xW a cs) s H locs u2 → lv_has ls 2 [] → W p l e rm_G_readExceptions s m args below meth c H locs 0 0 Q (F0 m 48 ls [])) : ∀ (n : Nat) (u : St) (x1 : Int32) (H : Heap) (locs : List Loc) (ls : Array Slot), f_G_readExceptions_L14 n u x1 = some u2 → Dy clA D (xW a cs) s H locs u → lv_has ls 2 [(0, .ref (a 1)), (1, .int x1)] → W p l e rm_G_readExceptions s m args below meth c H locs 0 0 Q (F0 m 14 ls []) := by
  have hx := C.1.1
  have hb := C.1.2.1
  intro n
  induction n with
  | zero =>
    intro u x1 H locs ls hk I hl
    rw [f_G_readExceptions_L14] at hk
    cases hk
  | succ n ih =>
    intro u x1 H locs ls hk I hl
    rw [f_G_readExceptions_L14] at hk
    refine lv_iload_n hx hb d_G_readExceptions_14 rfl (lv_at hl 1 rfl) ?_
    refine lv_aload_n hx hb d_G_readExceptions_15 rfl (lv_at hl 0 rfl) ?_
    refine g_G_thrown C I k_174 d_G_readExceptions_16 ?_
    refine lv_icmp_ge (tgt := 48) hx hb d_G_readExceptions_19 (by decide) (fun hc => ?_) (fun hc => ?_)
    · replace hk := it_u hc hk
      obtain rfl := eo1 hk
      exact hE _ _ _ I (lv_sub hl [] rfl)
    · replace hk := ie_u hc hk
      refine lv_aload_n hx hb d_G_readExceptions_22 rfl (lv_at hl 0 rfl) ?_
      refine g_G_walk C I k_165 d_G_readExceptions_23 ?_
      obtain ⟨r7, u5, h6, hk⟩ := cI_u hk
      refine go_I I (call_runV (rest := []) C I (c_W_sound C.2.2.2.1 C.2.2.2.2.1 l h6 _) wd_W_sound (q0 := 4) (ci := 4) rfl rfl k_500 ⟨rfl, rfl⟩ ⟨by decide, by decide⟩ rfl hl.1 rfl (Nat.le_of_ble_eq_true rfl) d_G_readExceptions_26) (fun H locs I => ?_)
      refine lv_if_eq (tgt := 48) hx hb d_G_readExceptions_29 (by decide) (fun hc => ?_) (fun hc => ?_)
      · replace hk := it_u hc hk
        obtain rfl := eo1 hk
        exact hE _ _ _ I (lv_sub hl [] rfl)
      · replace hk := ie_u hc hk
        refine lv_aload_n hx hb d_G_readExceptions_32 rfl (lv_at hl 0 rfl) ?_
        refine g_G_pool C I k_159 d_G_readExceptions_33 ?_
        refine lv_bipush (v := 7) hx hb d_G_readExceptions_36 (by decide) ?_
        obtain ⟨r10, u8, h9, hk⟩ := cI_u hk
        refine go_I I (call_runV (rest := []) C I (c_P_take C.2.2.2.1 C.2.2.2.2.1 l h9 _) wd_P_take (q0 := 2) (ci := 2) rfl rfl k_484 ⟨rfl, rfl⟩ ⟨by decide, by decide⟩ rfl hl.1 rfl (Nat.le_of_ble_eq_true rfl) d_G_readExceptions_38) (fun H locs I => ?_)
        refine lv_pop hx hb d_G_readExceptions_41 rfl ?_
        refine lv_iinc (v := (x1 + 1)) (lv' := [(1, .int (x1 + 1)), (0, .ref (a 1))]) hx hb d_G_readExceptions_42 hl (k := 1) rfl rfl (by decide) rfl (fun ls hl => ?_)
        refine lv_goto (tgt := 14) hx hb d_G_readExceptions_45 (by decide) ?_
        exact ih u8 (x1 + 1) _ _ _ hk I (lv_sub hl [1, 0] rfl)
set_option maxHeartbeats 4000000 in
set_option maxRecDepth 100000 in
theorem c_G_readExceptions {Z : zT} {D : va_G} {cs : Nat → ClassId} {a : Nat → Nat} (hw : wD (xW a cs)) (hz : zOK Z) (l : Launch) {u : St} {u' : St} (hk : f_G_readExceptions u = some u') : KV clA D cs (xW a cs) Z l y_G_readExceptions (.code y_G_readExceptions prog_3_method_20_code 2 (Option.none : Option Jvm.ClassFile.FieldType)) rm_G_readExceptions [.ref (a 1)] u u' := by
  unfold f_G_readExceptions at hk
  refine KV.of (by decide) (Nat.le_of_ble_eq_true rfl) hw hz ?_
  intro p e s m args below meth c Q C I hQ ls hl
  have hl : lv_has ls 2 [(0, .ref (a 1))] := hl
  have hx := C.1.1
  have hb := C.1.2.1
  refine lv_aload_n hx hb d_G_readExceptions_0 rfl (lv_at hl 0 rfl) ?_
  refine lv_aload_n hx hb d_G_readExceptions_1 rfl (lv_at hl 0 rfl) ?_
  refine g_G_walk C I k_165 d_G_readExceptions_2 ?_
  refine lv_iconst (v := 2) hx hb d_G_readExceptions_5 (by decide) ?_
  obtain ⟨r3, u1, h2, hk⟩ := cI_u hk
  refine go_I I (call_runV (rest := [.ref (a 1)]) C I (c_W_next C.2.2.2.1 C.2.2.2.2.1 l h2 _) wd_W_next (q0 := 4) (ci := 4) rfl rfl k_283 ⟨rfl, rfl⟩ ⟨by decide, by decide⟩ rfl hl.1 rfl (Nat.le_of_ble_eq_true rfl) d_G_readExceptions_6) (fun H locs I => ?_)
  refine p_G_thrown C I k_174 d_G_readExceptions_9 (fun H locs I => ?_)
  obtain ⟨u4, hu, hk⟩ := bnd_u hk
  rw [hu] at I
  clear hu
  refine lv_iconst (v := 0) hx hb d_G_readExceptions_12 (by decide) ?_
  refine lv_istore_n (lv' := [(1, .int 0), (0, .ref (a 1))]) hx hb d_G_readExceptions_13 rfl hl (by decide) rfl (fun ls hl => ?_)
  obtain ⟨u11, hj12, hk⟩ := cT_u hk
  refine w_G_readExceptions_L14 C (fun H locs ls I hl => ?_) FU u4 0 _ _ _ hj12 I (lv_sub hl [1, 0] rfl)
  exact hQ _ _ _ _ _ I hk d_G_readExceptions_48
def rm_G_readAttributes : Room := { frames := 7, cells := 0, slots := 0, locals := 156 }
noncomputable def f_G_readAttributes_L14 (x1 : Int32) (x2 : Int32) : Nat → St → Int32 → Int32 → Option (St × Int32)
  | 0, _, _, _ => none
  | n + 1, u, x3, x4 => if x2 ≤ x4 then (some (u, x3)) else (cI (f_W_sound u) fun r6 u4 => if r6 = 0 then (some (u4, x3)) else (cI (f_P_take u4 1) fun r9 u7 => cI (f_G_attributeOf u7 r9) fun r12 u10 => cI (f_W_next u10 4) fun r15 u13 => bnd (if ((r12 &&& x1) &&& (x3 ^^^ (-1))) = 0 then (0) else (1)) fun (z16 : Int32) => cV (f_W_need u13 z16 19 (u4.1 1)) fun u17 => cT (if r12 = 2 then (cI (f_W_sound u17) fun r34 u32 => if r34 = 0 then (if r12 = 1 then (cV (f_G_readConstant u32) fun u40 => some (u40)) else (if r12 = 4 then (cV (f_G_readExceptions u32) fun u38 => some (u38)) else (if r12 = 8 then (cI (f_P_take u32 1) fun r37 u35 => some (u35)) else (some (u32))))) else (cI (f_G_leastLocals u32) fun r44 u42 => cV (f_C_readAll u42 (u32.1 15) r44) fun u45 => some (u45))) else (if r12 = 1 then (cV (f_G_readConstant u17) fun u30 => some (u30)) else (if r12 = 4 then (cV (f_G_readExceptions u17) fun u28 => some (u28)) else (if r12 = 8 then (cI (f_P_take u17 1) fun r27 u25 => some (u25)) else (some (u17)))))) fun (u19 : St) => bnd (if ((u19.1 1) - (u13.1 1)) = r15 then (1) else (0)) fun (z20 : Int32) => cV (f_W_need u19 z20 18 (u10.1 1)) fun u21 => f_G_readAttributes_L14 x1 x2 n u21 (x3 ||| r12) (x4 + 1)))
noncomputable def f_G_readAttributes (u : St) (x1 : Int32) : Option (Int32 × St) := cI (f_W_next u 2) fun r3 u1 => cT (f_G_readAttributes_L14 x1 r3 FU u1 0 0) fun (p51 : St × Int32) => some (p51.2, p51.1)
set_option maxHeartbeats 4000000 in
set_option maxRecDepth 100000 in
theorem w_G_readAttributes_L14 {sk sv9 st : Nat → Nat} {D : va_G} {cs : Nat → ClassId} {a : Nat → Nat} {p : Program} {l : Launch} {e : Env} {s : State} {m : MethodId} {args : Array Value} {below : List Frame} {meth : Method} {c : Code} {Q : State → Prop}  {u2 : St} {o3 : Int32} {x1 : Int32} {x2 : Int32} (C : Cx clA R_G prog_3_method_15_code 10 D cs (xW a cs) (xZ sk sv9 st) p s m args c) (hE : ∀ (H : Heap) (locs : List Loc) (ls : Array Slot), Dy clA D (xW a cs) s H locs u2 → lv_has ls 10 [(3, .int o3)] → W p l e rm_G_readAttributes s m args below meth c H locs 0 0 Q (F0 m 226 ls [])) : ∀ (n : Nat) (u : St) (x3 : Int32) (x4 : Int32) (H : Heap) (locs : List Loc) (ls : Array Slot), f_G_readAttributes_L14 x1 x2 n u x3 x4 = some (u2, o3) → Dy clA D (xW a cs) s H locs u → lv_has ls 10 [(0, .ref (a 1)), (1, .int x1), (2, .int x2), (3, .int x3), (4, .int x4)] → W p l e rm_G_readAttributes s m args below meth c H locs 0 0 Q (F0 m 14 ls []) := by
  have hx := C.1.1
  have hb := C.1.2.1
  intro n
  induction n with
  | zero =>
    intro u x3 x4 H locs ls hk I hl
    rw [f_G_readAttributes_L14] at hk
    cases hk
  | succ n ih =>
    intro u x3 x4 H locs ls hk I hl
    rw [f_G_readAttributes_L14] at hk
    refine lv_iload hx hb d_G_readAttributes_14 (lv_at hl 4 rfl) ?_
    refine lv_iload_n hx hb d_G_readAttributes_16 rfl (lv_at hl 2 rfl) ?_
    refine lv_icmp_ge (tgt := 226) hx hb d_G_readAttributes_17 (by decide) (fun hc => ?_) (fun hc => ?_)
    · replace hk := it_u hc hk
      obtain ⟨rfl, rfl⟩ := eo2 hk
      exact hE _ _ _ I (lv_sub hl [3] rfl)
    · replace hk := ie_u hc hk
      refine lv_aload_n hx hb d_G_readAttributes_20 rfl (lv_at hl 0 rfl) ?_
      refine g_G_walk C I k_165 d_G_readAttributes_21 ?_
      obtain ⟨r6, u4, h5, hk⟩ := cI_u hk
      refine go_I I (call_runV (rest := []) C I (c_W_sound C.2.2.2.1 C.2.2.2.2.1 l h5 _) wd_W_sound (q0 := 4) (ci := 4) rfl rfl k_500 ⟨rfl, rfl⟩ ⟨by decide, by decide⟩ rfl hl.1 rfl (Nat.le_of_ble_eq_true rfl) d_G_readAttributes_24) (fun H locs I => ?_)
      refine lv_if_eq (tgt := 226) hx hb d_G_readAttributes_27 (by decide) (fun hc => ?_) (fun hc => ?_)
      · replace hk := it_u hc hk
        obtain ⟨rfl, rfl⟩ := eo2 hk
        exact hE _ _ _ I (lv_sub hl [3] rfl)
      · replace hk := ie_u hc hk
        refine lv_aload_n hx hb d_G_readAttributes_30 rfl (lv_at hl 0 rfl) ?_
        refine g_G_walk C I k_165 d_G_readAttributes_31 ?_
        refine g_W_at C I k_39 d_G_readAttributes_34 ?_
        refine lv_istore (lv' := [(5, .int (u4.1 1)), (0, .ref (a 1)), (1, .int x1), (2, .int x2), (3, .int x3), (4, .int x4)]) hx hb d_G_readAttributes_37 hl (by decide) rfl (fun ls hl => ?_)
        refine lv_aload_n hx hb d_G_readAttributes_39 rfl (lv_at hl 1 rfl) ?_
        refine lv_aload_n hx hb d_G_readAttributes_40 rfl (lv_at hl 1 rfl) ?_
        refine g_G_pool C I k_159 d_G_readAttributes_41 ?_
        refine lv_iconst (v := 1) hx hb d_G_readAttributes_44 (by decide) ?_
        obtain ⟨r9, u7, h8, hk⟩ := cI_u hk
        refine go_I I (call_runV (rest := [.ref (a 1)]) C I (c_P_take C.2.2.2.1 C.2.2.2.2.1 l h8 _) wd_P_take (q0 := 2) (ci := 2) rfl rfl k_484 ⟨rfl, rfl⟩ ⟨by decide, by decide⟩ rfl hl.1 rfl (Nat.le_of_ble_eq_true rfl) d_G_readAttributes_45) (fun H locs I => ?_)
        obtain ⟨r12, u10, h11, hk⟩ := cI_u hk
        refine go_I I (call_runV (rest := []) C I (c_G_attributeOf C.2.2.2.1 C.2.2.2.2.1 l h11 _) wd_G_attributeOf (q0 := 1) (ci := 1) rfl rfl k_529 ⟨rfl, rfl⟩ ⟨by decide, by decide⟩ rfl hl.1 rfl (Nat.le_of_ble_eq_true rfl) d_G_readAttributes_48) (fun H locs I => ?_)
        refine lv_istore (lv' := [(6, .int r12), (5, .int (u4.1 1)), (0, .ref (a 1)), (1, .int x1), (2, .int x2), (3, .int x3), (4, .int x4)]) hx hb d_G_readAttributes_51 hl (by decide) rfl (fun ls hl => ?_)
        refine lv_aload_n hx hb d_G_readAttributes_53 rfl (lv_at hl 2 rfl) ?_
        refine g_G_walk C I k_165 d_G_readAttributes_54 ?_
        refine g_W_at C I k_39 d_G_readAttributes_57 ?_
        refine lv_istore (lv' := [(7, .int (u10.1 1)), (6, .int r12), (5, .int (u4.1 1)), (0, .ref (a 1)), (1, .int x1), (2, .int x2), (3, .int x3), (4, .int x4)]) hx hb d_G_readAttributes_60 hl (by decide) rfl (fun ls hl => ?_)
        refine lv_aload_n hx hb d_G_readAttributes_62 rfl (lv_at hl 3 rfl) ?_
        refine g_G_walk C I k_165 d_G_readAttributes_63 ?_
        refine lv_iconst (v := 4) hx hb d_G_readAttributes_66 (by decide) ?_
        obtain ⟨r15, u13, h14, hk⟩ := cI_u hk
        refine go_I I (call_runV (rest := []) C I (c_W_next C.2.2.2.1 C.2.2.2.2.1 l h14 _) wd_W_next (q0 := 4) (ci := 4) rfl rfl k_283 ⟨rfl, rfl⟩ ⟨by decide, by decide⟩ rfl hl.1 rfl (Nat.le_of_ble_eq_true rfl) d_G_readAttributes_67) (fun H locs I => ?_)
        refine lv_istore (lv' := [(8, .int r15), (7, .int (u10.1 1)), (6, .int r12), (5, .int (u4.1 1)), (0, .ref (a 1)), (1, .int x1), (2, .int x2), (3, .int x3), (4, .int x4)]) hx hb d_G_readAttributes_70 hl (by decide) rfl (fun ls hl => ?_)
        refine lv_aload_n hx hb d_G_readAttributes_72 rfl (lv_at hl 4 rfl) ?_
        refine g_G_walk C I k_165 d_G_readAttributes_73 ?_
        refine g_W_at C I k_39 d_G_readAttributes_76 ?_
        refine lv_istore (lv' := [(9, .int (u13.1 1)), (8, .int r15), (7, .int (u10.1 1)), (6, .int r12), (5, .int (u4.1 1)), (0, .ref (a 1)), (1, .int x1), (2, .int x2), (3, .int x3), (4, .int x4)]) hx hb d_G_readAttributes_79 hl (by decide) rfl (fun ls hl => ?_)
        refine lv_aload_n hx hb d_G_readAttributes_81 rfl (lv_at hl 5 rfl) ?_
        refine g_G_walk C I k_165 d_G_readAttributes_82 ?_
        refine lv_iload hx hb d_G_readAttributes_85 (lv_at hl 3 rfl) ?_
        refine lv_iload_n hx hb d_G_readAttributes_87 rfl (lv_at hl 6 rfl) ?_
        refine lv_iand hx hb d_G_readAttributes_88 ?_
        refine lv_iload_n hx hb d_G_readAttributes_89 rfl (lv_at hl 8 rfl) ?_
        refine lv_iconst (v := (-1)) hx hb d_G_readAttributes_90 (by decide) ?_
        refine lv_ixor hx hb d_G_readAttributes_91 ?_
        refine lv_iand hx hb d_G_readAttributes_92 ?_
        obtain ⟨z16, hj47, hk⟩ := bnd_u hk
        have Khj47 : ∀ (H : Heap) (locs : List Loc) (ls : Array Slot), Dy clA D (xW a cs) s H locs u13 → lv_has ls 10 [(0, .ref (a 1)), (1, .int x1), (2, .int x2), (3, .int x3), (4, .int x4), (5, .int (u4.1 1)), (6, .int r12), (7, .int (u10.1 1)), (8, .int r15), (9, .int (u13.1 1))] → W p l e rm_G_readAttributes s m args below meth c H locs 0 0 Q (F0 m 101 ls [.int z16, .ref (a 4)]) := by
          intro H locs ls I hl
          refine lv_bipush (v := 19) hx hb d_G_readAttributes_101 (by decide) ?_
          refine lv_iload hx hb d_G_readAttributes_103 (lv_at hl 5 rfl) ?_
          obtain ⟨u17, h18, hk⟩ := cV_u hk
          refine go_V I (call_runV (rest := []) C I (c_W_need C.2.2.2.1 C.2.2.2.2.1 l h18 _) wd_W_need (q0 := 4) (ci := 4) rfl rfl k_289 ⟨rfl, rfl⟩ ⟨by decide, by decide⟩ rfl hl.1 rfl (Nat.le_of_ble_eq_true rfl) d_G_readAttributes_105) (fun H locs I => ?_)
          refine lv_iload_n hx hb d_G_readAttributes_108 rfl (lv_at hl 3 rfl) ?_
          refine lv_iload hx hb d_G_readAttributes_109 (lv_at hl 6 rfl) ?_
          refine lv_ior hx hb d_G_readAttributes_111 ?_
          refine lv_istore_n (lv' := [(3, .int (x3 ||| r12)), (0, .ref (a 1)), (1, .int x1), (2, .int x2), (4, .int x4), (5, .int (u4.1 1)), (6, .int r12), (7, .int (u10.1 1)), (8, .int r15), (9, .int (u13.1 1))]) hx hb d_G_readAttributes_112 rfl hl (by decide) rfl (fun ls hl => ?_)
          refine lv_iload hx hb d_G_readAttributes_113 (lv_at hl 6 rfl) ?_
          refine lv_iconst (v := 2) hx hb d_G_readAttributes_115 (by decide) ?_
          obtain ⟨u19, hj24, hk⟩ := cT_u hk
          have Khj24 : ∀ (H : Heap) (locs : List Loc) (ls : Array Slot), Dy clA D (xW a cs) s H locs u19 → lv_has ls 10 [(0, .ref (a 1)), (1, .int x1), (2, .int x2), (3, .int (x3 ||| r12)), (4, .int x4), (7, .int (u10.1 1)), (8, .int r15), (9, .int (u13.1 1))] → W p l e rm_G_readAttributes s m args below meth c H locs 0 0 Q (F0 m 189 ls []) := by
            intro H locs ls I hl
            refine lv_aload_n hx hb d_G_readAttributes_189 rfl (lv_at hl 0 rfl) ?_
            refine g_G_walk C I k_165 d_G_readAttributes_190 ?_
            refine lv_aload_n hx hb d_G_readAttributes_193 rfl (lv_at hl 0 rfl) ?_
            refine g_G_walk C I k_165 d_G_readAttributes_194 ?_
            refine g_W_at C I k_39 d_G_readAttributes_197 ?_
            refine lv_iload hx hb d_G_readAttributes_200 (lv_at hl 7 rfl) ?_
            refine lv_isub hx hb d_G_readAttributes_202 ?_
            refine lv_iload hx hb d_G_readAttributes_203 (lv_at hl 6 rfl) ?_
            obtain ⟨z20, hj23, hk⟩ := bnd_u hk
            have Khj23 : ∀ (H : Heap) (locs : List Loc) (ls : Array Slot), Dy clA D (xW a cs) s H locs u19 → lv_has ls 10 [(0, .ref (a 1)), (1, .int x1), (2, .int x2), (3, .int (x3 ||| r12)), (4, .int x4), (7, .int (u10.1 1))] → W p l e rm_G_readAttributes s m args below meth c H locs 0 0 Q (F0 m 213 ls [.int z20, .ref (a 4)]) := by
              intro H locs ls I hl
              refine lv_bipush (v := 18) hx hb d_G_readAttributes_213 (by decide) ?_
              refine lv_iload hx hb d_G_readAttributes_215 (lv_at hl 5 rfl) ?_
              obtain ⟨u21, h22, hk⟩ := cV_u hk
              refine go_V I (call_runV (rest := []) C I (c_W_need C.2.2.2.1 C.2.2.2.2.1 l h22 _) wd_W_need (q0 := 4) (ci := 4) rfl rfl k_289 ⟨rfl, rfl⟩ ⟨by decide, by decide⟩ rfl hl.1 rfl (Nat.le_of_ble_eq_true rfl) d_G_readAttributes_217) (fun H locs I => ?_)
              refine lv_iinc (v := (x4 + 1)) (lv' := [(4, .int (x4 + 1)), (0, .ref (a 1)), (1, .int x1), (2, .int x2), (3, .int (x3 ||| r12)), (7, .int (u10.1 1))]) hx hb d_G_readAttributes_220 hl (k := 4) rfl rfl (by decide) rfl (fun ls hl => ?_)
              refine lv_goto (tgt := 14) hx hb d_G_readAttributes_223 (by decide) ?_
              exact ih u21 (x3 ||| r12) (x4 + 1) _ _ _ hk I (lv_sub hl [1, 2, 3, 4, 0] rfl)
            refine lv_icmp_ne (tgt := 212) hx hb d_G_readAttributes_205 (by decide) (fun hc => ?_) (fun hc => ?_)
            · replace hj23 := ie_u hc hj23
              refine lv_iconst (v := 0) hx hb d_G_readAttributes_212 (by decide) ?_
              obtain rfl := ep1 hj23
              exact Khj23 _ _ _ I (lv_sub hl [0, 1, 2, 3, 4, 5] rfl)
            · replace hj23 := it_u hc hj23
              refine lv_iconst (v := 1) hx hb d_G_readAttributes_208 (by decide) ?_
              refine lv_goto (tgt := 213) hx hb d_G_readAttributes_209 (by decide) ?_
              obtain rfl := ep1 hj23
              exact Khj23 _ _ _ I (lv_sub hl [0, 1, 2, 3, 4, 5] rfl)
          refine lv_icmp_ne (tgt := 147) hx hb d_G_readAttributes_116 (by decide) (fun hc => ?_) (fun hc => ?_)
          · replace hj24 := ie_u hc hj24
            refine lv_iload hx hb d_G_readAttributes_147 (lv_at hl 6 rfl) ?_
            refine lv_iconst (v := 1) hx hb d_G_readAttributes_149 (by decide) ?_
            refine lv_icmp_ne (tgt := 160) hx hb d_G_readAttributes_150 (by decide) (fun hc => ?_) (fun hc => ?_)
            · replace hj24 := ie_u hc hj24
              refine lv_iload hx hb d_G_readAttributes_160 (lv_at hl 6 rfl) ?_
              refine lv_iconst (v := 4) hx hb d_G_readAttributes_162 (by decide) ?_
              refine lv_icmp_ne (tgt := 173) hx hb d_G_readAttributes_163 (by decide) (fun hc => ?_) (fun hc => ?_)
              · replace hj24 := ie_u hc hj24
                refine lv_iload hx hb d_G_readAttributes_173 (lv_at hl 6 rfl) ?_
                refine lv_bipush (v := 8) hx hb d_G_readAttributes_175 (by decide) ?_
                refine lv_icmp_ne (tgt := 189) hx hb d_G_readAttributes_177 (by decide) (fun hc => ?_) (fun hc => ?_)
                · replace hj24 := ie_u hc hj24
                  obtain rfl := eo1 hj24
                  exact Khj24 _ _ _ I (lv_sub hl [1, 2, 3, 0, 4, 7, 8, 9] rfl)
                · replace hj24 := it_u hc hj24
                  refine lv_aload_n hx hb d_G_readAttributes_180 rfl (lv_at hl 1 rfl) ?_
                  refine g_G_pool C I k_159 d_G_readAttributes_181 ?_
                  refine lv_iconst (v := 1) hx hb d_G_readAttributes_184 (by decide) ?_
                  obtain ⟨r27, u25, h26, hj24⟩ := cI_u hj24
                  refine go_I I (call_runV (rest := []) C I (c_P_take C.2.2.2.1 C.2.2.2.2.1 l h26 _) wd_P_take (q0 := 2) (ci := 2) rfl rfl k_484 ⟨rfl, rfl⟩ ⟨by decide, by decide⟩ rfl hl.1 rfl (Nat.le_of_ble_eq_true rfl) d_G_readAttributes_185) (fun H locs I => ?_)
                  refine lv_pop hx hb d_G_readAttributes_188 rfl ?_
                  obtain rfl := eo1 hj24
                  exact Khj24 _ _ _ I (lv_sub hl [1, 2, 3, 0, 4, 7, 8, 9] rfl)
              · replace hj24 := it_u hc hj24
                refine lv_aload_n hx hb d_G_readAttributes_166 rfl (lv_at hl 1 rfl) ?_
                obtain ⟨u28, h29, hj24⟩ := cV_u hj24
                refine go_V I (call_runV (rest := []) C I (c_G_readExceptions C.2.2.2.1 C.2.2.2.2.1 l h29 _) wd_G_readExceptions (q0 := 1) (ci := 1) rfl rfl k_631 ⟨rfl, rfl⟩ ⟨by decide, by decide⟩ rfl hl.1 rfl (Nat.le_of_ble_eq_true rfl) d_G_readAttributes_167) (fun H locs I => ?_)
                refine lv_goto (tgt := 189) hx hb d_G_readAttributes_170 (by decide) ?_
                obtain rfl := eo1 hj24
                exact Khj24 _ _ _ I (lv_sub hl [1, 2, 3, 0, 4, 7, 8, 9] rfl)
            · replace hj24 := it_u hc hj24
              refine lv_aload_n hx hb d_G_readAttributes_153 rfl (lv_at hl 1 rfl) ?_
              obtain ⟨u30, h31, hj24⟩ := cV_u hj24
              refine go_V I (call_runV (rest := []) C I (c_G_readConstant C.2.2.2.1 C.2.2.2.2.1 l h31 _) wd_G_readConstant (q0 := 1) (ci := 1) rfl rfl k_620 ⟨rfl, rfl⟩ ⟨by decide, by decide⟩ rfl hl.1 rfl (Nat.le_of_ble_eq_true rfl) d_G_readAttributes_154) (fun H locs I => ?_)
              refine lv_goto (tgt := 189) hx hb d_G_readAttributes_157 (by decide) ?_
              obtain rfl := eo1 hj24
              exact Khj24 _ _ _ I (lv_sub hl [1, 2, 3, 0, 4, 7, 8, 9] rfl)
          · replace hj24 := it_u hc hj24
            refine lv_aload_n hx hb d_G_readAttributes_119 rfl (lv_at hl 1 rfl) ?_
            refine g_G_walk C I k_165 d_G_readAttributes_120 ?_
            obtain ⟨r34, u32, h33, hj24⟩ := cI_u hj24
            refine go_I I (call_runV (rest := []) C I (c_W_sound C.2.2.2.1 C.2.2.2.2.1 l h33 _) wd_W_sound (q0 := 4) (ci := 4) rfl rfl k_500 ⟨rfl, rfl⟩ ⟨by decide, by decide⟩ rfl hl.1 rfl (Nat.le_of_ble_eq_true rfl) d_G_readAttributes_123) (fun H locs I => ?_)
            refine lv_if_eq (tgt := 147) hx hb d_G_readAttributes_126 (by decide) (fun hc => ?_) (fun hc => ?_)
            · replace hj24 := it_u hc hj24
              refine lv_iload hx hb d_G_readAttributes_147 (lv_at hl 6 rfl) ?_
              refine lv_iconst (v := 1) hx hb d_G_readAttributes_149 (by decide) ?_
              refine lv_icmp_ne (tgt := 160) hx hb d_G_readAttributes_150 (by decide) (fun hc => ?_) (fun hc => ?_)
              · replace hj24 := ie_u hc hj24
                refine lv_iload hx hb d_G_readAttributes_160 (lv_at hl 6 rfl) ?_
                refine lv_iconst (v := 4) hx hb d_G_readAttributes_162 (by decide) ?_
                refine lv_icmp_ne (tgt := 173) hx hb d_G_readAttributes_163 (by decide) (fun hc => ?_) (fun hc => ?_)
                · replace hj24 := ie_u hc hj24
                  refine lv_iload hx hb d_G_readAttributes_173 (lv_at hl 6 rfl) ?_
                  refine lv_bipush (v := 8) hx hb d_G_readAttributes_175 (by decide) ?_
                  refine lv_icmp_ne (tgt := 189) hx hb d_G_readAttributes_177 (by decide) (fun hc => ?_) (fun hc => ?_)
                  · replace hj24 := ie_u hc hj24
                    obtain rfl := eo1 hj24
                    exact Khj24 _ _ _ I (lv_sub hl [1, 2, 3, 0, 4, 7, 8, 9] rfl)
                  · replace hj24 := it_u hc hj24
                    refine lv_aload_n hx hb d_G_readAttributes_180 rfl (lv_at hl 1 rfl) ?_
                    refine g_G_pool C I k_159 d_G_readAttributes_181 ?_
                    refine lv_iconst (v := 1) hx hb d_G_readAttributes_184 (by decide) ?_
                    obtain ⟨r37, u35, h36, hj24⟩ := cI_u hj24
                    refine go_I I (call_runV (rest := []) C I (c_P_take C.2.2.2.1 C.2.2.2.2.1 l h36 _) wd_P_take (q0 := 2) (ci := 2) rfl rfl k_484 ⟨rfl, rfl⟩ ⟨by decide, by decide⟩ rfl hl.1 rfl (Nat.le_of_ble_eq_true rfl) d_G_readAttributes_185) (fun H locs I => ?_)
                    refine lv_pop hx hb d_G_readAttributes_188 rfl ?_
                    obtain rfl := eo1 hj24
                    exact Khj24 _ _ _ I (lv_sub hl [1, 2, 3, 0, 4, 7, 8, 9] rfl)
                · replace hj24 := it_u hc hj24
                  refine lv_aload_n hx hb d_G_readAttributes_166 rfl (lv_at hl 1 rfl) ?_
                  obtain ⟨u38, h39, hj24⟩ := cV_u hj24
                  refine go_V I (call_runV (rest := []) C I (c_G_readExceptions C.2.2.2.1 C.2.2.2.2.1 l h39 _) wd_G_readExceptions (q0 := 1) (ci := 1) rfl rfl k_631 ⟨rfl, rfl⟩ ⟨by decide, by decide⟩ rfl hl.1 rfl (Nat.le_of_ble_eq_true rfl) d_G_readAttributes_167) (fun H locs I => ?_)
                  refine lv_goto (tgt := 189) hx hb d_G_readAttributes_170 (by decide) ?_
                  obtain rfl := eo1 hj24
                  exact Khj24 _ _ _ I (lv_sub hl [1, 2, 3, 0, 4, 7, 8, 9] rfl)
              · replace hj24 := it_u hc hj24
                refine lv_aload_n hx hb d_G_readAttributes_153 rfl (lv_at hl 1 rfl) ?_
                obtain ⟨u40, h41, hj24⟩ := cV_u hj24
                refine go_V I (call_runV (rest := []) C I (c_G_readConstant C.2.2.2.1 C.2.2.2.2.1 l h41 _) wd_G_readConstant (q0 := 1) (ci := 1) rfl rfl k_620 ⟨rfl, rfl⟩ ⟨by decide, by decide⟩ rfl hl.1 rfl (Nat.le_of_ble_eq_true rfl) d_G_readAttributes_154) (fun H locs I => ?_)
                refine lv_goto (tgt := 189) hx hb d_G_readAttributes_157 (by decide) ?_
                obtain rfl := eo1 hj24
                exact Khj24 _ _ _ I (lv_sub hl [1, 2, 3, 0, 4, 7, 8, 9] rfl)
            · replace hj24 := ie_u hc hj24
              refine lv_aload_n hx hb d_G_readAttributes_129 rfl (lv_at hl 1 rfl) ?_
              refine g_G_code C I k_166 d_G_readAttributes_130 ?_
              refine lv_aload_n hx hb d_G_readAttributes_133 rfl (lv_at hl 1 rfl) ?_
              refine g_G_version C I k_169 d_G_readAttributes_134 ?_
              refine lv_aload_n hx hb d_G_readAttributes_137 rfl (lv_at hl 1 rfl) ?_
              obtain ⟨r44, u42, h43, hj24⟩ := cI_u hj24
              refine go_I I (call_runV (rest := [.int (u32.1 15), .ref (a 0)]) C I (c_G_leastLocals C.2.2.2.1 C.2.2.2.2.1 l h43 _) wd_G_leastLocals (q0 := 1) (ci := 1) rfl rfl k_537 ⟨rfl, rfl⟩ ⟨by decide, by decide⟩ rfl hl.1 rfl (Nat.le_of_ble_eq_true rfl) d_G_readAttributes_138) (fun H locs I => ?_)
              obtain ⟨u45, h46, hj24⟩ := cV_u hj24
              refine go_V I (call_runV (rest := []) C I (c_C_readAll C.2.2.2.1 C.2.2.2.2.1 l h46 _) wd_C_readAll (q0 := 0) (ci := 0) rfl rfl k_541 ⟨rfl, rfl⟩ ⟨by decide, by decide⟩ rfl hl.1 rfl (Nat.le_of_ble_eq_true rfl) d_G_readAttributes_141) (fun H locs I => ?_)
              refine lv_goto (tgt := 189) hx hb d_G_readAttributes_144 (by decide) ?_
              obtain rfl := eo1 hj24
              exact Khj24 _ _ _ I (lv_sub hl [1, 2, 3, 0, 4, 7, 8, 9] rfl)
        refine lv_if_eq (tgt := 100) hx hb d_G_readAttributes_93 (by decide) (fun hc => ?_) (fun hc => ?_)
        · replace hj47 := it_u hc hj47
          refine lv_iconst (v := 0) hx hb d_G_readAttributes_100 (by decide) ?_
          obtain rfl := ep1 hj47
          exact Khj47 _ _ _ I (lv_sub hl [5, 6, 7, 8, 9, 4, 3, 2, 1, 0] rfl)
        · replace hj47 := ie_u hc hj47
          refine lv_iconst (v := 1) hx hb d_G_readAttributes_96 (by decide) ?_
          refine lv_goto (tgt := 101) hx hb d_G_readAttributes_97 (by decide) ?_
          obtain rfl := ep1 hj47
          exact Khj47 _ _ _ I (lv_sub hl [5, 6, 7, 8, 9, 4, 3, 2, 1, 0] rfl)
set_option maxHeartbeats 4000000 in
set_option maxRecDepth 100000 in
theorem c_G_readAttributes {sk sv9 st : Nat → Nat} {D : va_G} {cs : Nat → ClassId} {a : Nat → Nat} (hw : wD (xW a cs)) (hz : zOK (xZ sk sv9 st)) (l : Launch) {u : St} {x1 : Int32} {r : Int32} {u' : St} (hk : f_G_readAttributes u x1 = some (r, u')) : KI clA D cs (xW a cs) (xZ sk sv9 st) l y_G_readAttributes (.code y_G_readAttributes prog_3_method_15_code 10 (Option.some Jvm.ClassFile.FieldType.int)) rm_G_readAttributes [.ref (a 1), .int x1] u r u' := by
  unfold f_G_readAttributes at hk
  refine KI.of (by decide) (Nat.le_of_ble_eq_true rfl) rfl hw hz ?_
  intro p e s m args below meth c Q C I hQ ls hl
  have hl : lv_has ls 10 [(0, .ref (a 1)), (1, .int x1)] := hl
  have hx := C.1.1
  have hb := C.1.2.1
  refine lv_aload_n hx hb d_G_readAttributes_0 rfl (lv_at hl 0 rfl) ?_
  refine g_G_walk C I k_165 d_G_readAttributes_1 ?_
  refine lv_iconst (v := 2) hx hb d_G_readAttributes_4 (by decide) ?_
  obtain ⟨r3, u1, h2, hk⟩ := cI_u hk
  refine go_I I (call_runV (rest := []) C I (c_W_next C.2.2.2.1 C.2.2.2.2.1 l h2 _) wd_W_next (q0 := 4) (ci := 4) rfl rfl k_283 ⟨rfl, rfl⟩ ⟨by decide, by decide⟩ rfl hl.1 rfl (Nat.le_of_ble_eq_true rfl) d_G_readAttributes_5) (fun H locs I => ?_)
  refine lv_istore_n (lv' := [(2, .int r3), (0, .ref (a 1)), (1, .int x1)]) hx hb d_G_readAttributes_8 rfl hl (by decide) rfl (fun ls hl => ?_)
  refine lv_iconst (v := 0) hx hb d_G_readAttributes_9 (by decide) ?_
  refine lv_istore_n (lv' := [(3, .int 0), (2, .int r3), (0, .ref (a 1)), (1, .int x1)]) hx hb d_G_readAttributes_10 rfl hl (by decide) rfl (fun ls hl => ?_)
  refine lv_iconst (v := 0) hx hb d_G_readAttributes_11 (by decide) ?_
  refine lv_istore (lv' := [(4, .int 0), (3, .int 0), (2, .int r3), (0, .ref (a 1)), (1, .int x1)]) hx hb d_G_readAttributes_12 hl (by decide) rfl (fun ls hl => ?_)
  obtain ⟨⟨u48, z49⟩, hj50, hk⟩ := cT_u hk
  refine w_G_readAttributes_L14 C (fun H locs ls I hl => ?_) FU u1 0 0 _ _ _ hj50 I (lv_sub hl [3, 4, 2, 1, 0] rfl)
  refine lv_iload_n hx hb d_G_readAttributes_226 rfl (lv_at hl 0 rfl) ?_
  exact hQ _ _ _ _ _ _ I hk d_G_readAttributes_227
def rm_G_classFlagsHold : Room := { frames := 0, cells := 0, slots := 0, locals := 0 }
noncomputable def f_G_classFlagsHold (u : St) (x0 : Int32) : Option (Int32 × St) := if (x0 &&& (-1586)) = 0 then (if (x0 &&& 512) = 0 then (bnd (if (x0 &&& 1040) = 1040 then (0) else (1)) fun (z1 : Int32) => gb z1 (some (z1, u))) else (bnd (if (x0 &&& 1072) = 1024 then (1) else (0)) fun (z3 : Int32) => gb z3 (some (z3, u)))) else (gb 0 (some (0, u)))
set_option maxHeartbeats 4000000 in
set_option maxRecDepth 100000 in
theorem c_G_classFlagsHold {Z : zT} {D : va_G} {cs : Nat → ClassId} {a : Nat → Nat} (hw : wD (xW a cs)) (hz : zOK Z) (l : Launch) {u : St} {x0 : Int32} {r : Int32} {u' : St} (hk : f_G_classFlagsHold u x0 = some (r, u')) : KI clA D cs (xW a cs) Z l y_G_classFlagsHold (.code y_G_classFlagsHold prog_3_method_6_code 1 (Option.some Jvm.ClassFile.FieldType.boolean)) rm_G_classFlagsHold [.int x0] u r u' := by
  unfold f_G_classFlagsHold at hk
  refine KZ.of (by decide) (Nat.le_of_ble_eq_true rfl) hw hz ?_
  intro p e s m args below meth c Q C I hQ ls hl
  have hl : lv_has ls 1 [(0, .int x0)] := hl
  have hx := C.1.1
  have hb := C.1.2.1
  refine lv_iload_n hx hb d_G_classFlagsHold_0 rfl (lv_at hl 0 rfl) ?_
  refine lv_sipush (v := (-1586)) hx hb d_G_classFlagsHold_1 (by decide) ?_
  refine lv_iand hx hb d_G_classFlagsHold_4 ?_
  refine lv_if_eq (tgt := 10) hx hb d_G_classFlagsHold_5 (by decide) (fun hc => ?_) (fun hc => ?_)
  · replace hk := it_u hc hk
    refine lv_iload_n hx hb d_G_classFlagsHold_10 rfl (lv_at hl 0 rfl) ?_
    refine lv_sipush (v := 512) hx hb d_G_classFlagsHold_11 (by decide) ?_
    refine lv_iand hx hb d_G_classFlagsHold_14 ?_
    refine lv_if_eq (tgt := 35) hx hb d_G_classFlagsHold_15 (by decide) (fun hc => ?_) (fun hc => ?_)
    · replace hk := it_u hc hk
      refine lv_iload_n hx hb d_G_classFlagsHold_35 rfl (lv_at hl 0 rfl) ?_
      refine lv_sipush (v := 1040) hx hb d_G_classFlagsHold_36 (by decide) ?_
      refine lv_iand hx hb d_G_classFlagsHold_39 ?_
      refine lv_sipush (v := 1040) hx hb d_G_classFlagsHold_40 (by decide) ?_
      obtain ⟨z1, hj2, hk⟩ := bnd_u hk
      have Khj2 : ∀ (H : Heap) (locs : List Loc) (ls : Array Slot), Dy clA D (xW a cs) s H locs u → lv_has ls 1 [] → W p l e rm_G_classFlagsHold s m args below meth c H locs 0 0 Q (F0 m 51 ls [.int z1]) := by
        intro H locs ls I hl
        exact hQ _ _ _ _ _ _ I hk d_G_classFlagsHold_51
      refine lv_icmp_eq (tgt := 50) hx hb d_G_classFlagsHold_43 (by decide) (fun hc => ?_) (fun hc => ?_)
      · replace hj2 := it_u hc hj2
        refine lv_iconst (v := 0) hx hb d_G_classFlagsHold_50 (by decide) ?_
        obtain rfl := ep1 hj2
        exact Khj2 _ _ _ I (lv_sub hl [] rfl)
      · replace hj2 := ie_u hc hj2
        refine lv_iconst (v := 1) hx hb d_G_classFlagsHold_46 (by decide) ?_
        refine lv_goto (tgt := 51) hx hb d_G_classFlagsHold_47 (by decide) ?_
        obtain rfl := ep1 hj2
        exact Khj2 _ _ _ I (lv_sub hl [] rfl)
    · replace hk := ie_u hc hk
      refine lv_iload_n hx hb d_G_classFlagsHold_18 rfl (lv_at hl 0 rfl) ?_
      refine lv_sipush (v := 1072) hx hb d_G_classFlagsHold_19 (by decide) ?_
      refine lv_iand hx hb d_G_classFlagsHold_22 ?_
      refine lv_sipush (v := 1024) hx hb d_G_classFlagsHold_23 (by decide) ?_
      obtain ⟨z3, hj4, hk⟩ := bnd_u hk
      have Khj4 : ∀ (H : Heap) (locs : List Loc) (ls : Array Slot), Dy clA D (xW a cs) s H locs u → lv_has ls 1 [] → W p l e rm_G_classFlagsHold s m args below meth c H locs 0 0 Q (F0 m 34 ls [.int z3]) := by
        intro H locs ls I hl
        exact hQ _ _ _ _ _ _ I hk d_G_classFlagsHold_34
      refine lv_icmp_ne (tgt := 33) hx hb d_G_classFlagsHold_26 (by decide) (fun hc => ?_) (fun hc => ?_)
      · replace hj4 := ie_u hc hj4
        refine lv_iconst (v := 0) hx hb d_G_classFlagsHold_33 (by decide) ?_
        obtain rfl := ep1 hj4
        exact Khj4 _ _ _ I (lv_sub hl [] rfl)
      · replace hj4 := it_u hc hj4
        refine lv_iconst (v := 1) hx hb d_G_classFlagsHold_29 (by decide) ?_
        refine lv_goto (tgt := 34) hx hb d_G_classFlagsHold_30 (by decide) ?_
        obtain rfl := ep1 hj4
        exact Khj4 _ _ _ I (lv_sub hl [] rfl)
  · replace hk := ie_u hc hk
    refine lv_iconst (v := 0) hx hb d_G_classFlagsHold_8 (by decide) ?_
    exact hQ _ _ _ _ _ _ I hk d_G_classFlagsHold_9
def rm_G_takeClassText : Room := { frames := 3, cells := 0, slots := 0, locals := 69 }
noncomputable def f_G_takeClassText (u : St) : Option (Int32 × St) := cI (f_P_take u 7) fun r3 u1 => cI (f_P_measureOf u1 r3) fun r6 u4 => bnd (if r6 = 0 then (1) else (0)) fun (z7 : Int32) => cV (f_W_need u4 z7 9 (u.1 1)) fun u8 => cI (f_P_firstOf u8 r3) fun r12 u10 => some (r12, u10)
set_option maxHeartbeats 4000000 in
set_option maxRecDepth 100000 in
theorem c_G_takeClassText {Z : zT} {D : va_G} {cs : Nat → ClassId} {a : Nat → Nat} (hw : wD (xW a cs)) (hz : zOK Z) (l : Launch) {u : St} {r : Int32} {u' : St} (hk : f_G_takeClassText u = some (r, u')) : KI clA D cs (xW a cs) Z l y_G_takeClassText (.code y_G_takeClassText prog_3_method_7_code 3 (Option.some Jvm.ClassFile.FieldType.int)) rm_G_takeClassText [.ref (a 1)] u r u' := by
  unfold f_G_takeClassText at hk
  refine KI.of (by decide) (Nat.le_of_ble_eq_true rfl) rfl hw hz ?_
  intro p e s m args below meth c Q C I hQ ls hl
  have hl : lv_has ls 3 [(0, .ref (a 1))] := hl
  have hx := C.1.1
  have hb := C.1.2.1
  refine lv_aload_n hx hb d_G_takeClassText_0 rfl (lv_at hl 0 rfl) ?_
  refine g_G_walk C I k_165 d_G_takeClassText_1 ?_
  refine g_W_at C I k_39 d_G_takeClassText_4 ?_
  refine lv_istore_n (lv' := [(1, .int (u.1 1)), (0, .ref (a 1))]) hx hb d_G_takeClassText_7 rfl hl (by decide) rfl (fun ls hl => ?_)
  refine lv_aload_n hx hb d_G_takeClassText_8 rfl (lv_at hl 1 rfl) ?_
  refine g_G_pool C I k_159 d_G_takeClassText_9 ?_
  refine lv_bipush (v := 7) hx hb d_G_takeClassText_12 (by decide) ?_
  obtain ⟨r3, u1, h2, hk⟩ := cI_u hk
  refine go_I I (call_runV (rest := []) C I (c_P_take C.2.2.2.1 C.2.2.2.2.1 l h2 _) wd_P_take (q0 := 2) (ci := 2) rfl rfl k_484 ⟨rfl, rfl⟩ ⟨by decide, by decide⟩ rfl hl.1 rfl (Nat.le_of_ble_eq_true rfl) d_G_takeClassText_14) (fun H locs I => ?_)
  refine lv_istore_n (lv' := [(2, .int r3), (1, .int (u.1 1)), (0, .ref (a 1))]) hx hb d_G_takeClassText_17 rfl hl (by decide) rfl (fun ls hl => ?_)
  refine lv_aload_n hx hb d_G_takeClassText_18 rfl (lv_at hl 2 rfl) ?_
  refine g_G_walk C I k_165 d_G_takeClassText_19 ?_
  refine lv_aload_n hx hb d_G_takeClassText_22 rfl (lv_at hl 2 rfl) ?_
  refine g_G_pool C I k_159 d_G_takeClassText_23 ?_
  refine lv_iload_n hx hb d_G_takeClassText_26 rfl (lv_at hl 0 rfl) ?_
  obtain ⟨r6, u4, h5, hk⟩ := cI_u hk
  refine go_I I (call_runV (rest := [.ref (a 4)]) C I (c_P_measureOf C.2.2.2.1 C.2.2.2.2.1 l h5 _) wd_P_measureOf (q0 := 2) (ci := 2) rfl rfl k_488 ⟨rfl, rfl⟩ ⟨by decide, by decide⟩ rfl hl.1 rfl (Nat.le_of_ble_eq_true rfl) d_G_takeClassText_27) (fun H locs I => ?_)
  obtain ⟨z7, hj13, hk⟩ := bnd_u hk
  have Khj13 : ∀ (H : Heap) (locs : List Loc) (ls : Array Slot), Dy clA D (xW a cs) s H locs u4 → lv_has ls 3 [(0, .ref (a 1)), (1, .int (u.1 1)), (2, .int r3)] → W p l e rm_G_takeClassText s m args below meth c H locs 0 0 Q (F0 m 38 ls [.int z7, .ref (a 4)]) := by
    intro H locs ls I hl
    refine lv_bipush (v := 9) hx hb d_G_takeClassText_38 (by decide) ?_
    refine lv_iload_n hx hb d_G_takeClassText_40 rfl (lv_at hl 1 rfl) ?_
    obtain ⟨u8, h9, hk⟩ := cV_u hk
    refine go_V I (call_runV (rest := []) C I (c_W_need C.2.2.2.1 C.2.2.2.2.1 l h9 _) wd_W_need (q0 := 4) (ci := 4) rfl rfl k_289 ⟨rfl, rfl⟩ ⟨by decide, by decide⟩ rfl hl.1 rfl (Nat.le_of_ble_eq_true rfl) d_G_takeClassText_41) (fun H locs I => ?_)
    refine lv_aload_n hx hb d_G_takeClassText_44 rfl (lv_at hl 0 rfl) ?_
    refine g_G_pool C I k_159 d_G_takeClassText_45 ?_
    refine lv_iload_n hx hb d_G_takeClassText_48 rfl (lv_at hl 2 rfl) ?_
    obtain ⟨r12, u10, h11, hk⟩ := cI_u hk
    refine go_I I (call_runV (rest := []) C I (c_P_firstOf C.2.2.2.1 C.2.2.2.2.1 l h11 _) wd_P_firstOf (q0 := 2) (ci := 2) rfl rfl k_489 ⟨rfl, rfl⟩ ⟨by decide, by decide⟩ rfl hl.1 rfl (Nat.le_of_ble_eq_true rfl) d_G_takeClassText_49) (fun H locs I => ?_)
    exact hQ _ _ _ _ _ _ I hk d_G_takeClassText_52
  refine lv_if_ne (tgt := 37) hx hb d_G_takeClassText_30 (by decide) (fun hc => ?_) (fun hc => ?_)
  · replace hj13 := ie_u hc hj13
    refine lv_iconst (v := 0) hx hb d_G_takeClassText_37 (by decide) ?_
    obtain rfl := ep1 hj13
    exact Khj13 _ _ _ I (lv_sub hl [2, 1, 0] rfl)
  · replace hj13 := it_u hc hj13
    refine lv_iconst (v := 1) hx hb d_G_takeClassText_33 (by decide) ?_
    refine lv_goto (tgt := 38) hx hb d_G_takeClassText_34 (by decide) ?_
    obtain rfl := ep1 hj13
    exact Khj13 _ _ _ I (lv_sub hl [2, 1, 0] rfl)
def rm_G_readClass : Room := { frames := 5, cells := 0, slots := 0, locals := 113 }
noncomputable def f_G_readClass (u : St) : Option (St) := cI (f_W_next u 2) fun r3 u1 => bnd (sv u1 16 r3) fun u4 => cI (f_G_classFlagsHold u4 (u4.1 16)) fun r7 u5 => cV (f_W_need u5 r7 13 (u.1 1)) fun u8 => cI (f_G_takeClassText u8) fun r12 u10 => cI (f_G_takeClassText u10) fun r15 u13 => cI (f_P_alike u13 r12 r15) fun r18 u16 => bnd (if r18 = 0 then (1) else (0)) fun (z19 : Int32) => cV (f_W_need u16 z19 14 (u10.1 1)) fun u20 => bnd (if ((u20.1 16) &&& 512) = 0 then (1) else (0)) fun (z22 : Int32) => cT (if z22 = 0 then (cI (f_P_spells u20 r15 2) fun r30 u28 => if r30 = 0 then (some (0, u28)) else (some (1, u28))) else (some (1, u20))) fun (p31 : Int32 × St) => cV (f_W_need p31.2 p31.1 14 (u10.1 1)) fun u25 => some u25
set_option maxHeartbeats 4000000 in
set_option maxRecDepth 100000 in
theorem c_G_readClass {sk sv9 st : Nat → Nat} {D : va_G} {cs : Nat → ClassId} {a : Nat → Nat} (hw : wD (xW a cs)) (hz : zOK (xZ sk sv9 st)) (l : Launch) {u : St} {u' : St} (hk : f_G_readClass u = some u') : KV clA D cs (xW a cs) (xZ sk sv9 st) l y_G_readClass (.code y_G_readClass prog_3_method_5_code 5 (Option.none : Option Jvm.ClassFile.FieldType)) rm_G_readClass [.ref (a 1)] u u' := by
  unfold f_G_readClass at hk
  refine KV.of (by decide) (Nat.le_of_ble_eq_true rfl) hw hz ?_
  intro p e s m args below meth c Q C I hQ ls hl
  have hl : lv_has ls 5 [(0, .ref (a 1))] := hl
  have hx := C.1.1
  have hb := C.1.2.1
  refine lv_aload_n hx hb d_G_readClass_0 rfl (lv_at hl 0 rfl) ?_
  refine g_G_walk C I k_165 d_G_readClass_1 ?_
  refine g_W_at C I k_39 d_G_readClass_4 ?_
  refine lv_istore_n (lv' := [(1, .int (u.1 1)), (0, .ref (a 1))]) hx hb d_G_readClass_7 rfl hl (by decide) rfl (fun ls hl => ?_)
  refine lv_aload_n hx hb d_G_readClass_8 rfl (lv_at hl 1 rfl) ?_
  refine lv_aload_n hx hb d_G_readClass_9 rfl (lv_at hl 1 rfl) ?_
  refine g_G_walk C I k_165 d_G_readClass_10 ?_
  refine lv_iconst (v := 2) hx hb d_G_readClass_13 (by decide) ?_
  obtain ⟨r3, u1, h2, hk⟩ := cI_u hk
  refine go_I I (call_runV (rest := [.ref (a 1)]) C I (c_W_next C.2.2.2.1 C.2.2.2.2.1 l h2 _) wd_W_next (q0 := 4) (ci := 4) rfl rfl k_283 ⟨rfl, rfl⟩ ⟨by decide, by decide⟩ rfl hl.1 rfl (Nat.le_of_ble_eq_true rfl) d_G_readClass_14) (fun H locs I => ?_)
  refine p_G_classFlags C I k_170 d_G_readClass_17 (fun H locs I => ?_)
  obtain ⟨u4, hu, hk⟩ := bnd_u hk
  rw [hu] at I
  clear hu
  refine lv_aload_n hx hb d_G_readClass_20 rfl (lv_at hl 1 rfl) ?_
  refine g_G_walk C I k_165 d_G_readClass_21 ?_
  refine lv_aload_n hx hb d_G_readClass_24 rfl (lv_at hl 1 rfl) ?_
  refine g_G_classFlags C I k_170 d_G_readClass_25 ?_
  obtain ⟨r7, u5, h6, hk⟩ := cI_u hk
  refine go_I I (call_runS (rest := [.ref (a 4)]) C I (c_G_classFlagsHold C.2.2.2.1 C.2.2.2.2.1 l h6 _) wd_G_classFlagsHold k_477 ⟨rfl, rfl⟩ ⟨by decide, by decide⟩ rfl hl.1 rfl (Nat.le_of_ble_eq_true rfl) d_G_readClass_28) (fun H locs I => ?_)
  refine lv_bipush (v := 13) hx hb d_G_readClass_31 (by decide) ?_
  refine lv_iload_n hx hb d_G_readClass_33 rfl (lv_at hl 0 rfl) ?_
  obtain ⟨u8, h9, hk⟩ := cV_u hk
  refine go_V I (call_runV (rest := []) C I (c_W_need C.2.2.2.1 C.2.2.2.2.1 l h9 _) wd_W_need (q0 := 4) (ci := 4) rfl rfl k_289 ⟨rfl, rfl⟩ ⟨by decide, by decide⟩ rfl hl.1 rfl (Nat.le_of_ble_eq_true rfl) d_G_readClass_34) (fun H locs I => ?_)
  refine lv_aload_n hx hb d_G_readClass_37 rfl (lv_at hl 1 rfl) ?_
  obtain ⟨r12, u10, h11, hk⟩ := cI_u hk
  refine go_I I (call_runV (rest := []) C I (c_G_takeClassText C.2.2.2.1 C.2.2.2.2.1 l h11 _) wd_G_takeClassText (q0 := 1) (ci := 1) rfl rfl k_480 ⟨rfl, rfl⟩ ⟨by decide, by decide⟩ rfl hl.1 rfl (Nat.le_of_ble_eq_true rfl) d_G_readClass_38) (fun H locs I => ?_)
  refine lv_istore_n (lv' := [(2, .int r12), (1, .int (u.1 1)), (0, .ref (a 1))]) hx hb d_G_readClass_41 rfl hl (by decide) rfl (fun ls hl => ?_)
  refine lv_aload_n hx hb d_G_readClass_42 rfl (lv_at hl 2 rfl) ?_
  refine g_G_walk C I k_165 d_G_readClass_43 ?_
  refine g_W_at C I k_39 d_G_readClass_46 ?_
  refine lv_istore_n (lv' := [(1, .int (u10.1 1)), (2, .int r12), (0, .ref (a 1))]) hx hb d_G_readClass_49 rfl hl (by decide) rfl (fun ls hl => ?_)
  refine lv_aload_n hx hb d_G_readClass_50 rfl (lv_at hl 2 rfl) ?_
  obtain ⟨r15, u13, h14, hk⟩ := cI_u hk
  refine go_I I (call_runV (rest := []) C I (c_G_takeClassText C.2.2.2.1 C.2.2.2.2.1 l h14 _) wd_G_takeClassText (q0 := 1) (ci := 1) rfl rfl k_480 ⟨rfl, rfl⟩ ⟨by decide, by decide⟩ rfl hl.1 rfl (Nat.le_of_ble_eq_true rfl) d_G_readClass_51) (fun H locs I => ?_)
  refine lv_istore_n (lv' := [(3, .int r15), (1, .int (u10.1 1)), (2, .int r12), (0, .ref (a 1))]) hx hb d_G_readClass_54 rfl hl (by decide) rfl (fun ls hl => ?_)
  refine lv_aload_n hx hb d_G_readClass_55 rfl (lv_at hl 3 rfl) ?_
  refine g_G_walk C I k_165 d_G_readClass_56 ?_
  refine lv_aload_n hx hb d_G_readClass_59 rfl (lv_at hl 3 rfl) ?_
  refine g_G_pool C I k_159 d_G_readClass_60 ?_
  refine lv_iload_n hx hb d_G_readClass_63 rfl (lv_at hl 2 rfl) ?_
  refine lv_iload_n hx hb d_G_readClass_64 rfl (lv_at hl 0 rfl) ?_
  obtain ⟨r18, u16, h17, hk⟩ := cI_u hk
  refine go_I I (call_runV (rest := [.ref (a 4)]) C I (c_P_alike C.2.2.2.1 C.2.2.2.2.1 l h17 _) wd_P_alike (q0 := 2) (ci := 2) rfl rfl k_490 ⟨rfl, rfl⟩ ⟨by decide, by decide⟩ rfl hl.1 rfl (Nat.le_of_ble_eq_true rfl) d_G_readClass_65) (fun H locs I => ?_)
  obtain ⟨z19, hj33, hk⟩ := bnd_u hk
  have Khj33 : ∀ (H : Heap) (locs : List Loc) (ls : Array Slot), Dy clA D (xW a cs) s H locs u16 → lv_has ls 5 [(0, .ref (a 1)), (1, .int (u10.1 1)), (3, .int r15)] → W p l e rm_G_readClass s m args below meth c H locs 0 0 Q (F0 m 76 ls [.int z19, .ref (a 4)]) := by
    intro H locs ls I hl
    refine lv_bipush (v := 14) hx hb d_G_readClass_76 (by decide) ?_
    refine lv_iload_n hx hb d_G_readClass_78 rfl (lv_at hl 1 rfl) ?_
    obtain ⟨u20, h21, hk⟩ := cV_u hk
    refine go_V I (call_runV (rest := []) C I (c_W_need C.2.2.2.1 C.2.2.2.2.1 l h21 _) wd_W_need (q0 := 4) (ci := 4) rfl rfl k_289 ⟨rfl, rfl⟩ ⟨by decide, by decide⟩ rfl hl.1 rfl (Nat.le_of_ble_eq_true rfl) d_G_readClass_79) (fun H locs I => ?_)
    refine lv_aload_n hx hb d_G_readClass_82 rfl (lv_at hl 0 rfl) ?_
    refine g_G_classFlags C I k_170 d_G_readClass_83 ?_
    refine lv_sipush (v := 512) hx hb d_G_readClass_86 (by decide) ?_
    refine lv_iand hx hb d_G_readClass_89 ?_
    obtain ⟨z22, hj32, hk⟩ := bnd_u hk
    have Khj32 : ∀ (H : Heap) (locs : List Loc) (ls : Array Slot), Dy clA D (xW a cs) s H locs u20 → lv_has ls 5 [(0, .ref (a 1)), (1, .int (u10.1 1)), (3, .int r15)] → W p l e rm_G_readClass s m args below meth c H locs 0 0 Q (F0 m 98 ls [.int z22]) := by
      intro H locs ls I hl
      refine lv_istore (lv' := [(4, .int z22), (0, .ref (a 1)), (1, .int (u10.1 1)), (3, .int r15)]) hx hb d_G_readClass_98 hl (by decide) rfl (fun ls hl => ?_)
      refine lv_aload_n hx hb d_G_readClass_100 rfl (lv_at hl 1 rfl) ?_
      refine g_G_walk C I k_165 d_G_readClass_101 ?_
      refine lv_iload hx hb d_G_readClass_104 (lv_at hl 0 rfl) ?_
      obtain ⟨⟨z23, u24⟩, hj27, hk⟩ := cT_u hk
      have Khj27 : ∀ (H : Heap) (locs : List Loc) (ls : Array Slot), Dy clA D (xW a cs) s H locs u24 → lv_has ls 5 [(1, .int (u10.1 1))] → W p l e rm_G_readClass s m args below meth c H locs 0 0 Q (F0 m 127 ls [.int z23, .ref (a 4)]) := by
        intro H locs ls I hl
        refine lv_bipush (v := 14) hx hb d_G_readClass_127 (by decide) ?_
        refine lv_iload_n hx hb d_G_readClass_129 rfl (lv_at hl 0 rfl) ?_
        obtain ⟨u25, h26, hk⟩ := cV_u hk
        refine go_V I (call_runV (rest := []) C I (c_W_need C.2.2.2.1 C.2.2.2.2.1 l h26 _) wd_W_need (q0 := 4) (ci := 4) rfl rfl k_289 ⟨rfl, rfl⟩ ⟨by decide, by decide⟩ rfl hl.1 rfl (Nat.le_of_ble_eq_true rfl) d_G_readClass_130) (fun H locs I => ?_)
        exact hQ _ _ _ _ _ I hk d_G_readClass_133
      refine lv_if_ne (tgt := 122) hx hb d_G_readClass_106 (by decide) (fun hc => ?_) (fun hc => ?_)
      · replace hj27 := ie_u hc hj27
        refine lv_iconst (v := 1) hx hb d_G_readClass_122 (by decide) ?_
        refine lv_goto (tgt := 127) hx hb d_G_readClass_123 (by decide) ?_
        obtain ⟨rfl, rfl⟩ := eo2 hj27
        exact Khj27 _ _ _ I (lv_sub hl [2] rfl)
      · replace hj27 := it_u hc hj27
        refine lv_aload_n hx hb d_G_readClass_109 rfl (lv_at hl 1 rfl) ?_
        refine g_G_pool C I k_159 d_G_readClass_110 ?_
        refine lv_iload_n hx hb d_G_readClass_113 rfl (lv_at hl 3 rfl) ?_
        refine ld_str 2 C (tx := "java/lang/Object") rfl d_G_readClass_114 ?_
        obtain ⟨r30, u28, h29, hj27⟩ := cI_u hj27
        refine go_I I (call_runV (rest := [.ref (a 4)]) C I (c_P_spells C.2.2.2.1 C.2.2.2.2.1 l h29 _) wd_P_spells (q0 := 2) (ci := 2) rfl rfl k_495 ⟨rfl, rfl⟩ ⟨by decide, by decide⟩ rfl hl.1 rfl (Nat.le_of_ble_eq_true rfl) d_G_readClass_116) (fun H locs I => ?_)
        refine lv_if_eq (tgt := 126) hx hb d_G_readClass_119 (by decide) (fun hc => ?_) (fun hc => ?_)
        · replace hj27 := it_u hc hj27
          refine lv_iconst (v := 0) hx hb d_G_readClass_126 (by decide) ?_
          obtain ⟨rfl, rfl⟩ := eo2 hj27
          exact Khj27 _ _ _ I (lv_sub hl [2] rfl)
        · replace hj27 := ie_u hc hj27
          refine lv_iconst (v := 1) hx hb d_G_readClass_122 (by decide) ?_
          refine lv_goto (tgt := 127) hx hb d_G_readClass_123 (by decide) ?_
          obtain ⟨rfl, rfl⟩ := eo2 hj27
          exact Khj27 _ _ _ I (lv_sub hl [2] rfl)
    refine lv_if_ne (tgt := 97) hx hb d_G_readClass_90 (by decide) (fun hc => ?_) (fun hc => ?_)
    · replace hj32 := ie_u hc hj32
      refine lv_iconst (v := 0) hx hb d_G_readClass_97 (by decide) ?_
      obtain rfl := ep1 hj32
      exact Khj32 _ _ _ I (lv_sub hl [0, 1, 2] rfl)
    · replace hj32 := it_u hc hj32
      refine lv_iconst (v := 1) hx hb d_G_readClass_93 (by decide) ?_
      refine lv_goto (tgt := 98) hx hb d_G_readClass_94 (by decide) ?_
      obtain rfl := ep1 hj32
      exact Khj32 _ _ _ I (lv_sub hl [0, 1, 2] rfl)
  refine lv_if_ne (tgt := 75) hx hb d_G_readClass_68 (by decide) (fun hc => ?_) (fun hc => ?_)
  · replace hj33 := ie_u hc hj33
    refine lv_iconst (v := 0) hx hb d_G_readClass_75 (by decide) ?_
    obtain rfl := ep1 hj33
    exact Khj33 _ _ _ I (lv_sub hl [3, 1, 0] rfl)
  · replace hj33 := it_u hc hj33
    refine lv_iconst (v := 1) hx hb d_G_readClass_71 (by decide) ?_
    refine lv_goto (tgt := 76) hx hb d_G_readClass_72 (by decide) ?_
    obtain rfl := ep1 hj33
    exact Khj33 _ _ _ I (lv_sub hl [3, 1, 0] rfl)
def rm_G_readCount : Room := { frames := 2, cells := 0, slots := 0, locals := 46 }
noncomputable def f_G_readCount (u : St) (x1 : Int32) : Option (Int32 × St) := cI (f_W_next u 2) fun r3 u1 => bnd (if x1 < r3 then (0) else (1)) fun (z4 : Int32) => cV (f_W_need u1 z4 15 (u.1 1)) fun u5 => cI (f_W_sound u5) fun r9 u7 => bnd (if r9 = 0 then (0) else (r3)) fun (z10 : Int32) => some (z10, u7)
set_option maxHeartbeats 4000000 in
set_option maxRecDepth 100000 in
theorem c_G_readCount {Z : zT} {D : va_G} {cs : Nat → ClassId} {a : Nat → Nat} (hw : wD (xW a cs)) (hz : zOK Z) (l : Launch) {u : St} {x1 : Int32} {r : Int32} {u' : St} (hk : f_G_readCount u x1 = some (r, u')) : KI clA D cs (xW a cs) Z l y_G_readCount (.code y_G_readCount prog_3_method_4_code 4 (Option.some Jvm.ClassFile.FieldType.int)) rm_G_readCount [.ref (a 1), .int x1] u r u' := by
  unfold f_G_readCount at hk
  refine KI.of (by decide) (Nat.le_of_ble_eq_true rfl) rfl hw hz ?_
  intro p e s m args below meth c Q C I hQ ls hl
  have hl : lv_has ls 4 [(0, .ref (a 1)), (1, .int x1)] := hl
  have hx := C.1.1
  have hb := C.1.2.1
  refine lv_aload_n hx hb d_G_readCount_0 rfl (lv_at hl 0 rfl) ?_
  refine g_G_walk C I k_165 d_G_readCount_1 ?_
  refine g_W_at C I k_39 d_G_readCount_4 ?_
  refine lv_istore_n (lv' := [(2, .int (u.1 1)), (0, .ref (a 1)), (1, .int x1)]) hx hb d_G_readCount_7 rfl hl (by decide) rfl (fun ls hl => ?_)
  refine lv_aload_n hx hb d_G_readCount_8 rfl (lv_at hl 1 rfl) ?_
  refine g_G_walk C I k_165 d_G_readCount_9 ?_
  refine lv_iconst (v := 2) hx hb d_G_readCount_12 (by decide) ?_
  obtain ⟨r3, u1, h2, hk⟩ := cI_u hk
  refine go_I I (call_runV (rest := []) C I (c_W_next C.2.2.2.1 C.2.2.2.2.1 l h2 _) wd_W_next (q0 := 4) (ci := 4) rfl rfl k_283 ⟨rfl, rfl⟩ ⟨by decide, by decide⟩ rfl hl.1 rfl (Nat.le_of_ble_eq_true rfl) d_G_readCount_13) (fun H locs I => ?_)
  refine lv_istore_n (lv' := [(3, .int r3), (2, .int (u.1 1)), (0, .ref (a 1)), (1, .int x1)]) hx hb d_G_readCount_16 rfl hl (by decide) rfl (fun ls hl => ?_)
  refine lv_aload_n hx hb d_G_readCount_17 rfl (lv_at hl 2 rfl) ?_
  refine g_G_walk C I k_165 d_G_readCount_18 ?_
  refine lv_iload_n hx hb d_G_readCount_21 rfl (lv_at hl 0 rfl) ?_
  refine lv_iload_n hx hb d_G_readCount_22 rfl (lv_at hl 3 rfl) ?_
  obtain ⟨z4, hj12, hk⟩ := bnd_u hk
  have Khj12 : ∀ (H : Heap) (locs : List Loc) (ls : Array Slot), Dy clA D (xW a cs) s H locs u1 → lv_has ls 4 [(0, .ref (a 1)), (2, .int (u.1 1)), (3, .int r3)] → W p l e rm_G_readCount s m args below meth c H locs 0 0 Q (F0 m 31 ls [.int z4, .ref (a 4)]) := by
    intro H locs ls I hl
    refine lv_bipush (v := 15) hx hb d_G_readCount_31 (by decide) ?_
    refine lv_iload_n hx hb d_G_readCount_33 rfl (lv_at hl 1 rfl) ?_
    obtain ⟨u5, h6, hk⟩ := cV_u hk
    refine go_V I (call_runV (rest := []) C I (c_W_need C.2.2.2.1 C.2.2.2.2.1 l h6 _) wd_W_need (q0 := 4) (ci := 4) rfl rfl k_289 ⟨rfl, rfl⟩ ⟨by decide, by decide⟩ rfl hl.1 rfl (Nat.le_of_ble_eq_true rfl) d_G_readCount_34) (fun H locs I => ?_)
    refine lv_aload_n hx hb d_G_readCount_37 rfl (lv_at hl 0 rfl) ?_
    refine g_G_walk C I k_165 d_G_readCount_38 ?_
    obtain ⟨r9, u7, h8, hk⟩ := cI_u hk
    refine go_I I (call_runV (rest := []) C I (c_W_sound C.2.2.2.1 C.2.2.2.2.1 l h8 _) wd_W_sound (q0 := 4) (ci := 4) rfl rfl k_500 ⟨rfl, rfl⟩ ⟨by decide, by decide⟩ rfl hl.1 rfl (Nat.le_of_ble_eq_true rfl) d_G_readCount_41) (fun H locs I => ?_)
    obtain ⟨z10, hj11, hk⟩ := bnd_u hk
    have Khj11 : ∀ (H : Heap) (locs : List Loc) (ls : Array Slot), Dy clA D (xW a cs) s H locs u7 → lv_has ls 4 [] → W p l e rm_G_readCount s m args below meth c H locs 0 0 Q (F0 m 52 ls [.int z10]) := by
      intro H locs ls I hl
      exact hQ _ _ _ _ _ _ I hk d_G_readCount_52
    refine lv_if_eq (tgt := 51) hx hb d_G_readCount_44 (by decide) (fun hc => ?_) (fun hc => ?_)
    · replace hj11 := it_u hc hj11
      refine lv_iconst (v := 0) hx hb d_G_readCount_51 (by decide) ?_
      obtain rfl := ep1 hj11
      exact Khj11 _ _ _ I (lv_sub hl [] rfl)
    · replace hj11 := ie_u hc hj11
      refine lv_iload_n hx hb d_G_readCount_47 rfl (lv_at hl 2 rfl) ?_
      refine lv_goto (tgt := 52) hx hb d_G_readCount_48 (by decide) ?_
      obtain rfl := ep1 hj11
      exact Khj11 _ _ _ I (lv_sub hl [] rfl)
  refine lv_icmp_gt (tgt := 30) hx hb d_G_readCount_23 (by decide) (fun hc => ?_) (fun hc => ?_)
  · replace hj12 := it_u hc hj12
    refine lv_iconst (v := 0) hx hb d_G_readCount_30 (by decide) ?_
    obtain rfl := ep1 hj12
    exact Khj12 _ _ _ I (lv_sub hl [2, 1, 0] rfl)
  · replace hj12 := ie_u hc hj12
    refine lv_iconst (v := 1) hx hb d_G_readCount_26 (by decide) ?_
    refine lv_goto (tgt := 31) hx hb d_G_readCount_27 (by decide) ?_
    obtain rfl := ep1 hj12
    exact Khj12 _ _ _ I (lv_sub hl [2, 1, 0] rfl)
def rm_G_addMember : Room := { frames := 3, cells := 0, slots := 0, locals := 70 }
noncomputable def f_G_addMember_L13 (x1 : Int32) (x2 : Int32) : Nat → St → Int32 → Option (St)
  | 0, _, _ => none
  | n + 1, u, x3 => if x1 ≤ x3 then (some (u)) else (cI (f_W_sound u) fun r3 u1 => if r3 = 0 then (some (u1)) else (gd x3 60 (cI (f_P_alike u1 (u1.2 14 x3.toNatClampNeg) x2) fun r6 u4 => cT (if r6 = 0 then (some (0, u4)) else (gd x3 60 (cI (f_P_alike u4 (u4.2 15 x3.toNatClampNeg) (u4.1 19)) fun r16 u14 => if r16 = 0 then (some (0, u14)) else (some (1, u14))))) fun (p17 : Int32 × St) => bnd (if p17.1 = 0 then (1) else (0)) fun (z9 : Int32) => cV (f_W_need p17.2 z9 16 (p17.2.1 17)) fun u10 => f_G_addMember_L13 x1 x2 n u10 (x3 + 1))))
noncomputable def f_G_addMember (u : St) (x1 : Int32) (x2 : Int32) : Option (St) := if x1 < 0 then (some u) else (if x1 < 60 then (cT (f_G_addMember_L13 x1 x2 FU u 0) fun (u18 : St) => gd x1 60 (bnd (sa u18 14 x1.toNatClampNeg x2) fun u19 => gd x1 60 (bnd (sa u19 15 x1.toNatClampNeg (u19.1 19)) fun u20 => some u20))) else (some u))
set_option maxHeartbeats 4000000 in
set_option maxRecDepth 100000 in
theorem w_G_addMember_L13 {Z : zT} {D : va_G} {cs : Nat → ClassId} {a : Nat → Nat} {p : Program} {l : Launch} {e : Env} {s : State} {m : MethodId} {args : Array Value} {below : List Frame} {meth : Method} {c : Code} {Q : State → Prop}  {u2 : St} {x1 : Int32} {x2 : Int32} (C : Cx clA R_G prog_3_method_14_code 5 D cs (xW a cs) Z p s m args c) (hE : ∀ (H : Heap) (locs : List Loc) (ls : Array Slot), Dy clA D (xW a cs) s H locs u2 → lv_has ls 5 [(0, .ref (a 1)), (1, .int x1), (2, .int x2)] → W p l e rm_G_addMember s m args below meth c H locs 0 0 Q (F0 m 101 ls [])) : ∀ (n : Nat) (u : St) (x3 : Int32) (H : Heap) (locs : List Loc) (ls : Array Slot), f_G_addMember_L13 x1 x2 n u x3 = some u2 → Dy clA D (xW a cs) s H locs u → lv_has ls 5 [(0, .ref (a 1)), (1, .int x1), (2, .int x2), (3, .int x3)] → W p l e rm_G_addMember s m args below meth c H locs 0 0 Q (F0 m 13 ls []) := by
  have hx := C.1.1
  have hb := C.1.2.1
  intro n
  induction n with
  | zero =>
    intro u x3 H locs ls hk I hl
    rw [f_G_addMember_L13] at hk
    cases hk
  | succ n ih =>
    intro u x3 H locs ls hk I hl
    rw [f_G_addMember_L13] at hk
    refine lv_iload_n hx hb d_G_addMember_13 rfl (lv_at hl 3 rfl) ?_
    refine lv_iload_n hx hb d_G_addMember_14 rfl (lv_at hl 1 rfl) ?_
    refine lv_icmp_ge (tgt := 101) hx hb d_G_addMember_15 (by decide) (fun hc => ?_) (fun hc => ?_)
    · replace hk := it_u hc hk
      obtain rfl := eo1 hk
      exact hE _ _ _ I (lv_sub hl [0, 1, 2] rfl)
    · replace hk := ie_u hc hk
      refine lv_aload_n hx hb d_G_addMember_18 rfl (lv_at hl 0 rfl) ?_
      refine g_G_walk C I k_165 d_G_addMember_19 ?_
      obtain ⟨r3, u1, h2, hk⟩ := cI_u hk
      refine go_I I (call_runV (rest := []) C I (c_W_sound C.2.2.2.1 C.2.2.2.2.1 l h2 _) wd_W_sound (q0 := 4) (ci := 4) rfl rfl k_500 ⟨rfl, rfl⟩ ⟨by decide, by decide⟩ rfl hl.1 rfl (Nat.le_of_ble_eq_true rfl) d_G_addMember_22) (fun H locs I => ?_)
      refine lv_if_eq (tgt := 101) hx hb d_G_addMember_25 (by decide) (fun hc => ?_) (fun hc => ?_)
      · replace hk := it_u hc hk
        obtain rfl := eo1 hk
        exact hE _ _ _ I (lv_sub hl [0, 1, 2] rfl)
      · replace hk := ie_u hc hk
        refine lv_aload_n hx hb d_G_addMember_28 rfl (lv_at hl 0 rfl) ?_
        refine g_G_pool C I k_159 d_G_addMember_29 ?_
        refine lv_aload_n hx hb d_G_addMember_32 rfl (lv_at hl 0 rfl) ?_
        refine g_G_names C I k_167 d_G_addMember_33 ?_
        refine lv_iload_n hx hb d_G_addMember_36 rfl (lv_at hl 3 rfl) ?_
        obtain ⟨hi, hk⟩ := gd_u hk
        refine l_G_names C I hi d_G_addMember_37 ?_
        refine lv_iload_n hx hb d_G_addMember_38 rfl (lv_at hl 2 rfl) ?_
        obtain ⟨r6, u4, h5, hk⟩ := cI_u hk
        refine go_I I (call_runV (rest := []) C I (c_P_alike C.2.2.2.1 C.2.2.2.2.1 l h5 _) wd_P_alike (q0 := 2) (ci := 2) rfl rfl k_490 ⟨rfl, rfl⟩ ⟨by decide, by decide⟩ rfl hl.1 rfl (Nat.le_of_ble_eq_true rfl) d_G_addMember_39) (fun H locs I => ?_)
        obtain ⟨⟨z7, u8⟩, hj13, hk⟩ := cT_u hk
        have Khj13 : ∀ (H : Heap) (locs : List Loc) (ls : Array Slot), Dy clA D (xW a cs) s H locs u8 → lv_has ls 5 [(0, .ref (a 1)), (1, .int x1), (2, .int x2), (3, .int x3)] → W p l e rm_G_addMember s m args below meth c H locs 0 0 Q (F0 m 70 ls [.int z7]) := by
          intro H locs ls I hl
          refine lv_istore (lv' := [(4, .int z7), (0, .ref (a 1)), (1, .int x1), (2, .int x2), (3, .int x3)]) hx hb d_G_addMember_70 hl (by decide) rfl (fun ls hl => ?_)
          refine lv_aload_n hx hb d_G_addMember_72 rfl (lv_at hl 1 rfl) ?_
          refine g_G_walk C I k_165 d_G_addMember_73 ?_
          refine lv_iload hx hb d_G_addMember_76 (lv_at hl 0 rfl) ?_
          obtain ⟨z9, hj12, hk⟩ := bnd_u hk
          have Khj12 : ∀ (H : Heap) (locs : List Loc) (ls : Array Slot), Dy clA D (xW a cs) s H locs u8 → lv_has ls 5 [(0, .ref (a 1)), (1, .int x1), (2, .int x2), (3, .int x3)] → W p l e rm_G_addMember s m args below meth c H locs 0 0 Q (F0 m 86 ls [.int z9, .ref (a 4)]) := by
            intro H locs ls I hl
            refine lv_bipush (v := 16) hx hb d_G_addMember_86 (by decide) ?_
            refine lv_aload_n hx hb d_G_addMember_88 rfl (lv_at hl 0 rfl) ?_
            refine g_G_memberPlace C I k_171 d_G_addMember_89 ?_
            obtain ⟨u10, h11, hk⟩ := cV_u hk
            refine go_V I (call_runV (rest := []) C I (c_W_need C.2.2.2.1 C.2.2.2.2.1 l h11 _) wd_W_need (q0 := 4) (ci := 4) rfl rfl k_289 ⟨rfl, rfl⟩ ⟨by decide, by decide⟩ rfl hl.1 rfl (Nat.le_of_ble_eq_true rfl) d_G_addMember_92) (fun H locs I => ?_)
            refine lv_iinc (v := (x3 + 1)) (lv' := [(3, .int (x3 + 1)), (0, .ref (a 1)), (1, .int x1), (2, .int x2)]) hx hb d_G_addMember_95 hl (k := 3) rfl rfl (by decide) rfl (fun ls hl => ?_)
            refine lv_goto (tgt := 13) hx hb d_G_addMember_98 (by decide) ?_
            exact ih u10 (x3 + 1) _ _ _ hk I (lv_sub hl [1, 2, 3, 0] rfl)
          refine lv_if_ne (tgt := 85) hx hb d_G_addMember_78 (by decide) (fun hc => ?_) (fun hc => ?_)
          · replace hj12 := ie_u hc hj12
            refine lv_iconst (v := 0) hx hb d_G_addMember_85 (by decide) ?_
            obtain rfl := ep1 hj12
            exact Khj12 _ _ _ I (lv_sub hl [1, 2, 3, 4] rfl)
          · replace hj12 := it_u hc hj12
            refine lv_iconst (v := 1) hx hb d_G_addMember_81 (by decide) ?_
            refine lv_goto (tgt := 86) hx hb d_G_addMember_82 (by decide) ?_
            obtain rfl := ep1 hj12
            exact Khj12 _ _ _ I (lv_sub hl [1, 2, 3, 4] rfl)
        refine lv_if_eq (tgt := 69) hx hb d_G_addMember_42 (by decide) (fun hc => ?_) (fun hc => ?_)
        · replace hj13 := it_u hc hj13
          refine lv_iconst (v := 0) hx hb d_G_addMember_69 (by decide) ?_
          obtain ⟨rfl, rfl⟩ := eo2 hj13
          exact Khj13 _ _ _ I (lv_sub hl [0, 1, 2, 3] rfl)
        · replace hj13 := ie_u hc hj13
          refine lv_aload_n hx hb d_G_addMember_45 rfl (lv_at hl 0 rfl) ?_
          refine g_G_pool C I k_159 d_G_addMember_46 ?_
          refine lv_aload_n hx hb d_G_addMember_49 rfl (lv_at hl 0 rfl) ?_
          refine g_G_types C I k_168 d_G_addMember_50 ?_
          refine lv_iload_n hx hb d_G_addMember_53 rfl (lv_at hl 3 rfl) ?_
          obtain ⟨hi, hj13⟩ := gd_u hj13
          refine l_G_types C I hi d_G_addMember_54 ?_
          refine lv_aload_n hx hb d_G_addMember_55 rfl (lv_at hl 0 rfl) ?_
          refine g_G_memberType C I k_173 d_G_addMember_56 ?_
          obtain ⟨r16, u14, h15, hj13⟩ := cI_u hj13
          refine go_I I (call_runV (rest := []) C I (c_P_alike C.2.2.2.1 C.2.2.2.2.1 l h15 _) wd_P_alike (q0 := 2) (ci := 2) rfl rfl k_490 ⟨rfl, rfl⟩ ⟨by decide, by decide⟩ rfl hl.1 rfl (Nat.le_of_ble_eq_true rfl) d_G_addMember_59) (fun H locs I => ?_)
          refine lv_if_eq (tgt := 69) hx hb d_G_addMember_62 (by decide) (fun hc => ?_) (fun hc => ?_)
          · replace hj13 := it_u hc hj13
            refine lv_iconst (v := 0) hx hb d_G_addMember_69 (by decide) ?_
            obtain ⟨rfl, rfl⟩ := eo2 hj13
            exact Khj13 _ _ _ I (lv_sub hl [0, 1, 2, 3] rfl)
          · replace hj13 := ie_u hc hj13
            refine lv_iconst (v := 1) hx hb d_G_addMember_65 (by decide) ?_
            refine lv_goto (tgt := 70) hx hb d_G_addMember_66 (by decide) ?_
            obtain ⟨rfl, rfl⟩ := eo2 hj13
            exact Khj13 _ _ _ I (lv_sub hl [0, 1, 2, 3] rfl)
set_option maxHeartbeats 4000000 in
set_option maxRecDepth 100000 in
theorem c_G_addMember {Z : zT} {D : va_G} {cs : Nat → ClassId} {a : Nat → Nat} (hw : wD (xW a cs)) (hz : zOK Z) (l : Launch) {u : St} {x1 : Int32} {x2 : Int32} {u' : St} (hk : f_G_addMember u x1 x2 = some u') : KV clA D cs (xW a cs) Z l y_G_addMember (.code y_G_addMember prog_3_method_14_code 5 (Option.none : Option Jvm.ClassFile.FieldType)) rm_G_addMember [.ref (a 1), .int x1, .int x2] u u' := by
  unfold f_G_addMember at hk
  refine KV.of (by decide) (Nat.le_of_ble_eq_true rfl) hw hz ?_
  intro p e s m args below meth c Q C I hQ ls hl
  have hl : lv_has ls 5 [(0, .ref (a 1)), (1, .int x1), (2, .int x2)] := hl
  have hx := C.1.1
  have hb := C.1.2.1
  refine lv_iload_n hx hb d_G_addMember_0 rfl (lv_at hl 1 rfl) ?_
  refine lv_if_lt (tgt := 10) hx hb d_G_addMember_1 (by decide) (fun hc => ?_) (fun hc => ?_)
  · replace hk := it_u hc hk
    exact hQ _ _ _ _ _ I hk d_G_addMember_10
  · replace hk := ie_u hc hk
    refine lv_iload_n hx hb d_G_addMember_4 rfl (lv_at hl 1 rfl) ?_
    refine lv_bipush (v := 60) hx hb d_G_addMember_5 (by decide) ?_
    refine lv_icmp_lt (tgt := 11) hx hb d_G_addMember_7 (by decide) (fun hc => ?_) (fun hc => ?_)
    · replace hk := it_u hc hk
      refine lv_iconst (v := 0) hx hb d_G_addMember_11 (by decide) ?_
      refine lv_istore_n (lv' := [(3, .int 0), (0, .ref (a 1)), (1, .int x1), (2, .int x2)]) hx hb d_G_addMember_12 rfl hl (by decide) rfl (fun ls hl => ?_)
      obtain ⟨u18, hj21, hk⟩ := cT_u hk
      refine w_G_addMember_L13 C (fun H locs ls I hl => ?_) FU u 0 _ _ _ hj21 I (lv_sub hl [1, 2, 3, 0] rfl)
      refine lv_aload_n hx hb d_G_addMember_101 rfl (lv_at hl 0 rfl) ?_
      refine g_G_names C I k_167 d_G_addMember_102 ?_
      refine lv_iload_n hx hb d_G_addMember_105 rfl (lv_at hl 1 rfl) ?_
      refine lv_iload_n hx hb d_G_addMember_106 rfl (lv_at hl 2 rfl) ?_
      obtain ⟨hi, hk⟩ := gd_u hk
      refine s_G_names C I hi d_G_addMember_107 (fun H locs I => ?_)
      obtain ⟨u19, hu, hk⟩ := bnd_u hk
      rw [hu] at I
      clear hu
      refine lv_aload_n hx hb d_G_addMember_108 rfl (lv_at hl 0 rfl) ?_
      refine g_G_types C I k_168 d_G_addMember_109 ?_
      refine lv_iload_n hx hb d_G_addMember_112 rfl (lv_at hl 1 rfl) ?_
      refine lv_aload_n hx hb d_G_addMember_113 rfl (lv_at hl 0 rfl) ?_
      refine g_G_memberType C I k_173 d_G_addMember_114 ?_
      obtain ⟨hi, hk⟩ := gd_u hk
      refine s_G_types C I hi d_G_addMember_117 (fun H locs I => ?_)
      obtain ⟨u20, hu, hk⟩ := bnd_u hk
      rw [hu] at I
      clear hu
      exact hQ _ _ _ _ _ I hk d_G_addMember_118
    · replace hk := ie_u hc hk
      exact hQ _ _ _ _ _ I hk d_G_addMember_10
def rm_G_fieldFlagsHold : Room := { frames := 4, cells := 0, slots := 0, locals := 90 }
noncomputable def f_G_fieldFlagsHold (u : St) (x1 : Int32) : Option (Int32 × St) := if ((u.1 16) &&& 512) = 0 then (cT (if (x1 &&& (-160)) = 0 then (cI (f_bitCount u (x1 &&& 7)) fun r4 u5 => if 1 < r4 then (some (0, u5)) else (some (1, u5))) else (some (0, u))) fun (p7 : Int32 × St) => gb p7.1 (some (p7.1, p7.2))) else (bnd (if x1 = 25 then (1) else (0)) fun (z8 : Int32) => gb z8 (some (z8, u)))
set_option maxHeartbeats 4000000 in
set_option maxRecDepth 100000 in
theorem c_G_fieldFlagsHold {Z : zT} {D : va_G} {cs : Nat → ClassId} {a : Nat → Nat} (hw : wD (xW a cs)) (hz : zOK Z) (l : Launch) {u : St} {x1 : Int32} {r : Int32} {u' : St} (hk : f_G_fieldFlagsHold u x1 = some (r, u')) : KI clA D cs (xW a cs) Z l y_G_fieldFlagsHold (.code y_G_fieldFlagsHold prog_3_method_10_code 2 (Option.some Jvm.ClassFile.FieldType.boolean)) rm_G_fieldFlagsHold [.ref (a 1), .int x1] u r u' := by
  unfold f_G_fieldFlagsHold at hk
  refine KZ.of (by decide) (Nat.le_of_ble_eq_true rfl) hw hz ?_
  intro p e s m args below meth c Q C I hQ ls hl
  have hl : lv_has ls 2 [(0, .ref (a 1)), (1, .int x1)] := hl
  have hx := C.1.1
  have hb := C.1.2.1
  refine lv_aload_n hx hb d_G_fieldFlagsHold_0 rfl (lv_at hl 0 rfl) ?_
  refine g_G_classFlags C I k_170 d_G_fieldFlagsHold_1 ?_
  refine lv_sipush (v := 512) hx hb d_G_fieldFlagsHold_4 (by decide) ?_
  refine lv_iand hx hb d_G_fieldFlagsHold_7 ?_
  refine lv_if_eq (tgt := 23) hx hb d_G_fieldFlagsHold_8 (by decide) (fun hc => ?_) (fun hc => ?_)
  · replace hk := it_u hc hk
    refine lv_iload_n hx hb d_G_fieldFlagsHold_23 rfl (lv_at hl 1 rfl) ?_
    refine lv_sipush (v := (-160)) hx hb d_G_fieldFlagsHold_24 (by decide) ?_
    refine lv_iand hx hb d_G_fieldFlagsHold_27 ?_
    obtain ⟨⟨z1, u2⟩, hj3, hk⟩ := cT_u hk
    have Khj3 : ∀ (H : Heap) (locs : List Loc) (ls : Array Slot), Dy clA D (xW a cs) s H locs u2 → lv_has ls 2 [] → W p l e rm_G_fieldFlagsHold s m args below meth c H locs 0 0 Q (F0 m 47 ls [.int z1]) := by
      intro H locs ls I hl
      exact hQ _ _ _ _ _ _ I hk d_G_fieldFlagsHold_47
    refine lv_if_ne (tgt := 46) hx hb d_G_fieldFlagsHold_28 (by decide) (fun hc => ?_) (fun hc => ?_)
    · replace hj3 := ie_u hc hj3
      refine lv_iconst (v := 0) hx hb d_G_fieldFlagsHold_46 (by decide) ?_
      obtain ⟨rfl, rfl⟩ := eo2 hj3
      exact Khj3 _ _ _ I (lv_sub hl [] rfl)
    · replace hj3 := it_u hc hj3
      refine lv_iload_n hx hb d_G_fieldFlagsHold_31 rfl (lv_at hl 1 rfl) ?_
      refine lv_bipush (v := 7) hx hb d_G_fieldFlagsHold_32 (by decide) ?_
      refine lv_iand hx hb d_G_fieldFlagsHold_34 ?_
      obtain ⟨r4, u5, h6, hj3⟩ := cI_u hj3
      refine go_I I (call_runS (rest := []) C I (c_bitCount C.2.2.2.1 C.2.2.2.2.1 l h6 _) wd_bitCount k_513 ⟨rfl, rfl⟩ ⟨by decide, by decide⟩ rfl hl.1 rfl (Nat.le_of_ble_eq_true rfl) d_G_fieldFlagsHold_35) (fun H locs I => ?_)
      refine lv_iconst (v := 1) hx hb d_G_fieldFlagsHold_38 (by decide) ?_
      refine lv_icmp_gt (tgt := 46) hx hb d_G_fieldFlagsHold_39 (by decide) (fun hc => ?_) (fun hc => ?_)
      · replace hj3 := it_u hc hj3
        refine lv_iconst (v := 0) hx hb d_G_fieldFlagsHold_46 (by decide) ?_
        obtain ⟨rfl, rfl⟩ := eo2 hj3
        exact Khj3 _ _ _ I (lv_sub hl [] rfl)
      · replace hj3 := ie_u hc hj3
        refine lv_iconst (v := 1) hx hb d_G_fieldFlagsHold_42 (by decide) ?_
        refine lv_goto (tgt := 47) hx hb d_G_fieldFlagsHold_43 (by decide) ?_
        obtain ⟨rfl, rfl⟩ := eo2 hj3
        exact Khj3 _ _ _ I (lv_sub hl [] rfl)
  · replace hk := ie_u hc hk
    refine lv_iload_n hx hb d_G_fieldFlagsHold_11 rfl (lv_at hl 1 rfl) ?_
    refine lv_bipush (v := 25) hx hb d_G_fieldFlagsHold_12 (by decide) ?_
    obtain ⟨z8, hj9, hk⟩ := bnd_u hk
    have Khj9 : ∀ (H : Heap) (locs : List Loc) (ls : Array Slot), Dy clA D (xW a cs) s H locs u → lv_has ls 2 [] → W p l e rm_G_fieldFlagsHold s m args below meth c H locs 0 0 Q (F0 m 22 ls [.int z8]) := by
      intro H locs ls I hl
      exact hQ _ _ _ _ _ _ I hk d_G_fieldFlagsHold_22
    refine lv_icmp_ne (tgt := 21) hx hb d_G_fieldFlagsHold_14 (by decide) (fun hc => ?_) (fun hc => ?_)
    · replace hj9 := ie_u hc hj9
      refine lv_iconst (v := 0) hx hb d_G_fieldFlagsHold_21 (by decide) ?_
      obtain rfl := ep1 hj9
      exact Khj9 _ _ _ I (lv_sub hl [] rfl)
    · replace hj9 := it_u hc hj9
      refine lv_iconst (v := 1) hx hb d_G_fieldFlagsHold_17 (by decide) ?_
      refine lv_goto (tgt := 22) hx hb d_G_fieldFlagsHold_18 (by decide) ?_
      obtain rfl := ep1 hj9
      exact Khj9 _ _ _ I (lv_sub hl [] rfl)
def rm_G_readField : Room := { frames := 5, cells := 0, slots := 0, locals := 111 }
noncomputable def f_G_readField (u : St) (x1 : Int32) : Option (St) := bnd (sv u 17 (u.1 1)) fun u1 => cI (f_W_next u1 2) fun r4 u2 => bnd (sv u2 18 r4) fun u5 => cI (f_G_fieldFlagsHold u5 (u5.1 18)) fun r8 u6 => cV (f_W_need u6 r8 13 (u6.1 17)) fun u9 => cI (f_P_take u9 1) fun r13 u11 => cI (f_P_factsOf u11 r13) fun r16 u14 => bnd (if (r16 &&& 1) = 0 then (0) else (1)) fun (z17 : Int32) => cV (f_W_need u14 z17 9 (u9.1 1)) fun u18 => cI (f_P_take u18 1) fun r22 u20 => bnd (sv u20 19 r22) fun u23 => cV (f_P_needType u23 (u23.1 19) 16 (u18.1 1)) fun u24 => cV (f_G_addMember u24 x1 r13) fun u26 => some u26
set_option maxHeartbeats 4000000 in
set_option maxRecDepth 100000 in
theorem c_G_readField {Z : zT} {D : va_G} {cs : Nat → ClassId} {a : Nat → Nat} (hw : wD (xW a cs)) (hz : zOK Z) (l : Launch) {u : St} {x1 : Int32} {u' : St} (hk : f_G_readField u x1 = some u') : KV clA D cs (xW a cs) Z l y_G_readField (.code y_G_readField prog_3_method_9_code 4 (Option.none : Option Jvm.ClassFile.FieldType)) rm_G_readField [.ref (a 1), .int x1] u u' := by
  unfold f_G_readField at hk
  refine KV.of (by decide) (Nat.le_of_ble_eq_true rfl) hw hz ?_
  intro p e s m args below meth c Q C I hQ ls hl
  have hl : lv_has ls 4 [(0, .ref (a 1)), (1, .int x1)] := hl
  have hx := C.1.1
  have hb := C.1.2.1
  refine lv_aload_n hx hb d_G_readField_0 rfl (lv_at hl 0 rfl) ?_
  refine lv_aload_n hx hb d_G_readField_1 rfl (lv_at hl 0 rfl) ?_
  refine g_G_walk C I k_165 d_G_readField_2 ?_
  refine g_W_at C I k_39 d_G_readField_5 ?_
  refine p_G_memberPlace C I k_171 d_G_readField_8 (fun H locs I => ?_)
  obtain ⟨u1, hu, hk⟩ := bnd_u hk
  rw [hu] at I
  clear hu
  refine lv_aload_n hx hb d_G_readField_11 rfl (lv_at hl 0 rfl) ?_
  refine lv_aload_n hx hb d_G_readField_12 rfl (lv_at hl 0 rfl) ?_
  refine g_G_walk C I k_165 d_G_readField_13 ?_
  refine lv_iconst (v := 2) hx hb d_G_readField_16 (by decide) ?_
  obtain ⟨r4, u2, h3, hk⟩ := cI_u hk
  refine go_I I (call_runV (rest := [.ref (a 1)]) C I (c_W_next C.2.2.2.1 C.2.2.2.2.1 l h3 _) wd_W_next (q0 := 4) (ci := 4) rfl rfl k_283 ⟨rfl, rfl⟩ ⟨by decide, by decide⟩ rfl hl.1 rfl (Nat.le_of_ble_eq_true rfl) d_G_readField_17) (fun H locs I => ?_)
  refine p_G_memberFlags C I k_172 d_G_readField_20 (fun H locs I => ?_)
  obtain ⟨u5, hu, hk⟩ := bnd_u hk
  rw [hu] at I
  clear hu
  refine lv_aload_n hx hb d_G_readField_23 rfl (lv_at hl 0 rfl) ?_
  refine g_G_walk C I k_165 d_G_readField_24 ?_
  refine lv_aload_n hx hb d_G_readField_27 rfl (lv_at hl 0 rfl) ?_
  refine lv_aload_n hx hb d_G_readField_28 rfl (lv_at hl 0 rfl) ?_
  refine g_G_memberFlags C I k_172 d_G_readField_29 ?_
  obtain ⟨r8, u6, h7, hk⟩ := cI_u hk
  refine go_I I (call_runV (rest := [.ref (a 4)]) C I (c_G_fieldFlagsHold C.2.2.2.1 C.2.2.2.2.1 l h7 _) wd_G_fieldFlagsHold (q0 := 1) (ci := 1) rfl rfl k_509 ⟨rfl, rfl⟩ ⟨by decide, by decide⟩ rfl hl.1 rfl (Nat.le_of_ble_eq_true rfl) d_G_readField_32) (fun H locs I => ?_)
  refine lv_bipush (v := 13) hx hb d_G_readField_35 (by decide) ?_
  refine lv_aload_n hx hb d_G_readField_37 rfl (lv_at hl 0 rfl) ?_
  refine g_G_memberPlace C I k_171 d_G_readField_38 ?_
  obtain ⟨u9, h10, hk⟩ := cV_u hk
  refine go_V I (call_runV (rest := []) C I (c_W_need C.2.2.2.1 C.2.2.2.2.1 l h10 _) wd_W_need (q0 := 4) (ci := 4) rfl rfl k_289 ⟨rfl, rfl⟩ ⟨by decide, by decide⟩ rfl hl.1 rfl (Nat.le_of_ble_eq_true rfl) d_G_readField_41) (fun H locs I => ?_)
  refine lv_aload_n hx hb d_G_readField_44 rfl (lv_at hl 0 rfl) ?_
  refine g_G_walk C I k_165 d_G_readField_45 ?_
  refine g_W_at C I k_39 d_G_readField_48 ?_
  refine lv_istore_n (lv' := [(2, .int (u9.1 1)), (0, .ref (a 1)), (1, .int x1)]) hx hb d_G_readField_51 rfl hl (by decide) rfl (fun ls hl => ?_)
  refine lv_aload_n hx hb d_G_readField_52 rfl (lv_at hl 1 rfl) ?_
  refine g_G_pool C I k_159 d_G_readField_53 ?_
  refine lv_iconst (v := 1) hx hb d_G_readField_56 (by decide) ?_
  obtain ⟨r13, u11, h12, hk⟩ := cI_u hk
  refine go_I I (call_runV (rest := []) C I (c_P_take C.2.2.2.1 C.2.2.2.2.1 l h12 _) wd_P_take (q0 := 2) (ci := 2) rfl rfl k_484 ⟨rfl, rfl⟩ ⟨by decide, by decide⟩ rfl hl.1 rfl (Nat.le_of_ble_eq_true rfl) d_G_readField_57) (fun H locs I => ?_)
  refine lv_istore_n (lv' := [(3, .int r13), (2, .int (u9.1 1)), (0, .ref (a 1)), (1, .int x1)]) hx hb d_G_readField_60 rfl hl (by decide) rfl (fun ls hl => ?_)
  refine lv_aload_n hx hb d_G_readField_61 rfl (lv_at hl 2 rfl) ?_
  refine g_G_walk C I k_165 d_G_readField_62 ?_
  refine lv_aload_n hx hb d_G_readField_65 rfl (lv_at hl 2 rfl) ?_
  refine g_G_pool C I k_159 d_G_readField_66 ?_
  refine lv_iload_n hx hb d_G_readField_69 rfl (lv_at hl 0 rfl) ?_
  obtain ⟨r16, u14, h15, hk⟩ := cI_u hk
  refine go_I I (call_runV (rest := [.ref (a 4)]) C I (c_P_factsOf C.2.2.2.1 C.2.2.2.2.1 l h15 _) wd_P_factsOf (q0 := 2) (ci := 2) rfl rfl k_519 ⟨rfl, rfl⟩ ⟨by decide, by decide⟩ rfl hl.1 rfl (Nat.le_of_ble_eq_true rfl) d_G_readField_70) (fun H locs I => ?_)
  refine lv_iconst (v := 1) hx hb d_G_readField_73 (by decide) ?_
  refine lv_iand hx hb d_G_readField_74 ?_
  obtain ⟨z17, hj28, hk⟩ := bnd_u hk
  have Khj28 : ∀ (H : Heap) (locs : List Loc) (ls : Array Slot), Dy clA D (xW a cs) s H locs u14 → lv_has ls 4 [(0, .ref (a 1)), (1, .int x1), (2, .int (u9.1 1)), (3, .int r13)] → W p l e rm_G_readField s m args below meth c H locs 0 0 Q (F0 m 83 ls [.int z17, .ref (a 4)]) := by
    intro H locs ls I hl
    refine lv_bipush (v := 9) hx hb d_G_readField_83 (by decide) ?_
    refine lv_iload_n hx hb d_G_readField_85 rfl (lv_at hl 2 rfl) ?_
    obtain ⟨u18, h19, hk⟩ := cV_u hk
    refine go_V I (call_runV (rest := []) C I (c_W_need C.2.2.2.1 C.2.2.2.2.1 l h19 _) wd_W_need (q0 := 4) (ci := 4) rfl rfl k_289 ⟨rfl, rfl⟩ ⟨by decide, by decide⟩ rfl hl.1 rfl (Nat.le_of_ble_eq_true rfl) d_G_readField_86) (fun H locs I => ?_)
    refine lv_aload_n hx hb d_G_readField_89 rfl (lv_at hl 0 rfl) ?_
    refine g_G_walk C I k_165 d_G_readField_90 ?_
    refine g_W_at C I k_39 d_G_readField_93 ?_
    refine lv_istore_n (lv' := [(2, .int (u18.1 1)), (0, .ref (a 1)), (1, .int x1), (3, .int r13)]) hx hb d_G_readField_96 rfl hl (by decide) rfl (fun ls hl => ?_)
    refine lv_aload_n hx hb d_G_readField_97 rfl (lv_at hl 1 rfl) ?_
    refine lv_aload_n hx hb d_G_readField_98 rfl (lv_at hl 1 rfl) ?_
    refine g_G_pool C I k_159 d_G_readField_99 ?_
    refine lv_iconst (v := 1) hx hb d_G_readField_102 (by decide) ?_
    obtain ⟨r22, u20, h21, hk⟩ := cI_u hk
    refine go_I I (call_runV (rest := [.ref (a 1)]) C I (c_P_take C.2.2.2.1 C.2.2.2.2.1 l h21 _) wd_P_take (q0 := 2) (ci := 2) rfl rfl k_484 ⟨rfl, rfl⟩ ⟨by decide, by decide⟩ rfl hl.1 rfl (Nat.le_of_ble_eq_true rfl) d_G_readField_103) (fun H locs I => ?_)
    refine p_G_memberType C I k_173 d_G_readField_106 (fun H locs I => ?_)
    obtain ⟨u23, hu, hk⟩ := bnd_u hk
    rw [hu] at I
    clear hu
    refine lv_aload_n hx hb d_G_readField_109 rfl (lv_at hl 1 rfl) ?_
    refine g_G_pool C I k_159 d_G_readField_110 ?_
    refine lv_aload_n hx hb d_G_readField_113 rfl (lv_at hl 1 rfl) ?_
    refine g_G_memberType C I k_173 d_G_readField_114 ?_
    refine lv_bipush (v := 16) hx hb d_G_readField_117 (by decide) ?_
    refine lv_iload_n hx hb d_G_readField_119 rfl (lv_at hl 0 rfl) ?_
    obtain ⟨u24, h25, hk⟩ := cV_u hk
    refine go_V I (call_runV (rest := []) C I (c_P_needType C.2.2.2.1 C.2.2.2.2.1 l h25 _) wd_P_needType (q0 := 2) (ci := 2) rfl rfl k_520 ⟨rfl, rfl⟩ ⟨by decide, by decide⟩ rfl hl.1 rfl (Nat.le_of_ble_eq_true rfl) d_G_readField_120) (fun H locs I => ?_)
    refine lv_aload_n hx hb d_G_readField_123 rfl (lv_at hl 1 rfl) ?_
    refine lv_iload_n hx hb d_G_readField_124 rfl (lv_at hl 2 rfl) ?_
    refine lv_iload_n hx hb d_G_readField_125 rfl (lv_at hl 3 rfl) ?_
    obtain ⟨u26, h27, hk⟩ := cV_u hk
    refine go_V I (call_runV (rest := []) C I (c_G_addMember C.2.2.2.1 C.2.2.2.2.1 l h27 _) wd_G_addMember (q0 := 1) (ci := 1) rfl rfl k_521 ⟨rfl, rfl⟩ ⟨by decide, by decide⟩ rfl hl.1 rfl (Nat.le_of_ble_eq_true rfl) d_G_readField_126) (fun H locs I => ?_)
    exact hQ _ _ _ _ _ I hk d_G_readField_129
  refine lv_if_eq (tgt := 82) hx hb d_G_readField_75 (by decide) (fun hc => ?_) (fun hc => ?_)
  · replace hj28 := it_u hc hj28
    refine lv_iconst (v := 0) hx hb d_G_readField_82 (by decide) ?_
    obtain rfl := ep1 hj28
    exact Khj28 _ _ _ I (lv_sub hl [2, 3, 1, 0] rfl)
  · replace hj28 := ie_u hc hj28
    refine lv_iconst (v := 1) hx hb d_G_readField_78 (by decide) ?_
    refine lv_goto (tgt := 83) hx hb d_G_readField_79 (by decide) ?_
    obtain rfl := ep1 hj28
    exact Khj28 _ _ _ I (lv_sub hl [2, 3, 1, 0] rfl)
def rm_G_readHead : Room := { frames := 2, cells := 0, slots := 0, locals := 46 }
noncomputable def f_G_readHead (u : St) : Option (St) := cI (f_W_next u 4) fun r3 u1 => bnd (if r3 = (-889275714) then (1) else (0)) fun (z4 : Int32) => cV (f_W_need u1 z4 2 0) fun u5 => cI (f_W_next u5 2) fun r9 u7 => bnd (if r9 = 0 then (1) else (0)) fun (z10 : Int32) => cV (f_W_need u7 z10 3 4) fun u11 => cI (f_W_next u11 2) fun r15 u13 => bnd (sv u13 15 r15) fun u16 => bnd (if (u16.1 15) < 45 then (0) else (if 61 < (u16.1 15) then (0) else (1))) fun (z17 : Int32) => cV (f_W_need u16 z17 3 6) fun u18 => some u18
set_option maxHeartbeats 4000000 in
set_option maxRecDepth 100000 in
theorem c_G_readHead {Z : zT} {D : va_G} {cs : Nat → ClassId} {a : Nat → Nat} (hw : wD (xW a cs)) (hz : zOK Z) (l : Launch) {u : St} {u' : St} (hk : f_G_readHead u = some u') : KV clA D cs (xW a cs) Z l y_G_readHead (.code y_G_readHead prog_3_method_3_code 1 (Option.none : Option Jvm.ClassFile.FieldType)) rm_G_readHead [.ref (a 1)] u u' := by
  unfold f_G_readHead at hk
  refine KV.of (by decide) (Nat.le_of_ble_eq_true rfl) hw hz ?_
  intro p e s m args below meth c Q C I hQ ls hl
  have hl : lv_has ls 1 [(0, .ref (a 1))] := hl
  have hx := C.1.1
  have hb := C.1.2.1
  refine lv_aload_n hx hb d_G_readHead_0 rfl (lv_at hl 0 rfl) ?_
  refine g_G_walk C I k_165 d_G_readHead_1 ?_
  refine lv_aload_n hx hb d_G_readHead_4 rfl (lv_at hl 0 rfl) ?_
  refine g_G_walk C I k_165 d_G_readHead_5 ?_
  refine lv_iconst (v := 4) hx hb d_G_readHead_8 (by decide) ?_
  obtain ⟨r3, u1, h2, hk⟩ := cI_u hk
  refine go_I I (call_runV (rest := [.ref (a 4)]) C I (c_W_next C.2.2.2.1 C.2.2.2.2.1 l h2 _) wd_W_next (q0 := 4) (ci := 4) rfl rfl k_283 ⟨rfl, rfl⟩ ⟨by decide, by decide⟩ rfl hl.1 rfl (Nat.le_of_ble_eq_true rfl) d_G_readHead_9) (fun H locs I => ?_)
  refine lv_ldc hx hb C.1.2.2.2 (C.2.1 _ k_288) d_G_readHead_12 ?_
  obtain ⟨z4, hj22, hk⟩ := bnd_u hk
  have Khj22 : ∀ (H : Heap) (locs : List Loc) (ls : Array Slot), Dy clA D (xW a cs) s H locs u1 → lv_has ls 1 [(0, .ref (a 1))] → W p l e rm_G_readHead s m args below meth c H locs 0 0 Q (F0 m 22 ls [.int z4, .ref (a 4)]) := by
    intro H locs ls I hl
    refine lv_iconst (v := 2) hx hb d_G_readHead_22 (by decide) ?_
    refine lv_iconst (v := 0) hx hb d_G_readHead_23 (by decide) ?_
    obtain ⟨u5, h6, hk⟩ := cV_u hk
    refine go_V I (call_runV (rest := []) C I (c_W_need C.2.2.2.1 C.2.2.2.2.1 l h6 _) wd_W_need (q0 := 4) (ci := 4) rfl rfl k_289 ⟨rfl, rfl⟩ ⟨by decide, by decide⟩ rfl hl.1 rfl (Nat.le_of_ble_eq_true rfl) d_G_readHead_24) (fun H locs I => ?_)
    refine lv_aload_n hx hb d_G_readHead_27 rfl (lv_at hl 0 rfl) ?_
    refine g_G_walk C I k_165 d_G_readHead_28 ?_
    refine lv_aload_n hx hb d_G_readHead_31 rfl (lv_at hl 0 rfl) ?_
    refine g_G_walk C I k_165 d_G_readHead_32 ?_
    refine lv_iconst (v := 2) hx hb d_G_readHead_35 (by decide) ?_
    obtain ⟨r9, u7, h8, hk⟩ := cI_u hk
    refine go_I I (call_runV (rest := [.ref (a 4)]) C I (c_W_next C.2.2.2.1 C.2.2.2.2.1 l h8 _) wd_W_next (q0 := 4) (ci := 4) rfl rfl k_283 ⟨rfl, rfl⟩ ⟨by decide, by decide⟩ rfl hl.1 rfl (Nat.le_of_ble_eq_true rfl) d_G_readHead_36) (fun H locs I => ?_)
    obtain ⟨z10, hj21, hk⟩ := bnd_u hk
    have Khj21 : ∀ (H : Heap) (locs : List Loc) (ls : Array Slot), Dy clA D (xW a cs) s H locs u7 → lv_has ls 1 [(0, .ref (a 1))] → W p l e rm_G_readHead s m args below meth c H locs 0 0 Q (F0 m 47 ls [.int z10, .ref (a 4)]) := by
      intro H locs ls I hl
      refine lv_iconst (v := 3) hx hb d_G_readHead_47 (by decide) ?_
      refine lv_iconst (v := 4) hx hb d_G_readHead_48 (by decide) ?_
      obtain ⟨u11, h12, hk⟩ := cV_u hk
      refine go_V I (call_runV (rest := []) C I (c_W_need C.2.2.2.1 C.2.2.2.2.1 l h12 _) wd_W_need (q0 := 4) (ci := 4) rfl rfl k_289 ⟨rfl, rfl⟩ ⟨by decide, by decide⟩ rfl hl.1 rfl (Nat.le_of_ble_eq_true rfl) d_G_readHead_49) (fun H locs I => ?_)
      refine lv_aload_n hx hb d_G_readHead_52 rfl (lv_at hl 0 rfl) ?_
      refine lv_aload_n hx hb d_G_readHead_53 rfl (lv_at hl 0 rfl) ?_
      refine g_G_walk C I k_165 d_G_readHead_54 ?_
      refine lv_iconst (v := 2) hx hb d_G_readHead_57 (by decide) ?_
      obtain ⟨r15, u13, h14, hk⟩ := cI_u hk
      refine go_I I (call_runV (rest := [.ref (a 1)]) C I (c_W_next C.2.2.2.1 C.2.2.2.2.1 l h14 _) wd_W_next (q0 := 4) (ci := 4) rfl rfl k_283 ⟨rfl, rfl⟩ ⟨by decide, by decide⟩ rfl hl.1 rfl (Nat.le_of_ble_eq_true rfl) d_G_readHead_58) (fun H locs I => ?_)
      refine p_G_version C I k_169 d_G_readHead_61 (fun H locs I => ?_)
      obtain ⟨u16, hu, hk⟩ := bnd_u hk
      rw [hu] at I
      clear hu
      refine lv_aload_n hx hb d_G_readHead_64 rfl (lv_at hl 0 rfl) ?_
      refine g_G_walk C I k_165 d_G_readHead_65 ?_
      refine lv_aload_n hx hb d_G_readHead_68 rfl (lv_at hl 0 rfl) ?_
      refine g_G_version C I k_169 d_G_readHead_69 ?_
      refine lv_bipush (v := 45) hx hb d_G_readHead_72 (by decide) ?_
      obtain ⟨z17, hj20, hk⟩ := bnd_u hk
      have Khj20 : ∀ (H : Heap) (locs : List Loc) (ls : Array Slot), Dy clA D (xW a cs) s H locs u16 → lv_has ls 1 [] → W p l e rm_G_readHead s m args below meth c H locs 0 0 Q (F0 m 91 ls [.int z17, .ref (a 4)]) := by
        intro H locs ls I hl
        refine lv_iconst (v := 3) hx hb d_G_readHead_91 (by decide) ?_
        refine lv_bipush (v := 6) hx hb d_G_readHead_92 (by decide) ?_
        obtain ⟨u18, h19, hk⟩ := cV_u hk
        refine go_V I (call_runV (rest := []) C I (c_W_need C.2.2.2.1 C.2.2.2.2.1 l h19 _) wd_W_need (q0 := 4) (ci := 4) rfl rfl k_289 ⟨rfl, rfl⟩ ⟨by decide, by decide⟩ rfl hl.1 rfl (Nat.le_of_ble_eq_true rfl) d_G_readHead_94) (fun H locs I => ?_)
        exact hQ _ _ _ _ _ I hk d_G_readHead_97
      refine lv_icmp_lt (tgt := 90) hx hb d_G_readHead_74 (by decide) (fun hc => ?_) (fun hc => ?_)
      · replace hj20 := it_u hc hj20
        refine lv_iconst (v := 0) hx hb d_G_readHead_90 (by decide) ?_
        obtain rfl := ep1 hj20
        exact Khj20 _ _ _ I (lv_sub hl [] rfl)
      · replace hj20 := ie_u hc hj20
        refine lv_aload_n hx hb d_G_readHead_77 rfl (lv_at hl 0 rfl) ?_
        refine g_G_version C I k_169 d_G_readHead_78 ?_
        refine lv_bipush (v := 61) hx hb d_G_readHead_81 (by decide) ?_
        refine lv_icmp_gt (tgt := 90) hx hb d_G_readHead_83 (by decide) (fun hc => ?_) (fun hc => ?_)
        · replace hj20 := it_u hc hj20
          refine lv_iconst (v := 0) hx hb d_G_readHead_90 (by decide) ?_
          obtain rfl := ep1 hj20
          exact Khj20 _ _ _ I (lv_sub hl [] rfl)
        · replace hj20 := ie_u hc hj20
          refine lv_iconst (v := 1) hx hb d_G_readHead_86 (by decide) ?_
          refine lv_goto (tgt := 91) hx hb d_G_readHead_87 (by decide) ?_
          obtain rfl := ep1 hj20
          exact Khj20 _ _ _ I (lv_sub hl [] rfl)
    refine lv_if_ne (tgt := 46) hx hb d_G_readHead_39 (by decide) (fun hc => ?_) (fun hc => ?_)
    · replace hj21 := ie_u hc hj21
      refine lv_iconst (v := 0) hx hb d_G_readHead_46 (by decide) ?_
      obtain rfl := ep1 hj21
      exact Khj21 _ _ _ I (lv_sub hl [0] rfl)
    · replace hj21 := it_u hc hj21
      refine lv_iconst (v := 1) hx hb d_G_readHead_42 (by decide) ?_
      refine lv_goto (tgt := 47) hx hb d_G_readHead_43 (by decide) ?_
      obtain rfl := ep1 hj21
      exact Khj21 _ _ _ I (lv_sub hl [0] rfl)
  refine lv_icmp_ne (tgt := 21) hx hb d_G_readHead_14 (by decide) (fun hc => ?_) (fun hc => ?_)
  · replace hj22 := ie_u hc hj22
    refine lv_iconst (v := 0) hx hb d_G_readHead_21 (by decide) ?_
    obtain rfl := ep1 hj22
    exact Khj22 _ _ _ I (lv_sub hl [0] rfl)
  · replace hj22 := it_u hc hj22
    refine lv_iconst (v := 1) hx hb d_G_readHead_17 (by decide) ?_
    refine lv_goto (tgt := 22) hx hb d_G_readHead_18 (by decide) ?_
    obtain rfl := ep1 hj22
    exact Khj22 _ _ _ I (lv_sub hl [0] rfl)
def rm_G_readInterface : Room := { frames := 4, cells := 0, slots := 0, locals := 91 }
noncomputable def f_G_readInterface_L16 (x1 : Int32) (x2 : Int32) (x3 : Int32) : Nat → St → Int32 → Option (St)
  | 0, _, _ => none
  | n + 1, u, x4 => if x1 ≤ x4 then (some (u)) else (if 60 ≤ x4 then (some (u)) else (gd x4 60 (cI (f_P_alike u (u.2 14 x4.toNatClampNeg) x3) fun r6 u4 => bnd (if r6 = 0 then (1) else (0)) fun (z7 : Int32) => cV (f_W_need u4 z7 16 x2) fun u8 => f_G_readInterface_L16 x1 x2 x3 n u8 (x4 + 1))))
noncomputable def f_G_readInterface (u : St) (x1 : Int32) : Option (St) := cI (f_G_takeClassText u) fun r3 u1 => cT (f_G_readInterface_L16 x1 (u.1 1) r3 FU u1 0) fun (u11 : St) => cT (if 60 ≤ x1 then (some (u11)) else (gd x1 60 (bnd (sa u11 14 x1.toNatClampNeg r3) fun u14 => some (u14)))) fun (u12 : St) => some u12
set_option maxHeartbeats 4000000 in
set_option maxRecDepth 100000 in
theorem w_G_readInterface_L16 {Z : zT} {D : va_G} {cs : Nat → ClassId} {a : Nat → Nat} {p : Program} {l : Launch} {e : Env} {s : State} {m : MethodId} {args : Array Value} {below : List Frame} {meth : Method} {c : Code} {Q : State → Prop}  {u2 : St} {x1 : Int32} {x2 : Int32} {x3 : Int32} (C : Cx clA R_G prog_3_method_8_code 5 D cs (xW a cs) Z p s m args c) (hE : ∀ (H : Heap) (locs : List Loc) (ls : Array Slot), Dy clA D (xW a cs) s H locs u2 → lv_has ls 5 [(0, .ref (a 1)), (1, .int x1), (3, .int x3)] → W p l e rm_G_readInterface s m args below meth c H locs 0 0 Q (F0 m 68 ls [])) : ∀ (n : Nat) (u : St) (x4 : Int32) (H : Heap) (locs : List Loc) (ls : Array Slot), f_G_readInterface_L16 x1 x2 x3 n u x4 = some u2 → Dy clA D (xW a cs) s H locs u → lv_has ls 5 [(0, .ref (a 1)), (1, .int x1), (2, .int x2), (3, .int x3), (4, .int x4)] → W p l e rm_G_readInterface s m args below meth c H locs 0 0 Q (F0 m 16 ls []) := by
  have hx := C.1.1
  have hb := C.1.2.1
  intro n
  induction n with
  | zero =>
    intro u x4 H locs ls hk I hl
    rw [f_G_readInterface_L16] at hk
    cases hk
  | succ n ih =>
    intro u x4 H locs ls hk I hl
    rw [f_G_readInterface_L16] at hk
    refine lv_iload hx hb d_G_readInterface_16 (lv_at hl 4 rfl) ?_
    refine lv_iload_n hx hb d_G_readInterface_18 rfl (lv_at hl 1 rfl) ?_
    refine lv_icmp_ge (tgt := 68) hx hb d_G_readInterface_19 (by decide) (fun hc => ?_) (fun hc => ?_)
    · replace hk := it_u hc hk
      obtain rfl := eo1 hk
      exact hE _ _ _ I (lv_sub hl [0, 1, 3] rfl)
    · replace hk := ie_u hc hk
      refine lv_iload hx hb d_G_readInterface_22 (lv_at hl 4 rfl) ?_
      refine lv_bipush (v := 60) hx hb d_G_readInterface_24 (by decide) ?_
      refine lv_icmp_ge (tgt := 68) hx hb d_G_readInterface_26 (by decide) (fun hc => ?_) (fun hc => ?_)
      · replace hk := it_u hc hk
        obtain rfl := eo1 hk
        exact hE _ _ _ I (lv_sub hl [0, 1, 3] rfl)
      · replace hk := ie_u hc hk
        refine lv_aload_n hx hb d_G_readInterface_29 rfl (lv_at hl 0 rfl) ?_
        refine g_G_walk C I k_165 d_G_readInterface_30 ?_
        refine lv_aload_n hx hb d_G_readInterface_33 rfl (lv_at hl 0 rfl) ?_
        refine g_G_pool C I k_159 d_G_readInterface_34 ?_
        refine lv_aload_n hx hb d_G_readInterface_37 rfl (lv_at hl 0 rfl) ?_
        refine g_G_names C I k_167 d_G_readInterface_38 ?_
        refine lv_iload hx hb d_G_readInterface_41 (lv_at hl 4 rfl) ?_
        obtain ⟨hi, hk⟩ := gd_u hk
        refine l_G_names C I hi d_G_readInterface_43 ?_
        refine lv_iload_n hx hb d_G_readInterface_44 rfl (lv_at hl 3 rfl) ?_
        obtain ⟨r6, u4, h5, hk⟩ := cI_u hk
        refine go_I I (call_runV (rest := [.ref (a 4)]) C I (c_P_alike C.2.2.2.1 C.2.2.2.2.1 l h5 _) wd_P_alike (q0 := 2) (ci := 2) rfl rfl k_490 ⟨rfl, rfl⟩ ⟨by decide, by decide⟩ rfl hl.1 rfl (Nat.le_of_ble_eq_true rfl) d_G_readInterface_45) (fun H locs I => ?_)
        obtain ⟨z7, hj10, hk⟩ := bnd_u hk
        have Khj10 : ∀ (H : Heap) (locs : List Loc) (ls : Array Slot), Dy clA D (xW a cs) s H locs u4 → lv_has ls 5 [(0, .ref (a 1)), (1, .int x1), (2, .int x2), (3, .int x3), (4, .int x4)] → W p l e rm_G_readInterface s m args below meth c H locs 0 0 Q (F0 m 56 ls [.int z7, .ref (a 4)]) := by
          intro H locs ls I hl
          refine lv_bipush (v := 16) hx hb d_G_readInterface_56 (by decide) ?_
          refine lv_iload_n hx hb d_G_readInterface_58 rfl (lv_at hl 2 rfl) ?_
          obtain ⟨u8, h9, hk⟩ := cV_u hk
          refine go_V I (call_runV (rest := []) C I (c_W_need C.2.2.2.1 C.2.2.2.2.1 l h9 _) wd_W_need (q0 := 4) (ci := 4) rfl rfl k_289 ⟨rfl, rfl⟩ ⟨by decide, by decide⟩ rfl hl.1 rfl (Nat.le_of_ble_eq_true rfl) d_G_readInterface_59) (fun H locs I => ?_)
          refine lv_iinc (v := (x4 + 1)) (lv' := [(4, .int (x4 + 1)), (0, .ref (a 1)), (1, .int x1), (2, .int x2), (3, .int x3)]) hx hb d_G_readInterface_62 hl (k := 4) rfl rfl (by decide) rfl (fun ls hl => ?_)
          refine lv_goto (tgt := 16) hx hb d_G_readInterface_65 (by decide) ?_
          exact ih u8 (x4 + 1) _ _ _ hk I (lv_sub hl [1, 2, 3, 4, 0] rfl)
        refine lv_if_ne (tgt := 55) hx hb d_G_readInterface_48 (by decide) (fun hc => ?_) (fun hc => ?_)
        · replace hj10 := ie_u hc hj10
          refine lv_iconst (v := 0) hx hb d_G_readInterface_55 (by decide) ?_
          obtain rfl := ep1 hj10
          exact Khj10 _ _ _ I (lv_sub hl [0, 1, 2, 3, 4] rfl)
        · replace hj10 := it_u hc hj10
          refine lv_iconst (v := 1) hx hb d_G_readInterface_51 (by decide) ?_
          refine lv_goto (tgt := 56) hx hb d_G_readInterface_52 (by decide) ?_
          obtain rfl := ep1 hj10
          exact Khj10 _ _ _ I (lv_sub hl [0, 1, 2, 3, 4] rfl)
set_option maxHeartbeats 4000000 in
set_option maxRecDepth 100000 in
theorem c_G_readInterface {Z : zT} {D : va_G} {cs : Nat → ClassId} {a : Nat → Nat} (hw : wD (xW a cs)) (hz : zOK Z) (l : Launch) {u : St} {x1 : Int32} {u' : St} (hk : f_G_readInterface u x1 = some u') : KV clA D cs (xW a cs) Z l y_G_readInterface (.code y_G_readInterface prog_3_method_8_code 5 (Option.none : Option Jvm.ClassFile.FieldType)) rm_G_readInterface [.ref (a 1), .int x1] u u' := by
  unfold f_G_readInterface at hk
  refine KV.of (by decide) (Nat.le_of_ble_eq_true rfl) hw hz ?_
  intro p e s m args below meth c Q C I hQ ls hl
  have hl : lv_has ls 5 [(0, .ref (a 1)), (1, .int x1)] := hl
  have hx := C.1.1
  have hb := C.1.2.1
  refine lv_aload_n hx hb d_G_readInterface_0 rfl (lv_at hl 0 rfl) ?_
  refine g_G_walk C I k_165 d_G_readInterface_1 ?_
  refine g_W_at C I k_39 d_G_readInterface_4 ?_
  refine lv_istore_n (lv' := [(2, .int (u.1 1)), (0, .ref (a 1)), (1, .int x1)]) hx hb d_G_readInterface_7 rfl hl (by decide) rfl (fun ls hl => ?_)
  refine lv_aload_n hx hb d_G_readInterface_8 rfl (lv_at hl 1 rfl) ?_
  obtain ⟨r3, u1, h2, hk⟩ := cI_u hk
  refine go_I I (call_runV (rest := []) C I (c_G_takeClassText C.2.2.2.1 C.2.2.2.2.1 l h2 _) wd_G_takeClassText (q0 := 1) (ci := 1) rfl rfl k_480 ⟨rfl, rfl⟩ ⟨by decide, by decide⟩ rfl hl.1 rfl (Nat.le_of_ble_eq_true rfl) d_G_readInterface_9) (fun H locs I => ?_)
  refine lv_istore_n (lv' := [(3, .int r3), (2, .int (u.1 1)), (0, .ref (a 1)), (1, .int x1)]) hx hb d_G_readInterface_12 rfl hl (by decide) rfl (fun ls hl => ?_)
  refine lv_iconst (v := 0) hx hb d_G_readInterface_13 (by decide) ?_
  refine lv_istore (lv' := [(4, .int 0), (3, .int r3), (2, .int (u.1 1)), (0, .ref (a 1)), (1, .int x1)]) hx hb d_G_readInterface_14 hl (by decide) rfl (fun ls hl => ?_)
  obtain ⟨u11, hj15, hk⟩ := cT_u hk
  refine w_G_readInterface_L16 C (fun H locs ls I hl => ?_) FU u1 0 _ _ _ hj15 I (lv_sub hl [3, 4, 2, 1, 0] rfl)
  refine lv_iload_n hx hb d_G_readInterface_68 rfl (lv_at hl 1 rfl) ?_
  refine lv_bipush (v := 60) hx hb d_G_readInterface_69 (by decide) ?_
  obtain ⟨u12, hj13, hk⟩ := cT_u hk
  have Khj13 : ∀ (H : Heap) (locs : List Loc) (ls : Array Slot), Dy clA D (xW a cs) s H locs u12 → lv_has ls 5 [] → W p l e rm_G_readInterface s m args below meth c H locs 0 0 Q (F0 m 81 ls []) := by
    intro H locs ls I hl
    exact hQ _ _ _ _ _ I hk d_G_readInterface_81
  refine lv_icmp_ge (tgt := 81) hx hb d_G_readInterface_71 (by decide) (fun hc => ?_) (fun hc => ?_)
  · replace hj13 := it_u hc hj13
    obtain rfl := eo1 hj13
    exact Khj13 _ _ _ I (lv_sub hl [] rfl)
  · replace hj13 := ie_u hc hj13
    refine lv_aload_n hx hb d_G_readInterface_74 rfl (lv_at hl 0 rfl) ?_
    refine g_G_names C I k_167 d_G_readInterface_75 ?_
    refine lv_iload_n hx hb d_G_readInterface_78 rfl (lv_at hl 1 rfl) ?_
    refine lv_iload_n hx hb d_G_readInterface_79 rfl (lv_at hl 2 rfl) ?_
    obtain ⟨hi, hj13⟩ := gd_u hj13
    refine s_G_names C I hi d_G_readInterface_80 (fun H locs I => ?_)
    obtain ⟨u14, hu, hj13⟩ := bnd_u hj13
    rw [hu] at I
    clear hu
    obtain rfl := eo1 hj13
    exact Khj13 _ _ _ I (lv_sub hl [] rfl)
def rm_G_methodFlagsHold : Room := { frames := 4, cells := 0, slots := 0, locals := 90 }
noncomputable def f_G_methodFlagsHold (u : St) (x1 : Int32) : Option (Int32 × St) := if (x1 &&& (-1056)) = 0 then (cI (f_bitCount u (x1 &&& 7)) fun r1 u2 => if r1 ≤ 1 then (if (x1 &&& 1024) = 0 then (bnd (if ((u2.1 16) &&& 512) = 0 then (1) else (if (x1 &&& 3) = 0 then (0) else (if (x1 &&& 16) = 0 then (1) else (0)))) fun (z4 : Int32) => gb z4 (some (z4, u2))) else (if (x1 &&& 26) = 0 then (if ((u2.1 16) &&& 1024) = 0 then (gb 0 (some (0, u2))) else (bnd (if ((u2.1 16) &&& 512) = 0 then (1) else (if (x1 &&& 3) = 0 then (0) else (if (x1 &&& 16) = 0 then (1) else (0)))) fun (z6 : Int32) => gb z6 (some (z6, u2)))) else (gb 0 (some (0, u2))))) else (gb 0 (some (0, u2)))) else (gb 0 (some (0, u)))
set_option maxHeartbeats 4000000 in
set_option maxRecDepth 100000 in
theorem c_G_methodFlagsHold {Z : zT} {D : va_G} {cs : Nat → ClassId} {a : Nat → Nat} (hw : wD (xW a cs)) (hz : zOK Z) (l : Launch) {u : St} {x1 : Int32} {r : Int32} {u' : St} (hk : f_G_methodFlagsHold u x1 = some (r, u')) : KI clA D cs (xW a cs) Z l y_G_methodFlagsHold (.code y_G_methodFlagsHold prog_3_method_12_code 2 (Option.some Jvm.ClassFile.FieldType.boolean)) rm_G_methodFlagsHold [.ref (a 1), .int x1] u r u' := by
  unfold f_G_methodFlagsHold at hk
  refine KZ.of (by decide) (Nat.le_of_ble_eq_true rfl) hw hz ?_
  intro p e s m args below meth c Q C I hQ ls hl
  have hl : lv_has ls 2 [(0, .ref (a 1)), (1, .int x1)] := hl
  have hx := C.1.1
  have hb := C.1.2.1
  refine lv_iload_n hx hb d_G_methodFlagsHold_0 rfl (lv_at hl 1 rfl) ?_
  refine lv_sipush (v := (-1056)) hx hb d_G_methodFlagsHold_1 (by decide) ?_
  refine lv_iand hx hb d_G_methodFlagsHold_4 ?_
  refine lv_if_ne (tgt := 19) hx hb d_G_methodFlagsHold_5 (by decide) (fun hc => ?_) (fun hc => ?_)
  · replace hk := ie_u hc hk
    refine lv_iconst (v := 0) hx hb d_G_methodFlagsHold_19 (by decide) ?_
    exact hQ _ _ _ _ _ _ I hk d_G_methodFlagsHold_20
  · replace hk := it_u hc hk
    refine lv_iload_n hx hb d_G_methodFlagsHold_8 rfl (lv_at hl 1 rfl) ?_
    refine lv_bipush (v := 7) hx hb d_G_methodFlagsHold_9 (by decide) ?_
    refine lv_iand hx hb d_G_methodFlagsHold_11 ?_
    obtain ⟨r1, u2, h3, hk⟩ := cI_u hk
    refine go_I I (call_runS (rest := []) C I (c_bitCount C.2.2.2.1 C.2.2.2.2.1 l h3 _) wd_bitCount k_513 ⟨rfl, rfl⟩ ⟨by decide, by decide⟩ rfl hl.1 rfl (Nat.le_of_ble_eq_true rfl) d_G_methodFlagsHold_12) (fun H locs I => ?_)
    refine lv_iconst (v := 1) hx hb d_G_methodFlagsHold_15 (by decide) ?_
    refine lv_icmp_le (tgt := 21) hx hb d_G_methodFlagsHold_16 (by decide) (fun hc => ?_) (fun hc => ?_)
    · replace hk := it_u hc hk
      refine lv_iload_n hx hb d_G_methodFlagsHold_21 rfl (lv_at hl 1 rfl) ?_
      refine lv_sipush (v := 1024) hx hb d_G_methodFlagsHold_22 (by decide) ?_
      refine lv_iand hx hb d_G_methodFlagsHold_25 ?_
      refine lv_if_eq (tgt := 49) hx hb d_G_methodFlagsHold_26 (by decide) (fun hc => ?_) (fun hc => ?_)
      · replace hk := it_u hc hk
        refine lv_aload_n hx hb d_G_methodFlagsHold_49 rfl (lv_at hl 0 rfl) ?_
        refine g_G_classFlags C I k_170 d_G_methodFlagsHold_50 ?_
        refine lv_sipush (v := 512) hx hb d_G_methodFlagsHold_53 (by decide) ?_
        refine lv_iand hx hb d_G_methodFlagsHold_56 ?_
        obtain ⟨z4, hj5, hk⟩ := bnd_u hk
        have Khj5 : ∀ (H : Heap) (locs : List Loc) (ls : Array Slot), Dy clA D (xW a cs) s H locs u2 → lv_has ls 2 [] → W p l e rm_G_methodFlagsHold s m args below meth c H locs 0 0 Q (F0 m 78 ls [.int z4]) := by
          intro H locs ls I hl
          exact hQ _ _ _ _ _ _ I hk d_G_methodFlagsHold_78
        refine lv_if_eq (tgt := 73) hx hb d_G_methodFlagsHold_57 (by decide) (fun hc => ?_) (fun hc => ?_)
        · replace hj5 := it_u hc hj5
          refine lv_iconst (v := 1) hx hb d_G_methodFlagsHold_73 (by decide) ?_
          refine lv_goto (tgt := 78) hx hb d_G_methodFlagsHold_74 (by decide) ?_
          obtain rfl := ep1 hj5
          exact Khj5 _ _ _ I (lv_sub hl [] rfl)
        · replace hj5 := ie_u hc hj5
          refine lv_iload_n hx hb d_G_methodFlagsHold_60 rfl (lv_at hl 1 rfl) ?_
          refine lv_iconst (v := 3) hx hb d_G_methodFlagsHold_61 (by decide) ?_
          refine lv_iand hx hb d_G_methodFlagsHold_62 ?_
          refine lv_if_eq (tgt := 77) hx hb d_G_methodFlagsHold_63 (by decide) (fun hc => ?_) (fun hc => ?_)
          · replace hj5 := it_u hc hj5
            refine lv_iconst (v := 0) hx hb d_G_methodFlagsHold_77 (by decide) ?_
            obtain rfl := ep1 hj5
            exact Khj5 _ _ _ I (lv_sub hl [] rfl)
          · replace hj5 := ie_u hc hj5
            refine lv_iload_n hx hb d_G_methodFlagsHold_66 rfl (lv_at hl 1 rfl) ?_
            refine lv_bipush (v := 16) hx hb d_G_methodFlagsHold_67 (by decide) ?_
            refine lv_iand hx hb d_G_methodFlagsHold_69 ?_
            refine lv_if_ne (tgt := 77) hx hb d_G_methodFlagsHold_70 (by decide) (fun hc => ?_) (fun hc => ?_)
            · replace hj5 := ie_u hc hj5
              refine lv_iconst (v := 0) hx hb d_G_methodFlagsHold_77 (by decide) ?_
              obtain rfl := ep1 hj5
              exact Khj5 _ _ _ I (lv_sub hl [] rfl)
            · replace hj5 := it_u hc hj5
              refine lv_iconst (v := 1) hx hb d_G_methodFlagsHold_73 (by decide) ?_
              refine lv_goto (tgt := 78) hx hb d_G_methodFlagsHold_74 (by decide) ?_
              obtain rfl := ep1 hj5
              exact Khj5 _ _ _ I (lv_sub hl [] rfl)
      · replace hk := ie_u hc hk
        refine lv_iload_n hx hb d_G_methodFlagsHold_29 rfl (lv_at hl 1 rfl) ?_
        refine lv_bipush (v := 26) hx hb d_G_methodFlagsHold_30 (by decide) ?_
        refine lv_iand hx hb d_G_methodFlagsHold_32 ?_
        refine lv_if_ne (tgt := 47) hx hb d_G_methodFlagsHold_33 (by decide) (fun hc => ?_) (fun hc => ?_)
        · replace hk := ie_u hc hk
          refine lv_iconst (v := 0) hx hb d_G_methodFlagsHold_47 (by decide) ?_
          exact hQ _ _ _ _ _ _ I hk d_G_methodFlagsHold_48
        · replace hk := it_u hc hk
          refine lv_aload_n hx hb d_G_methodFlagsHold_36 rfl (lv_at hl 0 rfl) ?_
          refine g_G_classFlags C I k_170 d_G_methodFlagsHold_37 ?_
          refine lv_sipush (v := 1024) hx hb d_G_methodFlagsHold_40 (by decide) ?_
          refine lv_iand hx hb d_G_methodFlagsHold_43 ?_
          refine lv_if_ne (tgt := 49) hx hb d_G_methodFlagsHold_44 (by decide) (fun hc => ?_) (fun hc => ?_)
          · replace hk := ie_u hc hk
            refine lv_aload_n hx hb d_G_methodFlagsHold_49 rfl (lv_at hl 0 rfl) ?_
            refine g_G_classFlags C I k_170 d_G_methodFlagsHold_50 ?_
            refine lv_sipush (v := 512) hx hb d_G_methodFlagsHold_53 (by decide) ?_
            refine lv_iand hx hb d_G_methodFlagsHold_56 ?_
            obtain ⟨z6, hj7, hk⟩ := bnd_u hk
            have Khj7 : ∀ (H : Heap) (locs : List Loc) (ls : Array Slot), Dy clA D (xW a cs) s H locs u2 → lv_has ls 2 [] → W p l e rm_G_methodFlagsHold s m args below meth c H locs 0 0 Q (F0 m 78 ls [.int z6]) := by
              intro H locs ls I hl
              exact hQ _ _ _ _ _ _ I hk d_G_methodFlagsHold_78
            refine lv_if_eq (tgt := 73) hx hb d_G_methodFlagsHold_57 (by decide) (fun hc => ?_) (fun hc => ?_)
            · replace hj7 := it_u hc hj7
              refine lv_iconst (v := 1) hx hb d_G_methodFlagsHold_73 (by decide) ?_
              refine lv_goto (tgt := 78) hx hb d_G_methodFlagsHold_74 (by decide) ?_
              obtain rfl := ep1 hj7
              exact Khj7 _ _ _ I (lv_sub hl [] rfl)
            · replace hj7 := ie_u hc hj7
              refine lv_iload_n hx hb d_G_methodFlagsHold_60 rfl (lv_at hl 1 rfl) ?_
              refine lv_iconst (v := 3) hx hb d_G_methodFlagsHold_61 (by decide) ?_
              refine lv_iand hx hb d_G_methodFlagsHold_62 ?_
              refine lv_if_eq (tgt := 77) hx hb d_G_methodFlagsHold_63 (by decide) (fun hc => ?_) (fun hc => ?_)
              · replace hj7 := it_u hc hj7
                refine lv_iconst (v := 0) hx hb d_G_methodFlagsHold_77 (by decide) ?_
                obtain rfl := ep1 hj7
                exact Khj7 _ _ _ I (lv_sub hl [] rfl)
              · replace hj7 := ie_u hc hj7
                refine lv_iload_n hx hb d_G_methodFlagsHold_66 rfl (lv_at hl 1 rfl) ?_
                refine lv_bipush (v := 16) hx hb d_G_methodFlagsHold_67 (by decide) ?_
                refine lv_iand hx hb d_G_methodFlagsHold_69 ?_
                refine lv_if_ne (tgt := 77) hx hb d_G_methodFlagsHold_70 (by decide) (fun hc => ?_) (fun hc => ?_)
                · replace hj7 := ie_u hc hj7
                  refine lv_iconst (v := 0) hx hb d_G_methodFlagsHold_77 (by decide) ?_
                  obtain rfl := ep1 hj7
                  exact Khj7 _ _ _ I (lv_sub hl [] rfl)
                · replace hj7 := it_u hc hj7
                  refine lv_iconst (v := 1) hx hb d_G_methodFlagsHold_73 (by decide) ?_
                  refine lv_goto (tgt := 78) hx hb d_G_methodFlagsHold_74 (by decide) ?_
                  obtain rfl := ep1 hj7
                  exact Khj7 _ _ _ I (lv_sub hl [] rfl)
          · replace hk := it_u hc hk
            refine lv_iconst (v := 0) hx hb d_G_methodFlagsHold_47 (by decide) ?_
            exact hQ _ _ _ _ _ _ I hk d_G_methodFlagsHold_48
    · replace hk := ie_u hc hk
      refine lv_iconst (v := 0) hx hb d_G_methodFlagsHold_19 (by decide) ?_
      exact hQ _ _ _ _ _ _ I hk d_G_methodFlagsHold_20
def rm_G_specialNameHolds : Room := { frames := 5, cells := 0, slots := 0, locals := 113 }
noncomputable def f_G_specialNameHolds (u : St) (x1 : Int32) : Option (Int32 × St) := if (x1 &&& 4) = 0 then (if (x1 &&& 8) = 0 then (gb 1 (some (1, u))) else (cT (if (u.1 18) = 8 then (cI (f_P_spells u (u.1 19) 9) fun r6 u4 => if r6 = 0 then (some (0, u4)) else (some (1, u4))) else (some (0, u))) fun (p7 : Int32 × St) => gb p7.1 (some (p7.1, p7.2)))) else (cT (if ((u.1 16) &&& 512) = 0 then (cI (f_P_factsOf u (u.1 19)) fun r13 u11 => if (r13 &&& 128) = 0 then (some (0, u11)) else (if ((u11.1 18) &&& 1048) = 0 then (some (1, u11)) else (some (0, u11)))) else (some (0, u))) fun (p14 : Int32 × St) => gb p14.1 (some (p14.1, p14.2)))
set_option maxHeartbeats 4000000 in
set_option maxRecDepth 100000 in
theorem c_G_specialNameHolds {sk sv9 st : Nat → Nat} {D : va_G} {cs : Nat → ClassId} {a : Nat → Nat} (hw : wD (xW a cs)) (hz : zOK (xZ sk sv9 st)) (l : Launch) {u : St} {x1 : Int32} {r : Int32} {u' : St} (hk : f_G_specialNameHolds u x1 = some (r, u')) : KI clA D cs (xW a cs) (xZ sk sv9 st) l y_G_specialNameHolds (.code y_G_specialNameHolds prog_3_method_13_code 2 (Option.some Jvm.ClassFile.FieldType.boolean)) rm_G_specialNameHolds [.ref (a 1), .int x1] u r u' := by
  unfold f_G_specialNameHolds at hk
  refine KZ.of (by decide) (Nat.le_of_ble_eq_true rfl) hw hz ?_
  intro p e s m args below meth c Q C I hQ ls hl
  have hl : lv_has ls 2 [(0, .ref (a 1)), (1, .int x1)] := hl
  have hx := C.1.1
  have hb := C.1.2.1
  refine lv_iload_n hx hb d_G_specialNameHolds_0 rfl (lv_at hl 1 rfl) ?_
  refine lv_iconst (v := 4) hx hb d_G_specialNameHolds_1 (by decide) ?_
  refine lv_iand hx hb d_G_specialNameHolds_2 ?_
  refine lv_if_eq (tgt := 52) hx hb d_G_specialNameHolds_3 (by decide) (fun hc => ?_) (fun hc => ?_)
  · replace hk := it_u hc hk
    refine lv_iload_n hx hb d_G_specialNameHolds_52 rfl (lv_at hl 1 rfl) ?_
    refine lv_bipush (v := 8) hx hb d_G_specialNameHolds_53 (by decide) ?_
    refine lv_iand hx hb d_G_specialNameHolds_55 ?_
    refine lv_if_eq (tgt := 90) hx hb d_G_specialNameHolds_56 (by decide) (fun hc => ?_) (fun hc => ?_)
    · replace hk := it_u hc hk
      refine lv_iconst (v := 1) hx hb d_G_specialNameHolds_90 (by decide) ?_
      exact hQ _ _ _ _ _ _ I hk d_G_specialNameHolds_91
    · replace hk := ie_u hc hk
      refine lv_aload_n hx hb d_G_specialNameHolds_59 rfl (lv_at hl 0 rfl) ?_
      refine g_G_memberFlags C I k_172 d_G_specialNameHolds_60 ?_
      refine lv_bipush (v := 8) hx hb d_G_specialNameHolds_63 (by decide) ?_
      obtain ⟨⟨z1, u2⟩, hj3, hk⟩ := cT_u hk
      have Khj3 : ∀ (H : Heap) (locs : List Loc) (ls : Array Slot), Dy clA D (xW a cs) s H locs u2 → lv_has ls 2 [] → W p l e rm_G_specialNameHolds s m args below meth c H locs 0 0 Q (F0 m 89 ls [.int z1]) := by
        intro H locs ls I hl
        exact hQ _ _ _ _ _ _ I hk d_G_specialNameHolds_89
      refine lv_icmp_ne (tgt := 88) hx hb d_G_specialNameHolds_65 (by decide) (fun hc => ?_) (fun hc => ?_)
      · replace hj3 := ie_u hc hj3
        refine lv_iconst (v := 0) hx hb d_G_specialNameHolds_88 (by decide) ?_
        obtain ⟨rfl, rfl⟩ := eo2 hj3
        exact Khj3 _ _ _ I (lv_sub hl [] rfl)
      · replace hj3 := it_u hc hj3
        refine lv_aload_n hx hb d_G_specialNameHolds_68 rfl (lv_at hl 0 rfl) ?_
        refine g_G_pool C I k_159 d_G_specialNameHolds_69 ?_
        refine lv_aload_n hx hb d_G_specialNameHolds_72 rfl (lv_at hl 0 rfl) ?_
        refine g_G_memberType C I k_173 d_G_specialNameHolds_73 ?_
        refine ld_str 9 C (tx := "()V") rfl d_G_specialNameHolds_76 ?_
        obtain ⟨r6, u4, h5, hj3⟩ := cI_u hj3
        refine go_I I (call_runV (rest := []) C I (c_P_spells C.2.2.2.1 C.2.2.2.2.1 l h5 _) wd_P_spells (q0 := 2) (ci := 2) rfl rfl k_495 ⟨rfl, rfl⟩ ⟨by decide, by decide⟩ rfl hl.1 rfl (Nat.le_of_ble_eq_true rfl) d_G_specialNameHolds_78) (fun H locs I => ?_)
        refine lv_if_eq (tgt := 88) hx hb d_G_specialNameHolds_81 (by decide) (fun hc => ?_) (fun hc => ?_)
        · replace hj3 := it_u hc hj3
          refine lv_iconst (v := 0) hx hb d_G_specialNameHolds_88 (by decide) ?_
          obtain ⟨rfl, rfl⟩ := eo2 hj3
          exact Khj3 _ _ _ I (lv_sub hl [] rfl)
        · replace hj3 := ie_u hc hj3
          refine lv_iconst (v := 1) hx hb d_G_specialNameHolds_84 (by decide) ?_
          refine lv_goto (tgt := 89) hx hb d_G_specialNameHolds_85 (by decide) ?_
          obtain ⟨rfl, rfl⟩ := eo2 hj3
          exact Khj3 _ _ _ I (lv_sub hl [] rfl)
  · replace hk := ie_u hc hk
    refine lv_aload_n hx hb d_G_specialNameHolds_6 rfl (lv_at hl 0 rfl) ?_
    refine g_G_classFlags C I k_170 d_G_specialNameHolds_7 ?_
    refine lv_sipush (v := 512) hx hb d_G_specialNameHolds_10 (by decide) ?_
    refine lv_iand hx hb d_G_specialNameHolds_13 ?_
    obtain ⟨⟨z8, u9⟩, hj10, hk⟩ := cT_u hk
    have Khj10 : ∀ (H : Heap) (locs : List Loc) (ls : Array Slot), Dy clA D (xW a cs) s H locs u9 → lv_has ls 2 [] → W p l e rm_G_specialNameHolds s m args below meth c H locs 0 0 Q (F0 m 51 ls [.int z8]) := by
      intro H locs ls I hl
      exact hQ _ _ _ _ _ _ I hk d_G_specialNameHolds_51
    refine lv_if_ne (tgt := 50) hx hb d_G_specialNameHolds_14 (by decide) (fun hc => ?_) (fun hc => ?_)
    · replace hj10 := ie_u hc hj10
      refine lv_iconst (v := 0) hx hb d_G_specialNameHolds_50 (by decide) ?_
      obtain ⟨rfl, rfl⟩ := eo2 hj10
      exact Khj10 _ _ _ I (lv_sub hl [] rfl)
    · replace hj10 := it_u hc hj10
      refine lv_aload_n hx hb d_G_specialNameHolds_17 rfl (lv_at hl 0 rfl) ?_
      refine g_G_pool C I k_159 d_G_specialNameHolds_18 ?_
      refine lv_aload_n hx hb d_G_specialNameHolds_21 rfl (lv_at hl 0 rfl) ?_
      refine g_G_memberType C I k_173 d_G_specialNameHolds_22 ?_
      obtain ⟨r13, u11, h12, hj10⟩ := cI_u hj10
      refine go_I I (call_runV (rest := []) C I (c_P_factsOf C.2.2.2.1 C.2.2.2.2.1 l h12 _) wd_P_factsOf (q0 := 2) (ci := 2) rfl rfl k_519 ⟨rfl, rfl⟩ ⟨by decide, by decide⟩ rfl hl.1 rfl (Nat.le_of_ble_eq_true rfl) d_G_specialNameHolds_25) (fun H locs I => ?_)
      refine lv_sipush (v := 128) hx hb d_G_specialNameHolds_28 (by decide) ?_
      refine lv_iand hx hb d_G_specialNameHolds_31 ?_
      refine lv_if_eq (tgt := 50) hx hb d_G_specialNameHolds_32 (by decide) (fun hc => ?_) (fun hc => ?_)
      · replace hj10 := it_u hc hj10
        refine lv_iconst (v := 0) hx hb d_G_specialNameHolds_50 (by decide) ?_
        obtain ⟨rfl, rfl⟩ := eo2 hj10
        exact Khj10 _ _ _ I (lv_sub hl [] rfl)
      · replace hj10 := ie_u hc hj10
        refine lv_aload_n hx hb d_G_specialNameHolds_35 rfl (lv_at hl 0 rfl) ?_
        refine g_G_memberFlags C I k_172 d_G_specialNameHolds_36 ?_
        refine lv_sipush (v := 1048) hx hb d_G_specialNameHolds_39 (by decide) ?_
        refine lv_iand hx hb d_G_specialNameHolds_42 ?_
        refine lv_if_ne (tgt := 50) hx hb d_G_specialNameHolds_43 (by decide) (fun hc => ?_) (fun hc => ?_)
        · replace hj10 := ie_u hc hj10
          refine lv_iconst (v := 0) hx hb d_G_specialNameHolds_50 (by decide) ?_
          obtain ⟨rfl, rfl⟩ := eo2 hj10
          exact Khj10 _ _ _ I (lv_sub hl [] rfl)
        · replace hj10 := it_u hc hj10
          refine lv_iconst (v := 1) hx hb d_G_specialNameHolds_46 (by decide) ?_
          refine lv_goto (tgt := 51) hx hb d_G_specialNameHolds_47 (by decide) ?_
          obtain ⟨rfl, rfl⟩ := eo2 hj10
          exact Khj10 _ _ _ I (lv_sub hl [] rfl)
def rm_G_readMethod : Room := { frames := 6, cells := 0, slots := 0, locals := 134 }
noncomputable def f_G_readMethod (u : St) (x1 : Int32) : Option (St) := bnd (sv u 17 (u.1 1)) fun u1 => cI (f_W_next u1 2) fun r4 u2 => bnd (sv u2 18 r4) fun u5 => cI (f_G_methodFlagsHold u5 (u5.1 18)) fun r8 u6 => cV (f_W_need u6 r8 13 (u6.1 17)) fun u9 => cI (f_P_take u9 1) fun r13 u11 => cI (f_P_factsOf u11 r13) fun r16 u14 => bnd (if (r16 &&& 13) = 0 then (0) else (1)) fun (z17 : Int32) => cV (f_W_need u14 z17 9 (u9.1 1)) fun u18 => cI (f_P_take u18 1) fun r22 u20 => bnd (sv u20 19 r22) fun u23 => cV (f_P_needType u23 (u23.1 19) 32 (u18.1 1)) fun u24 => cI (f_P_factsOf u24 r13) fun r28 u26 => cI (f_G_specialNameHolds u26 r28) fun r31 u29 => cV (f_W_need u29 r31 17 (u9.1 1)) fun u32 => cV (f_G_addMember u32 x1 r13) fun u34 => some u34
set_option maxHeartbeats 4000000 in
set_option maxRecDepth 100000 in
theorem c_G_readMethod {sk sv9 st : Nat → Nat} {D : va_G} {cs : Nat → ClassId} {a : Nat → Nat} (hw : wD (xW a cs)) (hz : zOK (xZ sk sv9 st)) (l : Launch) {u : St} {x1 : Int32} {u' : St} (hk : f_G_readMethod u x1 = some u') : KV clA D cs (xW a cs) (xZ sk sv9 st) l y_G_readMethod (.code y_G_readMethod prog_3_method_11_code 5 (Option.none : Option Jvm.ClassFile.FieldType)) rm_G_readMethod [.ref (a 1), .int x1] u u' := by
  unfold f_G_readMethod at hk
  refine KV.of (by decide) (Nat.le_of_ble_eq_true rfl) hw hz ?_
  intro p e s m args below meth c Q C I hQ ls hl
  have hl : lv_has ls 5 [(0, .ref (a 1)), (1, .int x1)] := hl
  have hx := C.1.1
  have hb := C.1.2.1
  refine lv_aload_n hx hb d_G_readMethod_0 rfl (lv_at hl 0 rfl) ?_
  refine lv_aload_n hx hb d_G_readMethod_1 rfl (lv_at hl 0 rfl) ?_
  refine g_G_walk C I k_165 d_G_readMethod_2 ?_
  refine g_W_at C I k_39 d_G_readMethod_5 ?_
  refine p_G_memberPlace C I k_171 d_G_readMethod_8 (fun H locs I => ?_)
  obtain ⟨u1, hu, hk⟩ := bnd_u hk
  rw [hu] at I
  clear hu
  refine lv_aload_n hx hb d_G_readMethod_11 rfl (lv_at hl 0 rfl) ?_
  refine lv_aload_n hx hb d_G_readMethod_12 rfl (lv_at hl 0 rfl) ?_
  refine g_G_walk C I k_165 d_G_readMethod_13 ?_
  refine lv_iconst (v := 2) hx hb d_G_readMethod_16 (by decide) ?_
  obtain ⟨r4, u2, h3, hk⟩ := cI_u hk
  refine go_I I (call_runV (rest := [.ref (a 1)]) C I (c_W_next C.2.2.2.1 C.2.2.2.2.1 l h3 _) wd_W_next (q0 := 4) (ci := 4) rfl rfl k_283 ⟨rfl, rfl⟩ ⟨by decide, by decide⟩ rfl hl.1 rfl (Nat.le_of_ble_eq_true rfl) d_G_readMethod_17) (fun H locs I => ?_)
  refine p_G_memberFlags C I k_172 d_G_readMethod_20 (fun H locs I => ?_)
  obtain ⟨u5, hu, hk⟩ := bnd_u hk
  rw [hu] at I
  clear hu
  refine lv_aload_n hx hb d_G_readMethod_23 rfl (lv_at hl 0 rfl) ?_
  refine g_G_walk C I k_165 d_G_readMethod_24 ?_
  refine lv_aload_n hx hb d_G_readMethod_27 rfl (lv_at hl 0 rfl) ?_
  refine lv_aload_n hx hb d_G_readMethod_28 rfl (lv_at hl 0 rfl) ?_
  refine g_G_memberFlags C I k_172 d_G_readMethod_29 ?_
  obtain ⟨r8, u6, h7, hk⟩ := cI_u hk
  refine go_I I (call_runV (rest := [.ref (a 4)]) C I (c_G_methodFlagsHold C.2.2.2.1 C.2.2.2.2.1 l h7 _) wd_G_methodFlagsHold (q0 := 1) (ci := 1) rfl rfl k_643 ⟨rfl, rfl⟩ ⟨by decide, by decide⟩ rfl hl.1 rfl (Nat.le_of_ble_eq_true rfl) d_G_readMethod_32) (fun H locs I => ?_)
  refine lv_bipush (v := 13) hx hb d_G_readMethod_35 (by decide) ?_
  refine lv_aload_n hx hb d_G_readMethod_37 rfl (lv_at hl 0 rfl) ?_
  refine g_G_memberPlace C I k_171 d_G_readMethod_38 ?_
  obtain ⟨u9, h10, hk⟩ := cV_u hk
  refine go_V I (call_runV (rest := []) C I (c_W_need C.2.2.2.1 C.2.2.2.2.1 l h10 _) wd_W_need (q0 := 4) (ci := 4) rfl rfl k_289 ⟨rfl, rfl⟩ ⟨by decide, by decide⟩ rfl hl.1 rfl (Nat.le_of_ble_eq_true rfl) d_G_readMethod_41) (fun H locs I => ?_)
  refine lv_aload_n hx hb d_G_readMethod_44 rfl (lv_at hl 0 rfl) ?_
  refine g_G_walk C I k_165 d_G_readMethod_45 ?_
  refine g_W_at C I k_39 d_G_readMethod_48 ?_
  refine lv_istore_n (lv' := [(2, .int (u9.1 1)), (0, .ref (a 1)), (1, .int x1)]) hx hb d_G_readMethod_51 rfl hl (by decide) rfl (fun ls hl => ?_)
  refine lv_aload_n hx hb d_G_readMethod_52 rfl (lv_at hl 1 rfl) ?_
  refine g_G_pool C I k_159 d_G_readMethod_53 ?_
  refine lv_iconst (v := 1) hx hb d_G_readMethod_56 (by decide) ?_
  obtain ⟨r13, u11, h12, hk⟩ := cI_u hk
  refine go_I I (call_runV (rest := []) C I (c_P_take C.2.2.2.1 C.2.2.2.2.1 l h12 _) wd_P_take (q0 := 2) (ci := 2) rfl rfl k_484 ⟨rfl, rfl⟩ ⟨by decide, by decide⟩ rfl hl.1 rfl (Nat.le_of_ble_eq_true rfl) d_G_readMethod_57) (fun H locs I => ?_)
  refine lv_istore_n (lv' := [(3, .int r13), (2, .int (u9.1 1)), (0, .ref (a 1)), (1, .int x1)]) hx hb d_G_readMethod_60 rfl hl (by decide) rfl (fun ls hl => ?_)
  refine lv_aload_n hx hb d_G_readMethod_61 rfl (lv_at hl 2 rfl) ?_
  refine g_G_walk C I k_165 d_G_readMethod_62 ?_
  refine lv_aload_n hx hb d_G_readMethod_65 rfl (lv_at hl 2 rfl) ?_
  refine g_G_pool C I k_159 d_G_readMethod_66 ?_
  refine lv_iload_n hx hb d_G_readMethod_69 rfl (lv_at hl 0 rfl) ?_
  obtain ⟨r16, u14, h15, hk⟩ := cI_u hk
  refine go_I I (call_runV (rest := [.ref (a 4)]) C I (c_P_factsOf C.2.2.2.1 C.2.2.2.2.1 l h15 _) wd_P_factsOf (q0 := 2) (ci := 2) rfl rfl k_519 ⟨rfl, rfl⟩ ⟨by decide, by decide⟩ rfl hl.1 rfl (Nat.le_of_ble_eq_true rfl) d_G_readMethod_70) (fun H locs I => ?_)
  refine lv_bipush (v := 13) hx hb d_G_readMethod_73 (by decide) ?_
  refine lv_iand hx hb d_G_readMethod_75 ?_
  obtain ⟨z17, hj36, hk⟩ := bnd_u hk
  have Khj36 : ∀ (H : Heap) (locs : List Loc) (ls : Array Slot), Dy clA D (xW a cs) s H locs u14 → lv_has ls 5 [(0, .ref (a 1)), (1, .int x1), (2, .int (u9.1 1)), (3, .int r13)] → W p l e rm_G_readMethod s m args below meth c H locs 0 0 Q (F0 m 84 ls [.int z17, .ref (a 4)]) := by
    intro H locs ls I hl
    refine lv_bipush (v := 9) hx hb d_G_readMethod_84 (by decide) ?_
    refine lv_iload_n hx hb d_G_readMethod_86 rfl (lv_at hl 2 rfl) ?_
    obtain ⟨u18, h19, hk⟩ := cV_u hk
    refine go_V I (call_runV (rest := []) C I (c_W_need C.2.2.2.1 C.2.2.2.2.1 l h19 _) wd_W_need (q0 := 4) (ci := 4) rfl rfl k_289 ⟨rfl, rfl⟩ ⟨by decide, by decide⟩ rfl hl.1 rfl (Nat.le_of_ble_eq_true rfl) d_G_readMethod_87) (fun H locs I => ?_)
    refine lv_aload_n hx hb d_G_readMethod_90 rfl (lv_at hl 0 rfl) ?_
    refine g_G_walk C I k_165 d_G_readMethod_91 ?_
    refine g_W_at C I k_39 d_G_readMethod_94 ?_
    refine lv_istore (lv' := [(4, .int (u18.1 1)), (0, .ref (a 1)), (1, .int x1), (2, .int (u9.1 1)), (3, .int r13)]) hx hb d_G_readMethod_97 hl (by decide) rfl (fun ls hl => ?_)
    refine lv_aload_n hx hb d_G_readMethod_99 rfl (lv_at hl 1 rfl) ?_
    refine lv_aload_n hx hb d_G_readMethod_100 rfl (lv_at hl 1 rfl) ?_
    refine g_G_pool C I k_159 d_G_readMethod_101 ?_
    refine lv_iconst (v := 1) hx hb d_G_readMethod_104 (by decide) ?_
    obtain ⟨r22, u20, h21, hk⟩ := cI_u hk
    refine go_I I (call_runV (rest := [.ref (a 1)]) C I (c_P_take C.2.2.2.1 C.2.2.2.2.1 l h21 _) wd_P_take (q0 := 2) (ci := 2) rfl rfl k_484 ⟨rfl, rfl⟩ ⟨by decide, by decide⟩ rfl hl.1 rfl (Nat.le_of_ble_eq_true rfl) d_G_readMethod_105) (fun H locs I => ?_)
    refine p_G_memberType C I k_173 d_G_readMethod_108 (fun H locs I => ?_)
    obtain ⟨u23, hu, hk⟩ := bnd_u hk
    rw [hu] at I
    clear hu
    refine lv_aload_n hx hb d_G_readMethod_111 rfl (lv_at hl 1 rfl) ?_
    refine g_G_pool C I k_159 d_G_readMethod_112 ?_
    refine lv_aload_n hx hb d_G_readMethod_115 rfl (lv_at hl 1 rfl) ?_
    refine g_G_memberType C I k_173 d_G_readMethod_116 ?_
    refine lv_bipush (v := 32) hx hb d_G_readMethod_119 (by decide) ?_
    refine lv_iload hx hb d_G_readMethod_121 (lv_at hl 0 rfl) ?_
    obtain ⟨u24, h25, hk⟩ := cV_u hk
    refine go_V I (call_runV (rest := []) C I (c_P_needType C.2.2.2.1 C.2.2.2.2.1 l h25 _) wd_P_needType (q0 := 2) (ci := 2) rfl rfl k_520 ⟨rfl, rfl⟩ ⟨by decide, by decide⟩ rfl hl.1 rfl (Nat.le_of_ble_eq_true rfl) d_G_readMethod_123) (fun H locs I => ?_)
    refine lv_aload_n hx hb d_G_readMethod_126 rfl (lv_at hl 1 rfl) ?_
    refine g_G_walk C I k_165 d_G_readMethod_127 ?_
    refine lv_aload_n hx hb d_G_readMethod_130 rfl (lv_at hl 1 rfl) ?_
    refine lv_aload_n hx hb d_G_readMethod_131 rfl (lv_at hl 1 rfl) ?_
    refine g_G_pool C I k_159 d_G_readMethod_132 ?_
    refine lv_iload_n hx hb d_G_readMethod_135 rfl (lv_at hl 4 rfl) ?_
    obtain ⟨r28, u26, h27, hk⟩ := cI_u hk
    refine go_I I (call_runV (rest := [.ref (a 1), .ref (a 4)]) C I (c_P_factsOf C.2.2.2.1 C.2.2.2.2.1 l h27 _) wd_P_factsOf (q0 := 2) (ci := 2) rfl rfl k_519 ⟨rfl, rfl⟩ ⟨by decide, by decide⟩ rfl hl.1 rfl (Nat.le_of_ble_eq_true rfl) d_G_readMethod_136) (fun H locs I => ?_)
    obtain ⟨r31, u29, h30, hk⟩ := cI_u hk
    refine go_I I (call_runV (rest := [.ref (a 4)]) C I (c_G_specialNameHolds C.2.2.2.1 C.2.2.2.2.1 l h30 _) wd_G_specialNameHolds (q0 := 1) (ci := 1) rfl rfl k_647 ⟨rfl, rfl⟩ ⟨by decide, by decide⟩ rfl hl.1 rfl (Nat.le_of_ble_eq_true rfl) d_G_readMethod_139) (fun H locs I => ?_)
    refine lv_bipush (v := 17) hx hb d_G_readMethod_142 (by decide) ?_
    refine lv_iload_n hx hb d_G_readMethod_144 rfl (lv_at hl 3 rfl) ?_
    obtain ⟨u32, h33, hk⟩ := cV_u hk
    refine go_V I (call_runV (rest := []) C I (c_W_need C.2.2.2.1 C.2.2.2.2.1 l h33 _) wd_W_need (q0 := 4) (ci := 4) rfl rfl k_289 ⟨rfl, rfl⟩ ⟨by decide, by decide⟩ rfl hl.1 rfl (Nat.le_of_ble_eq_true rfl) d_G_readMethod_145) (fun H locs I => ?_)
    refine lv_aload_n hx hb d_G_readMethod_148 rfl (lv_at hl 1 rfl) ?_
    refine lv_iload_n hx hb d_G_readMethod_149 rfl (lv_at hl 2 rfl) ?_
    refine lv_iload_n hx hb d_G_readMethod_150 rfl (lv_at hl 4 rfl) ?_
    obtain ⟨u34, h35, hk⟩ := cV_u hk
    refine go_V I (call_runV (rest := []) C I (c_G_addMember C.2.2.2.1 C.2.2.2.2.1 l h35 _) wd_G_addMember (q0 := 1) (ci := 1) rfl rfl k_521 ⟨rfl, rfl⟩ ⟨by decide, by decide⟩ rfl hl.1 rfl (Nat.le_of_ble_eq_true rfl) d_G_readMethod_151) (fun H locs I => ?_)
    exact hQ _ _ _ _ _ I hk d_G_readMethod_154
  refine lv_if_eq (tgt := 83) hx hb d_G_readMethod_76 (by decide) (fun hc => ?_) (fun hc => ?_)
  · replace hj36 := it_u hc hj36
    refine lv_iconst (v := 0) hx hb d_G_readMethod_83 (by decide) ?_
    obtain rfl := ep1 hj36
    exact Khj36 _ _ _ I (lv_sub hl [2, 3, 1, 0] rfl)
  · replace hj36 := ie_u hc hj36
    refine lv_iconst (v := 1) hx hb d_G_readMethod_79 (by decide) ?_
    refine lv_goto (tgt := 84) hx hb d_G_readMethod_80 (by decide) ?_
    obtain rfl := ep1 hj36
    exact Khj36 _ _ _ I (lv_sub hl [2, 3, 1, 0] rfl)
def rm_G_passes : Room := { frames := 8, cells := 0, slots := 0, locals := 185 }
noncomputable def f_G_passes_L45 (x1 : Int32) : Nat → St → Int32 → Option (St)
  | 0, _, _ => none
  | n + 1, u, x2 => if x1 ≤ x2 then (some (u)) else (cI (f_W_sound u) fun r18 u16 => if r18 = 0 then (some (u16)) else (cV (f_G_readInterface u16 x2) fun u19 => f_G_passes_L45 x1 n u19 (x2 + 1)))
noncomputable def f_G_passes_L80 (x1 : Int32) (x2 : Int32) : Nat → St → Int32 → Option (St)
  | 0, _, _ => none
  | n + 1, u, x3 => if x2 ≤ x3 then (some (u)) else (cI (f_W_sound u) fun r27 u25 => if r27 = 0 then (some (u25)) else (cV (f_G_readField u25 x3) fun u28 => bnd (if ((u28.1 18) &&& 8) = 0 then (0) else (1)) fun (z30 : Int32) => cI (f_G_readAttributes u28 z30) fun r33 u31 => f_G_passes_L80 x1 x2 n u31 (x3 + 1)))
noncomputable def f_G_passes_L140 (x1 : Int32) (x2 : Int32) (x3 : Int32) : Nat → St → Int32 → Option (St)
  | 0, _, _ => none
  | n + 1, u, x4 => if x3 ≤ x4 then (some (u)) else (cI (f_W_sound u) fun r43 u41 => if r43 = 0 then (some (u41)) else (cV (f_G_readMethod u41 x4) fun u44 => bnd (if ((u44.1 18) &&& 1024) = 0 then (2) else (0)) fun (z46 : Int32) => bnd (sv u44 20 0) fun u47 => cI (f_G_readAttributes u47 (z46 ||| 4)) fun r50 u48 => bnd (if (r50 &&& z46) = z46 then (1) else (0)) fun (z51 : Int32) => cV (f_W_need u48 z51 20 (u48.1 17)) fun u52 => bnd (if (r50 &&& 2) = 0 then (0) else (1)) fun (z54 : Int32) => cV (f_G_noteMethod u52 x4 z54) fun u55 => f_G_passes_L140 x1 x2 x3 n u55 (x4 + 1)))
noncomputable def f_G_passes (u : St) : Option (Int32 × St) := cV (f_W_begin u) fun u1 => cV (f_G_readHead u1) fun u3 => cV (f_P_readEntries u3) fun u5 => cV (f_P_noteTexts u5) fun u7 => cV (f_P_readLinks u7) fun u9 => cV (f_G_readClass u9) fun u11 => cI (f_G_readCount u11 20) fun r15 u13 => cT (f_G_passes_L45 r15 FU u13 0) fun (u21 : St) => cI (f_G_readCount u21 60) fun r24 u22 => cT (f_G_passes_L80 r15 r24 FU u22 0) fun (u35 : St) => cV (f_G_clearCodeTallies u35) fun u36 => cI (f_G_readCount u36 60) fun r40 u38 => cT (f_G_passes_L140 r15 r24 r40 FU u38 0) fun (u60 : St) => cI (f_G_readAttributes u60 8) fun r63 u61 => bnd (if (u61.1 1) = (u61.1 0) then (1) else (0)) fun (z64 : Int32) => cV (f_W_need u61 z64 29 (u61.1 1)) fun u65 => gd 0 9 (bnd (sa u65 12 (0 : Int32).toNatClampNeg (u65.1 6)) fun u67 => gd 1 9 (bnd (sa u67 12 (1 : Int32).toNatClampNeg r15) fun u68 => gd 2 9 (bnd (sa u68 12 (2 : Int32).toNatClampNeg r24) fun u69 => gd 3 9 (bnd (sa u69 12 (3 : Int32).toNatClampNeg r40) fun u70 => gd 8 9 (bnd (sa u70 12 (8 : Int32).toNatClampNeg (u70.1 16)) fun u71 => cI (f_W_sound u71) fun r74 u72 => gb r74 (some (r74, u72)))))))
set_option maxHeartbeats 4000000 in
set_option maxRecDepth 100000 in
theorem w_G_passes_L45 {sk sv9 st : Nat → Nat} {D : va_G} {cs : Nat → ClassId} {a : Nat → Nat} {p : Program} {l : Launch} {e : Env} {s : State} {m : MethodId} {args : Array Value} {below : List Frame} {meth : Method} {c : Code} {Q : State → Prop}  {u2 : St} {x1 : Int32} (C : Cx clA R_G prog_3_method_2_code 7 D cs (xW a cs) (xZ sk sv9 st) p s m args c) (hE : ∀ (H : Heap) (locs : List Loc) (ls : Array Slot), Dy clA D (xW a cs) s H locs u2 → lv_has ls 7 [(0, .ref (a 1)), (1, .int x1)] → W p l e rm_G_passes s m args below meth c H locs 0 0 Q (F0 m 71 ls [])) : ∀ (n : Nat) (u : St) (x2 : Int32) (H : Heap) (locs : List Loc) (ls : Array Slot), f_G_passes_L45 x1 n u x2 = some u2 → Dy clA D (xW a cs) s H locs u → lv_has ls 7 [(0, .ref (a 1)), (1, .int x1), (2, .int x2)] → W p l e rm_G_passes s m args below meth c H locs 0 0 Q (F0 m 45 ls []) := by
  have hx := C.1.1
  have hb := C.1.2.1
  intro n
  induction n with
  | zero =>
    intro u x2 H locs ls hk I hl
    rw [f_G_passes_L45] at hk
    cases hk
  | succ n ih =>
    intro u x2 H locs ls hk I hl
    rw [f_G_passes_L45] at hk
    refine lv_iload_n hx hb d_G_passes_45 rfl (lv_at hl 2 rfl) ?_
    refine lv_iload_n hx hb d_G_passes_46 rfl (lv_at hl 1 rfl) ?_
    refine lv_icmp_ge (tgt := 71) hx hb d_G_passes_47 (by decide) (fun hc => ?_) (fun hc => ?_)
    · replace hk := it_u hc hk
      obtain rfl := eo1 hk
      exact hE _ _ _ I (lv_sub hl [0, 1] rfl)
    · replace hk := ie_u hc hk
      refine lv_aload_n hx hb d_G_passes_50 rfl (lv_at hl 0 rfl) ?_
      refine g_G_walk C I k_165 d_G_passes_51 ?_
      obtain ⟨r18, u16, h17, hk⟩ := cI_u hk
      refine go_I I (call_runV (rest := []) C I (c_W_sound C.2.2.2.1 C.2.2.2.2.1 l h17 _) wd_W_sound (q0 := 4) (ci := 4) rfl rfl k_500 ⟨rfl, rfl⟩ ⟨by decide, by decide⟩ rfl hl.1 rfl (Nat.le_of_ble_eq_true rfl) d_G_passes_54) (fun H locs I => ?_)
      refine lv_if_eq (tgt := 71) hx hb d_G_passes_57 (by decide) (fun hc => ?_) (fun hc => ?_)
      · replace hk := it_u hc hk
        obtain rfl := eo1 hk
        exact hE _ _ _ I (lv_sub hl [0, 1] rfl)
      · replace hk := ie_u hc hk
        refine lv_aload_n hx hb d_G_passes_60 rfl (lv_at hl 0 rfl) ?_
        refine lv_iload_n hx hb d_G_passes_61 rfl (lv_at hl 2 rfl) ?_
        obtain ⟨u19, h20, hk⟩ := cV_u hk
        refine go_V I (call_runV (rest := []) C I (c_G_readInterface C.2.2.2.1 C.2.2.2.2.1 l h20 _) wd_G_readInterface (q0 := 1) (ci := 1) rfl rfl k_501 ⟨rfl, rfl⟩ ⟨by decide, by decide⟩ rfl hl.1 rfl (Nat.le_of_ble_eq_true rfl) d_G_passes_62) (fun H locs I => ?_)
        refine lv_iinc (v := (x2 + 1)) (lv' := [(2, .int (x2 + 1)), (0, .ref (a 1)), (1, .int x1)]) hx hb d_G_passes_65 hl (k := 2) rfl rfl (by decide) rfl (fun ls hl => ?_)
        refine lv_goto (tgt := 45) hx hb d_G_passes_68 (by decide) ?_
        exact ih u19 (x2 + 1) _ _ _ hk I (lv_sub hl [1, 2, 0] rfl)
set_option maxHeartbeats 4000000 in
set_option maxRecDepth 100000 in
theorem w_G_passes_L80 {sk sv9 st : Nat → Nat} {D : va_G} {cs : Nat → ClassId} {a : Nat → Nat} {p : Program} {l : Launch} {e : Env} {s : State} {m : MethodId} {args : Array Value} {below : List Frame} {meth : Method} {c : Code} {Q : State → Prop}  {u2 : St} {x1 : Int32} {x2 : Int32} (C : Cx clA R_G prog_3_method_2_code 7 D cs (xW a cs) (xZ sk sv9 st) p s m args c) (hE : ∀ (H : Heap) (locs : List Loc) (ls : Array Slot), Dy clA D (xW a cs) s H locs u2 → lv_has ls 7 [(0, .ref (a 1)), (1, .int x1), (2, .int x2)] → W p l e rm_G_passes s m args below meth c H locs 0 0 Q (F0 m 126 ls [])) : ∀ (n : Nat) (u : St) (x3 : Int32) (H : Heap) (locs : List Loc) (ls : Array Slot), f_G_passes_L80 x1 x2 n u x3 = some u2 → Dy clA D (xW a cs) s H locs u → lv_has ls 7 [(0, .ref (a 1)), (1, .int x1), (2, .int x2), (3, .int x3)] → W p l e rm_G_passes s m args below meth c H locs 0 0 Q (F0 m 80 ls []) := by
  have hx := C.1.1
  have hb := C.1.2.1
  intro n
  induction n with
  | zero =>
    intro u x3 H locs ls hk I hl
    rw [f_G_passes_L80] at hk
    cases hk
  | succ n ih =>
    intro u x3 H locs ls hk I hl
    rw [f_G_passes_L80] at hk
    refine lv_iload_n hx hb d_G_passes_80 rfl (lv_at hl 3 rfl) ?_
    refine lv_iload_n hx hb d_G_passes_81 rfl (lv_at hl 2 rfl) ?_
    refine lv_icmp_ge (tgt := 126) hx hb d_G_passes_82 (by decide) (fun hc => ?_) (fun hc => ?_)
    · replace hk := it_u hc hk
      obtain rfl := eo1 hk
      exact hE _ _ _ I (lv_sub hl [0, 1, 2] rfl)
    · replace hk := ie_u hc hk
      refine lv_aload_n hx hb d_G_passes_85 rfl (lv_at hl 0 rfl) ?_
      refine g_G_walk C I k_165 d_G_passes_86 ?_
      obtain ⟨r27, u25, h26, hk⟩ := cI_u hk
      refine go_I I (call_runV (rest := []) C I (c_W_sound C.2.2.2.1 C.2.2.2.2.1 l h26 _) wd_W_sound (q0 := 4) (ci := 4) rfl rfl k_500 ⟨rfl, rfl⟩ ⟨by decide, by decide⟩ rfl hl.1 rfl (Nat.le_of_ble_eq_true rfl) d_G_passes_89) (fun H locs I => ?_)
      refine lv_if_eq (tgt := 126) hx hb d_G_passes_92 (by decide) (fun hc => ?_) (fun hc => ?_)
      · replace hk := it_u hc hk
        obtain rfl := eo1 hk
        exact hE _ _ _ I (lv_sub hl [0, 1, 2] rfl)
      · replace hk := ie_u hc hk
        refine lv_aload_n hx hb d_G_passes_95 rfl (lv_at hl 0 rfl) ?_
        refine lv_iload_n hx hb d_G_passes_96 rfl (lv_at hl 3 rfl) ?_
        obtain ⟨u28, h29, hk⟩ := cV_u hk
        refine go_V I (call_runV (rest := []) C I (c_G_readField C.2.2.2.1 C.2.2.2.2.1 l h29 _) wd_G_readField (q0 := 1) (ci := 1) rfl rfl k_505 ⟨rfl, rfl⟩ ⟨by decide, by decide⟩ rfl hl.1 rfl (Nat.le_of_ble_eq_true rfl) d_G_passes_97) (fun H locs I => ?_)
        refine lv_aload_n hx hb d_G_passes_100 rfl (lv_at hl 0 rfl) ?_
        refine lv_aload_n hx hb d_G_passes_101 rfl (lv_at hl 0 rfl) ?_
        refine g_G_memberFlags C I k_172 d_G_passes_102 ?_
        refine lv_bipush (v := 8) hx hb d_G_passes_105 (by decide) ?_
        refine lv_iand hx hb d_G_passes_107 ?_
        obtain ⟨z30, hj34, hk⟩ := bnd_u hk
        have Khj34 : ∀ (H : Heap) (locs : List Loc) (ls : Array Slot), Dy clA D (xW a cs) s H locs u28 → lv_has ls 7 [(0, .ref (a 1)), (1, .int x1), (2, .int x2), (3, .int x3)] → W p l e rm_G_passes s m args below meth c H locs 0 0 Q (F0 m 116 ls [.int z30, .ref (a 1)]) := by
          intro H locs ls I hl
          obtain ⟨r33, u31, h32, hk⟩ := cI_u hk
          refine go_I I (call_runV (rest := []) C I (c_G_readAttributes C.2.2.2.1 C.2.2.2.2.1 l h32 _) wd_G_readAttributes (q0 := 1) (ci := 1) rfl rfl k_525 ⟨rfl, rfl⟩ ⟨by decide, by decide⟩ rfl hl.1 rfl (Nat.le_of_ble_eq_true rfl) d_G_passes_116) (fun H locs I => ?_)
          refine lv_pop hx hb d_G_passes_119 rfl ?_
          refine lv_iinc (v := (x3 + 1)) (lv' := [(3, .int (x3 + 1)), (0, .ref (a 1)), (1, .int x1), (2, .int x2)]) hx hb d_G_passes_120 hl (k := 3) rfl rfl (by decide) rfl (fun ls hl => ?_)
          refine lv_goto (tgt := 80) hx hb d_G_passes_123 (by decide) ?_
          exact ih u31 (x3 + 1) _ _ _ hk I (lv_sub hl [1, 2, 3, 0] rfl)
        refine lv_if_eq (tgt := 115) hx hb d_G_passes_108 (by decide) (fun hc => ?_) (fun hc => ?_)
        · replace hj34 := it_u hc hj34
          refine lv_iconst (v := 0) hx hb d_G_passes_115 (by decide) ?_
          obtain rfl := ep1 hj34
          exact Khj34 _ _ _ I (lv_sub hl [0, 1, 2, 3] rfl)
        · replace hj34 := ie_u hc hj34
          refine lv_iconst (v := 1) hx hb d_G_passes_111 (by decide) ?_
          refine lv_goto (tgt := 116) hx hb d_G_passes_112 (by decide) ?_
          obtain rfl := ep1 hj34
          exact Khj34 _ _ _ I (lv_sub hl [0, 1, 2, 3] rfl)
set_option maxHeartbeats 4000000 in
set_option maxRecDepth 100000 in
theorem w_G_passes_L140 {sk sv9 st : Nat → Nat} {D : va_G} {cs : Nat → ClassId} {a : Nat → Nat} {p : Program} {l : Launch} {e : Env} {s : State} {m : MethodId} {args : Array Value} {below : List Frame} {meth : Method} {c : Code} {Q : State → Prop}  {u2 : St} {x1 : Int32} {x2 : Int32} {x3 : Int32} (C : Cx clA R_G prog_3_method_2_code 7 D cs (xW a cs) (xZ sk sv9 st) p s m args c) (hE : ∀ (H : Heap) (locs : List Loc) (ls : Array Slot), Dy clA D (xW a cs) s H locs u2 → lv_has ls 7 [(0, .ref (a 1)), (1, .int x1), (2, .int x2), (3, .int x3)] → W p l e rm_G_passes s m args below meth c H locs 0 0 Q (F0 m 247 ls [])) : ∀ (n : Nat) (u : St) (x4 : Int32) (H : Heap) (locs : List Loc) (ls : Array Slot), f_G_passes_L140 x1 x2 x3 n u x4 = some u2 → Dy clA D (xW a cs) s H locs u → lv_has ls 7 [(0, .ref (a 1)), (1, .int x1), (2, .int x2), (3, .int x3), (4, .int x4)] → W p l e rm_G_passes s m args below meth c H locs 0 0 Q (F0 m 140 ls []) := by
  have hx := C.1.1
  have hb := C.1.2.1
  intro n
  induction n with
  | zero =>
    intro u x4 H locs ls hk I hl
    rw [f_G_passes_L140] at hk
    cases hk
  | succ n ih =>
    intro u x4 H locs ls hk I hl
    rw [f_G_passes_L140] at hk
    refine lv_iload hx hb d_G_passes_140 (lv_at hl 4 rfl) ?_
    refine lv_iload_n hx hb d_G_passes_142 rfl (lv_at hl 3 rfl) ?_
    refine lv_icmp_ge (tgt := 247) hx hb d_G_passes_143 (by decide) (fun hc => ?_) (fun hc => ?_)
    · replace hk := it_u hc hk
      obtain rfl := eo1 hk
      exact hE _ _ _ I (lv_sub hl [0, 1, 2, 3] rfl)
    · replace hk := ie_u hc hk
      refine lv_aload_n hx hb d_G_passes_146 rfl (lv_at hl 0 rfl) ?_
      refine g_G_walk C I k_165 d_G_passes_147 ?_
      obtain ⟨r43, u41, h42, hk⟩ := cI_u hk
      refine go_I I (call_runV (rest := []) C I (c_W_sound C.2.2.2.1 C.2.2.2.2.1 l h42 _) wd_W_sound (q0 := 4) (ci := 4) rfl rfl k_500 ⟨rfl, rfl⟩ ⟨by decide, by decide⟩ rfl hl.1 rfl (Nat.le_of_ble_eq_true rfl) d_G_passes_150) (fun H locs I => ?_)
      refine lv_if_eq (tgt := 247) hx hb d_G_passes_153 (by decide) (fun hc => ?_) (fun hc => ?_)
      · replace hk := it_u hc hk
        obtain rfl := eo1 hk
        exact hE _ _ _ I (lv_sub hl [0, 1, 2, 3] rfl)
      · replace hk := ie_u hc hk
        refine lv_aload_n hx hb d_G_passes_156 rfl (lv_at hl 0 rfl) ?_
        refine lv_iload hx hb d_G_passes_157 (lv_at hl 4 rfl) ?_
        obtain ⟨u44, h45, hk⟩ := cV_u hk
        refine go_V I (call_runV (rest := []) C I (c_G_readMethod C.2.2.2.1 C.2.2.2.2.1 l h45 _) wd_G_readMethod (q0 := 1) (ci := 1) rfl rfl k_639 ⟨rfl, rfl⟩ ⟨by decide, by decide⟩ rfl hl.1 rfl (Nat.le_of_ble_eq_true rfl) d_G_passes_159) (fun H locs I => ?_)
        refine lv_aload_n hx hb d_G_passes_162 rfl (lv_at hl 0 rfl) ?_
        refine g_G_memberFlags C I k_172 d_G_passes_163 ?_
        refine lv_sipush (v := 1024) hx hb d_G_passes_166 (by decide) ?_
        refine lv_iand hx hb d_G_passes_169 ?_
        obtain ⟨z46, hj59, hk⟩ := bnd_u hk
        have Khj59 : ∀ (H : Heap) (locs : List Loc) (ls : Array Slot), Dy clA D (xW a cs) s H locs u44 → lv_has ls 7 [(0, .ref (a 1)), (1, .int x1), (2, .int x2), (3, .int x3), (4, .int x4)] → W p l e rm_G_passes s m args below meth c H locs 0 0 Q (F0 m 178 ls [.int z46]) := by
          intro H locs ls I hl
          refine lv_istore (lv' := [(5, .int z46), (0, .ref (a 1)), (1, .int x1), (2, .int x2), (3, .int x3), (4, .int x4)]) hx hb d_G_passes_178 hl (by decide) rfl (fun ls hl => ?_)
          refine lv_aload_n hx hb d_G_passes_180 rfl (lv_at hl 1 rfl) ?_
          refine lv_iconst (v := 0) hx hb d_G_passes_181 (by decide) ?_
          refine p_G_thrown C I k_174 d_G_passes_182 (fun H locs I => ?_)
          obtain ⟨u47, hu, hk⟩ := bnd_u hk
          rw [hu] at I
          clear hu
          refine lv_aload_n hx hb d_G_passes_185 rfl (lv_at hl 1 rfl) ?_
          refine lv_iload hx hb d_G_passes_186 (lv_at hl 0 rfl) ?_
          refine lv_iconst (v := 4) hx hb d_G_passes_188 (by decide) ?_
          refine lv_ior hx hb d_G_passes_189 ?_
          obtain ⟨r50, u48, h49, hk⟩ := cI_u hk
          refine go_I I (call_runV (rest := []) C I (c_G_readAttributes C.2.2.2.1 C.2.2.2.2.1 l h49 _) wd_G_readAttributes (q0 := 1) (ci := 1) rfl rfl k_525 ⟨rfl, rfl⟩ ⟨by decide, by decide⟩ rfl hl.1 rfl (Nat.le_of_ble_eq_true rfl) d_G_passes_190) (fun H locs I => ?_)
          refine lv_istore (lv' := [(6, .int r50), (5, .int z46), (0, .ref (a 1)), (1, .int x1), (2, .int x2), (3, .int x3), (4, .int x4)]) hx hb d_G_passes_193 hl (by decide) rfl (fun ls hl => ?_)
          refine lv_aload_n hx hb d_G_passes_195 rfl (lv_at hl 2 rfl) ?_
          refine g_G_walk C I k_165 d_G_passes_196 ?_
          refine lv_iload hx hb d_G_passes_199 (lv_at hl 0 rfl) ?_
          refine lv_iload hx hb d_G_passes_201 (lv_at hl 1 rfl) ?_
          refine lv_iand hx hb d_G_passes_203 ?_
          refine lv_iload hx hb d_G_passes_204 (lv_at hl 1 rfl) ?_
          obtain ⟨z51, hj58, hk⟩ := bnd_u hk
          have Khj58 : ∀ (H : Heap) (locs : List Loc) (ls : Array Slot), Dy clA D (xW a cs) s H locs u48 → lv_has ls 7 [(0, .ref (a 1)), (1, .int x1), (2, .int x2), (3, .int x3), (4, .int x4), (6, .int r50)] → W p l e rm_G_passes s m args below meth c H locs 0 0 Q (F0 m 214 ls [.int z51, .ref (a 4)]) := by
            intro H locs ls I hl
            refine lv_bipush (v := 20) hx hb d_G_passes_214 (by decide) ?_
            refine lv_aload_n hx hb d_G_passes_216 rfl (lv_at hl 0 rfl) ?_
            refine g_G_memberPlace C I k_171 d_G_passes_217 ?_
            obtain ⟨u52, h53, hk⟩ := cV_u hk
            refine go_V I (call_runV (rest := []) C I (c_W_need C.2.2.2.1 C.2.2.2.2.1 l h53 _) wd_W_need (q0 := 4) (ci := 4) rfl rfl k_289 ⟨rfl, rfl⟩ ⟨by decide, by decide⟩ rfl hl.1 rfl (Nat.le_of_ble_eq_true rfl) d_G_passes_220) (fun H locs I => ?_)
            refine lv_aload_n hx hb d_G_passes_223 rfl (lv_at hl 0 rfl) ?_
            refine lv_iload hx hb d_G_passes_224 (lv_at hl 4 rfl) ?_
            refine lv_iload hx hb d_G_passes_226 (lv_at hl 5 rfl) ?_
            refine lv_iconst (v := 2) hx hb d_G_passes_228 (by decide) ?_
            refine lv_iand hx hb d_G_passes_229 ?_
            obtain ⟨z54, hj57, hk⟩ := bnd_u hk
            have Khj57 : ∀ (H : Heap) (locs : List Loc) (ls : Array Slot), Dy clA D (xW a cs) s H locs u52 → lv_has ls 7 [(0, .ref (a 1)), (1, .int x1), (2, .int x2), (3, .int x3), (4, .int x4)] → W p l e rm_G_passes s m args below meth c H locs 0 0 Q (F0 m 238 ls [.int z54, .int x4, .ref (a 1)]) := by
              intro H locs ls I hl
              obtain ⟨u55, h56, hk⟩ := cV_u hk
              refine go_V I (call_runV (rest := []) C I (c_G_noteMethod C.2.2.2.1 C.2.2.2.2.1 l h56 _) wd_G_noteMethod (q0 := 1) (ci := 1) rfl rfl k_652 ⟨rfl, rfl⟩ ⟨by decide, by decide⟩ rfl hl.1 rfl (Nat.le_of_ble_eq_true rfl) d_G_passes_238) (fun H locs I => ?_)
              refine lv_iinc (v := (x4 + 1)) (lv' := [(4, .int (x4 + 1)), (0, .ref (a 1)), (1, .int x1), (2, .int x2), (3, .int x3)]) hx hb d_G_passes_241 hl (k := 4) rfl rfl (by decide) rfl (fun ls hl => ?_)
              refine lv_goto (tgt := 140) hx hb d_G_passes_244 (by decide) ?_
              exact ih u55 (x4 + 1) _ _ _ hk I (lv_sub hl [1, 2, 3, 4, 0] rfl)
            refine lv_if_eq (tgt := 237) hx hb d_G_passes_230 (by decide) (fun hc => ?_) (fun hc => ?_)
            · replace hj57 := it_u hc hj57
              refine lv_iconst (v := 0) hx hb d_G_passes_237 (by decide) ?_
              obtain rfl := ep1 hj57
              exact Khj57 _ _ _ I (lv_sub hl [0, 1, 2, 3, 4] rfl)
            · replace hj57 := ie_u hc hj57
              refine lv_iconst (v := 1) hx hb d_G_passes_233 (by decide) ?_
              refine lv_goto (tgt := 238) hx hb d_G_passes_234 (by decide) ?_
              obtain rfl := ep1 hj57
              exact Khj57 _ _ _ I (lv_sub hl [0, 1, 2, 3, 4] rfl)
          refine lv_icmp_ne (tgt := 213) hx hb d_G_passes_206 (by decide) (fun hc => ?_) (fun hc => ?_)
          · replace hj58 := ie_u hc hj58
            refine lv_iconst (v := 0) hx hb d_G_passes_213 (by decide) ?_
            obtain rfl := ep1 hj58
            exact Khj58 _ _ _ I (lv_sub hl [2, 3, 4, 5, 6, 0] rfl)
          · replace hj58 := it_u hc hj58
            refine lv_iconst (v := 1) hx hb d_G_passes_209 (by decide) ?_
            refine lv_goto (tgt := 214) hx hb d_G_passes_210 (by decide) ?_
            obtain rfl := ep1 hj58
            exact Khj58 _ _ _ I (lv_sub hl [2, 3, 4, 5, 6, 0] rfl)
        refine lv_if_eq (tgt := 177) hx hb d_G_passes_170 (by decide) (fun hc => ?_) (fun hc => ?_)
        · replace hj59 := it_u hc hj59
          refine lv_iconst (v := 2) hx hb d_G_passes_177 (by decide) ?_
          obtain rfl := ep1 hj59
          exact Khj59 _ _ _ I (lv_sub hl [0, 1, 2, 3, 4] rfl)
        · replace hj59 := ie_u hc hj59
          refine lv_iconst (v := 0) hx hb d_G_passes_173 (by decide) ?_
          refine lv_goto (tgt := 178) hx hb d_G_passes_174 (by decide) ?_
          obtain rfl := ep1 hj59
          exact Khj59 _ _ _ I (lv_sub hl [0, 1, 2, 3, 4] rfl)
set_option maxHeartbeats 4000000 in
set_option maxRecDepth 100000 in
theorem c_G_passes {sk sv9 st : Nat → Nat} {D : va_G} {cs : Nat → ClassId} {a : Nat → Nat} (hw : wD (xW a cs)) (hz : zOK (xZ sk sv9 st)) (l : Launch) {u : St} {r : Int32} {u' : St} (hk : f_G_passes u = some (r, u')) : KI clA D cs (xW a cs) (xZ sk sv9 st) l y_G_passes (.code y_G_passes prog_3_method_2_code 7 (Option.some Jvm.ClassFile.FieldType.boolean)) rm_G_passes [.ref (a 1)] u r u' := by
  unfold f_G_passes at hk
  refine KZ.of (by decide) (Nat.le_of_ble_eq_true rfl) hw hz ?_
  intro p e s m args below meth c Q C I hQ ls hl
  have hl : lv_has ls 7 [(0, .ref (a 1))] := hl
  have hx := C.1.1
  have hb := C.1.2.1
  refine lv_aload_n hx hb d_G_passes_0 rfl (lv_at hl 0 rfl) ?_
  refine g_G_walk C I k_165 d_G_passes_1 ?_
  obtain ⟨u1, h2, hk⟩ := cV_u hk
  refine go_V I (call_runV (rest := []) C I (c_W_begin C.2.2.2.1 C.2.2.2.2.1 l h2 _) wd_W_begin (q0 := 4) (ci := 4) rfl rfl k_275 ⟨rfl, rfl⟩ ⟨by decide, by decide⟩ rfl hl.1 rfl (Nat.le_of_ble_eq_true rfl) d_G_passes_4) (fun H locs I => ?_)
  refine lv_aload_n hx hb d_G_passes_7 rfl (lv_at hl 0 rfl) ?_
  obtain ⟨u3, h4, hk⟩ := cV_u hk
  refine go_V I (call_runV (rest := []) C I (c_G_readHead C.2.2.2.1 C.2.2.2.2.1 l h4 _) wd_G_readHead (q0 := 1) (ci := 1) rfl rfl k_279 ⟨rfl, rfl⟩ ⟨by decide, by decide⟩ rfl hl.1 rfl (Nat.le_of_ble_eq_true rfl) d_G_passes_8) (fun H locs I => ?_)
  refine lv_aload_n hx hb d_G_passes_11 rfl (lv_at hl 0 rfl) ?_
  refine g_G_pool C I k_159 d_G_passes_12 ?_
  obtain ⟨u5, h6, hk⟩ := cV_u hk
  refine go_V I (call_runV (rest := []) C I (c_P_readEntries C.2.2.2.1 C.2.2.2.2.1 l h6 _) wd_P_readEntries (q0 := 2) (ci := 2) rfl rfl k_293 ⟨rfl, rfl⟩ ⟨by decide, by decide⟩ rfl hl.1 rfl (Nat.le_of_ble_eq_true rfl) d_G_passes_15) (fun H locs I => ?_)
  refine lv_aload_n hx hb d_G_passes_18 rfl (lv_at hl 0 rfl) ?_
  refine g_G_pool C I k_159 d_G_passes_19 ?_
  obtain ⟨u7, h8, hk⟩ := cV_u hk
  refine go_V I (call_runV (rest := []) C I (c_P_noteTexts C.2.2.2.1 C.2.2.2.2.1 l h8 _) wd_P_noteTexts (q0 := 2) (ci := 2) rfl rfl k_319 ⟨rfl, rfl⟩ ⟨by decide, by decide⟩ rfl hl.1 rfl (Nat.le_of_ble_eq_true rfl) d_G_passes_22) (fun H locs I => ?_)
  refine lv_aload_n hx hb d_G_passes_25 rfl (lv_at hl 0 rfl) ?_
  refine g_G_pool C I k_159 d_G_passes_26 ?_
  obtain ⟨u9, h10, hk⟩ := cV_u hk
  refine go_V I (call_runV (rest := []) C I (c_P_readLinks C.2.2.2.1 C.2.2.2.2.1 l h10 _) wd_P_readLinks (q0 := 2) (ci := 2) rfl rfl k_426 ⟨rfl, rfl⟩ ⟨by decide, by decide⟩ rfl hl.1 rfl (Nat.le_of_ble_eq_true rfl) d_G_passes_29) (fun H locs I => ?_)
  refine lv_aload_n hx hb d_G_passes_32 rfl (lv_at hl 0 rfl) ?_
  obtain ⟨u11, h12, hk⟩ := cV_u hk
  refine go_V I (call_runV (rest := []) C I (c_G_readClass C.2.2.2.1 C.2.2.2.2.1 l h12 _) wd_G_readClass (q0 := 1) (ci := 1) rfl rfl k_473 ⟨rfl, rfl⟩ ⟨by decide, by decide⟩ rfl hl.1 rfl (Nat.le_of_ble_eq_true rfl) d_G_passes_33) (fun H locs I => ?_)
  refine lv_aload_n hx hb d_G_passes_36 rfl (lv_at hl 0 rfl) ?_
  refine lv_bipush (v := 20) hx hb d_G_passes_37 (by decide) ?_
  obtain ⟨r15, u13, h14, hk⟩ := cI_u hk
  refine go_I I (call_runV (rest := []) C I (c_G_readCount C.2.2.2.1 C.2.2.2.2.1 l h14 _) wd_G_readCount (q0 := 1) (ci := 1) rfl rfl k_496 ⟨rfl, rfl⟩ ⟨by decide, by decide⟩ rfl hl.1 rfl (Nat.le_of_ble_eq_true rfl) d_G_passes_39) (fun H locs I => ?_)
  refine lv_istore_n (lv' := [(1, .int r15), (0, .ref (a 1))]) hx hb d_G_passes_42 rfl hl (by decide) rfl (fun ls hl => ?_)
  refine lv_iconst (v := 0) hx hb d_G_passes_43 (by decide) ?_
  refine lv_istore_n (lv' := [(2, .int 0), (1, .int r15), (0, .ref (a 1))]) hx hb d_G_passes_44 rfl hl (by decide) rfl (fun ls hl => ?_)
  obtain ⟨u21, hj78, hk⟩ := cT_u hk
  refine w_G_passes_L45 C (fun H locs ls I hl => ?_) FU u13 0 _ _ _ hj78 I (lv_sub hl [2, 1, 0] rfl)
  refine lv_aload_n hx hb d_G_passes_71 rfl (lv_at hl 0 rfl) ?_
  refine lv_bipush (v := 60) hx hb d_G_passes_72 (by decide) ?_
  obtain ⟨r24, u22, h23, hk⟩ := cI_u hk
  refine go_I I (call_runV (rest := []) C I (c_G_readCount C.2.2.2.1 C.2.2.2.2.1 l h23 _) wd_G_readCount (q0 := 1) (ci := 1) rfl rfl k_496 ⟨rfl, rfl⟩ ⟨by decide, by decide⟩ rfl hl.1 rfl (Nat.le_of_ble_eq_true rfl) d_G_passes_74) (fun H locs I => ?_)
  refine lv_istore_n (lv' := [(2, .int r24), (0, .ref (a 1)), (1, .int r15)]) hx hb d_G_passes_77 rfl hl (by decide) rfl (fun ls hl => ?_)
  refine lv_iconst (v := 0) hx hb d_G_passes_78 (by decide) ?_
  refine lv_istore_n (lv' := [(3, .int 0), (2, .int r24), (0, .ref (a 1)), (1, .int r15)]) hx hb d_G_passes_79 rfl hl (by decide) rfl (fun ls hl => ?_)
  obtain ⟨u35, hj77, hk⟩ := cT_u hk
  refine w_G_passes_L80 C (fun H locs ls I hl => ?_) FU u22 0 _ _ _ hj77 I (lv_sub hl [2, 3, 1, 0] rfl)
  refine lv_aload_n hx hb d_G_passes_126 rfl (lv_at hl 0 rfl) ?_
  obtain ⟨u36, h37, hk⟩ := cV_u hk
  refine go_V I (call_runV (rest := []) C I (c_G_clearCodeTallies C.2.2.2.1 C.2.2.2.2.1 l h37 _) wd_G_clearCodeTallies (q0 := 1) (ci := 1) rfl rfl k_635 ⟨rfl, rfl⟩ ⟨by decide, by decide⟩ rfl hl.1 rfl (Nat.le_of_ble_eq_true rfl) d_G_passes_127) (fun H locs I => ?_)
  refine lv_aload_n hx hb d_G_passes_130 rfl (lv_at hl 0 rfl) ?_
  refine lv_bipush (v := 60) hx hb d_G_passes_131 (by decide) ?_
  obtain ⟨r40, u38, h39, hk⟩ := cI_u hk
  refine go_I I (call_runV (rest := []) C I (c_G_readCount C.2.2.2.1 C.2.2.2.2.1 l h39 _) wd_G_readCount (q0 := 1) (ci := 1) rfl rfl k_496 ⟨rfl, rfl⟩ ⟨by decide, by decide⟩ rfl hl.1 rfl (Nat.le_of_ble_eq_true rfl) d_G_passes_133) (fun H locs I => ?_)
  refine lv_istore_n (lv' := [(3, .int r40), (0, .ref (a 1)), (1, .int r15), (2, .int r24)]) hx hb d_G_passes_136 rfl hl (by decide) rfl (fun ls hl => ?_)
  refine lv_iconst (v := 0) hx hb d_G_passes_137 (by decide) ?_
  refine lv_istore (lv' := [(4, .int 0), (3, .int r40), (0, .ref (a 1)), (1, .int r15), (2, .int r24)]) hx hb d_G_passes_138 hl (by decide) rfl (fun ls hl => ?_)
  obtain ⟨u60, hj76, hk⟩ := cT_u hk
  refine w_G_passes_L140 C (fun H locs ls I hl => ?_) FU u38 0 _ _ _ hj76 I (lv_sub hl [2, 3, 4, 1, 0] rfl)
  refine lv_aload_n hx hb d_G_passes_247 rfl (lv_at hl 0 rfl) ?_
  refine lv_bipush (v := 8) hx hb d_G_passes_248 (by decide) ?_
  obtain ⟨r63, u61, h62, hk⟩ := cI_u hk
  refine go_I I (call_runV (rest := []) C I (c_G_readAttributes C.2.2.2.1 C.2.2.2.2.1 l h62 _) wd_G_readAttributes (q0 := 1) (ci := 1) rfl rfl k_525 ⟨rfl, rfl⟩ ⟨by decide, by decide⟩ rfl hl.1 rfl (Nat.le_of_ble_eq_true rfl) d_G_passes_250) (fun H locs I => ?_)
  refine lv_pop hx hb d_G_passes_253 rfl ?_
  refine lv_aload_n hx hb d_G_passes_254 rfl (lv_at hl 0 rfl) ?_
  refine g_G_walk C I k_165 d_G_passes_255 ?_
  refine lv_aload_n hx hb d_G_passes_258 rfl (lv_at hl 0 rfl) ?_
  refine g_G_walk C I k_165 d_G_passes_259 ?_
  refine g_W_at C I k_39 d_G_passes_262 ?_
  refine lv_aload_n hx hb d_G_passes_265 rfl (lv_at hl 0 rfl) ?_
  refine g_G_walk C I k_165 d_G_passes_266 ?_
  refine g_W_length C I k_34 d_G_passes_269 ?_
  obtain ⟨z64, hj75, hk⟩ := bnd_u hk
  have Khj75 : ∀ (H : Heap) (locs : List Loc) (ls : Array Slot), Dy clA D (xW a cs) s H locs u61 → lv_has ls 7 [(0, .ref (a 1)), (1, .int r15), (2, .int r24), (3, .int r40)] → W p l e rm_G_passes s m args below meth c H locs 0 0 Q (F0 m 280 ls [.int z64, .ref (a 4)]) := by
    intro H locs ls I hl
    refine lv_bipush (v := 29) hx hb d_G_passes_280 (by decide) ?_
    refine lv_aload_n hx hb d_G_passes_282 rfl (lv_at hl 0 rfl) ?_
    refine g_G_walk C I k_165 d_G_passes_283 ?_
    refine g_W_at C I k_39 d_G_passes_286 ?_
    obtain ⟨u65, h66, hk⟩ := cV_u hk
    refine go_V I (call_runV (rest := []) C I (c_W_need C.2.2.2.1 C.2.2.2.2.1 l h66 _) wd_W_need (q0 := 4) (ci := 4) rfl rfl k_289 ⟨rfl, rfl⟩ ⟨by decide, by decide⟩ rfl hl.1 rfl (Nat.le_of_ble_eq_true rfl) d_G_passes_289) (fun H locs I => ?_)
    refine lv_aload_n hx hb d_G_passes_292 rfl (lv_at hl 0 rfl) ?_
    refine g_G_tally C I k_161 d_G_passes_293 ?_
    refine lv_iconst (v := 0) hx hb d_G_passes_296 (by decide) ?_
    refine lv_aload_n hx hb d_G_passes_297 rfl (lv_at hl 0 rfl) ?_
    refine g_G_pool C I k_159 d_G_passes_298 ?_
    refine g_P_count C I k_83 d_G_passes_301 ?_
    obtain ⟨hi, hk⟩ := gd_u hk
    refine s_G_tally C I hi d_G_passes_304 (fun H locs I => ?_)
    obtain ⟨u67, hu, hk⟩ := bnd_u hk
    rw [hu] at I
    clear hu
    refine lv_aload_n hx hb d_G_passes_305 rfl (lv_at hl 0 rfl) ?_
    refine g_G_tally C I k_161 d_G_passes_306 ?_
    refine lv_iconst (v := 1) hx hb d_G_passes_309 (by decide) ?_
    refine lv_iload_n hx hb d_G_passes_310 rfl (lv_at hl 1 rfl) ?_
    obtain ⟨hi, hk⟩ := gd_u hk
    refine s_G_tally C I hi d_G_passes_311 (fun H locs I => ?_)
    obtain ⟨u68, hu, hk⟩ := bnd_u hk
    rw [hu] at I
    clear hu
    refine lv_aload_n hx hb d_G_passes_312 rfl (lv_at hl 0 rfl) ?_
    refine g_G_tally C I k_161 d_G_passes_313 ?_
    refine lv_iconst (v := 2) hx hb d_G_passes_316 (by decide) ?_
    refine lv_iload_n hx hb d_G_passes_317 rfl (lv_at hl 2 rfl) ?_
    obtain ⟨hi, hk⟩ := gd_u hk
    refine s_G_tally C I hi d_G_passes_318 (fun H locs I => ?_)
    obtain ⟨u69, hu, hk⟩ := bnd_u hk
    rw [hu] at I
    clear hu
    refine lv_aload_n hx hb d_G_passes_319 rfl (lv_at hl 0 rfl) ?_
    refine g_G_tally C I k_161 d_G_passes_320 ?_
    refine lv_iconst (v := 3) hx hb d_G_passes_323 (by decide) ?_
    refine lv_iload_n hx hb d_G_passes_324 rfl (lv_at hl 3 rfl) ?_
    obtain ⟨hi, hk⟩ := gd_u hk
    refine s_G_tally C I hi d_G_passes_325 (fun H locs I => ?_)
    obtain ⟨u70, hu, hk⟩ := bnd_u hk
    rw [hu] at I
    clear hu
    refine lv_aload_n hx hb d_G_passes_326 rfl (lv_at hl 0 rfl) ?_
    refine g_G_tally C I k_161 d_G_passes_327 ?_
    refine lv_bipush (v := 8) hx hb d_G_passes_330 (by decide) ?_
    refine lv_aload_n hx hb d_G_passes_332 rfl (lv_at hl 0 rfl) ?_
    refine g_G_classFlags C I k_170 d_G_passes_333 ?_
    obtain ⟨hi, hk⟩ := gd_u hk
    refine s_G_tally C I hi d_G_passes_336 (fun H locs I => ?_)
    obtain ⟨u71, hu, hk⟩ := bnd_u hk
    rw [hu] at I
    clear hu
    refine lv_aload_n hx hb d_G_passes_337 rfl (lv_at hl 0 rfl) ?_
    refine g_G_walk C I k_165 d_G_passes_338 ?_
    obtain ⟨r74, u72, h73, hk⟩ := cI_u hk
    refine go_I I (call_runV (rest := []) C I (c_W_sound C.2.2.2.1 C.2.2.2.2.1 l h73 _) wd_W_sound (q0 := 4) (ci := 4) rfl rfl k_500 ⟨rfl, rfl⟩ ⟨by decide, by decide⟩ rfl hl.1 rfl (Nat.le_of_ble_eq_true rfl) d_G_passes_341) (fun H locs I => ?_)
    exact hQ _ _ _ _ _ _ I hk d_G_passes_344
  refine lv_icmp_ne (tgt := 279) hx hb d_G_passes_272 (by decide) (fun hc => ?_) (fun hc => ?_)
  · replace hj75 := ie_u hc hj75
    refine lv_iconst (v := 0) hx hb d_G_passes_279 (by decide) ?_
    obtain rfl := ep1 hj75
    exact Khj75 _ _ _ I (lv_sub hl [0, 1, 2, 3] rfl)
  · replace hj75 := it_u hc hj75
    refine lv_iconst (v := 1) hx hb d_G_passes_275 (by decide) ?_
    refine lv_goto (tgt := 280) hx hb d_G_passes_276 (by decide) ?_
    obtain rfl := ep1 hj75
    exact Khj75 _ _ _ I (lv_sub hl [0, 1, 2, 3] rfl)
def rm_R_keep : Room := { frames := 4, cells := 0, slots := 0, locals := 90 }
noncomputable def f_R_keep (u : St) (x2 : Int32) (x3 : Int32) : Option (St) := gb x2 (bnd (sv u 4 x2) fun u1 => bnd (sv u1 5 x3) fun u2 => cT (if x2 = 0 then (some (u2)) else (bnd (sw u2 1 (va_cpy (u2.2 12) (u2.2 1) 0 0 9)) fun u5 => bnd (sw u5 2 (va_cpy (u5.2 13) (u5.2 2) 0 0 360)) fun u6 => bnd (sw u6 3 (va_cpy (u6.2 4) (u6.2 3) 0 0 300)) fun u7 => some (u7))) fun (u3 : St) => some u3)
set_option maxHeartbeats 4000000 in
set_option maxRecDepth 100000 in
theorem c_R_keep {Z : zT} {D : va_G} {cs : Nat → ClassId} {a : Nat → Nat} (hw : wD (xW a cs)) (hz : zOK Z) (l : Launch) {u : St} {x2 : Int32} {x3 : Int32} {u' : St} (hk : f_R_keep u x2 x3 = some u') : KV clA D cs (xW a cs) Z l y_R_keep (.code y_R_keep prog_5_method_2_code 4 (Option.none : Option Jvm.ClassFile.FieldType)) rm_R_keep [.ref (a 3), .ref (a 1), .int x2, .int x3] u u' := by
  unfold f_R_keep at hk
  refine KV.of (by decide) (Nat.le_of_ble_eq_true rfl) hw hz ?_
  intro p e s m args below meth c Q C I hQ ls hl
  have hl : lv_has ls 4 [(0, .ref (a 3)), (1, .ref (a 1)), (2, .int x2), (3, .int x3)] := hl
  have hx := C.1.1
  have hb := C.1.2.1
  refine lv_aload_n hx hb d_R_keep_0 rfl (lv_at hl 0 rfl) ?_
  refine lv_iload_n hx hb d_R_keep_1 rfl (lv_at hl 2 rfl) ?_
  obtain ⟨hz, hk⟩ := gb_u hk
  refine p_R_passed C I k_214 hz d_R_keep_2 (fun H locs I => ?_)
  obtain ⟨u1, hu, hk⟩ := bnd_u hk
  rw [hu] at I
  clear hu
  refine lv_aload_n hx hb d_R_keep_5 rfl (lv_at hl 0 rfl) ?_
  refine lv_iload_n hx hb d_R_keep_6 rfl (lv_at hl 3 rfl) ?_
  refine p_R_broken C I k_216 d_R_keep_7 (fun H locs I => ?_)
  obtain ⟨u2, hu, hk⟩ := bnd_u hk
  rw [hu] at I
  clear hu
  refine lv_iload_n hx hb d_R_keep_10 rfl (lv_at hl 2 rfl) ?_
  obtain ⟨u3, hj4, hk⟩ := cT_u hk
  have Khj4 : ∀ (H : Heap) (locs : List Loc) (ls : Array Slot), Dy clA D (xW a cs) s H locs u3 → lv_has ls 4 [] → W p l e rm_R_keep s m args below meth c H locs 0 0 Q (F0 m 71 ls []) := by
    intro H locs ls I hl
    exact hQ _ _ _ _ _ I hk d_R_keep_71
  refine lv_if_eq (tgt := 71) hx hb d_R_keep_11 (by decide) (fun hc => ?_) (fun hc => ?_)
  · replace hj4 := it_u hc hj4
    obtain rfl := eo1 hj4
    exact Khj4 _ _ _ I (lv_sub hl [] rfl)
  · replace hj4 := ie_u hc hj4
    refine lv_aload_n hx hb d_R_keep_14 rfl (lv_at hl 1 rfl) ?_
    refine g_G_tally C I k_162 d_R_keep_15 ?_
    refine lv_iconst (v := 0) hx hb d_R_keep_18 (by decide) ?_
    refine lv_aload_n hx hb d_R_keep_19 rfl (lv_at hl 0 rfl) ?_
    refine g_R_tally C I k_208 d_R_keep_20 ?_
    refine lv_iconst (v := 0) hx hb d_R_keep_23 (by decide) ?_
    refine lv_aload_n hx hb d_R_keep_24 rfl (lv_at hl 0 rfl) ?_
    refine g_R_tally C I k_208 d_R_keep_25 ?_
    refine n_R_tally C I d_R_keep_28 ?_
    refine cp_12_1 C I k_660 hl.1 (by decide) (by decide) d_R_keep_29 (fun H locs I => ?_)
    obtain ⟨u5, hu, hj4⟩ := bnd_u hj4
    rw [hu] at I
    clear hu
    refine lv_aload_n hx hb d_R_keep_32 rfl (lv_at hl 1 rfl) ?_
    refine g_G_methodRows C I k_164 d_R_keep_33 ?_
    refine lv_iconst (v := 0) hx hb d_R_keep_36 (by decide) ?_
    refine lv_aload_n hx hb d_R_keep_37 rfl (lv_at hl 0 rfl) ?_
    refine g_R_methodRows C I k_210 d_R_keep_38 ?_
    refine lv_iconst (v := 0) hx hb d_R_keep_41 (by decide) ?_
    refine lv_aload_n hx hb d_R_keep_42 rfl (lv_at hl 0 rfl) ?_
    refine g_R_methodRows C I k_210 d_R_keep_43 ?_
    refine n_R_methodRows C I d_R_keep_46 ?_
    refine cp_13_2 C I k_660 hl.1 (by decide) (by decide) d_R_keep_47 (fun H locs I => ?_)
    obtain ⟨u6, hu, hj4⟩ := bnd_u hj4
    rw [hu] at I
    clear hu
    refine lv_aload_n hx hb d_R_keep_50 rfl (lv_at hl 1 rfl) ?_
    refine g_G_pool C I k_160 d_R_keep_51 ?_
    refine g_P_kinds C I k_81 d_R_keep_54 ?_
    refine lv_iconst (v := 0) hx hb d_R_keep_57 (by decide) ?_
    refine lv_aload_n hx hb d_R_keep_58 rfl (lv_at hl 0 rfl) ?_
    refine g_R_kinds C I k_212 d_R_keep_59 ?_
    refine lv_iconst (v := 0) hx hb d_R_keep_62 (by decide) ?_
    refine lv_aload_n hx hb d_R_keep_63 rfl (lv_at hl 0 rfl) ?_
    refine g_R_kinds C I k_212 d_R_keep_64 ?_
    refine n_R_kinds C I d_R_keep_67 ?_
    refine cp_4_3 C I k_660 hl.1 (by decide) (by decide) d_R_keep_68 (fun H locs I => ?_)
    obtain ⟨u7, hu, hj4⟩ := bnd_u hj4
    rw [hu] at I
    clear hu
    obtain rfl := eo1 hj4
    exact Khj4 _ _ _ I (lv_sub hl [] rfl)
def rm_X_feed : Room := { frames := 1, cells := 0, slots := 0, locals := 21 }
noncomputable def f_X_feed_L37 (x1 : Int32) (x2 : Int32) (x3 : Int32) (x4 : Int32) (x5 : Int32) : Nat → St → Int32 → Option (St)
  | 0, _, _ => none
  | n + 1, u, x6 => if x5 ≤ x6 then (some (u)) else (bnd (if 4 ≤ x6 then (if 8 ≤ x6 then (if 12 ≤ x6 then (x4) else (x3)) else (x2)) else (x1)) fun (z1 : Int32) => cV (f_W_append u (z1 >>> ((24 - (8 * (x6 &&& 3))) &&& 31))) fun u2 => f_X_feed_L37 x1 x2 x3 x4 x5 n u2 (x6 + 1))
noncomputable def f_X_feed (u : St) (x1 : Int32) (x2 : Int32) (x3 : Int32) (x4 : Int32) (x5 : Int32) : Option (Int32 × St) := if x5 < 1 then (some ((-1), u)) else (if x5 ≤ 16 then (if ((u.1 0) + x5) ≤ 4000 then (cT (f_X_feed_L37 x1 x2 x3 x4 x5 FU u 0) fun (u5 : St) => some ((u5.1 0), u5)) else (some ((-2), u))) else (some ((-1), u)))
set_option maxHeartbeats 4000000 in
set_option maxRecDepth 100000 in
theorem w_X_feed_L37 {Z : zT} {D : va_G} {cs : Nat → ClassId} {a : Nat → Nat} {p : Program} {l : Launch} {e : Env} {s : State} {m : MethodId} {args : Array Value} {below : List Frame} {meth : Method} {c : Code} {Q : State → Prop}  {u2 : St} {x1 : Int32} {x2 : Int32} {x3 : Int32} {x4 : Int32} {x5 : Int32} (C : Cx clA R_X prog_1_method_2_code 8 D cs (xW a cs) Z p s m args c) (hE : ∀ (H : Heap) (locs : List Loc) (ls : Array Slot), Dy clA D (xW a cs) s H locs u2 → lv_has ls 8 [(0, .ref (a 6))] → W p l e rm_X_feed s m args below meth c H locs 0 0 Q (F0 m 106 ls [])) : ∀ (n : Nat) (u : St) (x6 : Int32) (H : Heap) (locs : List Loc) (ls : Array Slot), f_X_feed_L37 x1 x2 x3 x4 x5 n u x6 = some u2 → Dy clA D (xW a cs) s H locs u → lv_has ls 8 [(0, .ref (a 6)), (1, .int x1), (2, .int x2), (3, .int x3), (4, .int x4), (5, .int x5), (6, .int x6)] → W p l e rm_X_feed s m args below meth c H locs 0 0 Q (F0 m 37 ls []) := by
  have hx := C.1.1
  have hb := C.1.2.1
  intro n
  induction n with
  | zero =>
    intro u x6 H locs ls hk I hl
    rw [f_X_feed_L37] at hk
    cases hk
  | succ n ih =>
    intro u x6 H locs ls hk I hl
    rw [f_X_feed_L37] at hk
    refine lv_iload hx hb d_X_feed_37 (lv_at hl 6 rfl) ?_
    refine lv_iload hx hb d_X_feed_39 (lv_at hl 5 rfl) ?_
    refine lv_icmp_ge (tgt := 106) hx hb d_X_feed_41 (by decide) (fun hc => ?_) (fun hc => ?_)
    · replace hk := it_u hc hk
      obtain rfl := eo1 hk
      exact hE _ _ _ I (lv_sub hl [0] rfl)
    · replace hk := ie_u hc hk
      refine lv_iload hx hb d_X_feed_44 (lv_at hl 6 rfl) ?_
      refine lv_iconst (v := 4) hx hb d_X_feed_46 (by decide) ?_
      obtain ⟨z1, hj4, hk⟩ := bnd_u hk
      have Khj4 : ∀ (H : Heap) (locs : List Loc) (ls : Array Slot), Dy clA D (xW a cs) s H locs u → lv_has ls 8 [(0, .ref (a 6)), (1, .int x1), (2, .int x2), (3, .int x3), (4, .int x4), (5, .int x5), (6, .int x6)] → W p l e rm_X_feed s m args below meth c H locs 0 0 Q (F0 m 78 ls [.int z1]) := by
        intro H locs ls I hl
        refine lv_istore (lv' := [(7, .int z1), (0, .ref (a 6)), (1, .int x1), (2, .int x2), (3, .int x3), (4, .int x4), (5, .int x5), (6, .int x6)]) hx hb d_X_feed_78 hl (by decide) rfl (fun ls hl => ?_)
        refine lv_aload_n hx hb d_X_feed_80 rfl (lv_at hl 1 rfl) ?_
        refine g_X_walk C I k_229 d_X_feed_81 ?_
        refine lv_iload hx hb d_X_feed_84 (lv_at hl 0 rfl) ?_
        refine lv_bipush (v := 24) hx hb d_X_feed_86 (by decide) ?_
        refine lv_bipush (v := 8) hx hb d_X_feed_88 (by decide) ?_
        refine lv_iload hx hb d_X_feed_90 (lv_at hl 7 rfl) ?_
        refine lv_iconst (v := 3) hx hb d_X_feed_92 (by decide) ?_
        refine lv_iand hx hb d_X_feed_93 ?_
        refine lv_imul hx hb d_X_feed_94 ?_
        refine lv_isub hx hb d_X_feed_95 ?_
        refine lv_ishr hx hb d_X_feed_96 ?_
        obtain ⟨u2, h3, hk⟩ := cV_u hk
        refine go_V I (call_runV (rest := []) C I (c_W_append C.2.2.2.1 C.2.2.2.2.1 l h3 _) wd_W_append (q0 := 4) (ci := 4) rfl rfl k_243 ⟨rfl, rfl⟩ ⟨by decide, by decide⟩ rfl hl.1 rfl (Nat.le_of_ble_eq_true rfl) d_X_feed_97) (fun H locs I => ?_)
        refine lv_iinc (v := (x6 + 1)) (lv' := [(6, .int (x6 + 1)), (7, .int z1), (0, .ref (a 6)), (1, .int x1), (2, .int x2), (3, .int x3), (4, .int x4), (5, .int x5)]) hx hb d_X_feed_100 hl (k := 7) rfl rfl (by decide) rfl (fun ls hl => ?_)
        refine lv_goto (tgt := 37) hx hb d_X_feed_103 (by decide) ?_
        exact ih u2 (x6 + 1) _ _ _ hk I (lv_sub hl [2, 3, 4, 5, 6, 7, 0] rfl)
      refine lv_icmp_ge (tgt := 54) hx hb d_X_feed_47 (by decide) (fun hc => ?_) (fun hc => ?_)
      · replace hj4 := it_u hc hj4
        refine lv_iload hx hb d_X_feed_54 (lv_at hl 6 rfl) ?_
        refine lv_bipush (v := 8) hx hb d_X_feed_56 (by decide) ?_
        refine lv_icmp_ge (tgt := 65) hx hb d_X_feed_58 (by decide) (fun hc => ?_) (fun hc => ?_)
        · replace hj4 := it_u hc hj4
          refine lv_iload hx hb d_X_feed_65 (lv_at hl 6 rfl) ?_
          refine lv_bipush (v := 12) hx hb d_X_feed_67 (by decide) ?_
          refine lv_icmp_ge (tgt := 76) hx hb d_X_feed_69 (by decide) (fun hc => ?_) (fun hc => ?_)
          · replace hj4 := it_u hc hj4
            refine lv_iload hx hb d_X_feed_76 (lv_at hl 4 rfl) ?_
            obtain rfl := ep1 hj4
            exact Khj4 _ _ _ I (lv_sub hl [0, 1, 2, 3, 4, 5, 6] rfl)
          · replace hj4 := ie_u hc hj4
            refine lv_iload_n hx hb d_X_feed_72 rfl (lv_at hl 3 rfl) ?_
            refine lv_goto (tgt := 78) hx hb d_X_feed_73 (by decide) ?_
            obtain rfl := ep1 hj4
            exact Khj4 _ _ _ I (lv_sub hl [0, 1, 2, 3, 4, 5, 6] rfl)
        · replace hj4 := ie_u hc hj4
          refine lv_iload_n hx hb d_X_feed_61 rfl (lv_at hl 2 rfl) ?_
          refine lv_goto (tgt := 78) hx hb d_X_feed_62 (by decide) ?_
          obtain rfl := ep1 hj4
          exact Khj4 _ _ _ I (lv_sub hl [0, 1, 2, 3, 4, 5, 6] rfl)
      · replace hj4 := ie_u hc hj4
        refine lv_iload_n hx hb d_X_feed_50 rfl (lv_at hl 1 rfl) ?_
        refine lv_goto (tgt := 78) hx hb d_X_feed_51 (by decide) ?_
        obtain rfl := ep1 hj4
        exact Khj4 _ _ _ I (lv_sub hl [0, 1, 2, 3, 4, 5, 6] rfl)
set_option maxHeartbeats 4000000 in
set_option maxRecDepth 100000 in
theorem c_X_feed {Z : zT} {D : va_G} {cs : Nat → ClassId} {a : Nat → Nat} (hw : wD (xW a cs)) (hz : zOK Z) (l : Launch) {u : St} {x1 : Int32} {x2 : Int32} {x3 : Int32} {x4 : Int32} {x5 : Int32} {r : Int32} {u' : St} (hk : f_X_feed u x1 x2 x3 x4 x5 = some (r, u')) : KI clA D cs (xW a cs) Z l y_X_feed (.code y_X_feed prog_1_method_2_code 8 (Option.some Jvm.ClassFile.FieldType.int)) rm_X_feed [.ref (a 6), .int x1, .int x2, .int x3, .int x4, .int x5] u r u' := by
  unfold f_X_feed at hk
  refine KI.of (by decide) (Nat.le_of_ble_eq_true rfl) rfl hw hz ?_
  intro p e s m args below meth c Q C I hQ ls hl
  have hl : lv_has ls 8 [(0, .ref (a 6)), (1, .int x1), (2, .int x2), (3, .int x3), (4, .int x4), (5, .int x5)] := hl
  have hx := C.1.1
  have hb := C.1.2.1
  refine lv_iload hx hb d_X_feed_0 (lv_at hl 5 rfl) ?_
  refine lv_iconst (v := 1) hx hb d_X_feed_2 (by decide) ?_
  refine lv_icmp_lt (tgt := 13) hx hb d_X_feed_3 (by decide) (fun hc => ?_) (fun hc => ?_)
  · replace hk := it_u hc hk
    refine lv_iconst (v := (-1)) hx hb d_X_feed_13 (by decide) ?_
    exact hQ _ _ _ _ _ _ I hk d_X_feed_14
  · replace hk := ie_u hc hk
    refine lv_iload hx hb d_X_feed_6 (lv_at hl 5 rfl) ?_
    refine lv_bipush (v := 16) hx hb d_X_feed_8 (by decide) ?_
    refine lv_icmp_le (tgt := 15) hx hb d_X_feed_10 (by decide) (fun hc => ?_) (fun hc => ?_)
    · replace hk := it_u hc hk
      refine lv_aload_n hx hb d_X_feed_15 rfl (lv_at hl 0 rfl) ?_
      refine g_X_walk C I k_229 d_X_feed_16 ?_
      refine g_W_length C I k_33 d_X_feed_19 ?_
      refine lv_iload hx hb d_X_feed_22 (lv_at hl 5 rfl) ?_
      refine lv_iadd hx hb d_X_feed_24 ?_
      refine lv_sipush (v := 4000) hx hb d_X_feed_25 (by decide) ?_
      refine lv_icmp_le (tgt := 34) hx hb d_X_feed_28 (by decide) (fun hc => ?_) (fun hc => ?_)
      · replace hk := it_u hc hk
        refine lv_iconst (v := 0) hx hb d_X_feed_34 (by decide) ?_
        refine lv_istore (lv' := [(6, .int 0), (0, .ref (a 6)), (1, .int x1), (2, .int x2), (3, .int x3), (4, .int x4), (5, .int x5)]) hx hb d_X_feed_35 hl (by decide) rfl (fun ls hl => ?_)
        obtain ⟨u5, hj6, hk⟩ := cT_u hk
        refine w_X_feed_L37 C (fun H locs ls I hl => ?_) FU u 0 _ _ _ hj6 I (lv_sub hl [1, 2, 3, 4, 5, 6, 0] rfl)
        refine lv_aload_n hx hb d_X_feed_106 rfl (lv_at hl 0 rfl) ?_
        refine g_X_walk C I k_229 d_X_feed_107 ?_
        refine g_W_length C I k_33 d_X_feed_110 ?_
        exact hQ _ _ _ _ _ _ I hk d_X_feed_113
      · replace hk := ie_u hc hk
        refine lv_bipush (v := (-2)) hx hb d_X_feed_31 (by decide) ?_
        exact hQ _ _ _ _ _ _ I hk d_X_feed_33
    · replace hk := ie_u hc hk
      refine lv_iconst (v := (-1)) hx hb d_X_feed_13 (by decide) ?_
      exact hQ _ _ _ _ _ _ I hk d_X_feed_14
def rm_X_cut : Room := { frames := 0, cells := 0, slots := 0, locals := 0 }
noncomputable def f_X_cut (u : St) (x1 : Int32) : Option (Int32 × St) := if x1 < 0 then (some ((-1), u)) else (if x1 ≤ (u.1 0) then (bnd (sv u 0 ((u.1 0) - x1)) fun u1 => some ((u1.1 0), u1)) else (some ((-1), u)))
set_option maxHeartbeats 4000000 in
set_option maxRecDepth 100000 in
theorem c_X_cut {Z : zT} {D : va_G} {cs : Nat → ClassId} {a : Nat → Nat} (hw : wD (xW a cs)) (hz : zOK Z) (l : Launch) {u : St} {x1 : Int32} {r : Int32} {u' : St} (hk : f_X_cut u x1 = some (r, u')) : KI clA D cs (xW a cs) Z l y_X_cut (.code y_X_cut prog_1_method_3_code 2 (Option.some Jvm.ClassFile.FieldType.int)) rm_X_cut [.ref (a 6), .int x1] u r u' := by
  unfold f_X_cut at hk
  refine KI.of (by decide) (Nat.le_of_ble_eq_true rfl) rfl hw hz ?_
  intro p e s m args below meth c Q C I hQ ls hl
  have hl : lv_has ls 2 [(0, .ref (a 6)), (1, .int x1)] := hl
  have hx := C.1.1
  have hb := C.1.2.1
  refine lv_iload_n hx hb d_X_cut_0 rfl (lv_at hl 1 rfl) ?_
  refine lv_if_lt (tgt := 15) hx hb d_X_cut_1 (by decide) (fun hc => ?_) (fun hc => ?_)
  · replace hk := it_u hc hk
    refine lv_iconst (v := (-1)) hx hb d_X_cut_15 (by decide) ?_
    exact hQ _ _ _ _ _ _ I hk d_X_cut_16
  · replace hk := ie_u hc hk
    refine lv_iload_n hx hb d_X_cut_4 rfl (lv_at hl 1 rfl) ?_
    refine lv_aload_n hx hb d_X_cut_5 rfl (lv_at hl 0 rfl) ?_
    refine g_X_walk C I k_229 d_X_cut_6 ?_
    refine g_W_length C I k_33 d_X_cut_9 ?_
    refine lv_icmp_le (tgt := 17) hx hb d_X_cut_12 (by decide) (fun hc => ?_) (fun hc => ?_)
    · replace hk := it_u hc hk
      refine lv_aload_n hx hb d_X_cut_17 rfl (lv_at hl 0 rfl) ?_
      refine g_X_walk C I k_229 d_X_cut_18 ?_
      refine lv_dup hx hb d_X_cut_21 rfl ?_
      refine g_W_length C I k_33 d_X_cut_22 ?_
      refine lv_iload_n hx hb d_X_cut_25 rfl (lv_at hl 1 rfl) ?_
      refine lv_isub hx hb d_X_cut_26 ?_
      refine p_W_length C I k_33 d_X_cut_27 (fun H locs I => ?_)
      obtain ⟨u1, hu, hk⟩ := bnd_u hk
      rw [hu] at I
      clear hu
      refine lv_aload_n hx hb d_X_cut_30 rfl (lv_at hl 0 rfl) ?_
      refine g_X_walk C I k_229 d_X_cut_31 ?_
      refine g_W_length C I k_33 d_X_cut_34 ?_
      exact hQ _ _ _ _ _ _ I hk d_X_cut_37
    · replace hk := ie_u hc hk
      refine lv_iconst (v := (-1)) hx hb d_X_cut_15 (by decide) ?_
      exact hQ _ _ _ _ _ _ I hk d_X_cut_16
def rm_X_turn : Room := { frames := 1, cells := 0, slots := 0, locals := 24 }
noncomputable def f_X_turn (u : St) (x1 : Int32) (x2 : Int32) : Option (Int32 × St) := if x1 < 0 then (some ((-1), u)) else (if x1 < (u.1 0) then (cV (f_W_flip u x1 x2) fun u1 => cI (f_W_numberAt u1 x1 1) fun r5 u3 => some (r5, u3)) else (some ((-1), u)))
set_option maxHeartbeats 4000000 in
set_option maxRecDepth 100000 in
theorem c_X_turn {Z : zT} {D : va_G} {cs : Nat → ClassId} {a : Nat → Nat} (hw : wD (xW a cs)) (hz : zOK Z) (l : Launch) {u : St} {x1 : Int32} {x2 : Int32} {r : Int32} {u' : St} (hk : f_X_turn u x1 x2 = some (r, u')) : KI clA D cs (xW a cs) Z l y_X_turn (.code y_X_turn prog_1_method_4_code 3 (Option.some Jvm.ClassFile.FieldType.int)) rm_X_turn [.ref (a 6), .int x1, .int x2] u r u' := by
  unfold f_X_turn at hk
  refine KI.of (by decide) (Nat.le_of_ble_eq_true rfl) rfl hw hz ?_
  intro p e s m args below meth c Q C I hQ ls hl
  have hl : lv_has ls 3 [(0, .ref (a 6)), (1, .int x1), (2, .int x2)] := hl
  have hx := C.1.1
  have hb := C.1.2.1
  refine lv_iload_n hx hb d_X_turn_0 rfl (lv_at hl 1 rfl) ?_
  refine lv_if_lt (tgt := 15) hx hb d_X_turn_1 (by decide) (fun hc => ?_) (fun hc => ?_)
  · replace hk := it_u hc hk
    refine lv_iconst (v := (-1)) hx hb d_X_turn_15 (by decide) ?_
    exact hQ _ _ _ _ _ _ I hk d_X_turn_16
  · replace hk := ie_u hc hk
    refine lv_iload_n hx hb d_X_turn_4 rfl (lv_at hl 1 rfl) ?_
    refine lv_aload_n hx hb d_X_turn_5 rfl (lv_at hl 0 rfl) ?_
    refine g_X_walk C I k_229 d_X_turn_6 ?_
    refine g_W_length C I k_33 d_X_turn_9 ?_
    refine lv_icmp_lt (tgt := 17) hx hb d_X_turn_12 (by decide) (fun hc => ?_) (fun hc => ?_)
    · replace hk := it_u hc hk
      refine lv_aload_n hx hb d_X_turn_17 rfl (lv_at hl 0 rfl) ?_
      refine g_X_walk C I k_229 d_X_turn_18 ?_
      refine lv_iload_n hx hb d_X_turn_21 rfl (lv_at hl 1 rfl) ?_
      refine lv_iload_n hx hb d_X_turn_22 rfl (lv_at hl 2 rfl) ?_
      obtain ⟨u1, h2, hk⟩ := cV_u hk
      refine go_V I (call_runV (rest := []) C I (c_W_flip C.2.2.2.1 C.2.2.2.2.1 l h2 _) wd_W_flip (q0 := 4) (ci := 4) rfl rfl k_255 ⟨rfl, rfl⟩ ⟨by decide, by decide⟩ rfl hl.1 rfl (Nat.le_of_ble_eq_true rfl) d_X_turn_23) (fun H locs I => ?_)
      refine lv_aload_n hx hb d_X_turn_26 rfl (lv_at hl 0 rfl) ?_
      refine g_X_walk C I k_229 d_X_turn_27 ?_
      refine lv_iload_n hx hb d_X_turn_30 rfl (lv_at hl 1 rfl) ?_
      refine lv_iconst (v := 1) hx hb d_X_turn_31 (by decide) ?_
      obtain ⟨r5, u3, h4, hk⟩ := cI_u hk
      refine go_I I (call_runV (rest := []) C I (c_W_numberAt C.2.2.2.1 C.2.2.2.2.1 l h4 _) wd_W_numberAt (q0 := 4) (ci := 4) rfl rfl k_259 ⟨rfl, rfl⟩ ⟨by decide, by decide⟩ rfl hl.1 rfl (Nat.le_of_ble_eq_true rfl) d_X_turn_32) (fun H locs I => ?_)
      exact hQ _ _ _ _ _ _ I hk d_X_turn_35
    · replace hk := ie_u hc hk
      refine lv_iconst (v := (-1)) hx hb d_X_turn_15 (by decide) ?_
      exact hQ _ _ _ _ _ _ I hk d_X_turn_16
def rm_X_byteAt : Room := { frames := 1, cells := 0, slots := 0, locals := 24 }
noncomputable def f_X_byteAt (u : St) (x1 : Int32) : Option (Int32 × St) := cT (if x1 < 0 then (some ((-1), u)) else (if x1 < (u.1 0) then (cI (f_W_numberAt u x1 1) fun r6 u4 => some (r6, u4)) else (some ((-1), u)))) fun (p7 : Int32 × St) => some (p7.1, p7.2)
set_option maxHeartbeats 4000000 in
set_option maxRecDepth 100000 in
theorem c_X_byteAt {Z : zT} {D : va_G} {cs : Nat → ClassId} {a : Nat → Nat} (hw : wD (xW a cs)) (hz : zOK Z) (l : Launch) {u : St} {x1 : Int32} {r : Int32} {u' : St} (hk : f_X_byteAt u x1 = some (r, u')) : KI clA D cs (xW a cs) Z l y_X_byteAt (.code y_X_byteAt prog_1_method_5_code 2 (Option.some Jvm.ClassFile.FieldType.int)) rm_X_byteAt [.ref (a 6), .int x1] u r u' := by
  unfold f_X_byteAt at hk
  refine KI.of (by decide) (Nat.le_of_ble_eq_true rfl) rfl hw hz ?_
  intro p e s m args below meth c Q C I hQ ls hl
  have hl : lv_has ls 2 [(0, .ref (a 6)), (1, .int x1)] := hl
  have hx := C.1.1
  have hb := C.1.2.1
  refine lv_iload_n hx hb d_X_byteAt_0 rfl (lv_at hl 1 rfl) ?_
  obtain ⟨⟨z1, u2⟩, hj3, hk⟩ := cT_u hk
  have Khj3 : ∀ (H : Heap) (locs : List Loc) (ls : Array Slot), Dy clA D (xW a cs) s H locs u2 → lv_has ls 2 [] → W p l e rm_X_byteAt s m args below meth c H locs 0 0 Q (F0 m 28 ls [.int z1]) := by
    intro H locs ls I hl
    exact hQ _ _ _ _ _ _ I hk d_X_byteAt_28
  refine lv_if_lt (tgt := 15) hx hb d_X_byteAt_1 (by decide) (fun hc => ?_) (fun hc => ?_)
  · replace hj3 := it_u hc hj3
    refine lv_iconst (v := (-1)) hx hb d_X_byteAt_15 (by decide) ?_
    refine lv_goto (tgt := 28) hx hb d_X_byteAt_16 (by decide) ?_
    obtain ⟨rfl, rfl⟩ := eo2 hj3
    exact Khj3 _ _ _ I (lv_sub hl [] rfl)
  · replace hj3 := ie_u hc hj3
    refine lv_iload_n hx hb d_X_byteAt_4 rfl (lv_at hl 1 rfl) ?_
    refine lv_aload_n hx hb d_X_byteAt_5 rfl (lv_at hl 0 rfl) ?_
    refine g_X_walk C I k_229 d_X_byteAt_6 ?_
    refine g_W_length C I k_33 d_X_byteAt_9 ?_
    refine lv_icmp_lt (tgt := 19) hx hb d_X_byteAt_12 (by decide) (fun hc => ?_) (fun hc => ?_)
    · replace hj3 := it_u hc hj3
      refine lv_aload_n hx hb d_X_byteAt_19 rfl (lv_at hl 0 rfl) ?_
      refine g_X_walk C I k_229 d_X_byteAt_20 ?_
      refine lv_iload_n hx hb d_X_byteAt_23 rfl (lv_at hl 1 rfl) ?_
      refine lv_iconst (v := 1) hx hb d_X_byteAt_24 (by decide) ?_
      obtain ⟨r6, u4, h5, hj3⟩ := cI_u hj3
      refine go_I I (call_runV (rest := []) C I (c_W_numberAt C.2.2.2.1 C.2.2.2.2.1 l h5 _) wd_W_numberAt (q0 := 4) (ci := 4) rfl rfl k_259 ⟨rfl, rfl⟩ ⟨by decide, by decide⟩ rfl hl.1 rfl (Nat.le_of_ble_eq_true rfl) d_X_byteAt_25) (fun H locs I => ?_)
      obtain ⟨rfl, rfl⟩ := eo2 hj3
      exact Khj3 _ _ _ I (lv_sub hl [] rfl)
    · replace hj3 := ie_u hc hj3
      refine lv_iconst (v := (-1)) hx hb d_X_byteAt_15 (by decide) ?_
      refine lv_goto (tgt := 28) hx hb d_X_byteAt_16 (by decide) ?_
      obtain ⟨rfl, rfl⟩ := eo2 hj3
      exact Khj3 _ _ _ I (lv_sub hl [] rfl)
def rm_X_judge : Room := { frames := 9, cells := 0, slots := 0, locals := 211 }
noncomputable def f_X_judge (u : St) : Option (Int32 × St) := cI (f_G_passes u) fun r3 u1 => cV (f_R_keep u1 r3 (u1.1 2)) fun u4 => cI (f_W_sound u4) fun r8 u6 => bnd (if r8 = 0 then ((1 + (u6.1 3))) else (0)) fun (z9 : Int32) => some (z9, u6)
set_option maxHeartbeats 4000000 in
set_option maxRecDepth 100000 in
theorem c_X_judge {sk sv9 st : Nat → Nat} {D : va_G} {cs : Nat → ClassId} {a : Nat → Nat} (hw : wD (xW a cs)) (hz : zOK (xZ sk sv9 st)) (l : Launch) {u : St} {r : Int32} {u' : St} (hk : f_X_judge u = some (r, u')) : KI clA D cs (xW a cs) (xZ sk sv9 st) l y_X_judge (.code y_X_judge prog_1_method_6_code 1 (Option.some Jvm.ClassFile.FieldType.int)) rm_X_judge [.ref (a 6)] u r u' := by
  unfold f_X_judge at hk
  refine KI.of (by decide) (Nat.le_of_ble_eq_true rfl) rfl hw hz ?_
  intro p e s m args below meth c Q C I hQ ls hl
  have hl : lv_has ls 1 [(0, .ref (a 6))] := hl
  have hx := C.1.1
  have hb := C.1.2.1
  refine lv_aload_n hx hb d_X_judge_0 rfl (lv_at hl 0 rfl) ?_
  refine g_X_latest C I k_231 d_X_judge_1 ?_
  refine lv_aload_n hx hb d_X_judge_4 rfl (lv_at hl 0 rfl) ?_
  refine g_X_gate C I k_230 d_X_judge_5 ?_
  refine lv_aload_n hx hb d_X_judge_8 rfl (lv_at hl 0 rfl) ?_
  refine g_X_gate C I k_230 d_X_judge_9 ?_
  obtain ⟨r3, u1, h2, hk⟩ := cI_u hk
  refine go_I I (call_runV (rest := [.ref (a 1), .ref (a 3)]) C I (c_G_passes C.2.2.2.1 C.2.2.2.2.1 l h2 _) wd_G_passes (q0 := 1) (ci := 1) rfl rfl k_271 ⟨rfl, rfl⟩ ⟨by decide, by decide⟩ rfl hl.1 rfl (Nat.le_of_ble_eq_true rfl) d_X_judge_12) (fun H locs I => ?_)
  refine lv_aload_n hx hb d_X_judge_15 rfl (lv_at hl 0 rfl) ?_
  refine g_X_walk C I k_229 d_X_judge_16 ?_
  refine g_W_broken C I k_42 d_X_judge_19 ?_
  obtain ⟨u4, h5, hk⟩ := cV_u hk
  refine go_V I (call_runV (rest := []) C I (c_R_keep C.2.2.2.1 C.2.2.2.2.1 l h5 _) wd_R_keep (q0 := 3) (ci := 3) rfl rfl k_656 ⟨rfl, rfl⟩ ⟨by decide, by decide⟩ rfl hl.1 rfl (Nat.le_of_ble_eq_true rfl) d_X_judge_22) (fun H locs I => ?_)
  refine lv_aload_n hx hb d_X_judge_25 rfl (lv_at hl 0 rfl) ?_
  refine g_X_walk C I k_229 d_X_judge_26 ?_
  obtain ⟨r8, u6, h7, hk⟩ := cI_u hk
  refine go_I I (call_runV (rest := []) C I (c_W_sound C.2.2.2.1 C.2.2.2.2.1 l h7 _) wd_W_sound (q0 := 4) (ci := 4) rfl rfl k_663 ⟨rfl, rfl⟩ ⟨by decide, by decide⟩ rfl hl.1 rfl (Nat.le_of_ble_eq_true rfl) d_X_judge_29) (fun H locs I => ?_)
  obtain ⟨z9, hj10, hk⟩ := bnd_u hk
  have Khj10 : ∀ (H : Heap) (locs : List Loc) (ls : Array Slot), Dy clA D (xW a cs) s H locs u6 → lv_has ls 1 [] → W p l e rm_X_judge s m args below meth c H locs 0 0 Q (F0 m 48 ls [.int z9]) := by
    intro H locs ls I hl
    exact hQ _ _ _ _ _ _ I hk d_X_judge_48
  refine lv_if_eq (tgt := 39) hx hb d_X_judge_32 (by decide) (fun hc => ?_) (fun hc => ?_)
  · replace hj10 := it_u hc hj10
    refine lv_iconst (v := 1) hx hb d_X_judge_39 (by decide) ?_
    refine lv_aload_n hx hb d_X_judge_40 rfl (lv_at hl 0 rfl) ?_
    refine g_X_walk C I k_229 d_X_judge_41 ?_
    refine g_W_place C I k_44 d_X_judge_44 ?_
    refine lv_iadd hx hb d_X_judge_47 ?_
    obtain rfl := ep1 hj10
    exact Khj10 _ _ _ I (lv_sub hl [] rfl)
  · replace hj10 := ie_u hc hj10
    refine lv_iconst (v := 0) hx hb d_X_judge_35 (by decide) ?_
    refine lv_goto (tgt := 48) hx hb d_X_judge_36 (by decide) ?_
    obtain rfl := ep1 hj10
    exact Khj10 _ _ _ I (lv_sub hl [] rfl)
def rm_X_rule : Room := { frames := 0, cells := 0, slots := 0, locals := 0 }
noncomputable def f_X_rule (u : St) : Option (Int32 × St) := some ((u.1 5), u)
set_option maxHeartbeats 4000000 in
set_option maxRecDepth 100000 in
theorem c_X_rule {Z : zT} {D : va_G} {cs : Nat → ClassId} {a : Nat → Nat} (hw : wD (xW a cs)) (hz : zOK Z) (l : Launch) {u : St} {r : Int32} {u' : St} (hk : f_X_rule u = some (r, u')) : KI clA D cs (xW a cs) Z l y_X_rule (.code y_X_rule prog_1_method_7_code 1 (Option.some Jvm.ClassFile.FieldType.int)) rm_X_rule [.ref (a 6)] u r u' := by
  unfold f_X_rule at hk
  refine KI.of (by decide) (Nat.le_of_ble_eq_true rfl) rfl hw hz ?_
  intro p e s m args below meth c Q C I hQ ls hl
  have hl : lv_has ls 1 [(0, .ref (a 6))] := hl
  have hx := C.1.1
  have hb := C.1.2.1
  refine lv_aload_n hx hb d_X_rule_0 rfl (lv_at hl 0 rfl) ?_
  refine g_X_latest C I k_231 d_X_rule_1 ?_
  refine g_R_broken C I k_217 d_X_rule_4 ?_
  exact hQ _ _ _ _ _ _ I hk d_X_rule_7
def rm_X_told : Room := { frames := 0, cells := 0, slots := 0, locals := 0 }
noncomputable def f_X_told (u : St) (x1 : Int32) : Option (Int32 × St) := if (u.1 4) = 0 then (some ((-1), u)) else (if x1 < 0 then (some ((-1), u)) else (if x1 < 9 then (gd x1 9 (some ((u.2 1 x1.toNatClampNeg), u))) else (some ((-1), u))))
set_option maxHeartbeats 4000000 in
set_option maxRecDepth 100000 in
theorem c_X_told {Z : zT} {D : va_G} {cs : Nat → ClassId} {a : Nat → Nat} (hw : wD (xW a cs)) (hz : zOK Z) (l : Launch) {u : St} {x1 : Int32} {r : Int32} {u' : St} (hk : f_X_told u x1 = some (r, u')) : KI clA D cs (xW a cs) Z l y_X_told (.code y_X_told prog_1_method_8_code 2 (Option.some Jvm.ClassFile.FieldType.int)) rm_X_told [.ref (a 6), .int x1] u r u' := by
  unfold f_X_told at hk
  refine KI.of (by decide) (Nat.le_of_ble_eq_true rfl) rfl hw hz ?_
  intro p e s m args below meth c Q C I hQ ls hl
  have hl : lv_has ls 2 [(0, .ref (a 6)), (1, .int x1)] := hl
  have hx := C.1.1
  have hb := C.1.2.1
  refine lv_aload_n hx hb d_X_told_0 rfl (lv_at hl 0 rfl) ?_
  refine g_X_latest C I k_231 d_X_told_1 ?_
  refine g_R_passed C I k_215 d_X_told_4 ?_
  refine lv_if_eq (tgt := 20) hx hb d_X_told_7 (by decide) (fun hc => ?_) (fun hc => ?_)
  · replace hk := it_u hc hk
    refine lv_iconst (v := (-1)) hx hb d_X_told_20 (by decide) ?_
    exact hQ _ _ _ _ _ _ I hk d_X_told_21
  · replace hk := ie_u hc hk
    refine lv_iload_n hx hb d_X_told_10 rfl (lv_at hl 1 rfl) ?_
    refine lv_if_lt (tgt := 20) hx hb d_X_told_11 (by decide) (fun hc => ?_) (fun hc => ?_)
    · replace hk := it_u hc hk
      refine lv_iconst (v := (-1)) hx hb d_X_told_20 (by decide) ?_
      exact hQ _ _ _ _ _ _ I hk d_X_told_21
    · replace hk := ie_u hc hk
      refine lv_iload_n hx hb d_X_told_14 rfl (lv_at hl 1 rfl) ?_
      refine lv_bipush (v := 9) hx hb d_X_told_15 (by decide) ?_
      refine lv_icmp_lt (tgt := 22) hx hb d_X_told_17 (by decide) (fun hc => ?_) (fun hc => ?_)
      · replace hk := it_u hc hk
        refine lv_aload_n hx hb d_X_told_22 rfl (lv_at hl 0 rfl) ?_
        refine g_X_latest C I k_231 d_X_told_23 ?_
        refine g_R_tally C I k_209 d_X_told_26 ?_
        refine lv_iload_n hx hb d_X_told_29 rfl (lv_at hl 1 rfl) ?_
        obtain ⟨hi, hk⟩ := gd_u hk
        refine l_R_tally C I hi d_X_told_30 ?_
        exact hQ _ _ _ _ _ _ I hk d_X_told_31
      · replace hk := ie_u hc hk
        refine lv_iconst (v := (-1)) hx hb d_X_told_20 (by decide) ?_
        exact hQ _ _ _ _ _ _ I hk d_X_told_21
def rm_X_method : Room := { frames := 0, cells := 0, slots := 0, locals := 0 }
noncomputable def f_X_method (u : St) (x1 : Int32) (x2 : Int32) : Option (Int32 × St) := if (u.1 4) = 0 then (some ((-1), u)) else (if x1 < 0 then (some ((-1), u)) else (gd 3 9 (if (u.2 1 (3 : Int32).toNatClampNeg) ≤ x1 then (some ((-1), u)) else (if x1 < 60 then (if x2 < 0 then (some ((-1), u)) else (if x2 < 6 then (gd ((x1 * 6) + x2) 360 (some ((u.2 2 ((x1 * 6) + x2).toNatClampNeg), u))) else (some ((-1), u)))) else (some ((-1), u))))))
set_option maxHeartbeats 4000000 in
set_option maxRecDepth 100000 in
theorem c_X_method {Z : zT} {D : va_G} {cs : Nat → ClassId} {a : Nat → Nat} (hw : wD (xW a cs)) (hz : zOK Z) (l : Launch) {u : St} {x1 : Int32} {x2 : Int32} {r : Int32} {u' : St} (hk : f_X_method u x1 x2 = some (r, u')) : KI clA D cs (xW a cs) Z l y_X_method (.code y_X_method prog_1_method_9_code 3 (Option.some Jvm.ClassFile.FieldType.int)) rm_X_method [.ref (a 6), .int x1, .int x2] u r u' := by
  unfold f_X_method at hk
  refine KI.of (by decide) (Nat.le_of_ble_eq_true rfl) rfl hw hz ?_
  intro p e s m args below meth c Q C I hQ ls hl
  have hl : lv_has ls 3 [(0, .ref (a 6)), (1, .int x1), (2, .int x2)] := hl
  have hx := C.1.1
  have hb := C.1.2.1
  refine lv_aload_n hx hb d_X_method_0 rfl (lv_at hl 0 rfl) ?_
  refine g_X_latest C I k_231 d_X_method_1 ?_
  refine g_R_passed C I k_215 d_X_method_4 ?_
  refine lv_if_eq (tgt := 33) hx hb d_X_method_7 (by decide) (fun hc => ?_) (fun hc => ?_)
  · replace hk := it_u hc hk
    refine lv_iconst (v := (-1)) hx hb d_X_method_33 (by decide) ?_
    exact hQ _ _ _ _ _ _ I hk d_X_method_34
  · replace hk := ie_u hc hk
    refine lv_iload_n hx hb d_X_method_10 rfl (lv_at hl 1 rfl) ?_
    refine lv_if_lt (tgt := 33) hx hb d_X_method_11 (by decide) (fun hc => ?_) (fun hc => ?_)
    · replace hk := it_u hc hk
      refine lv_iconst (v := (-1)) hx hb d_X_method_33 (by decide) ?_
      exact hQ _ _ _ _ _ _ I hk d_X_method_34
    · replace hk := ie_u hc hk
      refine lv_iload_n hx hb d_X_method_14 rfl (lv_at hl 1 rfl) ?_
      refine lv_aload_n hx hb d_X_method_15 rfl (lv_at hl 0 rfl) ?_
      refine g_X_latest C I k_231 d_X_method_16 ?_
      refine g_R_tally C I k_209 d_X_method_19 ?_
      refine lv_iconst (v := 3) hx hb d_X_method_22 (by decide) ?_
      obtain ⟨hi, hk⟩ := gd_u hk
      refine l_R_tally C I hi d_X_method_23 ?_
      refine lv_icmp_ge (tgt := 33) hx hb d_X_method_24 (by decide) (fun hc => ?_) (fun hc => ?_)
      · replace hk := it_u hc hk
        refine lv_iconst (v := (-1)) hx hb d_X_method_33 (by decide) ?_
        exact hQ _ _ _ _ _ _ I hk d_X_method_34
      · replace hk := ie_u hc hk
        refine lv_iload_n hx hb d_X_method_27 rfl (lv_at hl 1 rfl) ?_
        refine lv_bipush (v := 60) hx hb d_X_method_28 (by decide) ?_
        refine lv_icmp_lt (tgt := 35) hx hb d_X_method_30 (by decide) (fun hc => ?_) (fun hc => ?_)
        · replace hk := it_u hc hk
          refine lv_iload_n hx hb d_X_method_35 rfl (lv_at hl 2 rfl) ?_
          refine lv_if_lt (tgt := 45) hx hb d_X_method_36 (by decide) (fun hc => ?_) (fun hc => ?_)
          · replace hk := it_u hc hk
            refine lv_iconst (v := (-1)) hx hb d_X_method_45 (by decide) ?_
            exact hQ _ _ _ _ _ _ I hk d_X_method_46
          · replace hk := ie_u hc hk
            refine lv_iload_n hx hb d_X_method_39 rfl (lv_at hl 2 rfl) ?_
            refine lv_bipush (v := 6) hx hb d_X_method_40 (by decide) ?_
            refine lv_icmp_lt (tgt := 47) hx hb d_X_method_42 (by decide) (fun hc => ?_) (fun hc => ?_)
            · replace hk := it_u hc hk
              refine lv_aload_n hx hb d_X_method_47 rfl (lv_at hl 0 rfl) ?_
              refine g_X_latest C I k_231 d_X_method_48 ?_
              refine g_R_methodRows C I k_211 d_X_method_51 ?_
              refine lv_iload_n hx hb d_X_method_54 rfl (lv_at hl 1 rfl) ?_
              refine lv_bipush (v := 6) hx hb d_X_method_55 (by decide) ?_
              refine lv_imul hx hb d_X_method_57 ?_
              refine lv_iload_n hx hb d_X_method_58 rfl (lv_at hl 2 rfl) ?_
              refine lv_iadd hx hb d_X_method_59 ?_
              obtain ⟨hi, hk⟩ := gd_u hk
              refine l_R_methodRows C I hi d_X_method_60 ?_
              exact hQ _ _ _ _ _ _ I hk d_X_method_61
            · replace hk := ie_u hc hk
              refine lv_iconst (v := (-1)) hx hb d_X_method_45 (by decide) ?_
              exact hQ _ _ _ _ _ _ I hk d_X_method_46
        · replace hk := ie_u hc hk
          refine lv_iconst (v := (-1)) hx hb d_X_method_33 (by decide) ?_
          exact hQ _ _ _ _ _ _ I hk d_X_method_34
def rm_X_entry : Room := { frames := 0, cells := 0, slots := 0, locals := 0 }
noncomputable def f_X_entry (u : St) (x1 : Int32) : Option (Int32 × St) := if (u.1 4) = 0 then (some ((-1), u)) else (if x1 < 1 then (some ((-1), u)) else (gd 0 9 (if (u.2 1 (0 : Int32).toNatClampNeg) ≤ x1 then (some ((-1), u)) else (if x1 < 300 then (gd x1 300 (some ((u.2 3 x1.toNatClampNeg), u))) else (some ((-1), u))))))
set_option maxHeartbeats 4000000 in
set_option maxRecDepth 100000 in
theorem c_X_entry {Z : zT} {D : va_G} {cs : Nat → ClassId} {a : Nat → Nat} (hw : wD (xW a cs)) (hz : zOK Z) (l : Launch) {u : St} {x1 : Int32} {r : Int32} {u' : St} (hk : f_X_entry u x1 = some (r, u')) : KI clA D cs (xW a cs) Z l y_X_entry (.code y_X_entry prog_1_method_10_code 2 (Option.some Jvm.ClassFile.FieldType.int)) rm_X_entry [.ref (a 6), .int x1] u r u' := by
  unfold f_X_entry at hk
  refine KI.of (by decide) (Nat.le_of_ble_eq_true rfl) rfl hw hz ?_
  intro p e s m args below meth c Q C I hQ ls hl
  have hl : lv_has ls 2 [(0, .ref (a 6)), (1, .int x1)] := hl
  have hx := C.1.1
  have hb := C.1.2.1
  refine lv_aload_n hx hb d_X_entry_0 rfl (lv_at hl 0 rfl) ?_
  refine g_X_latest C I k_231 d_X_entry_1 ?_
  refine g_R_passed C I k_215 d_X_entry_4 ?_
  refine lv_if_eq (tgt := 35) hx hb d_X_entry_7 (by decide) (fun hc => ?_) (fun hc => ?_)
  · replace hk := it_u hc hk
    refine lv_iconst (v := (-1)) hx hb d_X_entry_35 (by decide) ?_
    exact hQ _ _ _ _ _ _ I hk d_X_entry_36
  · replace hk := ie_u hc hk
    refine lv_iload_n hx hb d_X_entry_10 rfl (lv_at hl 1 rfl) ?_
    refine lv_iconst (v := 1) hx hb d_X_entry_11 (by decide) ?_
    refine lv_icmp_lt (tgt := 35) hx hb d_X_entry_12 (by decide) (fun hc => ?_) (fun hc => ?_)
    · replace hk := it_u hc hk
      refine lv_iconst (v := (-1)) hx hb d_X_entry_35 (by decide) ?_
      exact hQ _ _ _ _ _ _ I hk d_X_entry_36
    · replace hk := ie_u hc hk
      refine lv_iload_n hx hb d_X_entry_15 rfl (lv_at hl 1 rfl) ?_
      refine lv_aload_n hx hb d_X_entry_16 rfl (lv_at hl 0 rfl) ?_
      refine g_X_latest C I k_231 d_X_entry_17 ?_
      refine g_R_tally C I k_209 d_X_entry_20 ?_
      refine lv_iconst (v := 0) hx hb d_X_entry_23 (by decide) ?_
      obtain ⟨hi, hk⟩ := gd_u hk
      refine l_R_tally C I hi d_X_entry_24 ?_
      refine lv_icmp_ge (tgt := 35) hx hb d_X_entry_25 (by decide) (fun hc => ?_) (fun hc => ?_)
      · replace hk := it_u hc hk
        refine lv_iconst (v := (-1)) hx hb d_X_entry_35 (by decide) ?_
        exact hQ _ _ _ _ _ _ I hk d_X_entry_36
      · replace hk := ie_u hc hk
        refine lv_iload_n hx hb d_X_entry_28 rfl (lv_at hl 1 rfl) ?_
        refine lv_sipush (v := 300) hx hb d_X_entry_29 (by decide) ?_
        refine lv_icmp_lt (tgt := 37) hx hb d_X_entry_32 (by decide) (fun hc => ?_) (fun hc => ?_)
        · replace hk := it_u hc hk
          refine lv_aload_n hx hb d_X_entry_37 rfl (lv_at hl 0 rfl) ?_
          refine g_X_latest C I k_231 d_X_entry_38 ?_
          refine g_R_kinds C I k_213 d_X_entry_41 ?_
          refine lv_iload_n hx hb d_X_entry_44 rfl (lv_at hl 1 rfl) ?_
          obtain ⟨hi, hk⟩ := gd_u hk
          refine l_R_kinds C I hi d_X_entry_45 ?_
          exact hQ _ _ _ _ _ _ I hk d_X_entry_46
        · replace hk := ie_u hc hk
          refine lv_iconst (v := (-1)) hx hb d_X_entry_35 (by decide) ?_
          exact hQ _ _ _ _ _ _ I hk d_X_entry_36
def rm_X_guarded : Room := { frames := 9, cells := 0, slots := 0, locals := 211 }
noncomputable def f_X_guarded_L28 (x1 : Int32) : Nat → St → Int32 → Int32 → Option (St × Int32)
  | 0, _, _, _ => none
  | n + 1, u, x2, x3 => if (u.1 0) ≤ x3 then (some (u, x2)) else (cV (f_W_flip u x3 x1) fun u4 => cI (f_G_passes u4) fun r8 u6 => bnd (if r8 = 0 then ((x2 + 1)) else (x2)) fun (z9 : Int32) => cV (f_W_flip u6 x3 x1) fun u10 => f_X_guarded_L28 x1 n u10 z9 (x3 + 1))
noncomputable def f_X_guarded (u : St) (x1 : Int32) : Option (Int32 × St) := if x1 < 1 then (some ((-1), u)) else (if 255 < x1 then (some ((-1), u)) else (cI (f_G_passes u) fun r3 u1 => if r3 = 0 then (some ((-1), u1)) else (cT (f_X_guarded_L28 x1 FU u1 0 0) fun (p16 : St × Int32) => some (p16.2, p16.1))))
set_option maxHeartbeats 4000000 in
set_option maxRecDepth 100000 in
theorem w_X_guarded_L28 {sk sv9 st : Nat → Nat} {D : va_G} {cs : Nat → ClassId} {a : Nat → Nat} {p : Program} {l : Launch} {e : Env} {s : State} {m : MethodId} {args : Array Value} {below : List Frame} {meth : Method} {c : Code} {Q : State → Prop}  {u2 : St} {o2 : Int32} {x1 : Int32} (C : Cx clA R_X prog_1_method_11_code 4 D cs (xW a cs) (xZ sk sv9 st) p s m args c) (hE : ∀ (H : Heap) (locs : List Loc) (ls : Array Slot), Dy clA D (xW a cs) s H locs u2 → lv_has ls 4 [(2, .int o2)] → W p l e rm_X_guarded s m args below meth c H locs 0 0 Q (F0 m 76 ls [])) : ∀ (n : Nat) (u : St) (x2 : Int32) (x3 : Int32) (H : Heap) (locs : List Loc) (ls : Array Slot), f_X_guarded_L28 x1 n u x2 x3 = some (u2, o2) → Dy clA D (xW a cs) s H locs u → lv_has ls 4 [(0, .ref (a 6)), (1, .int x1), (2, .int x2), (3, .int x3)] → W p l e rm_X_guarded s m args below meth c H locs 0 0 Q (F0 m 28 ls []) := by
  have hx := C.1.1
  have hb := C.1.2.1
  intro n
  induction n with
  | zero =>
    intro u x2 x3 H locs ls hk I hl
    rw [f_X_guarded_L28] at hk
    cases hk
  | succ n ih =>
    intro u x2 x3 H locs ls hk I hl
    rw [f_X_guarded_L28] at hk
    refine lv_iload_n hx hb d_X_guarded_28 rfl (lv_at hl 3 rfl) ?_
    refine lv_aload_n hx hb d_X_guarded_29 rfl (lv_at hl 0 rfl) ?_
    refine g_X_walk C I k_229 d_X_guarded_30 ?_
    refine g_W_length C I k_33 d_X_guarded_33 ?_
    refine lv_icmp_ge (tgt := 76) hx hb d_X_guarded_36 (by decide) (fun hc => ?_) (fun hc => ?_)
    · replace hk := it_u hc hk
      obtain ⟨rfl, rfl⟩ := eo2 hk
      exact hE _ _ _ I (lv_sub hl [2] rfl)
    · replace hk := ie_u hc hk
      refine lv_aload_n hx hb d_X_guarded_39 rfl (lv_at hl 0 rfl) ?_
      refine g_X_walk C I k_229 d_X_guarded_40 ?_
      refine lv_iload_n hx hb d_X_guarded_43 rfl (lv_at hl 3 rfl) ?_
      refine lv_iload_n hx hb d_X_guarded_44 rfl (lv_at hl 1 rfl) ?_
      obtain ⟨u4, h5, hk⟩ := cV_u hk
      refine go_V I (call_runV (rest := []) C I (c_W_flip C.2.2.2.1 C.2.2.2.2.1 l h5 _) wd_W_flip (q0 := 4) (ci := 4) rfl rfl k_255 ⟨rfl, rfl⟩ ⟨by decide, by decide⟩ rfl hl.1 rfl (Nat.le_of_ble_eq_true rfl) d_X_guarded_45) (fun H locs I => ?_)
      refine lv_aload_n hx hb d_X_guarded_48 rfl (lv_at hl 0 rfl) ?_
      refine g_X_gate C I k_230 d_X_guarded_49 ?_
      obtain ⟨r8, u6, h7, hk⟩ := cI_u hk
      refine go_I I (call_runV (rest := []) C I (c_G_passes C.2.2.2.1 C.2.2.2.2.1 l h7 _) wd_G_passes (q0 := 1) (ci := 1) rfl rfl k_271 ⟨rfl, rfl⟩ ⟨by decide, by decide⟩ rfl hl.1 rfl (Nat.le_of_ble_eq_true rfl) d_X_guarded_52) (fun H locs I => ?_)
      obtain ⟨z9, hj12, hk⟩ := bnd_u hk
      have Khj12 : ∀ (H : Heap) (locs : List Loc) (ls : Array Slot), Dy clA D (xW a cs) s H locs u6 → lv_has ls 4 [(0, .ref (a 6)), (1, .int x1), (2, .int z9), (3, .int x3)] → W p l e rm_X_guarded s m args below meth c H locs 0 0 Q (F0 m 61 ls []) := by
        intro H locs ls I hl
        refine lv_aload_n hx hb d_X_guarded_61 rfl (lv_at hl 0 rfl) ?_
        refine g_X_walk C I k_229 d_X_guarded_62 ?_
        refine lv_iload_n hx hb d_X_guarded_65 rfl (lv_at hl 3 rfl) ?_
        refine lv_iload_n hx hb d_X_guarded_66 rfl (lv_at hl 1 rfl) ?_
        obtain ⟨u10, h11, hk⟩ := cV_u hk
        refine go_V I (call_runV (rest := []) C I (c_W_flip C.2.2.2.1 C.2.2.2.2.1 l h11 _) wd_W_flip (q0 := 4) (ci := 4) rfl rfl k_255 ⟨rfl, rfl⟩ ⟨by decide, by decide⟩ rfl hl.1 rfl (Nat.le_of_ble_eq_true rfl) d_X_guarded_67) (fun H locs I => ?_)
        refine lv_iinc (v := (x3 + 1)) (lv' := [(3, .int (x3 + 1)), (0, .ref (a 6)), (1, .int x1), (2, .int z9)]) hx hb d_X_guarded_70 hl (k := 3) rfl rfl (by decide) rfl (fun ls hl => ?_)
        refine lv_goto (tgt := 28) hx hb d_X_guarded_73 (by decide) ?_
        exact ih u10 z9 (x3 + 1) _ _ _ hk I (lv_sub hl [1, 2, 3, 0] rfl)
      refine lv_if_ne (tgt := 61) hx hb d_X_guarded_55 (by decide) (fun hc => ?_) (fun hc => ?_)
      · replace hj12 := ie_u hc hj12
        obtain rfl := ep1 hj12
        exact Khj12 _ _ _ I (lv_sub hl [0, 1, 2, 3] rfl)
      · replace hj12 := it_u hc hj12
        refine lv_iinc (v := (x2 + 1)) (lv' := [(2, .int (x2 + 1)), (0, .ref (a 6)), (1, .int x1), (3, .int x3)]) hx hb d_X_guarded_58 hl (k := 2) rfl rfl (by decide) rfl (fun ls hl => ?_)
        obtain rfl := ep1 hj12
        exact Khj12 _ _ _ I (lv_sub hl [1, 2, 0, 3] rfl)
set_option maxHeartbeats 4000000 in
set_option maxRecDepth 100000 in
theorem c_X_guarded {sk sv9 st : Nat → Nat} {D : va_G} {cs : Nat → ClassId} {a : Nat → Nat} (hw : wD (xW a cs)) (hz : zOK (xZ sk sv9 st)) (l : Launch) {u : St} {x1 : Int32} {r : Int32} {u' : St} (hk : f_X_guarded u x1 = some (r, u')) : KI clA D cs (xW a cs) (xZ sk sv9 st) l y_X_guarded (.code y_X_guarded prog_1_method_11_code 4 (Option.some Jvm.ClassFile.FieldType.int)) rm_X_guarded [.ref (a 6), .int x1] u r u' := by
  unfold f_X_guarded at hk
  refine KI.of (by decide) (Nat.le_of_ble_eq_true rfl) rfl hw hz ?_
  intro p e s m args below meth c Q C I hQ ls hl
  have hl : lv_has ls 4 [(0, .ref (a 6)), (1, .int x1)] := hl
  have hx := C.1.1
  have hb := C.1.2.1
  refine lv_iload_n hx hb d_X_guarded_0 rfl (lv_at hl 1 rfl) ?_
  refine lv_iconst (v := 1) hx hb d_X_guarded_1 (by decide) ?_
  refine lv_icmp_lt (tgt := 22) hx hb d_X_guarded_2 (by decide) (fun hc => ?_) (fun hc => ?_)
  · replace hk := it_u hc hk
    refine lv_iconst (v := (-1)) hx hb d_X_guarded_22 (by decide) ?_
    exact hQ _ _ _ _ _ _ I hk d_X_guarded_23
  · replace hk := ie_u hc hk
    refine lv_iload_n hx hb d_X_guarded_5 rfl (lv_at hl 1 rfl) ?_
    refine lv_sipush (v := 255) hx hb d_X_guarded_6 (by decide) ?_
    refine lv_icmp_gt (tgt := 22) hx hb d_X_guarded_9 (by decide) (fun hc => ?_) (fun hc => ?_)
    · replace hk := it_u hc hk
      refine lv_iconst (v := (-1)) hx hb d_X_guarded_22 (by decide) ?_
      exact hQ _ _ _ _ _ _ I hk d_X_guarded_23
    · replace hk := ie_u hc hk
      refine lv_aload_n hx hb d_X_guarded_12 rfl (lv_at hl 0 rfl) ?_
      refine g_X_gate C I k_230 d_X_guarded_13 ?_
      obtain ⟨r3, u1, h2, hk⟩ := cI_u hk
      refine go_I I (call_runV (rest := []) C I (c_G_passes C.2.2.2.1 C.2.2.2.2.1 l h2 _) wd_G_passes (q0 := 1) (ci := 1) rfl rfl k_271 ⟨rfl, rfl⟩ ⟨by decide, by decide⟩ rfl hl.1 rfl (Nat.le_of_ble_eq_true rfl) d_X_guarded_16) (fun H locs I => ?_)
      refine lv_if_ne (tgt := 24) hx hb d_X_guarded_19 (by decide) (fun hc => ?_) (fun hc => ?_)
      · replace hk := ie_u hc hk
        refine lv_iconst (v := 0) hx hb d_X_guarded_24 (by decide) ?_
        refine lv_istore_n (lv' := [(2, .int 0), (0, .ref (a 6)), (1, .int x1)]) hx hb d_X_guarded_25 rfl hl (by decide) rfl (fun ls hl => ?_)
        refine lv_iconst (v := 0) hx hb d_X_guarded_26 (by decide) ?_
        refine lv_istore_n (lv' := [(3, .int 0), (2, .int 0), (0, .ref (a 6)), (1, .int x1)]) hx hb d_X_guarded_27 rfl hl (by decide) rfl (fun ls hl => ?_)
        obtain ⟨⟨u13, z14⟩, hj15, hk⟩ := cT_u hk
        refine w_X_guarded_L28 C (fun H locs ls I hl => ?_) FU u1 0 0 _ _ _ hj15 I (lv_sub hl [2, 3, 1, 0] rfl)
        refine lv_iload_n hx hb d_X_guarded_76 rfl (lv_at hl 0 rfl) ?_
        exact hQ _ _ _ _ _ _ I hk d_X_guarded_77
      · replace hk := it_u hc hk
        refine lv_iconst (v := (-1)) hx hb d_X_guarded_22 (by decide) ?_
        exact hQ _ _ _ _ _ _ I hk d_X_guarded_23
def rm_X_beginnings : Room := { frames := 9, cells := 0, slots := 0, locals := 211 }
noncomputable def f_X_beginnings (u : St) : Option (Int32 × St) := cI (f_G_passes u) fun r3 u1 => bnd (if r3 = 0 then ((-1)) else ((u1.1 0))) fun (z4 : Int32) => some (z4, u1)
set_option maxHeartbeats 4000000 in
set_option maxRecDepth 100000 in
theorem c_X_beginnings {sk sv9 st : Nat → Nat} {D : va_G} {cs : Nat → ClassId} {a : Nat → Nat} (hw : wD (xW a cs)) (hz : zOK (xZ sk sv9 st)) (l : Launch) {u : St} {r : Int32} {u' : St} (hk : f_X_beginnings u = some (r, u')) : KI clA D cs (xW a cs) (xZ sk sv9 st) l y_X_beginnings (.code y_X_beginnings prog_1_method_12_code 1 (Option.some Jvm.ClassFile.FieldType.int)) rm_X_beginnings [.ref (a 6)] u r u' := by
  unfold f_X_beginnings at hk
  refine KI.of (by decide) (Nat.le_of_ble_eq_true rfl) rfl hw hz ?_
  intro p e s m args below meth c Q C I hQ ls hl
  have hl : lv_has ls 1 [(0, .ref (a 6))] := hl
  have hx := C.1.1
  have hb := C.1.2.1
  refine lv_aload_n hx hb d_X_beginnings_0 rfl (lv_at hl 0 rfl) ?_
  refine g_X_gate C I k_230 d_X_beginnings_1 ?_
  obtain ⟨r3, u1, h2, hk⟩ := cI_u hk
  refine go_I I (call_runV (rest := []) C I (c_G_passes C.2.2.2.1 C.2.2.2.2.1 l h2 _) wd_G_passes (q0 := 1) (ci := 1) rfl rfl k_271 ⟨rfl, rfl⟩ ⟨by decide, by decide⟩ rfl hl.1 rfl (Nat.le_of_ble_eq_true rfl) d_X_beginnings_4) (fun H locs I => ?_)
  obtain ⟨z4, hj5, hk⟩ := bnd_u hk
  have Khj5 : ∀ (H : Heap) (locs : List Loc) (ls : Array Slot), Dy clA D (xW a cs) s H locs u1 → lv_has ls 1 [] → W p l e rm_X_beginnings s m args below meth c H locs 0 0 Q (F0 m 21 ls [.int z4]) := by
    intro H locs ls I hl
    exact hQ _ _ _ _ _ _ I hk d_X_beginnings_21
  refine lv_if_eq (tgt := 20) hx hb d_X_beginnings_7 (by decide) (fun hc => ?_) (fun hc => ?_)
  · replace hj5 := it_u hc hj5
    refine lv_iconst (v := (-1)) hx hb d_X_beginnings_20 (by decide) ?_
    obtain rfl := ep1 hj5
    exact Khj5 _ _ _ I (lv_sub hl [] rfl)
  · replace hj5 := ie_u hc hj5
    refine lv_aload_n hx hb d_X_beginnings_10 rfl (lv_at hl 0 rfl) ?_
    refine g_X_walk C I k_229 d_X_beginnings_11 ?_
    refine g_W_length C I k_33 d_X_beginnings_14 ?_
    refine lv_goto (tgt := 21) hx hb d_X_beginnings_17 (by decide) ?_
    obtain rfl := ep1 hj5
    exact Khj5 _ _ _ I (lv_sub hl [] rfl)
