theorem dL_all_0 : decode cL_all 0 = .ok (.aload_n 0, 1) := by decide +kernel
theorem dL_all_1 : decode cL_all 1 = .ok (.bipush 7, 2) := by decide +kernel
theorem dL_all_3 : decode cL_all 3 = .ok (.invokevirtual 24, 3) := by decide +kernel
theorem dL_all_6 : decode cL_all 6 = .ok (.i2l, 1) := by decide +kernel
theorem dL_all_7 : decode cL_all 7 = .ok (.lstore_n 1, 1) := by decide +kernel
theorem dL_all_8 : decode cL_all 8 = .ok (.iconst 0, 1) := by decide +kernel
theorem dL_all_9 : decode cL_all 9 = .ok (.istore_n 3, 1) := by decide +kernel
theorem dL_all_10 : decode cL_all 10 = .ok (.iload_n 3, 1) := by decide +kernel
theorem dL_all_11 : decode cL_all 11 = .ok (.aload_n 0, 1) := by decide +kernel
theorem dL_all_12 : decode cL_all 12 = .ok (.iconst 0, 1) := by decide +kernel
theorem dL_all_13 : decode cL_all 13 = .ok (.invokevirtual 24, 3) := by decide +kernel
theorem dL_all_16 : decode cL_all 16 = .ok (.if_icmp .ge 92, 3) := by decide +kernel
theorem dL_all_19 : decode cL_all 19 = .ok (.iconst 0, 1) := by decide +kernel
theorem dL_all_20 : decode cL_all 20 = .ok (.istore 4, 2) := by decide +kernel
theorem dL_all_22 : decode cL_all 22 = .ok (.iload 4, 2) := by decide +kernel
theorem dL_all_24 : decode cL_all 24 = .ok (.bipush 11, 2) := by decide +kernel
theorem dL_all_26 : decode cL_all 26 = .ok (.if_icmp .ge 24, 3) := by decide +kernel
theorem dL_all_29 : decode cL_all 29 = .ok (.lload_n 1, 1) := by decide +kernel
theorem dL_all_30 : decode cL_all 30 = .ok (.ldc2_w 45, 3) := by decide +kernel
theorem dL_all_33 : decode cL_all 33 = .ok (.lmul, 1) := by decide +kernel
theorem dL_all_34 : decode cL_all 34 = .ok (.aload_n 0, 1) := by decide +kernel
theorem dL_all_35 : decode cL_all 35 = .ok (.iload_n 3, 1) := by decide +kernel
theorem dL_all_36 : decode cL_all 36 = .ok (.iload 4, 2) := by decide +kernel
theorem dL_all_38 : decode cL_all 38 = .ok (.invokevirtual 47, 3) := by decide +kernel
theorem dL_all_41 : decode cL_all 41 = .ok (.i2l, 1) := by decide +kernel
theorem dL_all_42 : decode cL_all 42 = .ok (.ladd, 1) := by decide +kernel
theorem dL_all_43 : decode cL_all 43 = .ok (.lstore_n 1, 1) := by decide +kernel
theorem dL_all_44 : decode cL_all 44 = .ok (.iinc 4 1, 3) := by decide +kernel
theorem dL_all_47 : decode cL_all 47 = .ok (.goto (-25), 3) := by decide +kernel
theorem dL_all_50 : decode cL_all 50 = .ok (.iconst 0, 1) := by decide +kernel
theorem dL_all_51 : decode cL_all 51 = .ok (.istore 4, 2) := by decide +kernel
theorem dL_all_53 : decode cL_all 53 = .ok (.iload 4, 2) := by decide +kernel
theorem dL_all_55 : decode cL_all 55 = .ok (.aload_n 0, 1) := by decide +kernel
theorem dL_all_56 : decode cL_all 56 = .ok (.iload_n 3, 1) := by decide +kernel
theorem dL_all_57 : decode cL_all 57 = .ok (.iconst 5, 1) := by decide +kernel
theorem dL_all_58 : decode cL_all 58 = .ok (.invokevirtual 47, 3) := by decide +kernel
theorem dL_all_61 : decode cL_all 61 = .ok (.if_icmp .ge 41, 3) := by decide +kernel
theorem dL_all_64 : decode cL_all 64 = .ok (.iconst 0, 1) := by decide +kernel
theorem dL_all_65 : decode cL_all 65 = .ok (.istore 5, 2) := by decide +kernel
theorem dL_all_67 : decode cL_all 67 = .ok (.iload 5, 2) := by decide +kernel
theorem dL_all_69 : decode cL_all 69 = .ok (.iconst 5, 1) := by decide +kernel
theorem dL_all_70 : decode cL_all 70 = .ok (.if_icmp .ge 26, 3) := by decide +kernel
theorem dL_all_73 : decode cL_all 73 = .ok (.lload_n 1, 1) := by decide +kernel
theorem dL_all_74 : decode cL_all 74 = .ok (.ldc2_w 45, 3) := by decide +kernel
theorem dL_all_77 : decode cL_all 77 = .ok (.lmul, 1) := by decide +kernel
theorem dL_all_78 : decode cL_all 78 = .ok (.aload_n 0, 1) := by decide +kernel
theorem dL_all_79 : decode cL_all 79 = .ok (.iload_n 3, 1) := by decide +kernel
theorem dL_all_80 : decode cL_all 80 = .ok (.iload 4, 2) := by decide +kernel
theorem dL_all_82 : decode cL_all 82 = .ok (.iload 5, 2) := by decide +kernel
theorem dL_all_84 : decode cL_all 84 = .ok (.invokevirtual 51, 3) := by decide +kernel
theorem dL_all_87 : decode cL_all 87 = .ok (.i2l, 1) := by decide +kernel
theorem dL_all_88 : decode cL_all 88 = .ok (.ladd, 1) := by decide +kernel
theorem dL_all_89 : decode cL_all 89 = .ok (.lstore_n 1, 1) := by decide +kernel
theorem dL_all_90 : decode cL_all 90 = .ok (.iinc 5 1, 3) := by decide +kernel
theorem dL_all_93 : decode cL_all 93 = .ok (.goto (-26), 3) := by decide +kernel
theorem dL_all_96 : decode cL_all 96 = .ok (.iinc 4 1, 3) := by decide +kernel
theorem dL_all_99 : decode cL_all 99 = .ok (.goto (-46), 3) := by decide +kernel
theorem dL_all_102 : decode cL_all 102 = .ok (.iinc 3 1, 3) := by decide +kernel
theorem dL_all_105 : decode cL_all 105 = .ok (.goto (-95), 3) := by decide +kernel
theorem dL_all_108 : decode cL_all 108 = .ok (.iconst 0, 1) := by decide +kernel
theorem dL_all_109 : decode cL_all 109 = .ok (.istore_n 3, 1) := by decide +kernel
theorem dL_all_110 : decode cL_all 110 = .ok (.iload_n 3, 1) := by decide +kernel
theorem dL_all_111 : decode cL_all 111 = .ok (.bipush 8, 2) := by decide +kernel
theorem dL_all_113 : decode cL_all 113 = .ok (.if_icmp .ge 53, 3) := by decide +kernel
theorem dL_all_116 : decode cL_all 116 = .ok (.lload_n 1, 1) := by decide +kernel
theorem dL_all_117 : decode cL_all 117 = .ok (.ldc2_w 45, 3) := by decide +kernel
theorem dL_all_120 : decode cL_all 120 = .ok (.lmul, 1) := by decide +kernel
theorem dL_all_121 : decode cL_all 121 = .ok (.aload_n 0, 1) := by decide +kernel
theorem dL_all_122 : decode cL_all 122 = .ok (.iload_n 3, 1) := by decide +kernel
theorem dL_all_123 : decode cL_all 123 = .ok (.invokevirtual 55, 3) := by decide +kernel
theorem dL_all_126 : decode cL_all 126 = .ok (.ldc2_w 59, 3) := by decide +kernel
theorem dL_all_129 : decode cL_all 129 = .ok (.lmul, 1) := by decide +kernel
theorem dL_all_130 : decode cL_all 130 = .ok (.ladd, 1) := by decide +kernel
theorem dL_all_131 : decode cL_all 131 = .ok (.aload_n 0, 1) := by decide +kernel
theorem dL_all_132 : decode cL_all 132 = .ok (.iload_n 3, 1) := by decide +kernel
theorem dL_all_133 : decode cL_all 133 = .ok (.invokevirtual 61, 3) := by decide +kernel
theorem dL_all_136 : decode cL_all 136 = .ok (.ldc2_w 64, 3) := by decide +kernel
theorem dL_all_139 : decode cL_all 139 = .ok (.lmul, 1) := by decide +kernel
theorem dL_all_140 : decode cL_all 140 = .ok (.ladd, 1) := by decide +kernel
theorem dL_all_141 : decode cL_all 141 = .ok (.aload_n 0, 1) := by decide +kernel
theorem dL_all_142 : decode cL_all 142 = .ok (.iload_n 3, 1) := by decide +kernel
theorem dL_all_143 : decode cL_all 143 = .ok (.invokevirtual 24, 3) := by decide +kernel
theorem dL_all_146 : decode cL_all 146 = .ok (.i2l, 1) := by decide +kernel
theorem dL_all_147 : decode cL_all 147 = .ok (.ldc2_w 66, 3) := by decide +kernel
theorem dL_all_150 : decode cL_all 150 = .ok (.lmul, 1) := by decide +kernel
theorem dL_all_151 : decode cL_all 151 = .ok (.ladd, 1) := by decide +kernel
theorem dL_all_152 : decode cL_all 152 = .ok (.aload_n 0, 1) := by decide +kernel
theorem dL_all_153 : decode cL_all 153 = .ok (.iload_n 3, 1) := by decide +kernel
theorem dL_all_154 : decode cL_all 154 = .ok (.invokevirtual 68, 3) := by decide +kernel
theorem dL_all_157 : decode cL_all 157 = .ok (.i2l, 1) := by decide +kernel
theorem dL_all_158 : decode cL_all 158 = .ok (.ladd, 1) := by decide +kernel
theorem dL_all_159 : decode cL_all 159 = .ok (.lstore_n 1, 1) := by decide +kernel
theorem dL_all_160 : decode cL_all 160 = .ok (.iinc 3 1, 3) := by decide +kernel
theorem dL_all_163 : decode cL_all 163 = .ok (.goto (-53), 3) := by decide +kernel
theorem dL_all_166 : decode cL_all 166 = .ok (.iconst 0, 1) := by decide +kernel
theorem dL_all_167 : decode cL_all 167 = .ok (.istore_n 3, 1) := by decide +kernel
theorem dL_all_168 : decode cL_all 168 = .ok (.iload_n 3, 1) := by decide +kernel
theorem dL_all_169 : decode cL_all 169 = .ok (.bipush 16, 2) := by decide +kernel
theorem dL_all_171 : decode cL_all 171 = .ok (.if_icmp .ge 49, 3) := by decide +kernel
theorem dL_all_174 : decode cL_all 174 = .ok (.lload_n 1, 1) := by decide +kernel
theorem dL_all_175 : decode cL_all 175 = .ok (.ldc2_w 45, 3) := by decide +kernel
theorem dL_all_178 : decode cL_all 178 = .ok (.lmul, 1) := by decide +kernel
theorem dL_all_179 : decode cL_all 179 = .ok (.aload_n 0, 1) := by decide +kernel
theorem dL_all_180 : decode cL_all 180 = .ok (.iload_n 3, 1) := by decide +kernel
theorem dL_all_181 : decode cL_all 181 = .ok (.invokevirtual 71, 3) := by decide +kernel
theorem dL_all_184 : decode cL_all 184 = .ok (.i2l, 1) := by decide +kernel
theorem dL_all_185 : decode cL_all 185 = .ok (.ldc2_w 59, 3) := by decide +kernel
theorem dL_all_188 : decode cL_all 188 = .ok (.lmul, 1) := by decide +kernel
theorem dL_all_189 : decode cL_all 189 = .ok (.ladd, 1) := by decide +kernel
theorem dL_all_190 : decode cL_all 190 = .ok (.aload_n 0, 1) := by decide +kernel
theorem dL_all_191 : decode cL_all 191 = .ok (.iload_n 3, 1) := by decide +kernel
theorem dL_all_192 : decode cL_all 192 = .ok (.iconst 1, 1) := by decide +kernel
theorem dL_all_193 : decode cL_all 193 = .ok (.invokevirtual 74, 3) := by decide +kernel
theorem dL_all_196 : decode cL_all 196 = .ok (.i2l, 1) := by decide +kernel
theorem dL_all_197 : decode cL_all 197 = .ok (.ladd, 1) := by decide +kernel
theorem dL_all_198 : decode cL_all 198 = .ok (.aload_n 0, 1) := by decide +kernel
theorem dL_all_199 : decode cL_all 199 = .ok (.iload_n 3, 1) := by decide +kernel
theorem dL_all_200 : decode cL_all 200 = .ok (.aload_n 0, 1) := by decide +kernel
theorem dL_all_201 : decode cL_all 201 = .ok (.bipush 7, 2) := by decide +kernel
theorem dL_all_203 : decode cL_all 203 = .ok (.invokevirtual 24, 3) := by decide +kernel
theorem dL_all_206 : decode cL_all 206 = .ok (.iconst 1, 1) := by decide +kernel
theorem dL_all_207 : decode cL_all 207 = .ok (.iadd, 1) := by decide +kernel
theorem dL_all_208 : decode cL_all 208 = .ok (.invokevirtual 77, 3) := by decide +kernel
theorem dL_all_211 : decode cL_all 211 = .ok (.i2l, 1) := by decide +kernel
theorem dL_all_212 : decode cL_all 212 = .ok (.ladd, 1) := by decide +kernel
theorem dL_all_213 : decode cL_all 213 = .ok (.lstore_n 1, 1) := by decide +kernel
theorem dL_all_214 : decode cL_all 214 = .ok (.iinc 3 1, 3) := by decide +kernel
theorem dL_all_217 : decode cL_all 217 = .ok (.goto (-49), 3) := by decide +kernel
theorem dL_all_220 : decode cL_all 220 = .ok (.iconst 0, 1) := by decide +kernel
theorem dL_all_221 : decode cL_all 221 = .ok (.istore_n 3, 1) := by decide +kernel
theorem dL_all_222 : decode cL_all 222 = .ok (.iload_n 3, 1) := by decide +kernel
theorem dL_all_223 : decode cL_all 223 = .ok (.bipush 60, 2) := by decide +kernel
theorem dL_all_225 : decode cL_all 225 = .ok (.if_icmp .ge 47, 3) := by decide +kernel
theorem dL_all_228 : decode cL_all 228 = .ok (.lload_n 1, 1) := by decide +kernel
theorem dL_all_229 : decode cL_all 229 = .ok (.ldc2_w 45, 3) := by decide +kernel
theorem dL_all_232 : decode cL_all 232 = .ok (.lmul, 1) := by decide +kernel
theorem dL_all_233 : decode cL_all 233 = .ok (.aload_n 0, 1) := by decide +kernel
theorem dL_all_234 : decode cL_all 234 = .ok (.iload_n 3, 1) := by decide +kernel
theorem dL_all_235 : decode cL_all 235 = .ok (.iconst 0, 1) := by decide +kernel
theorem dL_all_236 : decode cL_all 236 = .ok (.invokevirtual 80, 3) := by decide +kernel
theorem dL_all_239 : decode cL_all 239 = .ok (.i2l, 1) := by decide +kernel
theorem dL_all_240 : decode cL_all 240 = .ok (.ldc2_w 59, 3) := by decide +kernel
theorem dL_all_243 : decode cL_all 243 = .ok (.lmul, 1) := by decide +kernel
theorem dL_all_244 : decode cL_all 244 = .ok (.ladd, 1) := by decide +kernel
theorem dL_all_245 : decode cL_all 245 = .ok (.aload_n 0, 1) := by decide +kernel
theorem dL_all_246 : decode cL_all 246 = .ok (.iload_n 3, 1) := by decide +kernel
theorem dL_all_247 : decode cL_all 247 = .ok (.iconst 1, 1) := by decide +kernel
theorem dL_all_248 : decode cL_all 248 = .ok (.invokevirtual 80, 3) := by decide +kernel
theorem dL_all_251 : decode cL_all 251 = .ok (.i2l, 1) := by decide +kernel
theorem dL_all_252 : decode cL_all 252 = .ok (.ldc2_w 66, 3) := by decide +kernel
theorem dL_all_255 : decode cL_all 255 = .ok (.lmul, 1) := by decide +kernel
theorem dL_all_256 : decode cL_all 256 = .ok (.ladd, 1) := by decide +kernel
theorem dL_all_257 : decode cL_all 257 = .ok (.aload_n 0, 1) := by decide +kernel
theorem dL_all_258 : decode cL_all 258 = .ok (.iload_n 3, 1) := by decide +kernel
theorem dL_all_259 : decode cL_all 259 = .ok (.iconst 2, 1) := by decide +kernel
theorem dL_all_260 : decode cL_all 260 = .ok (.invokevirtual 80, 3) := by decide +kernel
theorem dL_all_263 : decode cL_all 263 = .ok (.i2l, 1) := by decide +kernel
theorem dL_all_264 : decode cL_all 264 = .ok (.ladd, 1) := by decide +kernel
theorem dL_all_265 : decode cL_all 265 = .ok (.lstore_n 1, 1) := by decide +kernel
theorem dL_all_266 : decode cL_all 266 = .ok (.iinc 3 1, 3) := by decide +kernel
theorem dL_all_269 : decode cL_all 269 = .ok (.goto (-47), 3) := by decide +kernel
theorem dL_all_272 : decode cL_all 272 = .ok (.lload_n 1, 1) := by decide +kernel
theorem dL_all_273 : decode cL_all 273 = .ok (.lreturn, 1) := by decide +kernel
theorem dL_think_0 : decode cL_think 0 = .ok (.iload_n 1, 1) := by decide +kernel
theorem dL_think_1 : decode cL_think 1 = .ok (.bipush 7, 2) := by decide +kernel
theorem dL_think_3 : decode cL_think 3 = .ok (.irem, 1) := by decide +kernel
theorem dL_think_4 : decode cL_think 4 = .ok (.istore_n 2, 1) := by decide +kernel
theorem dL_think_5 : decode cL_think 5 = .ok (.aload_n 0, 1) := by decide +kernel
theorem dL_think_6 : decode cL_think 6 = .ok (.iload_n 2, 1) := by decide +kernel
theorem dL_think_7 : decode cL_think 7 = .ok (.invokevirtual 83, 3) := by decide +kernel
theorem dL_think_10 : decode cL_think 10 = .ok (.pop, 1) := by decide +kernel
theorem dL_think_11 : decode cL_think 11 = .ok (.aload_n 0, 1) := by decide +kernel
theorem dL_think_12 : decode cL_think 12 = .ok (.iload_n 1, 1) := by decide +kernel
theorem dL_think_13 : decode cL_think 13 = .ok (.iconst 3, 1) := by decide +kernel
theorem dL_think_14 : decode cL_think 14 = .ok (.ishr, 1) := by decide +kernel
theorem dL_think_15 : decode cL_think 15 = .ok (.iconst 3, 1) := by decide +kernel
theorem dL_think_16 : decode cL_think 16 = .ok (.iand, 1) := by decide +kernel
theorem dL_think_17 : decode cL_think 17 = .ok (.invokevirtual 86, 3) := by decide +kernel
theorem dL_think_20 : decode cL_think 20 = .ok (.pop, 1) := by decide +kernel
theorem dL_think_21 : decode cL_think 21 = .ok (.aload_n 0, 1) := by decide +kernel
theorem dL_think_22 : decode cL_think 22 = .ok (.iload_n 1, 1) := by decide +kernel
theorem dL_think_23 : decode cL_think 23 = .ok (.iconst 3, 1) := by decide +kernel
theorem dL_think_24 : decode cL_think 24 = .ok (.irem, 1) := by decide +kernel
theorem dL_think_25 : decode cL_think 25 = .ok (.iload_n 1, 1) := by decide +kernel
theorem dL_think_26 : decode cL_think 26 = .ok (.iconst 5, 1) := by decide +kernel
theorem dL_think_27 : decode cL_think 27 = .ok (.ishr, 1) := by decide +kernel
theorem dL_think_28 : decode cL_think 28 = .ok (.iconst 3, 1) := by decide +kernel
theorem dL_think_29 : decode cL_think 29 = .ok (.iand, 1) := by decide +kernel
theorem dL_think_30 : decode cL_think 30 = .ok (.iconst 1, 1) := by decide +kernel
theorem dL_think_31 : decode cL_think 31 = .ok (.invokevirtual 89, 3) := by decide +kernel
theorem dL_think_34 : decode cL_think 34 = .ok (.pop, 1) := by decide +kernel
theorem dL_think_35 : decode cL_think 35 = .ok (.aload_n 0, 1) := by decide +kernel
theorem dL_think_36 : decode cL_think 36 = .ok (.iload_n 2, 1) := by decide +kernel
theorem dL_think_37 : decode cL_think 37 = .ok (.invokevirtual 92, 3) := by decide +kernel
theorem dL_think_40 : decode cL_think 40 = .ok (.pop, 1) := by decide +kernel
theorem dL_think_41 : decode cL_think 41 = .ok (.aload_n 0, 1) := by decide +kernel
theorem dL_think_42 : decode cL_think 42 = .ok (.iload_n 2, 1) := by decide +kernel
theorem dL_think_43 : decode cL_think 43 = .ok (.invokevirtual 95, 3) := by decide +kernel
theorem dL_think_46 : decode cL_think 46 = .ok (.pop, 1) := by decide +kernel
theorem dL_think_47 : decode cL_think 47 = .ok (.aload_n 0, 1) := by decide +kernel
theorem dL_think_48 : decode cL_think 48 = .ok (.iload_n 2, 1) := by decide +kernel
theorem dL_think_49 : decode cL_think 49 = .ok (.iload_n 2, 1) := by decide +kernel
theorem dL_think_50 : decode cL_think 50 = .ok (.iconst 1, 1) := by decide +kernel
theorem dL_think_51 : decode cL_think 51 = .ok (.iadd, 1) := by decide +kernel
theorem dL_think_52 : decode cL_think 52 = .ok (.bipush 7, 2) := by decide +kernel
theorem dL_think_54 : decode cL_think 54 = .ok (.irem, 1) := by decide +kernel
theorem dL_think_55 : decode cL_think 55 = .ok (.invokevirtual 98, 3) := by decide +kernel
theorem dL_think_58 : decode cL_think 58 = .ok (.pop, 1) := by decide +kernel
theorem dL_think_59 : decode cL_think 59 = .ok (.aload_n 0, 1) := by decide +kernel
theorem dL_think_60 : decode cL_think 60 = .ok (.iload_n 2, 1) := by decide +kernel
theorem dL_think_61 : decode cL_think 61 = .ok (.aload_n 0, 1) := by decide +kernel
theorem dL_think_62 : decode cL_think 62 = .ok (.bipush 7, 2) := by decide +kernel
theorem dL_think_64 : decode cL_think 64 = .ok (.invokevirtual 24, 3) := by decide +kernel
theorem dL_think_67 : decode cL_think 67 = .ok (.iload_n 1, 1) := by decide +kernel
theorem dL_think_68 : decode cL_think 68 = .ok (.bipush 7, 2) := by decide +kernel
theorem dL_think_70 : decode cL_think 70 = .ok (.ishr, 1) := by decide +kernel
theorem dL_think_71 : decode cL_think 71 = .ok (.bipush 9, 2) := by decide +kernel
theorem dL_think_73 : decode cL_think 73 = .ok (.irem, 1) := by decide +kernel
theorem dL_think_74 : decode cL_think 74 = .ok (.iadd, 1) := by decide +kernel
theorem dL_think_75 : decode cL_think 75 = .ok (.invokevirtual 101, 3) := by decide +kernel
theorem dL_think_78 : decode cL_think 78 = .ok (.pop, 1) := by decide +kernel
theorem dL_think_79 : decode cL_think 79 = .ok (.aload_n 0, 1) := by decide +kernel
theorem dL_think_80 : decode cL_think 80 = .ok (.iload_n 1, 1) := by decide +kernel
theorem dL_think_81 : decode cL_think 81 = .ok (.bipush 15, 2) := by decide +kernel
theorem dL_think_83 : decode cL_think 83 = .ok (.iand, 1) := by decide +kernel
theorem dL_think_84 : decode cL_think 84 = .ok (.iload_n 1, 1) := by decide +kernel
theorem dL_think_85 : decode cL_think 85 = .ok (.iconst 4, 1) := by decide +kernel
theorem dL_think_86 : decode cL_think 86 = .ok (.ishr, 1) := by decide +kernel
theorem dL_think_87 : decode cL_think 87 = .ok (.iconst 1, 1) := by decide +kernel
theorem dL_think_88 : decode cL_think 88 = .ok (.iand, 1) := by decide +kernel
theorem dL_think_89 : decode cL_think 89 = .ok (.iconst 0, 1) := by decide +kernel
theorem dL_think_90 : decode cL_think 90 = .ok (.invokevirtual 104, 3) := by decide +kernel
theorem dL_think_93 : decode cL_think 93 = .ok (.pop, 1) := by decide +kernel
theorem dL_think_94 : decode cL_think 94 = .ok (.aload_n 0, 1) := by decide +kernel
theorem dL_think_95 : decode cL_think 95 = .ok (.aload_n 0, 1) := by decide +kernel
theorem dL_think_96 : decode cL_think 96 = .ok (.bipush 7, 2) := by decide +kernel
theorem dL_think_98 : decode cL_think 98 = .ok (.invokevirtual 24, 3) := by decide +kernel
theorem dL_think_101 : decode cL_think 101 = .ok (.iload_n 1, 1) := by decide +kernel
theorem dL_think_102 : decode cL_think 102 = .ok (.bipush 7, 2) := by decide +kernel
theorem dL_think_104 : decode cL_think 104 = .ok (.ishr, 1) := by decide +kernel
theorem dL_think_105 : decode cL_think 105 = .ok (.bipush 9, 2) := by decide +kernel
theorem dL_think_107 : decode cL_think 107 = .ok (.irem, 1) := by decide +kernel
theorem dL_think_108 : decode cL_think 108 = .ok (.iadd, 1) := by decide +kernel
theorem dL_think_109 : decode cL_think 109 = .ok (.iconst 5, 1) := by decide +kernel
theorem dL_think_110 : decode cL_think 110 = .ok (.iconst 1, 1) := by decide +kernel
theorem dL_think_111 : decode cL_think 111 = .ok (.invokevirtual 107, 3) := by decide +kernel
theorem dL_think_114 : decode cL_think 114 = .ok (.pop, 1) := by decide +kernel
theorem dL_think_115 : decode cL_think 115 = .ok (.aload_n 0, 1) := by decide +kernel
theorem dL_think_116 : decode cL_think 116 = .ok (.iload_n 1, 1) := by decide +kernel
theorem dL_think_117 : decode cL_think 117 = .ok (.invokestatic 110, 3) := by decide +kernel
theorem dL_think_120 : decode cL_think 120 = .ok (.invokestatic 116, 3) := by decide +kernel
theorem dL_think_123 : decode cL_think 123 = .ok (.ifCond .eq 19, 3) := by decide +kernel
theorem dL_think_126 : decode cL_think 126 = .ok (.aload_n 0, 1) := by decide +kernel
theorem dL_think_127 : decode cL_think 127 = .ok (.iload_n 1, 1) := by decide +kernel
theorem dL_think_128 : decode cL_think 128 = .ok (.bipush 7, 2) := by decide +kernel
theorem dL_think_130 : decode cL_think 130 = .ok (.iand, 1) := by decide +kernel
theorem dL_think_131 : decode cL_think 131 = .ok (.iload_n 1, 1) := by decide +kernel
theorem dL_think_132 : decode cL_think 132 = .ok (.iconst 3, 1) := by decide +kernel
theorem dL_think_133 : decode cL_think 133 = .ok (.ishr, 1) := by decide +kernel
theorem dL_think_134 : decode cL_think 134 = .ok (.bipush 7, 2) := by decide +kernel
theorem dL_think_136 : decode cL_think 136 = .ok (.iand, 1) := by decide +kernel
theorem dL_think_137 : decode cL_think 137 = .ok (.iconst 1, 1) := by decide +kernel
theorem dL_think_138 : decode cL_think 138 = .ok (.invokevirtual 120, 3) := by decide +kernel
theorem dL_think_141 : decode cL_think 141 = .ok (.pop, 1) := by decide +kernel
theorem dL_think_142 : decode cL_think 142 = .ok (.aload_n 0, 1) := by decide +kernel
theorem dL_think_143 : decode cL_think 143 = .ok (.iload_n 1, 1) := by decide +kernel
theorem dL_think_144 : decode cL_think 144 = .ok (.iconst 2, 1) := by decide +kernel
theorem dL_think_145 : decode cL_think 145 = .ok (.ishr, 1) := by decide +kernel
theorem dL_think_146 : decode cL_think 146 = .ok (.invokestatic 110, 3) := by decide +kernel
theorem dL_think_149 : decode cL_think 149 = .ok (.invokestatic 116, 3) := by decide +kernel
theorem dL_think_152 : decode cL_think 152 = .ok (.ifCond .eq 12, 3) := by decide +kernel
theorem dL_think_155 : decode cL_think 155 = .ok (.aload_n 0, 1) := by decide +kernel
theorem dL_think_156 : decode cL_think 156 = .ok (.iload_n 1, 1) := by decide +kernel
theorem dL_think_157 : decode cL_think 157 = .ok (.bipush 7, 2) := by decide +kernel
theorem dL_think_159 : decode cL_think 159 = .ok (.iand, 1) := by decide +kernel
theorem dL_think_160 : decode cL_think 160 = .ok (.invokevirtual 123, 3) := by decide +kernel
theorem dL_think_163 : decode cL_think 163 = .ok (.pop, 1) := by decide +kernel
theorem dL_think_164 : decode cL_think 164 = .ok (.return_, 1) := by decide +kernel
theorem dL_law_0 : decode cL_law 0 = .ok (.new 19, 3) := by decide +kernel
theorem dL_law_3 : decode cL_law 3 = .ok (.dup, 1) := by decide +kernel
theorem dL_law_4 : decode cL_law 4 = .ok (.invokespecial 126, 3) := by decide +kernel
theorem dL_law_7 : decode cL_law 7 = .ok (.astore_n 1, 1) := by decide +kernel
theorem dL_law_8 : decode cL_law 8 = .ok (.bipush 8, 2) := by decide +kernel
theorem dL_law_10 : decode cL_law 10 = .ok (.newarray .long, 2) := by decide +kernel
theorem dL_law_12 : decode cL_law 12 = .ok (.astore_n 2, 1) := by decide +kernel
theorem dL_law_13 : decode cL_law 13 = .ok (.aload_n 0, 1) := by decide +kernel
theorem dL_law_14 : decode cL_law 14 = .ok (.iconst 0, 1) := by decide +kernel
theorem dL_law_15 : decode cL_law 15 = .ok (.invokestatic 127, 3) := by decide +kernel
theorem dL_law_18 : decode cL_law 18 = .ok (.bipush 12, 2) := by decide +kernel
theorem dL_law_20 : decode cL_law 20 = .ok (.irem, 1) := by decide +kernel
theorem dL_law_21 : decode cL_law 21 = .ok (.istore_n 3, 1) := by decide +kernel
theorem dL_law_22 : decode cL_law 22 = .ok (.aload_n 1, 1) := by decide +kernel
theorem dL_law_23 : decode cL_law 23 = .ok (.iconst 2, 1) := by decide +kernel
theorem dL_law_24 : decode cL_law 24 = .ok (.iload_n 3, 1) := by decide +kernel
theorem dL_law_25 : decode cL_law 25 = .ok (.invokevirtual 131, 3) := by decide +kernel
theorem dL_law_28 : decode cL_law 28 = .ok (.ifCond .ne 21, 3) := by decide +kernel
theorem dL_law_31 : decode cL_law 31 = .ok (.aload_n 1, 1) := by decide +kernel
theorem dL_law_32 : decode cL_law 32 = .ok (.iconst 0, 1) := by decide +kernel
theorem dL_law_33 : decode cL_law 33 = .ok (.aload_n 0, 1) := by decide +kernel
theorem dL_law_34 : decode cL_law 34 = .ok (.iconst 0, 1) := by decide +kernel
theorem dL_law_35 : decode cL_law 35 = .ok (.invokestatic 127, 3) := by decide +kernel
theorem dL_law_38 : decode cL_law 38 = .ok (.iconst 4, 1) := by decide +kernel
theorem dL_law_39 : decode cL_law 39 = .ok (.ishr, 1) := by decide +kernel
theorem dL_law_40 : decode cL_law 40 = .ok (.iconst 3, 1) := by decide +kernel
theorem dL_law_41 : decode cL_law 41 = .ok (.iand, 1) := by decide +kernel
theorem dL_law_42 : decode cL_law 42 = .ok (.invokevirtual 131, 3) := by decide +kernel
theorem dL_law_45 : decode cL_law 45 = .ok (.iconst 1, 1) := by decide +kernel
theorem dL_law_46 : decode cL_law 46 = .ok (.if_icmp .eq 5, 3) := by decide +kernel
theorem dL_law_49 : decode cL_law 49 = .ok (.iconst 0, 1) := by decide +kernel
theorem dL_law_50 : decode cL_law 50 = .ok (.ireturn, 1) := by decide +kernel
theorem dL_law_51 : decode cL_law 51 = .ok (.iconst 0, 1) := by decide +kernel
theorem dL_law_52 : decode cL_law 52 = .ok (.istore 4, 2) := by decide +kernel
theorem dL_law_54 : decode cL_law 54 = .ok (.iload 4, 2) := by decide +kernel
theorem dL_law_56 : decode cL_law 56 = .ok (.bipush 8, 2) := by decide +kernel
theorem dL_law_58 : decode cL_law 58 = .ok (.if_icmp .ge 34, 3) := by decide +kernel
theorem dL_law_61 : decode cL_law 61 = .ok (.aload_n 1, 1) := by decide +kernel
theorem dL_law_62 : decode cL_law 62 = .ok (.iload 4, 2) := by decide +kernel
theorem dL_law_64 : decode cL_law 64 = .ok (.iconst 1, 1) := by decide +kernel
theorem dL_law_65 : decode cL_law 65 = .ok (.aload_n 0, 1) := by decide +kernel
theorem dL_law_66 : decode cL_law 66 = .ok (.iconst 1, 1) := by decide +kernel
theorem dL_law_67 : decode cL_law 67 = .ok (.invokestatic 127, 3) := by decide +kernel
theorem dL_law_70 : decode cL_law 70 = .ok (.iload 4, 2) := by decide +kernel
theorem dL_law_72 : decode cL_law 72 = .ok (.iconst 2, 1) := by decide +kernel
theorem dL_law_73 : decode cL_law 73 = .ok (.iadd, 1) := by decide +kernel
theorem dL_law_74 : decode cL_law 74 = .ok (.irem, 1) := by decide +kernel
theorem dL_law_75 : decode cL_law 75 = .ok (.iadd, 1) := by decide +kernel
theorem dL_law_76 : decode cL_law 76 = .ok (.invokevirtual 134, 3) := by decide +kernel
theorem dL_law_79 : decode cL_law 79 = .ok (.bipush 10, 2) := by decide +kernel
theorem dL_law_81 : decode cL_law 81 = .ok (.if_icmp .eq 5, 3) := by decide +kernel
theorem dL_law_84 : decode cL_law 84 = .ok (.iconst 0, 1) := by decide +kernel
theorem dL_law_85 : decode cL_law 85 = .ok (.ireturn, 1) := by decide +kernel
theorem dL_law_86 : decode cL_law 86 = .ok (.iinc 4 1, 3) := by decide +kernel
theorem dL_law_89 : decode cL_law 89 = .ok (.goto (-35), 3) := by decide +kernel
theorem dL_law_92 : decode cL_law 92 = .ok (.aload_n 0, 1) := by decide +kernel
theorem dL_law_93 : decode cL_law 93 = .ok (.iconst 2, 1) := by decide +kernel
theorem dL_law_94 : decode cL_law 94 = .ok (.invokestatic 127, 3) := by decide +kernel
theorem dL_law_97 : decode cL_law 97 = .ok (.bipush 7, 2) := by decide +kernel
theorem dL_law_99 : decode cL_law 99 = .ok (.iand, 1) := by decide +kernel
theorem dL_law_100 : decode cL_law 100 = .ok (.istore 4, 2) := by decide +kernel
theorem dL_law_102 : decode cL_law 102 = .ok (.iconst 4, 1) := by decide +kernel
theorem dL_law_103 : decode cL_law 103 = .ok (.aload_n 0, 1) := by decide +kernel
theorem dL_law_104 : decode cL_law 104 = .ok (.iconst 2, 1) := by decide +kernel
theorem dL_law_105 : decode cL_law 105 = .ok (.invokestatic 127, 3) := by decide +kernel
theorem dL_law_108 : decode cL_law 108 = .ok (.bipush 13, 2) := by decide +kernel
theorem dL_law_110 : decode cL_law 110 = .ok (.irem, 1) := by decide +kernel
theorem dL_law_111 : decode cL_law 111 = .ok (.iadd, 1) := by decide +kernel
theorem dL_law_112 : decode cL_law 112 = .ok (.istore 5, 2) := by decide +kernel
theorem dL_law_114 : decode cL_law 114 = .ok (.aload_n 1, 1) := by decide +kernel
theorem dL_law_115 : decode cL_law 115 = .ok (.iload 4, 2) := by decide +kernel
theorem dL_law_117 : decode cL_law 117 = .ok (.iload 5, 2) := by decide +kernel
theorem dL_law_119 : decode cL_law 119 = .ok (.invokevirtual 137, 3) := by decide +kernel
theorem dL_law_122 : decode cL_law 122 = .ok (.bipush 16, 2) := by decide +kernel
theorem dL_law_124 : decode cL_law 124 = .ok (.if_icmp .eq 5, 3) := by decide +kernel
theorem dL_law_127 : decode cL_law 127 = .ok (.iconst 0, 1) := by decide +kernel
theorem dL_law_128 : decode cL_law 128 = .ok (.ireturn, 1) := by decide +kernel
theorem dL_law_129 : decode cL_law 129 = .ok (.bipush 24, 2) := by decide +kernel
theorem dL_law_131 : decode cL_law 131 = .ok (.newarray .int, 2) := by decide +kernel
theorem dL_law_133 : decode cL_law 133 = .ok (.astore 6, 2) := by decide +kernel
theorem dL_law_135 : decode cL_law 135 = .ok (.iconst 0, 1) := by decide +kernel
theorem dL_law_136 : decode cL_law 136 = .ok (.istore 7, 2) := by decide +kernel
theorem dL_law_138 : decode cL_law 138 = .ok (.lconst 0, 1) := by decide +kernel
theorem dL_law_139 : decode cL_law 139 = .ok (.lstore 8, 2) := by decide +kernel
theorem dL_law_141 : decode cL_law 141 = .ok (.iconst 0, 1) := by decide +kernel
theorem dL_law_142 : decode cL_law 142 = .ok (.istore 10, 2) := by decide +kernel
theorem dL_law_144 : decode cL_law 144 = .ok (.iload 10, 2) := by decide +kernel
theorem dL_law_146 : decode cL_law 146 = .ok (.bipush 24, 2) := by decide +kernel
theorem dL_law_148 : decode cL_law 148 = .ok (.if_icmp .ge 1129, 3) := by decide +kernel
theorem dL_law_151 : decode cL_law 151 = .ok (.aload_n 0, 1) := by decide +kernel
theorem dL_law_152 : decode cL_law 152 = .ok (.iconst 4, 1) := by decide +kernel
theorem dL_law_153 : decode cL_law 153 = .ok (.iload 10, 2) := by decide +kernel
theorem dL_law_155 : decode cL_law 155 = .ok (.iadd, 1) := by decide +kernel
theorem dL_law_156 : decode cL_law 156 = .ok (.invokestatic 127, 3) := by decide +kernel
theorem dL_law_159 : decode cL_law 159 = .ok (.istore 11, 2) := by decide +kernel
theorem dL_law_161 : decode cL_law 161 = .ok (.aload_n 1, 1) := by decide +kernel
theorem dL_law_162 : decode cL_law 162 = .ok (.bipush 7, 2) := by decide +kernel
theorem dL_law_164 : decode cL_law 164 = .ok (.invokevirtual 24, 3) := by decide +kernel
theorem dL_law_167 : decode cL_law 167 = .ok (.istore 12, 2) := by decide +kernel
theorem dL_law_169 : decode cL_law 169 = .ok (.iload 11, 2) := by decide +kernel
theorem dL_law_171 : decode cL_law 171 = .ok (.bipush 6, 2) := by decide +kernel
theorem dL_law_173 : decode cL_law 173 = .ok (.irem, 1) := by decide +kernel
theorem dL_law_174 : decode cL_law 174 = .ok (.tableswitch 387 0 4 #[34, 34, 34, 92, 297], 34) := by decide +kernel
theorem dL_law_208 : decode cL_law 208 = .ok (.aload_n 1, 1) := by decide +kernel
theorem dL_law_209 : decode cL_law 209 = .ok (.iload 11, 2) := by decide +kernel
theorem dL_law_211 : decode cL_law 211 = .ok (.iconst 3, 1) := by decide +kernel
theorem dL_law_212 : decode cL_law 212 = .ok (.ishr, 1) := by decide +kernel
theorem dL_law_213 : decode cL_law 213 = .ok (.invokestatic 110, 3) := by decide +kernel
theorem dL_law_216 : decode cL_law 216 = .ok (.invokestatic 116, 3) := by decide +kernel
theorem dL_law_219 : decode cL_law 219 = .ok (.ifCond .eq 45, 3) := by decide +kernel
theorem dL_law_222 : decode cL_law 222 = .ok (.aload_n 1, 1) := by decide +kernel
theorem dL_law_223 : decode cL_law 223 = .ok (.iload 11, 2) := by decide +kernel
theorem dL_law_225 : decode cL_law 225 = .ok (.iconst 4, 1) := by decide +kernel
theorem dL_law_226 : decode cL_law 226 = .ok (.ishr, 1) := by decide +kernel
theorem dL_law_227 : decode cL_law 227 = .ok (.bipush 7, 2) := by decide +kernel
theorem dL_law_229 : decode cL_law 229 = .ok (.iand, 1) := by decide +kernel
theorem dL_law_230 : decode cL_law 230 = .ok (.iconst 3, 1) := by decide +kernel
theorem dL_law_231 : decode cL_law 231 = .ok (.iload 11, 2) := by decide +kernel
theorem dL_law_233 : decode cL_law 233 = .ok (.bipush 7, 2) := by decide +kernel
theorem dL_law_235 : decode cL_law 235 = .ok (.ishr, 1) := by decide +kernel
theorem dL_law_236 : decode cL_law 236 = .ok (.iconst 1, 1) := by decide +kernel
theorem dL_law_237 : decode cL_law 237 = .ok (.iand, 1) := by decide +kernel
theorem dL_law_238 : decode cL_law 238 = .ok (.iadd, 1) := by decide +kernel
theorem dL_law_239 : decode cL_law 239 = .ok (.iconst 1, 1) := by decide +kernel
theorem dL_law_240 : decode cL_law 240 = .ok (.iload 11, 2) := by decide +kernel
theorem dL_law_242 : decode cL_law 242 = .ok (.bipush 8, 2) := by decide +kernel
theorem dL_law_244 : decode cL_law 244 = .ok (.ishr, 1) := by decide +kernel
theorem dL_law_245 : decode cL_law 245 = .ok (.sipush 150, 3) := by decide +kernel
theorem dL_law_248 : decode cL_law 248 = .ok (.irem, 1) := by decide +kernel
theorem dL_law_249 : decode cL_law 249 = .ok (.iadd, 1) := by decide +kernel
theorem dL_law_250 : decode cL_law 250 = .ok (.iconst (-1), 1) := by decide +kernel
theorem dL_law_251 : decode cL_law 251 = .ok (.invokevirtual 140, 3) := by decide +kernel
theorem dL_law_254 : decode cL_law 254 = .ok (.aload_n 1, 1) := by decide +kernel
theorem dL_law_255 : decode cL_law 255 = .ok (.iconst 0, 1) := by decide +kernel
theorem dL_law_256 : decode cL_law 256 = .ok (.invokevirtual 24, 3) := by decide +kernel
theorem dL_law_259 : decode cL_law 259 = .ok (.iconst 1, 1) := by decide +kernel
theorem dL_law_260 : decode cL_law 260 = .ok (.isub, 1) := by decide +kernel
theorem dL_law_261 : decode cL_law 261 = .ok (.if_icmp .eq 334, 3) := by decide +kernel
theorem dL_law_264 : decode cL_law 264 = .ok (.iconst 0, 1) := by decide +kernel
theorem dL_law_265 : decode cL_law 265 = .ok (.ireturn, 1) := by decide +kernel
theorem dL_law_266 : decode cL_law 266 = .ok (.iload 11, 2) := by decide +kernel
theorem dL_law_268 : decode cL_law 268 = .ok (.iconst 3, 1) := by decide +kernel
theorem dL_law_269 : decode cL_law 269 = .ok (.ishr, 1) := by decide +kernel
theorem dL_law_270 : decode cL_law 270 = .ok (.bipush 15, 2) := by decide +kernel
theorem dL_law_272 : decode cL_law 272 = .ok (.iand, 1) := by decide +kernel
theorem dL_law_273 : decode cL_law 273 = .ok (.istore 13, 2) := by decide +kernel
theorem dL_law_275 : decode cL_law 275 = .ok (.bipush 15, 2) := by decide +kernel
theorem dL_law_277 : decode cL_law 277 = .ok (.iload 13, 2) := by decide +kernel
theorem dL_law_279 : decode cL_law 279 = .ok (.iload 11, 2) := by decide +kernel
theorem dL_law_281 : decode cL_law 281 = .ok (.bipush 7, 2) := by decide +kernel
theorem dL_law_283 : decode cL_law 283 = .ok (.ishr, 1) := by decide +kernel
theorem dL_law_284 : decode cL_law 284 = .ok (.iconst 3, 1) := by decide +kernel
theorem dL_law_285 : decode cL_law 285 = .ok (.iand, 1) := by decide +kernel
theorem dL_law_286 : decode cL_law 286 = .ok (.iadd, 1) := by decide +kernel
theorem dL_law_287 : decode cL_law 287 = .ok (.invokestatic 144, 3) := by decide +kernel
theorem dL_law_290 : decode cL_law 290 = .ok (.istore 14, 2) := by decide +kernel
theorem dL_law_292 : decode cL_law 292 = .ok (.iload 12, 2) := by decide +kernel
theorem dL_law_294 : decode cL_law 294 = .ok (.iload 11, 2) := by decide +kernel
theorem dL_law_296 : decode cL_law 296 = .ok (.bipush 9, 2) := by decide +kernel
theorem dL_law_298 : decode cL_law 298 = .ok (.ishr, 1) := by decide +kernel
theorem dL_law_299 : decode cL_law 299 = .ok (.bipush 15, 2) := by decide +kernel
theorem dL_law_301 : decode cL_law 301 = .ok (.iand, 1) := by decide +kernel
theorem dL_law_302 : decode cL_law 302 = .ok (.iadd, 1) := by decide +kernel
theorem dL_law_303 : decode cL_law 303 = .ok (.istore 15, 2) := by decide +kernel
theorem dL_law_305 : decode cL_law 305 = .ok (.iload 15, 2) := by decide +kernel
theorem dL_law_307 : decode cL_law 307 = .ok (.iconst 1, 1) := by decide +kernel
theorem dL_law_308 : decode cL_law 308 = .ok (.iadd, 1) := by decide +kernel
theorem dL_law_309 : decode cL_law 309 = .ok (.iload 11, 2) := by decide +kernel
theorem dL_law_311 : decode cL_law 311 = .ok (.bipush 13, 2) := by decide +kernel
theorem dL_law_313 : decode cL_law 313 = .ok (.ishr, 1) := by decide +kernel
theorem dL_law_314 : decode cL_law 314 = .ok (.bipush 15, 2) := by decide +kernel
theorem dL_law_316 : decode cL_law 316 = .ok (.iand, 1) := by decide +kernel
theorem dL_law_317 : decode cL_law 317 = .ok (.iadd, 1) := by decide +kernel
theorem dL_law_318 : decode cL_law 318 = .ok (.istore 16, 2) := by decide +kernel
theorem dL_law_320 : decode cL_law 320 = .ok (.aload_n 1, 1) := by decide +kernel
theorem dL_law_321 : decode cL_law 321 = .ok (.bipush 100, 2) := by decide +kernel
theorem dL_law_323 : decode cL_law 323 = .ok (.iload 13, 2) := by decide +kernel
theorem dL_law_325 : decode cL_law 325 = .ok (.imul, 1) := by decide +kernel
theorem dL_law_326 : decode cL_law 326 = .ok (.iload 14, 2) := by decide +kernel
theorem dL_law_328 : decode cL_law 328 = .ok (.iadd, 1) := by decide +kernel
theorem dL_law_329 : decode cL_law 329 = .ok (.iload 15, 2) := by decide +kernel
theorem dL_law_331 : decode cL_law 331 = .ok (.iload 16, 2) := by decide +kernel
theorem dL_law_333 : decode cL_law 333 = .ok (.iload 11, 2) := by decide +kernel
theorem dL_law_335 : decode cL_law 335 = .ok (.bipush 17, 2) := by decide +kernel
theorem dL_law_337 : decode cL_law 337 = .ok (.ishr, 1) := by decide +kernel
theorem dL_law_338 : decode cL_law 338 = .ok (.bipush 7, 2) := by decide +kernel
theorem dL_law_340 : decode cL_law 340 = .ok (.iand, 1) := by decide +kernel
theorem dL_law_341 : decode cL_law 341 = .ok (.iconst 1, 1) := by decide +kernel
theorem dL_law_342 : decode cL_law 342 = .ok (.isub, 1) := by decide +kernel
theorem dL_law_343 : decode cL_law 343 = .ok (.invokevirtual 149, 3) := by decide +kernel
theorem dL_law_346 : decode cL_law 346 = .ok (.istore 17, 2) := by decide +kernel
theorem dL_law_348 : decode cL_law 348 = .ok (.iload 17, 2) := by decide +kernel
theorem dL_law_350 : decode cL_law 350 = .ok (.ifCond .lt 88, 3) := by decide +kernel
theorem dL_law_353 : decode cL_law 353 = .ok (.iload 7, 2) := by decide +kernel
theorem dL_law_355 : decode cL_law 355 = .ok (.iconst 4, 1) := by decide +kernel
theorem dL_law_356 : decode cL_law 356 = .ok (.if_icmp .ge 82, 3) := by decide +kernel
theorem dL_law_359 : decode cL_law 359 = .ok (.bipush 6, 2) := by decide +kernel
theorem dL_law_361 : decode cL_law 361 = .ok (.newarray .int, 2) := by decide +kernel
theorem dL_law_363 : decode cL_law 363 = .ok (.dup, 1) := by decide +kernel
theorem dL_law_364 : decode cL_law 364 = .ok (.iconst 0, 1) := by decide +kernel
theorem dL_law_365 : decode cL_law 365 = .ok (.iload 13, 2) := by decide +kernel
theorem dL_law_367 : decode cL_law 367 = .ok (.iastore, 1) := by decide +kernel
theorem dL_law_368 : decode cL_law 368 = .ok (.dup, 1) := by decide +kernel
theorem dL_law_369 : decode cL_law 369 = .ok (.iconst 1, 1) := by decide +kernel
theorem dL_law_370 : decode cL_law 370 = .ok (.iload 14, 2) := by decide +kernel
theorem dL_law_372 : decode cL_law 372 = .ok (.iastore, 1) := by decide +kernel
theorem dL_law_373 : decode cL_law 373 = .ok (.dup, 1) := by decide +kernel
theorem dL_law_374 : decode cL_law 374 = .ok (.iconst 2, 1) := by decide +kernel
theorem dL_law_375 : decode cL_law 375 = .ok (.iload 15, 2) := by decide +kernel
theorem dL_law_377 : decode cL_law 377 = .ok (.iastore, 1) := by decide +kernel
theorem dL_law_378 : decode cL_law 378 = .ok (.dup, 1) := by decide +kernel
theorem dL_law_379 : decode cL_law 379 = .ok (.iconst 3, 1) := by decide +kernel
theorem dL_law_380 : decode cL_law 380 = .ok (.iload 16, 2) := by decide +kernel
theorem dL_law_382 : decode cL_law 382 = .ok (.iastore, 1) := by decide +kernel
theorem dL_law_383 : decode cL_law 383 = .ok (.dup, 1) := by decide +kernel
theorem dL_law_384 : decode cL_law 384 = .ok (.iconst 4, 1) := by decide +kernel
theorem dL_law_385 : decode cL_law 385 = .ok (.iload 11, 2) := by decide +kernel
theorem dL_law_387 : decode cL_law 387 = .ok (.bipush 17, 2) := by decide +kernel
theorem dL_law_389 : decode cL_law 389 = .ok (.ishr, 1) := by decide +kernel
theorem dL_law_390 : decode cL_law 390 = .ok (.bipush 7, 2) := by decide +kernel
theorem dL_law_392 : decode cL_law 392 = .ok (.iand, 1) := by decide +kernel
theorem dL_law_393 : decode cL_law 393 = .ok (.iconst 1, 1) := by decide +kernel
theorem dL_law_394 : decode cL_law 394 = .ok (.isub, 1) := by decide +kernel
theorem dL_law_395 : decode cL_law 395 = .ok (.iastore, 1) := by decide +kernel
theorem dL_law_396 : decode cL_law 396 = .ok (.dup, 1) := by decide +kernel
theorem dL_law_397 : decode cL_law 397 = .ok (.iconst 5, 1) := by decide +kernel
theorem dL_law_398 : decode cL_law 398 = .ok (.iload 12, 2) := by decide +kernel
theorem dL_law_400 : decode cL_law 400 = .ok (.iastore, 1) := by decide +kernel
theorem dL_law_401 : decode cL_law 401 = .ok (.astore 18, 2) := by decide +kernel
theorem dL_law_403 : decode cL_law 403 = .ok (.iconst 0, 1) := by decide +kernel
theorem dL_law_404 : decode cL_law 404 = .ok (.istore 19, 2) := by decide +kernel
theorem dL_law_406 : decode cL_law 406 = .ok (.iload 19, 2) := by decide +kernel
theorem dL_law_408 : decode cL_law 408 = .ok (.bipush 6, 2) := by decide +kernel
theorem dL_law_410 : decode cL_law 410 = .ok (.if_icmp .ge 25, 3) := by decide +kernel
theorem dL_law_413 : decode cL_law 413 = .ok (.aload 6, 2) := by decide +kernel
theorem dL_law_415 : decode cL_law 415 = .ok (.bipush 6, 2) := by decide +kernel
theorem dL_law_417 : decode cL_law 417 = .ok (.iload 7, 2) := by decide +kernel
theorem dL_law_419 : decode cL_law 419 = .ok (.imul, 1) := by decide +kernel
theorem dL_law_420 : decode cL_law 420 = .ok (.iload 19, 2) := by decide +kernel
theorem dL_law_422 : decode cL_law 422 = .ok (.iadd, 1) := by decide +kernel
theorem dL_law_423 : decode cL_law 423 = .ok (.aload 18, 2) := by decide +kernel
theorem dL_law_425 : decode cL_law 425 = .ok (.iload 19, 2) := by decide +kernel
theorem dL_law_427 : decode cL_law 427 = .ok (.iaload, 1) := by decide +kernel
theorem dL_law_428 : decode cL_law 428 = .ok (.iastore, 1) := by decide +kernel
theorem dL_law_429 : decode cL_law 429 = .ok (.iinc 19 1, 3) := by decide +kernel
theorem dL_law_432 : decode cL_law 432 = .ok (.goto (-26), 3) := by decide +kernel
theorem dL_law_435 : decode cL_law 435 = .ok (.iinc 7 1, 3) := by decide +kernel
theorem dL_law_438 : decode cL_law 438 = .ok (.iload 17, 2) := by decide +kernel
theorem dL_law_440 : decode cL_law 440 = .ok (.ifCond .lt 15, 3) := by decide +kernel
theorem dL_law_443 : decode cL_law 443 = .ok (.iload 17, 2) := by decide +kernel
theorem dL_law_445 : decode cL_law 445 = .ok (.iload 7, 2) := by decide +kernel
theorem dL_law_447 : decode cL_law 447 = .ok (.iconst 1, 1) := by decide +kernel
theorem dL_law_448 : decode cL_law 448 = .ok (.isub, 1) := by decide +kernel
theorem dL_law_449 : decode cL_law 449 = .ok (.if_icmp .ge 146, 3) := by decide +kernel
theorem dL_law_452 : decode cL_law 452 = .ok (.goto 17, 3) := by decide +kernel
theorem dL_law_455 : decode cL_law 455 = .ok (.iload 17, 2) := by decide +kernel
theorem dL_law_457 : decode cL_law 457 = .ok (.bipush (-5), 2) := by decide +kernel
theorem dL_law_459 : decode cL_law 459 = .ok (.if_icmp .eq 136, 3) := by decide +kernel
theorem dL_law_462 : decode cL_law 462 = .ok (.iload 17, 2) := by decide +kernel
theorem dL_law_464 : decode cL_law 464 = .ok (.bipush (-3), 2) := by decide +kernel
theorem dL_law_466 : decode cL_law 466 = .ok (.if_icmp .eq 129, 3) := by decide +kernel
theorem dL_law_469 : decode cL_law 469 = .ok (.iconst 0, 1) := by decide +kernel
theorem dL_law_470 : decode cL_law 470 = .ok (.ireturn, 1) := by decide +kernel
theorem dL_law_471 : decode cL_law 471 = .ok (.aload_n 1, 1) := by decide +kernel
theorem dL_law_472 : decode cL_law 472 = .ok (.iconst 0, 1) := by decide +kernel
theorem dL_law_473 : decode cL_law 473 = .ok (.invokevirtual 24, 3) := by decide +kernel
theorem dL_law_476 : decode cL_law 476 = .ok (.ifCond .ne 7, 3) := by decide +kernel
theorem dL_law_479 : decode cL_law 479 = .ok (.iconst 0, 1) := by decide +kernel
theorem dL_law_480 : decode cL_law 480 = .ok (.goto 13, 3) := by decide +kernel
theorem dL_law_483 : decode cL_law 483 = .ok (.iload 11, 2) := by decide +kernel
theorem dL_law_485 : decode cL_law 485 = .ok (.iconst 3, 1) := by decide +kernel
theorem dL_law_486 : decode cL_law 486 = .ok (.ishr, 1) := by decide +kernel
theorem dL_law_487 : decode cL_law 487 = .ok (.aload_n 1, 1) := by decide +kernel
theorem dL_law_488 : decode cL_law 488 = .ok (.iconst 0, 1) := by decide +kernel
theorem dL_law_489 : decode cL_law 489 = .ok (.invokevirtual 24, 3) := by decide +kernel
theorem dL_law_492 : decode cL_law 492 = .ok (.irem, 1) := by decide +kernel
theorem dL_law_493 : decode cL_law 493 = .ok (.istore 18, 2) := by decide +kernel
theorem dL_law_495 : decode cL_law 495 = .ok (.aload_n 1, 1) := by decide +kernel
theorem dL_law_496 : decode cL_law 496 = .ok (.iload 18, 2) := by decide +kernel
theorem dL_law_498 : decode cL_law 498 = .ok (.iconst 0, 1) := by decide +kernel
theorem dL_law_499 : decode cL_law 499 = .ok (.invokevirtual 47, 3) := by decide +kernel
theorem dL_law_502 : decode cL_law 502 = .ok (.istore 19, 2) := by decide +kernel
theorem dL_law_504 : decode cL_law 504 = .ok (.iload 11, 2) := by decide +kernel
theorem dL_law_506 : decode cL_law 506 = .ok (.bipush 9, 2) := by decide +kernel
theorem dL_law_508 : decode cL_law 508 = .ok (.ishr, 1) := by decide +kernel
theorem dL_law_509 : decode cL_law 509 = .ok (.iconst 3, 1) := by decide +kernel
theorem dL_law_510 : decode cL_law 510 = .ok (.iand, 1) := by decide +kernel
theorem dL_law_511 : decode cL_law 511 = .ok (.ifCond .ne 12, 3) := by decide +kernel
theorem dL_law_514 : decode cL_law 514 = .ok (.aload_n 1, 1) := by decide +kernel
theorem dL_law_515 : decode cL_law 515 = .ok (.iload 18, 2) := by decide +kernel
theorem dL_law_517 : decode cL_law 517 = .ok (.invokevirtual 152, 3) := by decide +kernel
theorem dL_law_520 : decode cL_law 520 = .ok (.goto 16, 3) := by decide +kernel
theorem dL_law_523 : decode cL_law 523 = .ok (.aload_n 1, 1) := by decide +kernel
theorem dL_law_524 : decode cL_law 524 = .ok (.iload 18, 2) := by decide +kernel
theorem dL_law_526 : decode cL_law 526 = .ok (.iload 11, 2) := by decide +kernel
theorem dL_law_528 : decode cL_law 528 = .ok (.bipush 11, 2) := by decide +kernel
theorem dL_law_530 : decode cL_law 530 = .ok (.ishr, 1) := by decide +kernel
theorem dL_law_531 : decode cL_law 531 = .ok (.iconst 1, 1) := by decide +kernel
theorem dL_law_532 : decode cL_law 532 = .ok (.iand, 1) := by decide +kernel
theorem dL_law_533 : decode cL_law 533 = .ok (.invokevirtual 155, 3) := by decide +kernel
theorem dL_law_536 : decode cL_law 536 = .ok (.istore 20, 2) := by decide +kernel
theorem dL_law_538 : decode cL_law 538 = .ok (.aload_n 1, 1) := by decide +kernel
theorem dL_law_539 : decode cL_law 539 = .ok (.iconst 0, 1) := by decide +kernel
theorem dL_law_540 : decode cL_law 540 = .ok (.invokevirtual 24, 3) := by decide +kernel
theorem dL_law_543 : decode cL_law 543 = .ok (.ifCond .le 52, 3) := by decide +kernel
theorem dL_law_546 : decode cL_law 546 = .ok (.iload 19, 2) := by decide +kernel
theorem dL_law_548 : decode cL_law 548 = .ok (.iconst 1, 1) := by decide +kernel
theorem dL_law_549 : decode cL_law 549 = .ok (.if_icmp .le 46, 3) := by decide +kernel
theorem dL_law_552 : decode cL_law 552 = .ok (.iload 20, 2) := by decide +kernel
theorem dL_law_554 : decode cL_law 554 = .ok (.bipush (-5), 2) := by decide +kernel
theorem dL_law_556 : decode cL_law 556 = .ok (.if_icmp .eq 39, 3) := by decide +kernel
theorem dL_law_559 : decode cL_law 559 = .ok (.iconst 0, 1) := by decide +kernel
theorem dL_law_560 : decode cL_law 560 = .ok (.ireturn, 1) := by decide +kernel
theorem dL_law_561 : decode cL_law 561 = .ok (.aload_n 1, 1) := by decide +kernel
theorem dL_law_562 : decode cL_law 562 = .ok (.invokestatic 158, 3) := by decide +kernel
theorem dL_law_565 : decode cL_law 565 = .ok (.lstore 21, 2) := by decide +kernel
theorem dL_law_567 : decode cL_law 567 = .ok (.aload_n 1, 1) := by decide +kernel
theorem dL_law_568 : decode cL_law 568 = .ok (.iload 11, 2) := by decide +kernel
theorem dL_law_570 : decode cL_law 570 = .ok (.iconst 3, 1) := by decide +kernel
theorem dL_law_571 : decode cL_law 571 = .ok (.ishr, 1) := by decide +kernel
theorem dL_law_572 : decode cL_law 572 = .ok (.invokestatic 162, 3) := by decide +kernel
theorem dL_law_575 : decode cL_law 575 = .ok (.aload_n 1, 1) := by decide +kernel
theorem dL_law_576 : decode cL_law 576 = .ok (.iconst 5, 1) := by decide +kernel
theorem dL_law_577 : decode cL_law 577 = .ok (.invokevirtual 24, 3) := by decide +kernel
theorem dL_law_580 : decode cL_law 580 = .ok (.ifCond .ne 13, 3) := by decide +kernel
theorem dL_law_583 : decode cL_law 583 = .ok (.aload_n 1, 1) := by decide +kernel
theorem dL_law_584 : decode cL_law 584 = .ok (.invokestatic 158, 3) := by decide +kernel
theorem dL_law_587 : decode cL_law 587 = .ok (.lload 21, 2) := by decide +kernel
theorem dL_law_589 : decode cL_law 589 = .ok (.lcmp, 1) := by decide +kernel
theorem dL_law_590 : decode cL_law 590 = .ok (.ifCond .eq 5, 3) := by decide +kernel
theorem dL_law_593 : decode cL_law 593 = .ok (.iconst 0, 1) := by decide +kernel
theorem dL_law_594 : decode cL_law 594 = .ok (.ireturn, 1) := by decide +kernel
theorem dL_law_595 : decode cL_law 595 = .ok (.iconst 0, 1) := by decide +kernel
theorem dL_law_596 : decode cL_law 596 = .ok (.istore 13, 2) := by decide +kernel
theorem dL_law_598 : decode cL_law 598 = .ok (.iload 13, 2) := by decide +kernel
theorem dL_law_600 : decode cL_law 600 = .ok (.iconst 1, 1) := by decide +kernel
theorem dL_law_601 : decode cL_law 601 = .ok (.iload 11, 2) := by decide +kernel
theorem dL_law_603 : decode cL_law 603 = .ok (.bipush 20, 2) := by decide +kernel
theorem dL_law_605 : decode cL_law 605 = .ok (.ishr, 1) := by decide +kernel
theorem dL_law_606 : decode cL_law 606 = .ok (.iconst 3, 1) := by decide +kernel
theorem dL_law_607 : decode cL_law 607 = .ok (.iand, 1) := by decide +kernel
theorem dL_law_608 : decode cL_law 608 = .ok (.iadd, 1) := by decide +kernel
theorem dL_law_609 : decode cL_law 609 = .ok (.if_icmp .ge 662, 3) := by decide +kernel
theorem dL_law_612 : decode cL_law 612 = .ok (.aload_n 1, 1) := by decide +kernel
theorem dL_law_613 : decode cL_law 613 = .ok (.bipush 7, 2) := by decide +kernel
theorem dL_law_615 : decode cL_law 615 = .ok (.invokevirtual 24, 3) := by decide +kernel
theorem dL_law_618 : decode cL_law 618 = .ok (.istore 14, 2) := by decide +kernel
theorem dL_law_620 : decode cL_law 620 = .ok (.aload_n 1, 1) := by decide +kernel
theorem dL_law_621 : decode cL_law 621 = .ok (.iconst 1, 1) := by decide +kernel
theorem dL_law_622 : decode cL_law 622 = .ok (.invokevirtual 166, 3) := by decide +kernel
theorem dL_law_625 : decode cL_law 625 = .ok (.iload 14, 2) := by decide +kernel
theorem dL_law_627 : decode cL_law 627 = .ok (.iconst 1, 1) := by decide +kernel
theorem dL_law_628 : decode cL_law 628 = .ok (.iadd, 1) := by decide +kernel
theorem dL_law_629 : decode cL_law 629 = .ok (.if_icmp .eq 5, 3) := by decide +kernel
theorem dL_law_632 : decode cL_law 632 = .ok (.iconst 0, 1) := by decide +kernel
theorem dL_law_633 : decode cL_law 633 = .ok (.ireturn, 1) := by decide +kernel
theorem dL_law_634 : decode cL_law 634 = .ok (.bipush 16, 2) := by decide +kernel
theorem dL_law_636 : decode cL_law 636 = .ok (.newarray .int, 2) := by decide +kernel
theorem dL_law_638 : decode cL_law 638 = .ok (.dup, 1) := by decide +kernel
theorem dL_law_639 : decode cL_law 639 = .ok (.iconst 0, 1) := by decide +kernel
theorem dL_law_640 : decode cL_law 640 = .ok (.bipush (-2), 2) := by decide +kernel
theorem dL_law_642 : decode cL_law 642 = .ok (.iastore, 1) := by decide +kernel
theorem dL_law_643 : decode cL_law 643 = .ok (.dup, 1) := by decide +kernel
theorem dL_law_644 : decode cL_law 644 = .ok (.iconst 1, 1) := by decide +kernel
theorem dL_law_645 : decode cL_law 645 = .ok (.bipush (-2), 2) := by decide +kernel
theorem dL_law_647 : decode cL_law 647 = .ok (.iastore, 1) := by decide +kernel
theorem dL_law_648 : decode cL_law 648 = .ok (.dup, 1) := by decide +kernel
theorem dL_law_649 : decode cL_law 649 = .ok (.iconst 2, 1) := by decide +kernel
theorem dL_law_650 : decode cL_law 650 = .ok (.bipush (-2), 2) := by decide +kernel
theorem dL_law_652 : decode cL_law 652 = .ok (.iastore, 1) := by decide +kernel
theorem dL_law_653 : decode cL_law 653 = .ok (.dup, 1) := by decide +kernel
theorem dL_law_654 : decode cL_law 654 = .ok (.iconst 3, 1) := by decide +kernel
theorem dL_law_655 : decode cL_law 655 = .ok (.bipush (-2), 2) := by decide +kernel
theorem dL_law_657 : decode cL_law 657 = .ok (.iastore, 1) := by decide +kernel
theorem dL_law_658 : decode cL_law 658 = .ok (.dup, 1) := by decide +kernel
theorem dL_law_659 : decode cL_law 659 = .ok (.iconst 4, 1) := by decide +kernel
theorem dL_law_660 : decode cL_law 660 = .ok (.bipush (-2), 2) := by decide +kernel
theorem dL_law_662 : decode cL_law 662 = .ok (.iastore, 1) := by decide +kernel
theorem dL_law_663 : decode cL_law 663 = .ok (.dup, 1) := by decide +kernel
theorem dL_law_664 : decode cL_law 664 = .ok (.iconst 5, 1) := by decide +kernel
theorem dL_law_665 : decode cL_law 665 = .ok (.bipush (-2), 2) := by decide +kernel
theorem dL_law_667 : decode cL_law 667 = .ok (.iastore, 1) := by decide +kernel
theorem dL_law_668 : decode cL_law 668 = .ok (.dup, 1) := by decide +kernel
theorem dL_law_669 : decode cL_law 669 = .ok (.bipush 6, 2) := by decide +kernel
theorem dL_law_671 : decode cL_law 671 = .ok (.bipush (-2), 2) := by decide +kernel
theorem dL_law_673 : decode cL_law 673 = .ok (.iastore, 1) := by decide +kernel
theorem dL_law_674 : decode cL_law 674 = .ok (.dup, 1) := by decide +kernel
theorem dL_law_675 : decode cL_law 675 = .ok (.bipush 7, 2) := by decide +kernel
theorem dL_law_677 : decode cL_law 677 = .ok (.bipush (-2), 2) := by decide +kernel
theorem dL_law_679 : decode cL_law 679 = .ok (.iastore, 1) := by decide +kernel
theorem dL_law_680 : decode cL_law 680 = .ok (.dup, 1) := by decide +kernel
theorem dL_law_681 : decode cL_law 681 = .ok (.bipush 8, 2) := by decide +kernel
theorem dL_law_683 : decode cL_law 683 = .ok (.bipush (-2), 2) := by decide +kernel
theorem dL_law_685 : decode cL_law 685 = .ok (.iastore, 1) := by decide +kernel
theorem dL_law_686 : decode cL_law 686 = .ok (.dup, 1) := by decide +kernel
theorem dL_law_687 : decode cL_law 687 = .ok (.bipush 9, 2) := by decide +kernel
theorem dL_law_689 : decode cL_law 689 = .ok (.bipush (-2), 2) := by decide +kernel
theorem dL_law_691 : decode cL_law 691 = .ok (.iastore, 1) := by decide +kernel
theorem dL_law_692 : decode cL_law 692 = .ok (.dup, 1) := by decide +kernel
theorem dL_law_693 : decode cL_law 693 = .ok (.bipush 10, 2) := by decide +kernel
theorem dL_law_695 : decode cL_law 695 = .ok (.bipush (-2), 2) := by decide +kernel
theorem dL_law_697 : decode cL_law 697 = .ok (.iastore, 1) := by decide +kernel
theorem dL_law_698 : decode cL_law 698 = .ok (.dup, 1) := by decide +kernel
theorem dL_law_699 : decode cL_law 699 = .ok (.bipush 11, 2) := by decide +kernel
theorem dL_law_701 : decode cL_law 701 = .ok (.bipush (-2), 2) := by decide +kernel
theorem dL_law_703 : decode cL_law 703 = .ok (.iastore, 1) := by decide +kernel
theorem dL_law_704 : decode cL_law 704 = .ok (.dup, 1) := by decide +kernel
theorem dL_law_705 : decode cL_law 705 = .ok (.bipush 12, 2) := by decide +kernel
theorem dL_law_707 : decode cL_law 707 = .ok (.bipush (-2), 2) := by decide +kernel
theorem dL_law_709 : decode cL_law 709 = .ok (.iastore, 1) := by decide +kernel
theorem dL_law_710 : decode cL_law 710 = .ok (.dup, 1) := by decide +kernel
theorem dL_law_711 : decode cL_law 711 = .ok (.bipush 13, 2) := by decide +kernel
theorem dL_law_713 : decode cL_law 713 = .ok (.bipush (-2), 2) := by decide +kernel
theorem dL_law_715 : decode cL_law 715 = .ok (.iastore, 1) := by decide +kernel
theorem dL_law_716 : decode cL_law 716 = .ok (.dup, 1) := by decide +kernel
theorem dL_law_717 : decode cL_law 717 = .ok (.bipush 14, 2) := by decide +kernel
theorem dL_law_719 : decode cL_law 719 = .ok (.bipush (-2), 2) := by decide +kernel
theorem dL_law_721 : decode cL_law 721 = .ok (.iastore, 1) := by decide +kernel
theorem dL_law_722 : decode cL_law 722 = .ok (.dup, 1) := by decide +kernel
theorem dL_law_723 : decode cL_law 723 = .ok (.bipush 15, 2) := by decide +kernel
theorem dL_law_725 : decode cL_law 725 = .ok (.bipush (-2), 2) := by decide +kernel
theorem dL_law_727 : decode cL_law 727 = .ok (.iastore, 1) := by decide +kernel
theorem dL_law_728 : decode cL_law 728 = .ok (.astore 15, 2) := by decide +kernel
theorem dL_law_730 : decode cL_law 730 = .ok (.iconst 0, 1) := by decide +kernel
theorem dL_law_731 : decode cL_law 731 = .ok (.istore 16, 2) := by decide +kernel
theorem dL_law_733 : decode cL_law 733 = .ok (.iload 16, 2) := by decide +kernel
theorem dL_law_735 : decode cL_law 735 = .ok (.aload_n 1, 1) := by decide +kernel
theorem dL_law_736 : decode cL_law 736 = .ok (.iconst 0, 1) := by decide +kernel
theorem dL_law_737 : decode cL_law 737 = .ok (.invokevirtual 24, 3) := by decide +kernel
theorem dL_law_740 : decode cL_law 740 = .ok (.if_icmp .ge 244, 3) := by decide +kernel
theorem dL_law_743 : decode cL_law 743 = .ok (.aload_n 1, 1) := by decide +kernel
theorem dL_law_744 : decode cL_law 744 = .ok (.iload 16, 2) := by decide +kernel
theorem dL_law_746 : decode cL_law 746 = .ok (.bipush 6, 2) := by decide +kernel
theorem dL_law_748 : decode cL_law 748 = .ok (.invokevirtual 47, 3) := by decide +kernel
theorem dL_law_751 : decode cL_law 751 = .ok (.istore 17, 2) := by decide +kernel
theorem dL_law_753 : decode cL_law 753 = .ok (.iconst 0, 1) := by decide +kernel
theorem dL_law_754 : decode cL_law 754 = .ok (.istore 18, 2) := by decide +kernel
theorem dL_law_756 : decode cL_law 756 = .ok (.iload 18, 2) := by decide +kernel
theorem dL_law_758 : decode cL_law 758 = .ok (.aload_n 1, 1) := by decide +kernel
theorem dL_law_759 : decode cL_law 759 = .ok (.iload 16, 2) := by decide +kernel
theorem dL_law_761 : decode cL_law 761 = .ok (.iconst 5, 1) := by decide +kernel
theorem dL_law_762 : decode cL_law 762 = .ok (.invokevirtual 47, 3) := by decide +kernel
theorem dL_law_765 : decode cL_law 765 = .ok (.if_icmp .ge 213, 3) := by decide +kernel
theorem dL_law_768 : decode cL_law 768 = .ok (.iload 17, 2) := by decide +kernel
theorem dL_law_770 : decode cL_law 770 = .ok (.bipush (-2), 2) := by decide +kernel
theorem dL_law_772 : decode cL_law 772 = .ok (.if_icmp .eq 206, 3) := by decide +kernel
theorem dL_law_775 : decode cL_law 775 = .ok (.aload_n 1, 1) := by decide +kernel
theorem dL_law_776 : decode cL_law 776 = .ok (.iload 16, 2) := by decide +kernel
theorem dL_law_778 : decode cL_law 778 = .ok (.iload 18, 2) := by decide +kernel
theorem dL_law_780 : decode cL_law 780 = .ok (.iconst 4, 1) := by decide +kernel
theorem dL_law_781 : decode cL_law 781 = .ok (.invokevirtual 51, 3) := by decide +kernel
theorem dL_law_784 : decode cL_law 784 = .ok (.istore 19, 2) := by decide +kernel
theorem dL_law_786 : decode cL_law 786 = .ok (.iconst 1, 1) := by decide +kernel
theorem dL_law_787 : decode cL_law 787 = .ok (.aload_n 1, 1) := by decide +kernel
theorem dL_law_788 : decode cL_law 788 = .ok (.iload 16, 2) := by decide +kernel
theorem dL_law_790 : decode cL_law 790 = .ok (.iload 18, 2) := by decide +kernel
theorem dL_law_792 : decode cL_law 792 = .ok (.iconst 1, 1) := by decide +kernel
theorem dL_law_793 : decode cL_law 793 = .ok (.invokevirtual 51, 3) := by decide +kernel
theorem dL_law_796 : decode cL_law 796 = .ok (.aload_n 1, 1) := by decide +kernel
theorem dL_law_797 : decode cL_law 797 = .ok (.iload 16, 2) := by decide +kernel
theorem dL_law_799 : decode cL_law 799 = .ok (.iconst 3, 1) := by decide +kernel
theorem dL_law_800 : decode cL_law 800 = .ok (.invokevirtual 47, 3) := by decide +kernel
theorem dL_law_803 : decode cL_law 803 = .ok (.imul, 1) := by decide +kernel
theorem dL_law_804 : decode cL_law 804 = .ok (.bipush 100, 2) := by decide +kernel
theorem dL_law_806 : decode cL_law 806 = .ok (.idiv, 1) := by decide +kernel
theorem dL_law_807 : decode cL_law 807 = .ok (.invokestatic 169, 3) := by decide +kernel
theorem dL_law_810 : decode cL_law 810 = .ok (.istore 20, 2) := by decide +kernel
theorem dL_law_812 : decode cL_law 812 = .ok (.aload_n 1, 1) := by decide +kernel
theorem dL_law_813 : decode cL_law 813 = .ok (.iload 16, 2) := by decide +kernel
theorem dL_law_815 : decode cL_law 815 = .ok (.iload 18, 2) := by decide +kernel
theorem dL_law_817 : decode cL_law 817 = .ok (.iconst 2, 1) := by decide +kernel
theorem dL_law_818 : decode cL_law 818 = .ok (.invokevirtual 51, 3) := by decide +kernel
theorem dL_law_821 : decode cL_law 821 = .ok (.iload 20, 2) := by decide +kernel
theorem dL_law_823 : decode cL_law 823 = .ok (.if_icmp .ne 68, 3) := by decide +kernel
theorem dL_law_826 : decode cL_law 826 = .ok (.iload 17, 2) := by decide +kernel
theorem dL_law_828 : decode cL_law 828 = .ok (.iload 14, 2) := by decide +kernel
theorem dL_law_830 : decode cL_law 830 = .ok (.if_icmp .gt 61, 3) := by decide +kernel
theorem dL_law_833 : decode cL_law 833 = .ok (.aload_n 1, 1) := by decide +kernel
theorem dL_law_834 : decode cL_law 834 = .ok (.iload 16, 2) := by decide +kernel
theorem dL_law_836 : decode cL_law 836 = .ok (.iconst 0, 1) := by decide +kernel
theorem dL_law_837 : decode cL_law 837 = .ok (.invokevirtual 47, 3) := by decide +kernel
theorem dL_law_840 : decode cL_law 840 = .ok (.iconst 4, 1) := by decide +kernel
theorem dL_law_841 : decode cL_law 841 = .ok (.if_icmp .ne 28, 3) := by decide +kernel
theorem dL_law_844 : decode cL_law 844 = .ok (.iload 19, 2) := by decide +kernel
theorem dL_law_846 : decode cL_law 846 = .ok (.iload 17, 2) := by decide +kernel
theorem dL_law_848 : decode cL_law 848 = .ok (.iload 20, 2) := by decide +kernel
theorem dL_law_850 : decode cL_law 850 = .ok (.aload_n 1, 1) := by decide +kernel
theorem dL_law_851 : decode cL_law 851 = .ok (.iload 16, 2) := by decide +kernel
theorem dL_law_853 : decode cL_law 853 = .ok (.iload 18, 2) := by decide +kernel
theorem dL_law_855 : decode cL_law 855 = .ok (.iconst 1, 1) := by decide +kernel
theorem dL_law_856 : decode cL_law 856 = .ok (.invokevirtual 51, 3) := by decide +kernel
theorem dL_law_859 : decode cL_law 859 = .ok (.invokestatic 144, 3) := by decide +kernel
theorem dL_law_862 : decode cL_law 862 = .ok (.iadd, 1) := by decide +kernel
theorem dL_law_863 : decode cL_law 863 = .ok (.if_icmp .le 30, 3) := by decide +kernel
theorem dL_law_866 : decode cL_law 866 = .ok (.goto 25, 3) := by decide +kernel
theorem dL_law_869 : decode cL_law 869 = .ok (.iload 19, 2) := by decide +kernel
theorem dL_law_871 : decode cL_law 871 = .ok (.iload 17, 2) := by decide +kernel
theorem dL_law_873 : decode cL_law 873 = .ok (.iload 20, 2) := by decide +kernel
theorem dL_law_875 : decode cL_law 875 = .ok (.aload_n 1, 1) := by decide +kernel
theorem dL_law_876 : decode cL_law 876 = .ok (.iload 16, 2) := by decide +kernel
theorem dL_law_878 : decode cL_law 878 = .ok (.iload 18, 2) := by decide +kernel
theorem dL_law_880 : decode cL_law 880 = .ok (.iconst 1, 1) := by decide +kernel
theorem dL_law_881 : decode cL_law 881 = .ok (.invokevirtual 51, 3) := by decide +kernel
theorem dL_law_884 : decode cL_law 884 = .ok (.invokestatic 144, 3) := by decide +kernel
theorem dL_law_887 : decode cL_law 887 = .ok (.iadd, 1) := by decide +kernel
theorem dL_law_888 : decode cL_law 888 = .ok (.if_icmp .eq 5, 3) := by decide +kernel
theorem dL_law_891 : decode cL_law 891 = .ok (.iconst 0, 1) := by decide +kernel
theorem dL_law_892 : decode cL_law 892 = .ok (.ireturn, 1) := by decide +kernel
theorem dL_law_893 : decode cL_law 893 = .ok (.aload_n 1, 1) := by decide +kernel
theorem dL_law_894 : decode cL_law 894 = .ok (.iload 16, 2) := by decide +kernel
theorem dL_law_896 : decode cL_law 896 = .ok (.iload 18, 2) := by decide +kernel
theorem dL_law_898 : decode cL_law 898 = .ok (.iconst 3, 1) := by decide +kernel
theorem dL_law_899 : decode cL_law 899 = .ok (.invokevirtual 51, 3) := by decide +kernel
theorem dL_law_902 : decode cL_law 902 = .ok (.istore 21, 2) := by decide +kernel
theorem dL_law_904 : decode cL_law 904 = .ok (.iload 21, 2) := by decide +kernel
theorem dL_law_906 : decode cL_law 906 = .ok (.aload_n 1, 1) := by decide +kernel
theorem dL_law_907 : decode cL_law 907 = .ok (.iload 16, 2) := by decide +kernel
theorem dL_law_909 : decode cL_law 909 = .ok (.iload 18, 2) := by decide +kernel
theorem dL_law_911 : decode cL_law 911 = .ok (.iconst 3, 1) := by decide +kernel
theorem dL_law_912 : decode cL_law 912 = .ok (.invokevirtual 51, 3) := by decide +kernel
theorem dL_law_915 : decode cL_law 915 = .ok (.aload_n 1, 1) := by decide +kernel
theorem dL_law_916 : decode cL_law 916 = .ok (.iload 16, 2) := by decide +kernel
theorem dL_law_918 : decode cL_law 918 = .ok (.iload 18, 2) := by decide +kernel
theorem dL_law_920 : decode cL_law 920 = .ok (.iconst 0, 1) := by decide +kernel
theorem dL_law_921 : decode cL_law 921 = .ok (.invokevirtual 51, 3) := by decide +kernel
theorem dL_law_924 : decode cL_law 924 = .ok (.iadd, 1) := by decide +kernel
theorem dL_law_925 : decode cL_law 925 = .ok (.if_icmp .ge 47, 3) := by decide +kernel
theorem dL_law_928 : decode cL_law 928 = .ok (.iload 19, 2) := by decide +kernel
theorem dL_law_930 : decode cL_law 930 = .ok (.iload 14, 2) := by decide +kernel
theorem dL_law_932 : decode cL_law 932 = .ok (.if_icmp .le 40, 3) := by decide +kernel
theorem dL_law_935 : decode cL_law 935 = .ok (.iload 21, 2) := by decide +kernel
theorem dL_law_937 : decode cL_law 937 = .ok (.ifCond .lt 20, 3) := by decide +kernel
theorem dL_law_940 : decode cL_law 940 = .ok (.iload 21, 2) := by decide +kernel
theorem dL_law_942 : decode cL_law 942 = .ok (.bipush 15, 2) := by decide +kernel
theorem dL_law_944 : decode cL_law 944 = .ok (.if_icmp .gt 13, 3) := by decide +kernel
theorem dL_law_947 : decode cL_law 947 = .ok (.aload 15, 2) := by decide +kernel
theorem dL_law_949 : decode cL_law 949 = .ok (.iload 21, 2) := by decide +kernel
theorem dL_law_951 : decode cL_law 951 = .ok (.iaload, 1) := by decide +kernel
theorem dL_law_952 : decode cL_law 952 = .ok (.bipush (-2), 2) := by decide +kernel
theorem dL_law_954 : decode cL_law 954 = .ok (.if_icmp .eq 5, 3) := by decide +kernel
theorem dL_law_957 : decode cL_law 957 = .ok (.iconst 0, 1) := by decide +kernel
theorem dL_law_958 : decode cL_law 958 = .ok (.ireturn, 1) := by decide +kernel
theorem dL_law_959 : decode cL_law 959 = .ok (.aload 15, 2) := by decide +kernel
theorem dL_law_961 : decode cL_law 961 = .ok (.iload 21, 2) := by decide +kernel
theorem dL_law_963 : decode cL_law 963 = .ok (.iload 16, 2) := by decide +kernel
theorem dL_law_965 : decode cL_law 965 = .ok (.iastore, 1) := by decide +kernel
theorem dL_law_966 : decode cL_law 966 = .ok (.iinc 21 1, 3) := by decide +kernel
theorem dL_law_969 : decode cL_law 969 = .ok (.goto (-65), 3) := by decide +kernel
theorem dL_law_972 : decode cL_law 972 = .ok (.iinc 18 1, 3) := by decide +kernel
theorem dL_law_975 : decode cL_law 975 = .ok (.goto (-219), 3) := by decide +kernel
theorem dL_law_978 : decode cL_law 978 = .ok (.iinc 16 1, 3) := by decide +kernel
theorem dL_law_981 : decode cL_law 981 = .ok (.goto (-248), 3) := by decide +kernel
theorem dL_law_984 : decode cL_law 984 = .ok (.iconst 0, 1) := by decide +kernel
theorem dL_law_985 : decode cL_law 985 = .ok (.istore 16, 2) := by decide +kernel
theorem dL_law_987 : decode cL_law 987 = .ok (.iconst 0, 1) := by decide +kernel
theorem dL_law_988 : decode cL_law 988 = .ok (.istore 17, 2) := by decide +kernel
theorem dL_law_990 : decode cL_law 990 = .ok (.iload 17, 2) := by decide +kernel
theorem dL_law_992 : decode cL_law 992 = .ok (.bipush 16, 2) := by decide +kernel
theorem dL_law_994 : decode cL_law 994 = .ok (.if_icmp .ge 195, 3) := by decide +kernel
theorem dL_law_997 : decode cL_law 997 = .ok (.aload_n 1, 1) := by decide +kernel
theorem dL_law_998 : decode cL_law 998 = .ok (.iload 17, 2) := by decide +kernel
theorem dL_law_1000 : decode cL_law 1000 = .ok (.iconst 1, 1) := by decide +kernel
theorem dL_law_1001 : decode cL_law 1001 = .ok (.invokevirtual 74, 3) := by decide +kernel
theorem dL_law_1004 : decode cL_law 1004 = .ok (.aload 15, 2) := by decide +kernel
theorem dL_law_1006 : decode cL_law 1006 = .ok (.iload 17, 2) := by decide +kernel
theorem dL_law_1008 : decode cL_law 1008 = .ok (.iaload, 1) := by decide +kernel
theorem dL_law_1009 : decode cL_law 1009 = .ok (.if_icmp .eq 5, 3) := by decide +kernel
theorem dL_law_1012 : decode cL_law 1012 = .ok (.iconst 0, 1) := by decide +kernel
theorem dL_law_1013 : decode cL_law 1013 = .ok (.ireturn, 1) := by decide +kernel
theorem dL_law_1014 : decode cL_law 1014 = .ok (.aload 15, 2) := by decide +kernel
theorem dL_law_1016 : decode cL_law 1016 = .ok (.iload 17, 2) := by decide +kernel
theorem dL_law_1018 : decode cL_law 1018 = .ok (.iaload, 1) := by decide +kernel
theorem dL_law_1019 : decode cL_law 1019 = .ok (.ifCond .ge 12, 3) := by decide +kernel
theorem dL_law_1022 : decode cL_law 1022 = .ok (.lload 8, 2) := by decide +kernel
theorem dL_law_1024 : decode cL_law 1024 = .ok (.lconst 1, 1) := by decide +kernel
theorem dL_law_1025 : decode cL_law 1025 = .ok (.ladd, 1) := by decide +kernel
theorem dL_law_1026 : decode cL_law 1026 = .ok (.lstore 8, 2) := by decide +kernel
theorem dL_law_1028 : decode cL_law 1028 = .ok (.goto 155, 3) := by decide +kernel
theorem dL_law_1031 : decode cL_law 1031 = .ok (.aload_n 1, 1) := by decide +kernel
theorem dL_law_1032 : decode cL_law 1032 = .ok (.aload 15, 2) := by decide +kernel
theorem dL_law_1034 : decode cL_law 1034 = .ok (.iload 17, 2) := by decide +kernel
theorem dL_law_1036 : decode cL_law 1036 = .ok (.iaload, 1) := by decide +kernel
theorem dL_law_1037 : decode cL_law 1037 = .ok (.iconst 1, 1) := by decide +kernel
theorem dL_law_1038 : decode cL_law 1038 = .ok (.invokevirtual 47, 3) := by decide +kernel
theorem dL_law_1041 : decode cL_law 1041 = .ok (.istore 18, 2) := by decide +kernel
theorem dL_law_1043 : decode cL_law 1043 = .ok (.aload_n 2, 1) := by decide +kernel
theorem dL_law_1044 : decode cL_law 1044 = .ok (.iload 18, 2) := by decide +kernel
theorem dL_law_1046 : decode cL_law 1046 = .ok (.dup2, 1) := by decide +kernel
theorem dL_law_1047 : decode cL_law 1047 = .ok (.laload, 1) := by decide +kernel
theorem dL_law_1048 : decode cL_law 1048 = .ok (.lconst 1, 1) := by decide +kernel
theorem dL_law_1049 : decode cL_law 1049 = .ok (.ladd, 1) := by decide +kernel
theorem dL_law_1050 : decode cL_law 1050 = .ok (.lastore, 1) := by decide +kernel
theorem dL_law_1051 : decode cL_law 1051 = .ok (.iload 16, 2) := by decide +kernel
theorem dL_law_1053 : decode cL_law 1053 = .ok (.iload 18, 2) := by decide +kernel
theorem dL_law_1055 : decode cL_law 1055 = .ok (.iload 4, 2) := by decide +kernel
theorem dL_law_1057 : decode cL_law 1057 = .ok (.if_icmp .ne 7, 3) := by decide +kernel
theorem dL_law_1060 : decode cL_law 1060 = .ok (.iconst 1, 1) := by decide +kernel
theorem dL_law_1061 : decode cL_law 1061 = .ok (.goto 4, 3) := by decide +kernel
theorem dL_law_1064 : decode cL_law 1064 = .ok (.iconst 0, 1) := by decide +kernel
theorem dL_law_1065 : decode cL_law 1065 = .ok (.iadd, 1) := by decide +kernel
theorem dL_law_1066 : decode cL_law 1066 = .ok (.istore 16, 2) := by decide +kernel
theorem dL_law_1068 : decode cL_law 1068 = .ok (.iconst 0, 1) := by decide +kernel
theorem dL_law_1069 : decode cL_law 1069 = .ok (.istore 19, 2) := by decide +kernel
theorem dL_law_1071 : decode cL_law 1071 = .ok (.iload 19, 2) := by decide +kernel
theorem dL_law_1073 : decode cL_law 1073 = .ok (.iload 7, 2) := by decide +kernel
theorem dL_law_1075 : decode cL_law 1075 = .ok (.if_icmp .ge 108, 3) := by decide +kernel
theorem dL_law_1078 : decode cL_law 1078 = .ok (.iload 17, 2) := by decide +kernel
theorem dL_law_1080 : decode cL_law 1080 = .ok (.aload 6, 2) := by decide +kernel
theorem dL_law_1082 : decode cL_law 1082 = .ok (.bipush 6, 2) := by decide +kernel
theorem dL_law_1084 : decode cL_law 1084 = .ok (.iload 19, 2) := by decide +kernel
theorem dL_law_1086 : decode cL_law 1086 = .ok (.imul, 1) := by decide +kernel
theorem dL_law_1087 : decode cL_law 1087 = .ok (.iaload, 1) := by decide +kernel
theorem dL_law_1088 : decode cL_law 1088 = .ok (.if_icmp .lt 89, 3) := by decide +kernel
theorem dL_law_1091 : decode cL_law 1091 = .ok (.iload 17, 2) := by decide +kernel
theorem dL_law_1093 : decode cL_law 1093 = .ok (.aload 6, 2) := by decide +kernel
theorem dL_law_1095 : decode cL_law 1095 = .ok (.bipush 6, 2) := by decide +kernel
theorem dL_law_1097 : decode cL_law 1097 = .ok (.iload 19, 2) := by decide +kernel
theorem dL_law_1099 : decode cL_law 1099 = .ok (.imul, 1) := by decide +kernel
theorem dL_law_1100 : decode cL_law 1100 = .ok (.iconst 1, 1) := by decide +kernel
theorem dL_law_1101 : decode cL_law 1101 = .ok (.iadd, 1) := by decide +kernel
theorem dL_law_1102 : decode cL_law 1102 = .ok (.iaload, 1) := by decide +kernel
theorem dL_law_1103 : decode cL_law 1103 = .ok (.if_icmp .gt 74, 3) := by decide +kernel
theorem dL_law_1106 : decode cL_law 1106 = .ok (.iload 14, 2) := by decide +kernel
theorem dL_law_1108 : decode cL_law 1108 = .ok (.aload 6, 2) := by decide +kernel
theorem dL_law_1110 : decode cL_law 1110 = .ok (.bipush 6, 2) := by decide +kernel
theorem dL_law_1112 : decode cL_law 1112 = .ok (.iload 19, 2) := by decide +kernel
theorem dL_law_1114 : decode cL_law 1114 = .ok (.imul, 1) := by decide +kernel
theorem dL_law_1115 : decode cL_law 1115 = .ok (.iconst 2, 1) := by decide +kernel
theorem dL_law_1116 : decode cL_law 1116 = .ok (.iadd, 1) := by decide +kernel
theorem dL_law_1117 : decode cL_law 1117 = .ok (.iaload, 1) := by decide +kernel
theorem dL_law_1118 : decode cL_law 1118 = .ok (.if_icmp .lt 59, 3) := by decide +kernel
theorem dL_law_1121 : decode cL_law 1121 = .ok (.iload 14, 2) := by decide +kernel
theorem dL_law_1123 : decode cL_law 1123 = .ok (.aload 6, 2) := by decide +kernel
theorem dL_law_1125 : decode cL_law 1125 = .ok (.bipush 6, 2) := by decide +kernel
theorem dL_law_1127 : decode cL_law 1127 = .ok (.iload 19, 2) := by decide +kernel
theorem dL_law_1129 : decode cL_law 1129 = .ok (.imul, 1) := by decide +kernel
theorem dL_law_1130 : decode cL_law 1130 = .ok (.iconst 3, 1) := by decide +kernel
theorem dL_law_1131 : decode cL_law 1131 = .ok (.iadd, 1) := by decide +kernel
theorem dL_law_1132 : decode cL_law 1132 = .ok (.iaload, 1) := by decide +kernel
theorem dL_law_1133 : decode cL_law 1133 = .ok (.if_icmp .ge 44, 3) := by decide +kernel
theorem dL_law_1136 : decode cL_law 1136 = .ok (.aload_n 1, 1) := by decide +kernel
theorem dL_law_1137 : decode cL_law 1137 = .ok (.aload 15, 2) := by decide +kernel
theorem dL_law_1139 : decode cL_law 1139 = .ok (.iload 17, 2) := by decide +kernel
theorem dL_law_1141 : decode cL_law 1141 = .ok (.iaload, 1) := by decide +kernel
theorem dL_law_1142 : decode cL_law 1142 = .ok (.bipush 6, 2) := by decide +kernel
theorem dL_law_1144 : decode cL_law 1144 = .ok (.invokevirtual 47, 3) := by decide +kernel
theorem dL_law_1147 : decode cL_law 1147 = .ok (.aload 6, 2) := by decide +kernel
theorem dL_law_1149 : decode cL_law 1149 = .ok (.bipush 6, 2) := by decide +kernel
theorem dL_law_1151 : decode cL_law 1151 = .ok (.iload 19, 2) := by decide +kernel
theorem dL_law_1153 : decode cL_law 1153 = .ok (.imul, 1) := by decide +kernel
theorem dL_law_1154 : decode cL_law 1154 = .ok (.iconst 5, 1) := by decide +kernel
theorem dL_law_1155 : decode cL_law 1155 = .ok (.iadd, 1) := by decide +kernel
theorem dL_law_1156 : decode cL_law 1156 = .ok (.iaload, 1) := by decide +kernel
theorem dL_law_1157 : decode cL_law 1157 = .ok (.if_icmp .lt 20, 3) := by decide +kernel
theorem dL_law_1160 : decode cL_law 1160 = .ok (.iload 18, 2) := by decide +kernel
theorem dL_law_1162 : decode cL_law 1162 = .ok (.aload 6, 2) := by decide +kernel
theorem dL_law_1164 : decode cL_law 1164 = .ok (.bipush 6, 2) := by decide +kernel
theorem dL_law_1166 : decode cL_law 1166 = .ok (.iload 19, 2) := by decide +kernel
theorem dL_law_1168 : decode cL_law 1168 = .ok (.imul, 1) := by decide +kernel
theorem dL_law_1169 : decode cL_law 1169 = .ok (.iconst 4, 1) := by decide +kernel
theorem dL_law_1170 : decode cL_law 1170 = .ok (.iadd, 1) := by decide +kernel
theorem dL_law_1171 : decode cL_law 1171 = .ok (.iaload, 1) := by decide +kernel
theorem dL_law_1172 : decode cL_law 1172 = .ok (.if_icmp .eq 5, 3) := by decide +kernel
theorem dL_law_1175 : decode cL_law 1175 = .ok (.iconst 0, 1) := by decide +kernel
theorem dL_law_1176 : decode cL_law 1176 = .ok (.ireturn, 1) := by decide +kernel
theorem dL_law_1177 : decode cL_law 1177 = .ok (.iinc 19 1, 3) := by decide +kernel
theorem dL_law_1180 : decode cL_law 1180 = .ok (.goto (-109), 3) := by decide +kernel
theorem dL_law_1183 : decode cL_law 1183 = .ok (.iinc 17 1, 3) := by decide +kernel
theorem dL_law_1186 : decode cL_law 1186 = .ok (.goto (-196), 3) := by decide +kernel
theorem dL_law_1189 : decode cL_law 1189 = .ok (.iconst 0, 1) := by decide +kernel
theorem dL_law_1190 : decode cL_law 1190 = .ok (.istore 17, 2) := by decide +kernel
theorem dL_law_1192 : decode cL_law 1192 = .ok (.iload 17, 2) := by decide +kernel
theorem dL_law_1194 : decode cL_law 1194 = .ok (.bipush 8, 2) := by decide +kernel
theorem dL_law_1196 : decode cL_law 1196 = .ok (.if_icmp .ge 48, 3) := by decide +kernel
theorem dL_law_1199 : decode cL_law 1199 = .ok (.iload_n 3, 1) := by decide +kernel
theorem dL_law_1200 : decode cL_law 1200 = .ok (.ifCond .le 22, 3) := by decide +kernel
theorem dL_law_1203 : decode cL_law 1203 = .ok (.iload 14, 2) := by decide +kernel
theorem dL_law_1205 : decode cL_law 1205 = .ok (.iconst 1, 1) := by decide +kernel
theorem dL_law_1206 : decode cL_law 1206 = .ok (.iadd, 1) := by decide +kernel
theorem dL_law_1207 : decode cL_law 1207 = .ok (.iload_n 3, 1) := by decide +kernel
theorem dL_law_1208 : decode cL_law 1208 = .ok (.irem, 1) := by decide +kernel
theorem dL_law_1209 : decode cL_law 1209 = .ok (.ifCond .ne 13, 3) := by decide +kernel
theorem dL_law_1212 : decode cL_law 1212 = .ok (.aload_n 2, 1) := by decide +kernel
theorem dL_law_1213 : decode cL_law 1213 = .ok (.iload 17, 2) := by decide +kernel
theorem dL_law_1215 : decode cL_law 1215 = .ok (.dup2, 1) := by decide +kernel
theorem dL_law_1216 : decode cL_law 1216 = .ok (.laload, 1) := by decide +kernel
theorem dL_law_1217 : decode cL_law 1217 = .ok (.ldc2_w 172, 3) := by decide +kernel
theorem dL_law_1220 : decode cL_law 1220 = .ok (.ldiv, 1) := by decide +kernel
theorem dL_law_1221 : decode cL_law 1221 = .ok (.lastore, 1) := by decide +kernel
theorem dL_law_1222 : decode cL_law 1222 = .ok (.aload_n 1, 1) := by decide +kernel
theorem dL_law_1223 : decode cL_law 1223 = .ok (.iload 17, 2) := by decide +kernel
theorem dL_law_1225 : decode cL_law 1225 = .ok (.invokevirtual 61, 3) := by decide +kernel
theorem dL_law_1228 : decode cL_law 1228 = .ok (.aload_n 2, 1) := by decide +kernel
theorem dL_law_1229 : decode cL_law 1229 = .ok (.iload 17, 2) := by decide +kernel
theorem dL_law_1231 : decode cL_law 1231 = .ok (.laload, 1) := by decide +kernel
theorem dL_law_1232 : decode cL_law 1232 = .ok (.lcmp, 1) := by decide +kernel
theorem dL_law_1233 : decode cL_law 1233 = .ok (.ifCond .eq 5, 3) := by decide +kernel
theorem dL_law_1236 : decode cL_law 1236 = .ok (.iconst 0, 1) := by decide +kernel
theorem dL_law_1237 : decode cL_law 1237 = .ok (.ireturn, 1) := by decide +kernel
theorem dL_law_1238 : decode cL_law 1238 = .ok (.iinc 17 1, 3) := by decide +kernel
theorem dL_law_1241 : decode cL_law 1241 = .ok (.goto (-49), 3) := by decide +kernel
theorem dL_law_1244 : decode cL_law 1244 = .ok (.iload 16, 2) := by decide +kernel
theorem dL_law_1246 : decode cL_law 1246 = .ok (.iload 5, 2) := by decide +kernel
theorem dL_law_1248 : decode cL_law 1248 = .ok (.if_icmp .gt 15, 3) := by decide +kernel
theorem dL_law_1251 : decode cL_law 1251 = .ok (.aload_n 1, 1) := by decide +kernel
theorem dL_law_1252 : decode cL_law 1252 = .ok (.bipush 6, 2) := by decide +kernel
theorem dL_law_1254 : decode cL_law 1254 = .ok (.invokevirtual 55, 3) := by decide +kernel
theorem dL_law_1257 : decode cL_law 1257 = .ok (.lload 8, 2) := by decide +kernel
theorem dL_law_1259 : decode cL_law 1259 = .ok (.lcmp, 1) := by decide +kernel
theorem dL_law_1260 : decode cL_law 1260 = .ok (.ifCond .eq 5, 3) := by decide +kernel
theorem dL_law_1263 : decode cL_law 1263 = .ok (.iconst 0, 1) := by decide +kernel
theorem dL_law_1264 : decode cL_law 1264 = .ok (.ireturn, 1) := by decide +kernel
theorem dL_law_1265 : decode cL_law 1265 = .ok (.iinc 13 1, 3) := by decide +kernel
theorem dL_law_1268 : decode cL_law 1268 = .ok (.goto (-670), 3) := by decide +kernel
theorem dL_law_1271 : decode cL_law 1271 = .ok (.iinc 10 1, 3) := by decide +kernel
theorem dL_law_1274 : decode cL_law 1274 = .ok (.goto (-1130), 3) := by decide +kernel
theorem dL_law_1277 : decode cL_law 1277 = .ok (.iconst 0, 1) := by decide +kernel
theorem dL_law_1278 : decode cL_law 1278 = .ok (.istore 10, 2) := by decide +kernel
theorem dL_law_1280 : decode cL_law 1280 = .ok (.iconst 0, 1) := by decide +kernel
theorem dL_law_1281 : decode cL_law 1281 = .ok (.istore 11, 2) := by decide +kernel
theorem dL_law_1283 : decode cL_law 1283 = .ok (.iload 11, 2) := by decide +kernel
theorem dL_law_1285 : decode cL_law 1285 = .ok (.aload_n 1, 1) := by decide +kernel
theorem dL_law_1286 : decode cL_law 1286 = .ok (.iconst 0, 1) := by decide +kernel
theorem dL_law_1287 : decode cL_law 1287 = .ok (.invokevirtual 24, 3) := by decide +kernel
theorem dL_law_1290 : decode cL_law 1290 = .ok (.if_icmp .ge 41, 3) := by decide +kernel
theorem dL_law_1293 : decode cL_law 1293 = .ok (.iload 10, 2) := by decide +kernel
theorem dL_law_1295 : decode cL_law 1295 = .ok (.aload_n 1, 1) := by decide +kernel
theorem dL_law_1296 : decode cL_law 1296 = .ok (.iload 11, 2) := by decide +kernel
theorem dL_law_1298 : decode cL_law 1298 = .ok (.iconst 0, 1) := by decide +kernel
theorem dL_law_1299 : decode cL_law 1299 = .ok (.invokevirtual 47, 3) := by decide +kernel
theorem dL_law_1302 : decode cL_law 1302 = .ok (.iconst 2, 1) := by decide +kernel
theorem dL_law_1303 : decode cL_law 1303 = .ok (.if_icmp .eq 14, 3) := by decide +kernel
theorem dL_law_1306 : decode cL_law 1306 = .ok (.aload_n 1, 1) := by decide +kernel
theorem dL_law_1307 : decode cL_law 1307 = .ok (.iload 11, 2) := by decide +kernel
theorem dL_law_1309 : decode cL_law 1309 = .ok (.iconst 0, 1) := by decide +kernel
theorem dL_law_1310 : decode cL_law 1310 = .ok (.invokevirtual 47, 3) := by decide +kernel
theorem dL_law_1313 : decode cL_law 1313 = .ok (.iconst 3, 1) := by decide +kernel
theorem dL_law_1314 : decode cL_law 1314 = .ok (.if_icmp .ne 7, 3) := by decide +kernel
theorem dL_law_1317 : decode cL_law 1317 = .ok (.iconst 1, 1) := by decide +kernel
theorem dL_law_1318 : decode cL_law 1318 = .ok (.goto 4, 3) := by decide +kernel
theorem dL_law_1321 : decode cL_law 1321 = .ok (.iconst 0, 1) := by decide +kernel
theorem dL_law_1322 : decode cL_law 1322 = .ok (.iadd, 1) := by decide +kernel
theorem dL_law_1323 : decode cL_law 1323 = .ok (.istore 10, 2) := by decide +kernel
theorem dL_law_1325 : decode cL_law 1325 = .ok (.iinc 11 1, 3) := by decide +kernel
theorem dL_law_1328 : decode cL_law 1328 = .ok (.goto (-45), 3) := by decide +kernel
theorem dL_law_1331 : decode cL_law 1331 = .ok (.aload_n 1, 1) := by decide +kernel
theorem dL_law_1332 : decode cL_law 1332 = .ok (.iconst 1, 1) := by decide +kernel
theorem dL_law_1333 : decode cL_law 1333 = .ok (.invokevirtual 55, 3) := by decide +kernel
theorem dL_law_1336 : decode cL_law 1336 = .ok (.aload_n 1, 1) := by decide +kernel
theorem dL_law_1337 : decode cL_law 1337 = .ok (.iconst 2, 1) := by decide +kernel
theorem dL_law_1338 : decode cL_law 1338 = .ok (.invokevirtual 55, 3) := by decide +kernel
theorem dL_law_1341 : decode cL_law 1341 = .ok (.ladd, 1) := by decide +kernel
theorem dL_law_1342 : decode cL_law 1342 = .ok (.iload 10, 2) := by decide +kernel
theorem dL_law_1344 : decode cL_law 1344 = .ok (.i2l, 1) := by decide +kernel
theorem dL_law_1345 : decode cL_law 1345 = .ok (.lcmp, 1) := by decide +kernel
theorem dL_law_1346 : decode cL_law 1346 = .ok (.ifCond .ne 48, 3) := by decide +kernel
theorem dL_law_1349 : decode cL_law 1349 = .ok (.aload_n 1, 1) := by decide +kernel
theorem dL_law_1350 : decode cL_law 1350 = .ok (.aload_n 1, 1) := by decide +kernel
theorem dL_law_1351 : decode cL_law 1351 = .ok (.iconst 0, 1) := by decide +kernel
theorem dL_law_1352 : decode cL_law 1352 = .ok (.invokevirtual 55, 3) := by decide +kernel
theorem dL_law_1355 : decode cL_law 1355 = .ok (.l2i, 1) := by decide +kernel
theorem dL_law_1356 : decode cL_law 1356 = .ok (.invokevirtual 174, 3) := by decide +kernel
theorem dL_law_1359 : decode cL_law 1359 = .ok (.bipush (-2), 2) := by decide +kernel
theorem dL_law_1361 : decode cL_law 1361 = .ok (.if_icmp .ne 33, 3) := by decide +kernel
theorem dL_law_1364 : decode cL_law 1364 = .ok (.aload_n 1, 1) := by decide +kernel
theorem dL_law_1365 : decode cL_law 1365 = .ok (.invokevirtual 177, 3) := by decide +kernel
theorem dL_law_1368 : decode cL_law 1368 = .ok (.ifCond .ne 26, 3) := by decide +kernel
theorem dL_law_1371 : decode cL_law 1371 = .ok (.aload_n 1, 1) := by decide +kernel
theorem dL_law_1372 : decode cL_law 1372 = .ok (.iconst 0, 1) := by decide +kernel
theorem dL_law_1373 : decode cL_law 1373 = .ok (.invokevirtual 24, 3) := by decide +kernel
theorem dL_law_1376 : decode cL_law 1376 = .ok (.ifCond .ne 18, 3) := by decide +kernel
theorem dL_law_1379 : decode cL_law 1379 = .ok (.aload_n 1, 1) := by decide +kernel
theorem dL_law_1380 : decode cL_law 1380 = .ok (.iload 4, 2) := by decide +kernel
theorem dL_law_1382 : decode cL_law 1382 = .ok (.invokevirtual 61, 3) := by decide +kernel
theorem dL_law_1385 : decode cL_law 1385 = .ok (.lconst 0, 1) := by decide +kernel
theorem dL_law_1386 : decode cL_law 1386 = .ok (.lcmp, 1) := by decide +kernel
theorem dL_law_1387 : decode cL_law 1387 = .ok (.ifCond .ne 7, 3) := by decide +kernel
theorem dL_law_1390 : decode cL_law 1390 = .ok (.iconst 1, 1) := by decide +kernel
theorem dL_law_1391 : decode cL_law 1391 = .ok (.goto 4, 3) := by decide +kernel
theorem dL_law_1394 : decode cL_law 1394 = .ok (.iconst 0, 1) := by decide +kernel
theorem dL_law_1395 : decode cL_law 1395 = .ok (.ireturn, 1) := by decide +kernel
