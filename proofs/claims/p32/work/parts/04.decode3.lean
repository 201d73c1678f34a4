theorem dL_all_114 : decode cL_all 114 = .ok (.if_icmp .ge 59, 3) := by decide +kernel
theorem dL_all_117 : decode cL_all 117 = .ok (.lload_n 3, 1) := by decide +kernel
theorem dL_all_118 : decode cL_all 118 = .ok (.ldc2_w 120, 3) := by decide +kernel
theorem dL_all_121 : decode cL_all 121 = .ok (.lmul, 1) := by decide +kernel
theorem dL_all_122 : decode cL_all 122 = .ok (.aload_n 0, 1) := by decide +kernel
theorem dL_all_123 : decode cL_all 123 = .ok (.iload 5, 2) := by decide +kernel
theorem dL_all_125 : decode cL_all 125 = .ok (.iconst 1, 1) := by decide +kernel
theorem dL_all_126 : decode cL_all 126 = .ok (.invokevirtual 79, 3) := by decide +kernel
theorem dL_all_129 : decode cL_all 129 = .ok (.i2l, 1) := by decide +kernel
theorem dL_all_130 : decode cL_all 130 = .ok (.ladd, 1) := by decide +kernel
theorem dL_all_131 : decode cL_all 131 = .ok (.ldc2_w 124, 3) := by decide +kernel
theorem dL_all_134 : decode cL_all 134 = .ok (.lmul, 1) := by decide +kernel
theorem dL_all_135 : decode cL_all 135 = .ok (.aload_n 0, 1) := by decide +kernel
theorem dL_all_136 : decode cL_all 136 = .ok (.iload 5, 2) := by decide +kernel
theorem dL_all_138 : decode cL_all 138 = .ok (.iconst 2, 1) := by decide +kernel
theorem dL_all_139 : decode cL_all 139 = .ok (.invokevirtual 79, 3) := by decide +kernel
theorem dL_all_142 : decode cL_all 142 = .ok (.i2l, 1) := by decide +kernel
theorem dL_all_143 : decode cL_all 143 = .ok (.ladd, 1) := by decide +kernel
theorem dL_all_144 : decode cL_all 144 = .ok (.ldc2_w 126, 3) := by decide +kernel
theorem dL_all_147 : decode cL_all 147 = .ok (.lmul, 1) := by decide +kernel
theorem dL_all_148 : decode cL_all 148 = .ok (.aload_n 0, 1) := by decide +kernel
theorem dL_all_149 : decode cL_all 149 = .ok (.iload 5, 2) := by decide +kernel
theorem dL_all_151 : decode cL_all 151 = .ok (.iconst 3, 1) := by decide +kernel
theorem dL_all_152 : decode cL_all 152 = .ok (.invokevirtual 79, 3) := by decide +kernel
theorem dL_all_155 : decode cL_all 155 = .ok (.i2l, 1) := by decide +kernel
theorem dL_all_156 : decode cL_all 156 = .ok (.ladd, 1) := by decide +kernel
theorem dL_all_157 : decode cL_all 157 = .ok (.aload_n 0, 1) := by decide +kernel
theorem dL_all_158 : decode cL_all 158 = .ok (.iload 5, 2) := by decide +kernel
theorem dL_all_160 : decode cL_all 160 = .ok (.iconst 4, 1) := by decide +kernel
theorem dL_all_161 : decode cL_all 161 = .ok (.invokevirtual 79, 3) := by decide +kernel
theorem dL_all_164 : decode cL_all 164 = .ok (.i2l, 1) := by decide +kernel
theorem dL_all_165 : decode cL_all 165 = .ok (.ladd, 1) := by decide +kernel
theorem dL_all_166 : decode cL_all 166 = .ok (.lstore_n 3, 1) := by decide +kernel
theorem dL_all_167 : decode cL_all 167 = .ok (.iinc 5 1, 3) := by decide +kernel
theorem dL_all_170 : decode cL_all 170 = .ok (.goto (-59), 3) := by decide +kernel
theorem dL_all_173 : decode cL_all 173 = .ok (.iconst 0, 1) := by decide +kernel
theorem dL_all_174 : decode cL_all 174 = .ok (.istore 5, 2) := by decide +kernel
theorem dL_all_176 : decode cL_all 176 = .ok (.iload 5, 2) := by decide +kernel
theorem dL_all_178 : decode cL_all 178 = .ok (.bipush 24, 2) := by decide +kernel
theorem dL_all_180 : decode cL_all 180 = .ok (.if_icmp .ge 127, 3) := by decide +kernel
theorem dL_all_183 : decode cL_all 183 = .ok (.aload_n 0, 1) := by decide +kernel
theorem dL_all_184 : decode cL_all 184 = .ok (.iload 5, 2) := by decide +kernel
theorem dL_all_186 : decode cL_all 186 = .ok (.bipush 6, 2) := by decide +kernel
theorem dL_all_188 : decode cL_all 188 = .ok (.idiv, 1) := by decide +kernel
theorem dL_all_189 : decode cL_all 189 = .ok (.iload 5, 2) := by decide +kernel
theorem dL_all_191 : decode cL_all 191 = .ok (.bipush 6, 2) := by decide +kernel
theorem dL_all_193 : decode cL_all 193 = .ok (.irem, 1) := by decide +kernel
theorem dL_all_194 : decode cL_all 194 = .ok (.invokevirtual 109, 3) := by decide +kernel
theorem dL_all_197 : decode cL_all 197 = .ok (.istore 6, 2) := by decide +kernel
theorem dL_all_199 : decode cL_all 199 = .ok (.lload_n 3, 1) := by decide +kernel
theorem dL_all_200 : decode cL_all 200 = .ok (.ldc2_w 128, 3) := by decide +kernel
theorem dL_all_203 : decode cL_all 203 = .ok (.lmul, 1) := by decide +kernel
theorem dL_all_204 : decode cL_all 204 = .ok (.iload 6, 2) := by decide +kernel
theorem dL_all_206 : decode cL_all 206 = .ok (.i2l, 1) := by decide +kernel
theorem dL_all_207 : decode cL_all 207 = .ok (.ladd, 1) := by decide +kernel
theorem dL_all_208 : decode cL_all 208 = .ok (.ldc2_w 120, 3) := by decide +kernel
theorem dL_all_211 : decode cL_all 211 = .ok (.lmul, 1) := by decide +kernel
theorem dL_all_212 : decode cL_all 212 = .ok (.aload_n 0, 1) := by decide +kernel
theorem dL_all_213 : decode cL_all 213 = .ok (.iload 6, 2) := by decide +kernel
theorem dL_all_215 : decode cL_all 215 = .ok (.iload 5, 2) := by decide +kernel
theorem dL_all_217 : decode cL_all 217 = .ok (.bipush 6, 2) := by decide +kernel
theorem dL_all_219 : decode cL_all 219 = .ok (.idiv, 1) := by decide +kernel
theorem dL_all_220 : decode cL_all 220 = .ok (.iload 5, 2) := by decide +kernel
theorem dL_all_222 : decode cL_all 222 = .ok (.bipush 6, 2) := by decide +kernel
theorem dL_all_224 : decode cL_all 224 = .ok (.irem, 1) := by decide +kernel
theorem dL_all_225 : decode cL_all 225 = .ok (.invokevirtual 48, 3) := by decide +kernel
theorem dL_all_228 : decode cL_all 228 = .ok (.i2l, 1) := by decide +kernel
theorem dL_all_229 : decode cL_all 229 = .ok (.ladd, 1) := by decide +kernel
theorem dL_all_230 : decode cL_all 230 = .ok (.ldc2_w 128, 3) := by decide +kernel
theorem dL_all_233 : decode cL_all 233 = .ok (.lmul, 1) := by decide +kernel
theorem dL_all_234 : decode cL_all 234 = .ok (.aload_n 0, 1) := by decide +kernel
theorem dL_all_235 : decode cL_all 235 = .ok (.iload 6, 2) := by decide +kernel
theorem dL_all_237 : decode cL_all 237 = .ok (.iload 5, 2) := by decide +kernel
theorem dL_all_239 : decode cL_all 239 = .ok (.bipush 6, 2) := by decide +kernel
theorem dL_all_241 : decode cL_all 241 = .ok (.idiv, 1) := by decide +kernel
theorem dL_all_242 : decode cL_all 242 = .ok (.iload 5, 2) := by decide +kernel
theorem dL_all_244 : decode cL_all 244 = .ok (.bipush 6, 2) := by decide +kernel
theorem dL_all_246 : decode cL_all 246 = .ok (.irem, 1) := by decide +kernel
theorem dL_all_247 : decode cL_all 247 = .ok (.invokevirtual 51, 3) := by decide +kernel
theorem dL_all_250 : decode cL_all 250 = .ok (.i2l, 1) := by decide +kernel
theorem dL_all_251 : decode cL_all 251 = .ok (.ladd, 1) := by decide +kernel
theorem dL_all_252 : decode cL_all 252 = .ok (.lstore_n 3, 1) := by decide +kernel
theorem dL_all_253 : decode cL_all 253 = .ok (.iconst 0, 1) := by decide +kernel
theorem dL_all_254 : decode cL_all 254 = .ok (.istore 7, 2) := by decide +kernel
theorem dL_all_256 : decode cL_all 256 = .ok (.iload 7, 2) := by decide +kernel
theorem dL_all_258 : decode cL_all 258 = .ok (.bipush 6, 2) := by decide +kernel
theorem dL_all_260 : decode cL_all 260 = .ok (.if_icmp .ge 41, 3) := by decide +kernel
theorem dL_all_263 : decode cL_all 263 = .ok (.lload_n 3, 1) := by decide +kernel
theorem dL_all_264 : decode cL_all 264 = .ok (.ldc2_w 130, 3) := by decide +kernel
theorem dL_all_267 : decode cL_all 267 = .ok (.lmul, 1) := by decide +kernel
theorem dL_all_268 : decode cL_all 268 = .ok (.aload_n 0, 1) := by decide +kernel
theorem dL_all_269 : decode cL_all 269 = .ok (.iload 7, 2) := by decide +kernel
theorem dL_all_271 : decode cL_all 271 = .ok (.iload 5, 2) := by decide +kernel
theorem dL_all_273 : decode cL_all 273 = .ok (.bipush 6, 2) := by decide +kernel
theorem dL_all_275 : decode cL_all 275 = .ok (.idiv, 1) := by decide +kernel
theorem dL_all_276 : decode cL_all 276 = .ok (.iload 5, 2) := by decide +kernel
theorem dL_all_278 : decode cL_all 278 = .ok (.bipush 6, 2) := by decide +kernel
theorem dL_all_280 : decode cL_all 280 = .ok (.irem, 1) := by decide +kernel
theorem dL_all_281 : decode cL_all 281 = .ok (.invokevirtual 112, 3) := by decide +kernel
theorem dL_all_284 : decode cL_all 284 = .ok (.ifCond .eq 7, 3) := by decide +kernel
theorem dL_all_287 : decode cL_all 287 = .ok (.iconst 1, 1) := by decide +kernel
theorem dL_all_288 : decode cL_all 288 = .ok (.goto 4, 3) := by decide +kernel
theorem dL_all_291 : decode cL_all 291 = .ok (.iconst 0, 1) := by decide +kernel
theorem dL_all_292 : decode cL_all 292 = .ok (.i2l, 1) := by decide +kernel
theorem dL_all_293 : decode cL_all 293 = .ok (.ladd, 1) := by decide +kernel
theorem dL_all_294 : decode cL_all 294 = .ok (.lstore_n 3, 1) := by decide +kernel
theorem dL_all_295 : decode cL_all 295 = .ok (.iinc 7 1, 3) := by decide +kernel
theorem dL_all_298 : decode cL_all 298 = .ok (.goto (-42), 3) := by decide +kernel
theorem dL_all_301 : decode cL_all 301 = .ok (.iinc 5 1, 3) := by decide +kernel
theorem dL_all_304 : decode cL_all 304 = .ok (.goto (-128), 3) := by decide +kernel
theorem dL_all_307 : decode cL_all 307 = .ok (.lload_n 3, 1) := by decide +kernel
theorem dL_all_308 : decode cL_all 308 = .ok (.lreturn, 1) := by decide +kernel
theorem dL_both_0 : decode cL_both 0 = .ok (.aload_n 0, 1) := by decide +kernel
theorem dL_both_1 : decode cL_both 1 = .ok (.iload_n 2, 1) := by decide +kernel
theorem dL_both_2 : decode cL_both 2 = .ok (.iload_n 3, 1) := by decide +kernel
theorem dL_both_3 : decode cL_both 3 = .ok (.iload 4, 2) := by decide +kernel
theorem dL_both_5 : decode cL_both 5 = .ok (.iload 5, 2) := by decide +kernel
theorem dL_both_7 : decode cL_both 7 = .ok (.invokestatic 132, 3) := by decide +kernel
theorem dL_both_10 : decode cL_both 10 = .ok (.istore 6, 2) := by decide +kernel
theorem dL_both_12 : decode cL_both 12 = .ok (.iload 6, 2) := by decide +kernel
theorem dL_both_14 : decode cL_both 14 = .ok (.aload_n 1, 1) := by decide +kernel
theorem dL_both_15 : decode cL_both 15 = .ok (.iload_n 2, 1) := by decide +kernel
theorem dL_both_16 : decode cL_both 16 = .ok (.iload_n 3, 1) := by decide +kernel
theorem dL_both_17 : decode cL_both 17 = .ok (.iload 4, 2) := by decide +kernel
theorem dL_both_19 : decode cL_both 19 = .ok (.iload 5, 2) := by decide +kernel
theorem dL_both_21 : decode cL_both 21 = .ok (.invokestatic 132, 3) := by decide +kernel
theorem dL_both_24 : decode cL_both 24 = .ok (.if_icmp .ne 8, 3) := by decide +kernel
theorem dL_both_27 : decode cL_both 27 = .ok (.iload 6, 2) := by decide +kernel
theorem dL_both_29 : decode cL_both 29 = .ok (.goto 5, 3) := by decide +kernel
theorem dL_both_32 : decode cL_both 32 = .ok (.ldc 135, 2) := by decide +kernel
theorem dL_both_34 : decode cL_both 34 = .ok (.ireturn, 1) := by decide +kernel
theorem dL_gives_0 : decode cL_gives 0 = .ok (.iload_n 2, 1) := by decide +kernel
theorem dL_gives_1 : decode cL_gives 1 = .ok (.iconst 4, 1) := by decide +kernel
theorem dL_gives_2 : decode cL_gives 2 = .ok (.invokestatic 136, 3) := by decide +kernel
theorem dL_gives_5 : decode cL_gives 5 = .ok (.istore_n 3, 1) := by decide +kernel
theorem dL_gives_6 : decode cL_gives 6 = .ok (.iload_n 2, 1) := by decide +kernel
theorem dL_gives_7 : decode cL_gives 7 = .ok (.iconst 3, 1) := by decide +kernel
theorem dL_gives_8 : decode cL_gives 8 = .ok (.ishr, 1) := by decide +kernel
theorem dL_gives_9 : decode cL_gives 9 = .ok (.bipush 6, 2) := by decide +kernel
theorem dL_gives_11 : decode cL_gives 11 = .ok (.invokestatic 136, 3) := by decide +kernel
theorem dL_gives_14 : decode cL_gives 14 = .ok (.istore 4, 2) := by decide +kernel
theorem dL_gives_16 : decode cL_gives 16 = .ok (.aload_n 0, 1) := by decide +kernel
theorem dL_gives_17 : decode cL_gives 17 = .ok (.iload_n 3, 1) := by decide +kernel
theorem dL_gives_18 : decode cL_gives 18 = .ok (.iload 4, 2) := by decide +kernel
theorem dL_gives_20 : decode cL_gives 20 = .ok (.invokevirtual 109, 3) := by decide +kernel
theorem dL_gives_23 : decode cL_gives 23 = .ok (.istore 5, 2) := by decide +kernel
theorem dL_gives_25 : decode cL_gives 25 = .ok (.iload_n 2, 1) := by decide +kernel
theorem dL_gives_26 : decode cL_gives 26 = .ok (.bipush 6, 2) := by decide +kernel
theorem dL_gives_28 : decode cL_gives 28 = .ok (.ishr, 1) := by decide +kernel
theorem dL_gives_29 : decode cL_gives 29 = .ok (.bipush 6, 2) := by decide +kernel
theorem dL_gives_31 : decode cL_gives 31 = .ok (.invokestatic 136, 3) := by decide +kernel
theorem dL_gives_34 : decode cL_gives 34 = .ok (.istore 6, 2) := by decide +kernel
theorem dL_gives_36 : decode cL_gives 36 = .ok (.iload_n 2, 1) := by decide +kernel
theorem dL_gives_37 : decode cL_gives 37 = .ok (.bipush 9, 2) := by decide +kernel
theorem dL_gives_39 : decode cL_gives 39 = .ok (.ishr, 1) := by decide +kernel
theorem dL_gives_40 : decode cL_gives 40 = .ok (.bipush 6, 2) := by decide +kernel
theorem dL_gives_42 : decode cL_gives 42 = .ok (.invokestatic 136, 3) := by decide +kernel
theorem dL_gives_45 : decode cL_gives 45 = .ok (.istore 7, 2) := by decide +kernel
theorem dL_gives_47 : decode cL_gives 47 = .ok (.aload_n 0, 1) := by decide +kernel
theorem dL_gives_48 : decode cL_gives 48 = .ok (.iload 7, 2) := by decide +kernel
theorem dL_gives_50 : decode cL_gives 50 = .ok (.iload_n 3, 1) := by decide +kernel
theorem dL_gives_51 : decode cL_gives 51 = .ok (.iload 4, 2) := by decide +kernel
theorem dL_gives_53 : decode cL_gives 53 = .ok (.invokevirtual 112, 3) := by decide +kernel
theorem dL_gives_56 : decode cL_gives 56 = .ok (.istore 8, 2) := by decide +kernel
theorem dL_gives_58 : decode cL_gives 58 = .ok (.iload_n 2, 1) := by decide +kernel
theorem dL_gives_59 : decode cL_gives 59 = .ok (.bipush 11, 2) := by decide +kernel
theorem dL_gives_61 : decode cL_gives 61 = .ok (.ishr, 1) := by decide +kernel
theorem dL_gives_62 : decode cL_gives 62 = .ok (.iconst 2, 1) := by decide +kernel
theorem dL_gives_63 : decode cL_gives 63 = .ok (.invokestatic 136, 3) := by decide +kernel
theorem dL_gives_66 : decode cL_gives 66 = .ok (.ifCond .ne 116, 3) := by decide +kernel
theorem dL_gives_69 : decode cL_gives 69 = .ok (.aload_n 0, 1) := by decide +kernel
theorem dL_gives_70 : decode cL_gives 70 = .ok (.aload_n 1, 1) := by decide +kernel
theorem dL_gives_71 : decode cL_gives 71 = .ok (.iconst 0, 1) := by decide +kernel
theorem dL_gives_72 : decode cL_gives 72 = .ok (.iload 5, 2) := by decide +kernel
theorem dL_gives_74 : decode cL_gives 74 = .ok (.bipush 8, 2) := by decide +kernel
theorem dL_gives_76 : decode cL_gives 76 = .ok (.iload_n 3, 1) := by decide +kernel
theorem dL_gives_77 : decode cL_gives 77 = .ok (.iconst 2, 1) := by decide +kernel
theorem dL_gives_78 : decode cL_gives 78 = .ok (.iadd, 1) := by decide +kernel
theorem dL_gives_79 : decode cL_gives 79 = .ok (.imul, 1) := by decide +kernel
theorem dL_gives_80 : decode cL_gives 80 = .ok (.iload 4, 2) := by decide +kernel
theorem dL_gives_82 : decode cL_gives 82 = .ok (.iadd, 1) := by decide +kernel
theorem dL_gives_83 : decode cL_gives 83 = .ok (.iconst 1, 1) := by decide +kernel
theorem dL_gives_84 : decode cL_gives 84 = .ok (.iadd, 1) := by decide +kernel
theorem dL_gives_85 : decode cL_gives 85 = .ok (.iload 6, 2) := by decide +kernel
theorem dL_gives_87 : decode cL_gives 87 = .ok (.invokestatic 139, 3) := by decide +kernel
theorem dL_gives_90 : decode cL_gives 90 = .ok (.istore 9, 2) := by decide +kernel
theorem dL_gives_92 : decode cL_gives 92 = .ok (.iload 9, 2) := by decide +kernel
theorem dL_gives_94 : decode cL_gives 94 = .ok (.ifCond .le 38, 3) := by decide +kernel
theorem dL_gives_97 : decode cL_gives 97 = .ok (.iload 9, 2) := by decide +kernel
theorem dL_gives_99 : decode cL_gives 99 = .ok (.bipush 25, 2) := by decide +kernel
theorem dL_gives_101 : decode cL_gives 101 = .ok (.if_icmp .ge 31, 3) := by decide +kernel
theorem dL_gives_104 : decode cL_gives 104 = .ok (.aload_n 0, 1) := by decide +kernel
theorem dL_gives_105 : decode cL_gives 105 = .ok (.iload_n 3, 1) := by decide +kernel
theorem dL_gives_106 : decode cL_gives 106 = .ok (.iload 4, 2) := by decide +kernel
theorem dL_gives_108 : decode cL_gives 108 = .ok (.invokevirtual 109, 3) := by decide +kernel
theorem dL_gives_111 : decode cL_gives 111 = .ok (.iload 6, 2) := by decide +kernel
theorem dL_gives_113 : decode cL_gives 113 = .ok (.if_icmp .ne 19, 3) := by decide +kernel
theorem dL_gives_116 : decode cL_gives 116 = .ok (.aload_n 0, 1) := by decide +kernel
theorem dL_gives_117 : decode cL_gives 117 = .ok (.iload 6, 2) := by decide +kernel
theorem dL_gives_119 : decode cL_gives 119 = .ok (.iload_n 3, 1) := by decide +kernel
theorem dL_gives_120 : decode cL_gives 120 = .ok (.iload 4, 2) := by decide +kernel
theorem dL_gives_122 : decode cL_gives 122 = .ok (.invokevirtual 112, 3) := by decide +kernel
theorem dL_gives_125 : decode cL_gives 125 = .ok (.ifCond .eq 7, 3) := by decide +kernel
theorem dL_gives_128 : decode cL_gives 128 = .ok (.iconst 1, 1) := by decide +kernel
theorem dL_gives_129 : decode cL_gives 129 = .ok (.goto 4, 3) := by decide +kernel
theorem dL_gives_132 : decode cL_gives 132 = .ok (.iconst 0, 1) := by decide +kernel
theorem dL_gives_133 : decode cL_gives 133 = .ok (.istore 10, 2) := by decide +kernel
theorem dL_gives_135 : decode cL_gives 135 = .ok (.iload 10, 2) := by decide +kernel
theorem dL_gives_137 : decode cL_gives 137 = .ok (.ifCond .eq 43, 3) := by decide +kernel
theorem dL_gives_140 : decode cL_gives 140 = .ok (.iload 7, 2) := by decide +kernel
theorem dL_gives_142 : decode cL_gives 142 = .ok (.iload 5, 2) := by decide +kernel
theorem dL_gives_144 : decode cL_gives 144 = .ok (.if_icmp .eq 32, 3) := by decide +kernel
theorem dL_gives_147 : decode cL_gives 147 = .ok (.aload_n 0, 1) := by decide +kernel
theorem dL_gives_148 : decode cL_gives 148 = .ok (.iload 7, 2) := by decide +kernel
theorem dL_gives_150 : decode cL_gives 150 = .ok (.iload_n 3, 1) := by decide +kernel
theorem dL_gives_151 : decode cL_gives 151 = .ok (.iload 4, 2) := by decide +kernel
theorem dL_gives_153 : decode cL_gives 153 = .ok (.invokevirtual 112, 3) := by decide +kernel
theorem dL_gives_156 : decode cL_gives 156 = .ok (.iload 8, 2) := by decide +kernel
theorem dL_gives_158 : decode cL_gives 158 = .ok (.ifCond .ne 10, 3) := by decide +kernel
theorem dL_gives_161 : decode cL_gives 161 = .ok (.iload 7, 2) := by decide +kernel
theorem dL_gives_163 : decode cL_gives 163 = .ok (.iload 6, 2) := by decide +kernel
theorem dL_gives_165 : decode cL_gives 165 = .ok (.if_icmp .ne 7, 3) := by decide +kernel
theorem dL_gives_168 : decode cL_gives 168 = .ok (.iconst 1, 1) := by decide +kernel
theorem dL_gives_169 : decode cL_gives 169 = .ok (.goto 4, 3) := by decide +kernel
theorem dL_gives_172 : decode cL_gives 172 = .ok (.iconst 0, 1) := by decide +kernel
theorem dL_gives_173 : decode cL_gives 173 = .ok (.if_icmp .ne 7, 3) := by decide +kernel
theorem dL_gives_176 : decode cL_gives 176 = .ok (.iconst 1, 1) := by decide +kernel
theorem dL_gives_177 : decode cL_gives 177 = .ok (.goto 4, 3) := by decide +kernel
theorem dL_gives_180 : decode cL_gives 180 = .ok (.iconst 0, 1) := by decide +kernel
theorem dL_gives_181 : decode cL_gives 181 = .ok (.ireturn, 1) := by decide +kernel
theorem dL_gives_182 : decode cL_gives 182 = .ok (.iload_n 2, 1) := by decide +kernel
theorem dL_gives_183 : decode cL_gives 183 = .ok (.bipush 12, 2) := by decide +kernel
theorem dL_gives_185 : decode cL_gives 185 = .ok (.ishr, 1) := by decide +kernel
theorem dL_gives_186 : decode cL_gives 186 = .ok (.iconst 3, 1) := by decide +kernel
theorem dL_gives_187 : decode cL_gives 187 = .ok (.invokestatic 136, 3) := by decide +kernel
theorem dL_gives_190 : decode cL_gives 190 = .ok (.ifCond .le 7, 3) := by decide +kernel
theorem dL_gives_193 : decode cL_gives 193 = .ok (.iconst 1, 1) := by decide +kernel
theorem dL_gives_194 : decode cL_gives 194 = .ok (.goto 4, 3) := by decide +kernel
theorem dL_gives_197 : decode cL_gives 197 = .ok (.iconst 0, 1) := by decide +kernel
theorem dL_gives_198 : decode cL_gives 198 = .ok (.istore 9, 2) := by decide +kernel
theorem dL_gives_200 : decode cL_gives 200 = .ok (.iload 7, 2) := by decide +kernel
theorem dL_gives_202 : decode cL_gives 202 = .ok (.iload 5, 2) := by decide +kernel
theorem dL_gives_204 : decode cL_gives 204 = .ok (.if_icmp .ne 50, 3) := by decide +kernel
theorem dL_gives_207 : decode cL_gives 207 = .ok (.aload_n 0, 1) := by decide +kernel
theorem dL_gives_208 : decode cL_gives 208 = .ok (.aload_n 1, 1) := by decide +kernel
theorem dL_gives_209 : decode cL_gives 209 = .ok (.iconst 1, 1) := by decide +kernel
theorem dL_gives_210 : decode cL_gives 210 = .ok (.iload 5, 2) := by decide +kernel
theorem dL_gives_212 : decode cL_gives 212 = .ok (.bipush 8, 2) := by decide +kernel
theorem dL_gives_214 : decode cL_gives 214 = .ok (.iload 7, 2) := by decide +kernel
theorem dL_gives_216 : decode cL_gives 216 = .ok (.iconst 2, 1) := by decide +kernel
theorem dL_gives_217 : decode cL_gives 217 = .ok (.iadd, 1) := by decide +kernel
theorem dL_gives_218 : decode cL_gives 218 = .ok (.imul, 1) := by decide +kernel
theorem dL_gives_219 : decode cL_gives 219 = .ok (.iload_n 3, 1) := by decide +kernel
theorem dL_gives_220 : decode cL_gives 220 = .ok (.iadd, 1) := by decide +kernel
theorem dL_gives_221 : decode cL_gives 221 = .ok (.iconst 2, 1) := by decide +kernel
theorem dL_gives_222 : decode cL_gives 222 = .ok (.iadd, 1) := by decide +kernel
theorem dL_gives_223 : decode cL_gives 223 = .ok (.bipush 16, 2) := by decide +kernel
theorem dL_gives_225 : decode cL_gives 225 = .ok (.iload 4, 2) := by decide +kernel
theorem dL_gives_227 : decode cL_gives 227 = .ok (.iconst 1, 1) := by decide +kernel
theorem dL_gives_228 : decode cL_gives 228 = .ok (.iadd, 1) := by decide +kernel
theorem dL_gives_229 : decode cL_gives 229 = .ok (.imul, 1) := by decide +kernel
theorem dL_gives_230 : decode cL_gives 230 = .ok (.iconst 2, 1) := by decide +kernel
theorem dL_gives_231 : decode cL_gives 231 = .ok (.iload 4, 2) := by decide +kernel
theorem dL_gives_233 : decode cL_gives 233 = .ok (.iconst 1, 1) := by decide +kernel
theorem dL_gives_234 : decode cL_gives 234 = .ok (.iadd, 1) := by decide +kernel
theorem dL_gives_235 : decode cL_gives 235 = .ok (.imul, 1) := by decide +kernel
theorem dL_gives_236 : decode cL_gives 236 = .ok (.iadd, 1) := by decide +kernel
theorem dL_gives_237 : decode cL_gives 237 = .ok (.iload 9, 2) := by decide +kernel
theorem dL_gives_239 : decode cL_gives 239 = .ok (.iadd, 1) := by decide +kernel
theorem dL_gives_240 : decode cL_gives 240 = .ok (.invokestatic 139, 3) := by decide +kernel
theorem dL_gives_243 : decode cL_gives 243 = .ok (.ldc 20, 2) := by decide +kernel
theorem dL_gives_245 : decode cL_gives 245 = .ok (.if_icmp .ne 7, 3) := by decide +kernel
theorem dL_gives_248 : decode cL_gives 248 = .ok (.iconst 1, 1) := by decide +kernel
theorem dL_gives_249 : decode cL_gives 249 = .ok (.goto 4, 3) := by decide +kernel
theorem dL_gives_252 : decode cL_gives 252 = .ok (.iconst 0, 1) := by decide +kernel
theorem dL_gives_253 : decode cL_gives 253 = .ok (.ireturn, 1) := by decide +kernel
theorem dL_gives_254 : decode cL_gives 254 = .ok (.aload_n 0, 1) := by decide +kernel
theorem dL_gives_255 : decode cL_gives 255 = .ok (.aload_n 1, 1) := by decide +kernel
theorem dL_gives_256 : decode cL_gives 256 = .ok (.iconst 1, 1) := by decide +kernel
theorem dL_gives_257 : decode cL_gives 257 = .ok (.iload 5, 2) := by decide +kernel
theorem dL_gives_259 : decode cL_gives 259 = .ok (.bipush 8, 2) := by decide +kernel
theorem dL_gives_261 : decode cL_gives 261 = .ok (.iload 7, 2) := by decide +kernel
theorem dL_gives_263 : decode cL_gives 263 = .ok (.iconst 2, 1) := by decide +kernel
theorem dL_gives_264 : decode cL_gives 264 = .ok (.iadd, 1) := by decide +kernel
theorem dL_gives_265 : decode cL_gives 265 = .ok (.imul, 1) := by decide +kernel
theorem dL_gives_266 : decode cL_gives 266 = .ok (.iload_n 3, 1) := by decide +kernel
theorem dL_gives_267 : decode cL_gives 267 = .ok (.iadd, 1) := by decide +kernel
theorem dL_gives_268 : decode cL_gives 268 = .ok (.iconst 2, 1) := by decide +kernel
theorem dL_gives_269 : decode cL_gives 269 = .ok (.iadd, 1) := by decide +kernel
theorem dL_gives_270 : decode cL_gives 270 = .ok (.bipush 16, 2) := by decide +kernel
theorem dL_gives_272 : decode cL_gives 272 = .ok (.iload 4, 2) := by decide +kernel
theorem dL_gives_274 : decode cL_gives 274 = .ok (.iconst 1, 1) := by decide +kernel
theorem dL_gives_275 : decode cL_gives 275 = .ok (.iadd, 1) := by decide +kernel
theorem dL_gives_276 : decode cL_gives 276 = .ok (.imul, 1) := by decide +kernel
theorem dL_gives_277 : decode cL_gives 277 = .ok (.iconst 2, 1) := by decide +kernel
theorem dL_gives_278 : decode cL_gives 278 = .ok (.iload 4, 2) := by decide +kernel
theorem dL_gives_280 : decode cL_gives 280 = .ok (.iconst 1, 1) := by decide +kernel
theorem dL_gives_281 : decode cL_gives 281 = .ok (.iadd, 1) := by decide +kernel
theorem dL_gives_282 : decode cL_gives 282 = .ok (.imul, 1) := by decide +kernel
theorem dL_gives_283 : decode cL_gives 283 = .ok (.iadd, 1) := by decide +kernel
theorem dL_gives_284 : decode cL_gives 284 = .ok (.iload 9, 2) := by decide +kernel
theorem dL_gives_286 : decode cL_gives 286 = .ok (.iadd, 1) := by decide +kernel
theorem dL_gives_287 : decode cL_gives 287 = .ok (.invokestatic 139, 3) := by decide +kernel
theorem dL_gives_290 : decode cL_gives 290 = .ok (.istore 10, 2) := by decide +kernel
theorem dL_gives_292 : decode cL_gives 292 = .ok (.iload 10, 2) := by decide +kernel
theorem dL_gives_294 : decode cL_gives 294 = .ok (.iconst 1, 1) := by decide +kernel
theorem dL_gives_295 : decode cL_gives 295 = .ok (.if_icmp .ne 42, 3) := by decide +kernel
theorem dL_gives_298 : decode cL_gives 298 = .ok (.aload_n 0, 1) := by decide +kernel
theorem dL_gives_299 : decode cL_gives 299 = .ok (.iload 7, 2) := by decide +kernel
theorem dL_gives_301 : decode cL_gives 301 = .ok (.iload_n 3, 1) := by decide +kernel
theorem dL_gives_302 : decode cL_gives 302 = .ok (.iload 4, 2) := by decide +kernel
theorem dL_gives_304 : decode cL_gives 304 = .ok (.invokevirtual 112, 3) := by decide +kernel
theorem dL_gives_307 : decode cL_gives 307 = .ok (.iload 9, 2) := by decide +kernel
theorem dL_gives_309 : decode cL_gives 309 = .ok (.iconst 1, 1) := by decide +kernel
theorem dL_gives_310 : decode cL_gives 310 = .ok (.if_icmp .ne 7, 3) := by decide +kernel
theorem dL_gives_313 : decode cL_gives 313 = .ok (.iconst 1, 1) := by decide +kernel
theorem dL_gives_314 : decode cL_gives 314 = .ok (.goto 4, 3) := by decide +kernel
theorem dL_gives_317 : decode cL_gives 317 = .ok (.iconst 0, 1) := by decide +kernel
theorem dL_gives_318 : decode cL_gives 318 = .ok (.if_icmp .ne 19, 3) := by decide +kernel
theorem dL_gives_321 : decode cL_gives 321 = .ok (.aload_n 0, 1) := by decide +kernel
theorem dL_gives_322 : decode cL_gives 322 = .ok (.iload_n 3, 1) := by decide +kernel
theorem dL_gives_323 : decode cL_gives 323 = .ok (.iload 4, 2) := by decide +kernel
theorem dL_gives_325 : decode cL_gives 325 = .ok (.invokevirtual 109, 3) := by decide +kernel
theorem dL_gives_328 : decode cL_gives 328 = .ok (.iload 5, 2) := by decide +kernel
theorem dL_gives_330 : decode cL_gives 330 = .ok (.if_icmp .ne 7, 3) := by decide +kernel
theorem dL_gives_333 : decode cL_gives 333 = .ok (.iconst 1, 1) := by decide +kernel
theorem dL_gives_334 : decode cL_gives 334 = .ok (.goto 4, 3) := by decide +kernel
theorem dL_gives_337 : decode cL_gives 337 = .ok (.iconst 0, 1) := by decide +kernel
theorem dL_gives_338 : decode cL_gives 338 = .ok (.ireturn, 1) := by decide +kernel
theorem dL_edits_0 : decode cL_edits 0 = .ok (.iload 4, 2) := by decide +kernel
theorem dL_edits_2 : decode cL_edits 2 = .ok (.iconst 4, 1) := by decide +kernel
theorem dL_edits_3 : decode cL_edits 3 = .ok (.invokestatic 136, 3) := by decide +kernel
theorem dL_edits_6 : decode cL_edits 6 = .ok (.istore 5, 2) := by decide +kernel
theorem dL_edits_8 : decode cL_edits 8 = .ok (.iload 4, 2) := by decide +kernel
theorem dL_edits_10 : decode cL_edits 10 = .ok (.iconst 3, 1) := by decide +kernel
theorem dL_edits_11 : decode cL_edits 11 = .ok (.ishr, 1) := by decide +kernel
theorem dL_edits_12 : decode cL_edits 12 = .ok (.iload 4, 2) := by decide +kernel
theorem dL_edits_14 : decode cL_edits 14 = .ok (.bipush 9, 2) := by decide +kernel
theorem dL_edits_16 : decode cL_edits 16 = .ok (.ishr, 1) := by decide +kernel
theorem dL_edits_17 : decode cL_edits 17 = .ok (.iconst 3, 1) := by decide +kernel
theorem dL_edits_18 : decode cL_edits 18 = .ok (.invokestatic 136, 3) := by decide +kernel
theorem dL_edits_21 : decode cL_edits 21 = .ok (.ifCond .ne 8, 3) := by decide +kernel
theorem dL_edits_24 : decode cL_edits 24 = .ok (.bipush 6, 2) := by decide +kernel
theorem dL_edits_26 : decode cL_edits 26 = .ok (.goto 4, 3) := by decide +kernel
theorem dL_edits_29 : decode cL_edits 29 = .ok (.iconst 2, 1) := by decide +kernel
theorem dL_edits_30 : decode cL_edits 30 = .ok (.invokestatic 136, 3) := by decide +kernel
theorem dL_edits_33 : decode cL_edits 33 = .ok (.istore 6, 2) := by decide +kernel
theorem dL_edits_35 : decode cL_edits 35 = .ok (.aload_n 0, 1) := by decide +kernel
theorem dL_edits_36 : decode cL_edits 36 = .ok (.iload 5, 2) := by decide +kernel
theorem dL_edits_38 : decode cL_edits 38 = .ok (.iload 6, 2) := by decide +kernel
theorem dL_edits_40 : decode cL_edits 40 = .ok (.invokevirtual 109, 3) := by decide +kernel
theorem dL_edits_43 : decode cL_edits 43 = .ok (.istore 7, 2) := by decide +kernel
theorem dL_edits_45 : decode cL_edits 45 = .ok (.bipush 6, 2) := by decide +kernel
theorem dL_edits_47 : decode cL_edits 47 = .ok (.iload 5, 2) := by decide +kernel
theorem dL_edits_49 : decode cL_edits 49 = .ok (.imul, 1) := by decide +kernel
theorem dL_edits_50 : decode cL_edits 50 = .ok (.iload 6, 2) := by decide +kernel
theorem dL_edits_52 : decode cL_edits 52 = .ok (.iadd, 1) := by decide +kernel
theorem dL_edits_53 : decode cL_edits 53 = .ok (.istore 8, 2) := by decide +kernel
theorem dL_edits_55 : decode cL_edits 55 = .ok (.aload_n 0, 1) := by decide +kernel
theorem dL_edits_56 : decode cL_edits 56 = .ok (.invokevirtual 143, 3) := by decide +kernel
theorem dL_edits_59 : decode cL_edits 59 = .ok (.aload_n 1, 1) := by decide +kernel
theorem dL_edits_60 : decode cL_edits 60 = .ok (.invokevirtual 143, 3) := by decide +kernel
theorem dL_edits_63 : decode cL_edits 63 = .ok (.if_icmp .ne 32, 3) := by decide +kernel
theorem dL_edits_66 : decode cL_edits 66 = .ok (.aload_n 0, 1) := by decide +kernel
theorem dL_edits_67 : decode cL_edits 67 = .ok (.aload_n 1, 1) := by decide +kernel
theorem dL_edits_68 : decode cL_edits 68 = .ok (.iconst 2, 1) := by decide +kernel
theorem dL_edits_69 : decode cL_edits 69 = .ok (.iconst 0, 1) := by decide +kernel
theorem dL_edits_70 : decode cL_edits 70 = .ok (.iload 4, 2) := by decide +kernel
theorem dL_edits_72 : decode cL_edits 72 = .ok (.bipush 6, 2) := by decide +kernel
theorem dL_edits_74 : decode cL_edits 74 = .ok (.ishr, 1) := by decide +kernel
theorem dL_edits_75 : decode cL_edits 75 = .ok (.bipush 41, 2) := by decide +kernel
theorem dL_edits_77 : decode cL_edits 77 = .ok (.invokestatic 136, 3) := by decide +kernel
theorem dL_edits_80 : decode cL_edits 80 = .ok (.bipush 6, 2) := by decide +kernel
theorem dL_edits_82 : decode cL_edits 82 = .ok (.isub, 1) := by decide +kernel
theorem dL_edits_83 : decode cL_edits 83 = .ok (.iconst 0, 1) := by decide +kernel
theorem dL_edits_84 : decode cL_edits 84 = .ok (.invokestatic 139, 3) := by decide +kernel
theorem dL_edits_87 : decode cL_edits 87 = .ok (.iconst 1, 1) := by decide +kernel
theorem dL_edits_88 : decode cL_edits 88 = .ok (.if_icmp .ne 7, 3) := by decide +kernel
theorem dL_edits_91 : decode cL_edits 91 = .ok (.iconst 1, 1) := by decide +kernel
theorem dL_edits_92 : decode cL_edits 92 = .ok (.goto 4, 3) := by decide +kernel
theorem dL_edits_95 : decode cL_edits 95 = .ok (.iconst 0, 1) := by decide +kernel
theorem dL_edits_96 : decode cL_edits 96 = .ok (.istore 9, 2) := by decide +kernel
theorem dL_edits_98 : decode cL_edits 98 = .ok (.iconst 1, 1) := by decide +kernel
theorem dL_edits_99 : decode cL_edits 99 = .ok (.istore 10, 2) := by decide +kernel
theorem dL_edits_101 : decode cL_edits 101 = .ok (.iload_n 3, 1) := by decide +kernel
theorem dL_edits_102 : decode cL_edits 102 = .ok (.iconst 3, 1) := by decide +kernel
theorem dL_edits_103 : decode cL_edits 103 = .ok (.invokestatic 136, 3) := by decide +kernel
theorem dL_edits_106 : decode cL_edits 106 = .ok (.ifCond .le 78, 3) := by decide +kernel
theorem dL_edits_109 : decode cL_edits 109 = .ok (.iload 9, 2) := by decide +kernel
theorem dL_edits_111 : decode cL_edits 111 = .ok (.ifCond .eq 67, 3) := by decide +kernel
theorem dL_edits_114 : decode cL_edits 114 = .ok (.aload_n 0, 1) := by decide +kernel
theorem dL_edits_115 : decode cL_edits 115 = .ok (.aload_n 1, 1) := by decide +kernel
theorem dL_edits_116 : decode cL_edits 116 = .ok (.iconst 2, 1) := by decide +kernel
theorem dL_edits_117 : decode cL_edits 117 = .ok (.iconst 1, 1) := by decide +kernel
theorem dL_edits_118 : decode cL_edits 118 = .ok (.iload_n 3, 1) := by decide +kernel
theorem dL_edits_119 : decode cL_edits 119 = .ok (.iconst 4, 1) := by decide +kernel
theorem dL_edits_120 : decode cL_edits 120 = .ok (.ishr, 1) := by decide +kernel
theorem dL_edits_121 : decode cL_edits 121 = .ok (.bipush 7, 2) := by decide +kernel
theorem dL_edits_123 : decode cL_edits 123 = .ok (.invokestatic 136, 3) := by decide +kernel
theorem dL_edits_126 : decode cL_edits 126 = .ok (.iadd, 1) := by decide +kernel
theorem dL_edits_127 : decode cL_edits 127 = .ok (.iload_n 3, 1) := by decide +kernel
theorem dL_edits_128 : decode cL_edits 128 = .ok (.bipush 7, 2) := by decide +kernel
theorem dL_edits_130 : decode cL_edits 130 = .ok (.ishr, 1) := by decide +kernel
theorem dL_edits_131 : decode cL_edits 131 = .ok (.iconst 4, 1) := by decide +kernel
theorem dL_edits_132 : decode cL_edits 132 = .ok (.invokestatic 136, 3) := by decide +kernel
theorem dL_edits_135 : decode cL_edits 135 = .ok (.iload_n 3, 1) := by decide +kernel
theorem dL_edits_136 : decode cL_edits 136 = .ok (.bipush 9, 2) := by decide +kernel
theorem dL_edits_138 : decode cL_edits 138 = .ok (.ishr, 1) := by decide +kernel
theorem dL_edits_139 : decode cL_edits 139 = .ok (.bipush 6, 2) := by decide +kernel
theorem dL_edits_141 : decode cL_edits 141 = .ok (.invokestatic 136, 3) := by decide +kernel
theorem dL_edits_144 : decode cL_edits 144 = .ok (.invokestatic 139, 3) := by decide +kernel
theorem dL_edits_147 : decode cL_edits 147 = .ok (.iconst 2, 1) := by decide +kernel
theorem dL_edits_148 : decode cL_edits 148 = .ok (.if_icmp .ne 30, 3) := by decide +kernel
theorem dL_edits_151 : decode cL_edits 151 = .ok (.aload_n 0, 1) := by decide +kernel
theorem dL_edits_152 : decode cL_edits 152 = .ok (.aload_n 1, 1) := by decide +kernel
theorem dL_edits_153 : decode cL_edits 153 = .ok (.iconst 2, 1) := by decide +kernel
theorem dL_edits_154 : decode cL_edits 154 = .ok (.bipush 8, 2) := by decide +kernel
theorem dL_edits_156 : decode cL_edits 156 = .ok (.iload_n 3, 1) := by decide +kernel
theorem dL_edits_157 : decode cL_edits 157 = .ok (.iconst 2, 1) := by decide +kernel
theorem dL_edits_158 : decode cL_edits 158 = .ok (.ishr, 1) := by decide +kernel
theorem dL_edits_159 : decode cL_edits 159 = .ok (.bipush 6, 2) := by decide +kernel
theorem dL_edits_161 : decode cL_edits 161 = .ok (.invokestatic 136, 3) := by decide +kernel
theorem dL_edits_164 : decode cL_edits 164 = .ok (.iadd, 1) := by decide +kernel
theorem dL_edits_165 : decode cL_edits 165 = .ok (.iconst 0, 1) := by decide +kernel
theorem dL_edits_166 : decode cL_edits 166 = .ok (.iconst 0, 1) := by decide +kernel
theorem dL_edits_167 : decode cL_edits 167 = .ok (.invokestatic 139, 3) := by decide +kernel
theorem dL_edits_170 : decode cL_edits 170 = .ok (.iconst 3, 1) := by decide +kernel
theorem dL_edits_171 : decode cL_edits 171 = .ok (.if_icmp .ne 7, 3) := by decide +kernel
theorem dL_edits_174 : decode cL_edits 174 = .ok (.iconst 1, 1) := by decide +kernel
theorem dL_edits_175 : decode cL_edits 175 = .ok (.goto 4, 3) := by decide +kernel
theorem dL_edits_178 : decode cL_edits 178 = .ok (.iconst 0, 1) := by decide +kernel
theorem dL_edits_179 : decode cL_edits 179 = .ok (.istore 9, 2) := by decide +kernel
theorem dL_edits_181 : decode cL_edits 181 = .ok (.iconst 3, 1) := by decide +kernel
theorem dL_edits_182 : decode cL_edits 182 = .ok (.istore 10, 2) := by decide +kernel
theorem dL_edits_184 : decode cL_edits 184 = .ok (.aload_n 0, 1) := by decide +kernel
theorem dL_edits_185 : decode cL_edits 185 = .ok (.aload_n 1, 1) := by decide +kernel
theorem dL_edits_186 : decode cL_edits 186 = .ok (.iconst 5, 1) := by decide +kernel
theorem dL_edits_187 : decode cL_edits 187 = .ok (.iload 5, 2) := by decide +kernel
theorem dL_edits_189 : decode cL_edits 189 = .ok (.iload_n 3, 1) := by decide +kernel
theorem dL_edits_190 : decode cL_edits 190 = .ok (.iconst 5, 1) := by decide +kernel
theorem dL_edits_191 : decode cL_edits 191 = .ok (.ishr, 1) := by decide +kernel
theorem dL_edits_192 : decode cL_edits 192 = .ok (.iconst 3, 1) := by decide +kernel
theorem dL_edits_193 : decode cL_edits 193 = .ok (.invokestatic 136, 3) := by decide +kernel
theorem dL_edits_196 : decode cL_edits 196 = .ok (.iconst 0, 1) := by decide +kernel
theorem dL_edits_197 : decode cL_edits 197 = .ok (.invokestatic 139, 3) := by decide +kernel
theorem dL_edits_200 : decode cL_edits 200 = .ok (.istore 11, 2) := by decide +kernel
theorem dL_edits_202 : decode cL_edits 202 = .ok (.iload 9, 2) := by decide +kernel
theorem dL_edits_204 : decode cL_edits 204 = .ok (.ifCond .eq 45, 3) := by decide +kernel
theorem dL_edits_207 : decode cL_edits 207 = .ok (.iload 11, 2) := by decide +kernel
theorem dL_edits_209 : decode cL_edits 209 = .ok (.ifCond .lt 40, 3) := by decide +kernel
theorem dL_edits_212 : decode cL_edits 212 = .ok (.iload 11, 2) := by decide +kernel
theorem dL_edits_214 : decode cL_edits 214 = .ok (.bipush 51, 2) := by decide +kernel
theorem dL_edits_216 : decode cL_edits 216 = .ok (.if_icmp .ge 33, 3) := by decide +kernel
theorem dL_edits_219 : decode cL_edits 219 = .ok (.aload_n 0, 1) := by decide +kernel
theorem dL_edits_220 : decode cL_edits 220 = .ok (.aload_n 1, 1) := by decide +kernel
theorem dL_edits_221 : decode cL_edits 221 = .ok (.iconst 5, 1) := by decide +kernel
theorem dL_edits_222 : decode cL_edits 222 = .ok (.iload 5, 2) := by decide +kernel
theorem dL_edits_224 : decode cL_edits 224 = .ok (.iload_n 3, 1) := by decide +kernel
theorem dL_edits_225 : decode cL_edits 225 = .ok (.iconst 5, 1) := by decide +kernel
theorem dL_edits_226 : decode cL_edits 226 = .ok (.ishr, 1) := by decide +kernel
theorem dL_edits_227 : decode cL_edits 227 = .ok (.iconst 3, 1) := by decide +kernel
theorem dL_edits_228 : decode cL_edits 228 = .ok (.invokestatic 136, 3) := by decide +kernel
theorem dL_edits_231 : decode cL_edits 231 = .ok (.iconst 0, 1) := by decide +kernel
theorem dL_edits_232 : decode cL_edits 232 = .ok (.invokestatic 139, 3) := by decide +kernel
theorem dL_edits_235 : decode cL_edits 235 = .ok (.iload_n 3, 1) := by decide +kernel
theorem dL_edits_236 : decode cL_edits 236 = .ok (.iconst 5, 1) := by decide +kernel
theorem dL_edits_237 : decode cL_edits 237 = .ok (.ishr, 1) := by decide +kernel
theorem dL_edits_238 : decode cL_edits 238 = .ok (.iconst 3, 1) := by decide +kernel
theorem dL_edits_239 : decode cL_edits 239 = .ok (.invokestatic 136, 3) := by decide +kernel
theorem dL_edits_242 : decode cL_edits 242 = .ok (.if_icmp .ne 7, 3) := by decide +kernel
theorem dL_edits_245 : decode cL_edits 245 = .ok (.iconst 1, 1) := by decide +kernel
theorem dL_edits_246 : decode cL_edits 246 = .ok (.goto 4, 3) := by decide +kernel
theorem dL_edits_249 : decode cL_edits 249 = .ok (.iconst 0, 1) := by decide +kernel
theorem dL_edits_250 : decode cL_edits 250 = .ok (.istore 9, 2) := by decide +kernel
theorem dL_edits_252 : decode cL_edits 252 = .ok (.aload_n 0, 1) := by decide +kernel
theorem dL_edits_253 : decode cL_edits 253 = .ok (.invokevirtual 116, 3) := by decide +kernel
theorem dL_edits_256 : decode cL_edits 256 = .ok (.istore 12, 2) := by decide +kernel
theorem dL_edits_258 : decode cL_edits 258 = .ok (.aload_n 0, 1) := by decide +kernel
theorem dL_edits_259 : decode cL_edits 259 = .ok (.iload 8, 2) := by decide +kernel
theorem dL_edits_261 : decode cL_edits 261 = .ok (.bipush 6, 2) := by decide +kernel
theorem dL_edits_263 : decode cL_edits 263 = .ok (.idiv, 1) := by decide +kernel
theorem dL_edits_264 : decode cL_edits 264 = .ok (.iload 8, 2) := by decide +kernel
theorem dL_edits_266 : decode cL_edits 266 = .ok (.bipush 6, 2) := by decide +kernel
theorem dL_edits_268 : decode cL_edits 268 = .ok (.irem, 1) := by decide +kernel
theorem dL_edits_269 : decode cL_edits 269 = .ok (.invokevirtual 54, 3) := by decide +kernel
theorem dL_edits_272 : decode cL_edits 272 = .ok (.istore 13, 2) := by decide +kernel
theorem dL_edits_274 : decode cL_edits 274 = .ok (.iload_n 3, 1) := by decide +kernel
theorem dL_edits_275 : decode cL_edits 275 = .ok (.bipush 11, 2) := by decide +kernel
theorem dL_edits_277 : decode cL_edits 277 = .ok (.ishr, 1) := by decide +kernel
theorem dL_edits_278 : decode cL_edits 278 = .ok (.bipush 7, 2) := by decide +kernel
theorem dL_edits_280 : decode cL_edits 280 = .ok (.invokestatic 136, 3) := by decide +kernel
theorem dL_edits_283 : decode cL_edits 283 = .ok (.ifCond .ne 7, 3) := by decide +kernel
theorem dL_edits_286 : decode cL_edits 286 = .ok (.iconst 1, 1) := by decide +kernel
theorem dL_edits_287 : decode cL_edits 287 = .ok (.goto 4, 3) := by decide +kernel
theorem dL_edits_290 : decode cL_edits 290 = .ok (.iconst 0, 1) := by decide +kernel
theorem dL_edits_291 : decode cL_edits 291 = .ok (.istore 14, 2) := by decide +kernel
theorem dL_edits_293 : decode cL_edits 293 = .ok (.aload_n 0, 1) := by decide +kernel
theorem dL_edits_294 : decode cL_edits 294 = .ok (.aload_n 1, 1) := by decide +kernel
theorem dL_edits_295 : decode cL_edits 295 = .ok (.iload 14, 2) := by decide +kernel
theorem dL_edits_297 : decode cL_edits 297 = .ok (.ifCond .eq 7, 3) := by decide +kernel
theorem dL_edits_300 : decode cL_edits 300 = .ok (.iconst 4, 1) := by decide +kernel
theorem dL_edits_301 : decode cL_edits 301 = .ok (.goto 4, 3) := by decide +kernel
theorem dL_edits_304 : decode cL_edits 304 = .ok (.iconst 3, 1) := by decide +kernel
theorem dL_edits_305 : decode cL_edits 305 = .ok (.iload 7, 2) := by decide +kernel
theorem dL_edits_307 : decode cL_edits 307 = .ok (.iload 5, 2) := by decide +kernel
theorem dL_edits_309 : decode cL_edits 309 = .ok (.iload 6, 2) := by decide +kernel
theorem dL_edits_311 : decode cL_edits 311 = .ok (.invokestatic 139, 3) := by decide +kernel
theorem dL_edits_314 : decode cL_edits 314 = .ok (.istore 15, 2) := by decide +kernel
theorem dL_edits_316 : decode cL_edits 316 = .ok (.iload 15, 2) := by decide +kernel
theorem dL_edits_318 : decode cL_edits 318 = .ok (.ldc 23, 2) := by decide +kernel
theorem dL_edits_320 : decode cL_edits 320 = .ok (.if_icmp .ne 45, 3) := by decide +kernel
theorem dL_edits_323 : decode cL_edits 323 = .ok (.iload 9, 2) := by decide +kernel
theorem dL_edits_325 : decode cL_edits 325 = .ok (.ifCond .eq 38, 3) := by decide +kernel
theorem dL_edits_328 : decode cL_edits 328 = .ok (.aload_n 0, 1) := by decide +kernel
theorem dL_edits_329 : decode cL_edits 329 = .ok (.iload 5, 2) := by decide +kernel
theorem dL_edits_331 : decode cL_edits 331 = .ok (.invokevirtual 75, 3) := by decide +kernel
theorem dL_edits_334 : decode cL_edits 334 = .ok (.ifCond .eq 29, 3) := by decide +kernel
theorem dL_edits_337 : decode cL_edits 337 = .ok (.aload_n 0, 1) := by decide +kernel
theorem dL_edits_338 : decode cL_edits 338 = .ok (.invokevirtual 116, 3) := by decide +kernel
theorem dL_edits_341 : decode cL_edits 341 = .ok (.iload 12, 2) := by decide +kernel
theorem dL_edits_343 : decode cL_edits 343 = .ok (.if_icmp .ne 20, 3) := by decide +kernel
theorem dL_edits_346 : decode cL_edits 346 = .ok (.aload_n 0, 1) := by decide +kernel
theorem dL_edits_347 : decode cL_edits 347 = .ok (.iload 5, 2) := by decide +kernel
theorem dL_edits_349 : decode cL_edits 349 = .ok (.iload 6, 2) := by decide +kernel
theorem dL_edits_351 : decode cL_edits 351 = .ok (.invokevirtual 54, 3) := by decide +kernel
theorem dL_edits_354 : decode cL_edits 354 = .ok (.iload 13, 2) := by decide +kernel
theorem dL_edits_356 : decode cL_edits 356 = .ok (.if_icmp .ne 7, 3) := by decide +kernel
theorem dL_edits_359 : decode cL_edits 359 = .ok (.iconst 1, 1) := by decide +kernel
theorem dL_edits_360 : decode cL_edits 360 = .ok (.goto 4, 3) := by decide +kernel
theorem dL_edits_363 : decode cL_edits 363 = .ok (.iconst 0, 1) := by decide +kernel
theorem dL_edits_364 : decode cL_edits 364 = .ok (.ireturn, 1) := by decide +kernel
theorem dL_edits_365 : decode cL_edits 365 = .ok (.iload_n 3, 1) := by decide +kernel
theorem dL_edits_366 : decode cL_edits 366 = .ok (.iconst 5, 1) := by decide +kernel
theorem dL_edits_367 : decode cL_edits 367 = .ok (.ishr, 1) := by decide +kernel
theorem dL_edits_368 : decode cL_edits 368 = .ok (.iconst 3, 1) := by decide +kernel
theorem dL_edits_369 : decode cL_edits 369 = .ok (.invokestatic 136, 3) := by decide +kernel
theorem dL_edits_372 : decode cL_edits 372 = .ok (.iconst 1, 1) := by decide +kernel
theorem dL_edits_373 : decode cL_edits 373 = .ok (.if_icmp .ge 7, 3) := by decide +kernel
theorem dL_edits_376 : decode cL_edits 376 = .ok (.iconst 1, 1) := by decide +kernel
theorem dL_edits_377 : decode cL_edits 377 = .ok (.goto 10, 3) := by decide +kernel
theorem dL_edits_380 : decode cL_edits 380 = .ok (.iload_n 3, 1) := by decide +kernel
theorem dL_edits_381 : decode cL_edits 381 = .ok (.iconst 5, 1) := by decide +kernel
theorem dL_edits_382 : decode cL_edits 382 = .ok (.ishr, 1) := by decide +kernel
theorem dL_edits_383 : decode cL_edits 383 = .ok (.iconst 3, 1) := by decide +kernel
theorem dL_edits_384 : decode cL_edits 384 = .ok (.invokestatic 136, 3) := by decide +kernel
theorem dL_edits_387 : decode cL_edits 387 = .ok (.istore 16, 2) := by decide +kernel
theorem dL_edits_389 : decode cL_edits 389 = .ok (.bipush 16, 2) := by decide +kernel
theorem dL_edits_391 : decode cL_edits 391 = .ok (.iload 13, 2) := by decide +kernel
theorem dL_edits_393 : decode cL_edits 393 = .ok (.iconst 2, 1) := by decide +kernel
theorem dL_edits_394 : decode cL_edits 394 = .ok (.iadd, 1) := by decide +kernel
theorem dL_edits_395 : decode cL_edits 395 = .ok (.imul, 1) := by decide +kernel
theorem dL_edits_396 : decode cL_edits 396 = .ok (.iconst 2, 1) := by decide +kernel
theorem dL_edits_397 : decode cL_edits 397 = .ok (.iadd, 1) := by decide +kernel
theorem dL_edits_398 : decode cL_edits 398 = .ok (.istore 17, 2) := by decide +kernel
theorem dL_edits_400 : decode cL_edits 400 = .ok (.iload 9, 2) := by decide +kernel
theorem dL_edits_402 : decode cL_edits 402 = .ok (.ifCond .eq 190, 3) := by decide +kernel
theorem dL_edits_405 : decode cL_edits 405 = .ok (.iload 15, 2) := by decide +kernel
theorem dL_edits_407 : decode cL_edits 407 = .ok (.iload_n 2, 1) := by decide +kernel
theorem dL_edits_408 : decode cL_edits 408 = .ok (.if_icmp .ne 184, 3) := by decide +kernel
theorem dL_edits_411 : decode cL_edits 411 = .ok (.aload_n 0, 1) := by decide +kernel
theorem dL_edits_412 : decode cL_edits 412 = .ok (.invokevirtual 116, 3) := by decide +kernel
theorem dL_edits_415 : decode cL_edits 415 = .ok (.iload 12, 2) := by decide +kernel
theorem dL_edits_417 : decode cL_edits 417 = .ok (.iconst 1, 1) := by decide +kernel
theorem dL_edits_418 : decode cL_edits 418 = .ok (.iadd, 1) := by decide +kernel
theorem dL_edits_419 : decode cL_edits 419 = .ok (.if_icmp .ne 173, 3) := by decide +kernel
theorem dL_edits_422 : decode cL_edits 422 = .ok (.aload_n 0, 1) := by decide +kernel
theorem dL_edits_423 : decode cL_edits 423 = .ok (.iload 5, 2) := by decide +kernel
theorem dL_edits_425 : decode cL_edits 425 = .ok (.iload 6, 2) := by decide +kernel
theorem dL_edits_427 : decode cL_edits 427 = .ok (.invokevirtual 54, 3) := by decide +kernel
theorem dL_edits_430 : decode cL_edits 430 = .ok (.iload 13, 2) := by decide +kernel
theorem dL_edits_432 : decode cL_edits 432 = .ok (.iconst 1, 1) := by decide +kernel
theorem dL_edits_433 : decode cL_edits 433 = .ok (.iadd, 1) := by decide +kernel
theorem dL_edits_434 : decode cL_edits 434 = .ok (.if_icmp .ne 158, 3) := by decide +kernel
theorem dL_edits_437 : decode cL_edits 437 = .ok (.aload_n 0, 1) := by decide +kernel
theorem dL_edits_438 : decode cL_edits 438 = .ok (.bipush 9, 2) := by decide +kernel
theorem dL_edits_440 : decode cL_edits 440 = .ok (.iload 5, 2) := by decide +kernel
theorem dL_edits_442 : decode cL_edits 442 = .ok (.iload 6, 2) := by decide +kernel
theorem dL_edits_444 : decode cL_edits 444 = .ok (.iload 17, 2) := by decide +kernel
theorem dL_edits_446 : decode cL_edits 446 = .ok (.invokestatic 132, 3) := by decide +kernel
theorem dL_edits_449 : decode cL_edits 449 = .ok (.iload 15, 2) := by decide +kernel
theorem dL_edits_451 : decode cL_edits 451 = .ok (.if_icmp .ne 141, 3) := by decide +kernel
theorem dL_edits_454 : decode cL_edits 454 = .ok (.aload_n 0, 1) := by decide +kernel
theorem dL_edits_455 : decode cL_edits 455 = .ok (.bipush 9, 2) := by decide +kernel
theorem dL_edits_457 : decode cL_edits 457 = .ok (.iload 5, 2) := by decide +kernel
theorem dL_edits_459 : decode cL_edits 459 = .ok (.iload 6, 2) := by decide +kernel
theorem dL_edits_461 : decode cL_edits 461 = .ok (.iload 17, 2) := by decide +kernel
theorem dL_edits_463 : decode cL_edits 463 = .ok (.iconst 1, 1) := by decide +kernel
theorem dL_edits_464 : decode cL_edits 464 = .ok (.iadd, 1) := by decide +kernel
theorem dL_edits_465 : decode cL_edits 465 = .ok (.invokestatic 132, 3) := by decide +kernel
theorem dL_edits_468 : decode cL_edits 468 = .ok (.iload 12, 2) := by decide +kernel
theorem dL_edits_470 : decode cL_edits 470 = .ok (.if_icmp .ne 122, 3) := by decide +kernel
theorem dL_edits_473 : decode cL_edits 473 = .ok (.aload_n 0, 1) := by decide +kernel
theorem dL_edits_474 : decode cL_edits 474 = .ok (.bipush 9, 2) := by decide +kernel
theorem dL_edits_476 : decode cL_edits 476 = .ok (.iload 5, 2) := by decide +kernel
theorem dL_edits_478 : decode cL_edits 478 = .ok (.iload 6, 2) := by decide +kernel
theorem dL_edits_480 : decode cL_edits 480 = .ok (.iload 17, 2) := by decide +kernel
theorem dL_edits_482 : decode cL_edits 482 = .ok (.iconst 2, 1) := by decide +kernel
theorem dL_edits_483 : decode cL_edits 483 = .ok (.iadd, 1) := by decide +kernel
theorem dL_edits_484 : decode cL_edits 484 = .ok (.invokestatic 132, 3) := by decide +kernel
theorem dL_edits_487 : decode cL_edits 487 = .ok (.iload 12, 2) := by decide +kernel
theorem dL_edits_489 : decode cL_edits 489 = .ok (.iload 16, 2) := by decide +kernel
theorem dL_edits_491 : decode cL_edits 491 = .ok (.iadd, 1) := by decide +kernel
theorem dL_edits_492 : decode cL_edits 492 = .ok (.if_icmp .ne 100, 3) := by decide +kernel
theorem dL_edits_495 : decode cL_edits 495 = .ok (.aload_n 0, 1) := by decide +kernel
theorem dL_edits_496 : decode cL_edits 496 = .ok (.bipush 9, 2) := by decide +kernel
theorem dL_edits_498 : decode cL_edits 498 = .ok (.iload 5, 2) := by decide +kernel
theorem dL_edits_500 : decode cL_edits 500 = .ok (.iload 6, 2) := by decide +kernel
theorem dL_edits_502 : decode cL_edits 502 = .ok (.iload 17, 2) := by decide +kernel
theorem dL_edits_504 : decode cL_edits 504 = .ok (.iconst 3, 1) := by decide +kernel
theorem dL_edits_505 : decode cL_edits 505 = .ok (.iadd, 1) := by decide +kernel
theorem dL_edits_506 : decode cL_edits 506 = .ok (.invokestatic 132, 3) := by decide +kernel
theorem dL_edits_509 : decode cL_edits 509 = .ok (.iload 7, 2) := by decide +kernel
theorem dL_edits_511 : decode cL_edits 511 = .ok (.if_icmp .ne 81, 3) := by decide +kernel
theorem dL_edits_514 : decode cL_edits 514 = .ok (.aload_n 0, 1) := by decide +kernel
theorem dL_edits_515 : decode cL_edits 515 = .ok (.bipush 9, 2) := by decide +kernel
theorem dL_edits_517 : decode cL_edits 517 = .ok (.iload 5, 2) := by decide +kernel
theorem dL_edits_519 : decode cL_edits 519 = .ok (.iload 6, 2) := by decide +kernel
theorem dL_edits_521 : decode cL_edits 521 = .ok (.iload 17, 2) := by decide +kernel
theorem dL_edits_523 : decode cL_edits 523 = .ok (.iconst 4, 1) := by decide +kernel
theorem dL_edits_524 : decode cL_edits 524 = .ok (.iadd, 1) := by decide +kernel
theorem dL_edits_525 : decode cL_edits 525 = .ok (.invokestatic 132, 3) := by decide +kernel
theorem dL_edits_528 : decode cL_edits 528 = .ok (.iload 14, 2) := by decide +kernel
theorem dL_edits_530 : decode cL_edits 530 = .ok (.ifCond .eq 7, 3) := by decide +kernel
theorem dL_edits_533 : decode cL_edits 533 = .ok (.iconst 0, 1) := by decide +kernel
theorem dL_edits_534 : decode cL_edits 534 = .ok (.goto 5, 3) := by decide +kernel
theorem dL_edits_537 : decode cL_edits 537 = .ok (.iload 10, 2) := by decide +kernel
theorem dL_edits_539 : decode cL_edits 539 = .ok (.if_icmp .ne 53, 3) := by decide +kernel
theorem dL_edits_542 : decode cL_edits 542 = .ok (.aload_n 0, 1) := by decide +kernel
theorem dL_edits_543 : decode cL_edits 543 = .ok (.bipush 9, 2) := by decide +kernel
theorem dL_edits_545 : decode cL_edits 545 = .ok (.iload 5, 2) := by decide +kernel
theorem dL_edits_547 : decode cL_edits 547 = .ok (.iload 6, 2) := by decide +kernel
theorem dL_edits_549 : decode cL_edits 549 = .ok (.iload 17, 2) := by decide +kernel
theorem dL_edits_551 : decode cL_edits 551 = .ok (.iconst 5, 1) := by decide +kernel
theorem dL_edits_552 : decode cL_edits 552 = .ok (.iadd, 1) := by decide +kernel
theorem dL_edits_553 : decode cL_edits 553 = .ok (.invokestatic 132, 3) := by decide +kernel
theorem dL_edits_556 : decode cL_edits 556 = .ok (.ifCond .ne 36, 3) := by decide +kernel
theorem dL_edits_559 : decode cL_edits 559 = .ok (.aload_n 0, 1) := by decide +kernel
theorem dL_edits_560 : decode cL_edits 560 = .ok (.bipush 9, 2) := by decide +kernel
theorem dL_edits_562 : decode cL_edits 562 = .ok (.iload 5, 2) := by decide +kernel
theorem dL_edits_564 : decode cL_edits 564 = .ok (.iload 6, 2) := by decide +kernel
theorem dL_edits_566 : decode cL_edits 566 = .ok (.iload 17, 2) := by decide +kernel
theorem dL_edits_568 : decode cL_edits 568 = .ok (.bipush 6, 2) := by decide +kernel
theorem dL_edits_570 : decode cL_edits 570 = .ok (.iadd, 1) := by decide +kernel
theorem dL_edits_571 : decode cL_edits 571 = .ok (.invokestatic 132, 3) := by decide +kernel
theorem dL_edits_574 : decode cL_edits 574 = .ok (.iload 16, 2) := by decide +kernel
theorem dL_edits_576 : decode cL_edits 576 = .ok (.iconst 1, 1) := by decide +kernel
theorem dL_edits_577 : decode cL_edits 577 = .ok (.if_icmp .ne 7, 3) := by decide +kernel
theorem dL_edits_580 : decode cL_edits 580 = .ok (.iconst 1, 1) := by decide +kernel
theorem dL_edits_581 : decode cL_edits 581 = .ok (.goto 4, 3) := by decide +kernel
theorem dL_edits_584 : decode cL_edits 584 = .ok (.iconst 0, 1) := by decide +kernel
theorem dL_edits_585 : decode cL_edits 585 = .ok (.if_icmp .ne 7, 3) := by decide +kernel
theorem dL_edits_588 : decode cL_edits 588 = .ok (.iconst 1, 1) := by decide +kernel
theorem dL_edits_589 : decode cL_edits 589 = .ok (.goto 4, 3) := by decide +kernel
theorem dL_edits_592 : decode cL_edits 592 = .ok (.iconst 0, 1) := by decide +kernel
theorem dL_edits_593 : decode cL_edits 593 = .ok (.istore 9, 2) := by decide +kernel
theorem dL_edits_595 : decode cL_edits 595 = .ok (.iload 9, 2) := by decide +kernel
theorem dL_edits_597 : decode cL_edits 597 = .ok (.ifCond .eq 44, 3) := by decide +kernel
theorem dL_edits_600 : decode cL_edits 600 = .ok (.iload 16, 2) := by decide +kernel
theorem dL_edits_602 : decode cL_edits 602 = .ok (.iconst 1, 1) := by decide +kernel
theorem dL_edits_603 : decode cL_edits 603 = .ok (.if_icmp .gt 34, 3) := by decide +kernel
theorem dL_edits_606 : decode cL_edits 606 = .ok (.iload 14, 2) := by decide +kernel
theorem dL_edits_608 : decode cL_edits 608 = .ok (.ifCond .eq 29, 3) := by decide +kernel
theorem dL_edits_611 : decode cL_edits 611 = .ok (.aload_n 0, 1) := by decide +kernel
theorem dL_edits_612 : decode cL_edits 612 = .ok (.iload 7, 2) := by decide +kernel
theorem dL_edits_614 : decode cL_edits 614 = .ok (.iload 5, 2) := by decide +kernel
theorem dL_edits_616 : decode cL_edits 616 = .ok (.iload 6, 2) := by decide +kernel
theorem dL_edits_618 : decode cL_edits 618 = .ok (.invokevirtual 48, 3) := by decide +kernel
theorem dL_edits_621 : decode cL_edits 621 = .ok (.ifCond .ne 20, 3) := by decide +kernel
theorem dL_edits_624 : decode cL_edits 624 = .ok (.aload_n 0, 1) := by decide +kernel
theorem dL_edits_625 : decode cL_edits 625 = .ok (.iload 7, 2) := by decide +kernel
theorem dL_edits_627 : decode cL_edits 627 = .ok (.iload 5, 2) := by decide +kernel
theorem dL_edits_629 : decode cL_edits 629 = .ok (.iload 6, 2) := by decide +kernel
theorem dL_edits_631 : decode cL_edits 631 = .ok (.invokevirtual 51, 3) := by decide +kernel
theorem dL_edits_634 : decode cL_edits 634 = .ok (.ifCond .ne 7, 3) := by decide +kernel
theorem dL_edits_637 : decode cL_edits 637 = .ok (.iconst 1, 1) := by decide +kernel
theorem dL_edits_638 : decode cL_edits 638 = .ok (.goto 4, 3) := by decide +kernel
theorem dL_edits_641 : decode cL_edits 641 = .ok (.iconst 0, 1) := by decide +kernel
theorem dL_edits_642 : decode cL_edits 642 = .ok (.ireturn, 1) := by decide +kernel
theorem dL_bids_0 : decode cL_bids 0 = .ok (.iload_n 3, 1) := by decide +kernel
theorem dL_bids_1 : decode cL_bids 1 = .ok (.bipush 6, 2) := by decide +kernel
theorem dL_bids_3 : decode cL_bids 3 = .ok (.invokestatic 136, 3) := by decide +kernel
theorem dL_bids_6 : decode cL_bids 6 = .ok (.istore 4, 2) := by decide +kernel
theorem dL_bids_8 : decode cL_bids 8 = .ok (.iload_n 3, 1) := by decide +kernel
theorem dL_bids_9 : decode cL_bids 9 = .ok (.iconst 3, 1) := by decide +kernel
theorem dL_bids_10 : decode cL_bids 10 = .ok (.ishr, 1) := by decide +kernel
theorem dL_bids_11 : decode cL_bids 11 = .ok (.iconst 2, 1) := by decide +kernel
theorem dL_bids_12 : decode cL_bids 12 = .ok (.invokestatic 136, 3) := by decide +kernel
theorem dL_bids_15 : decode cL_bids 15 = .ok (.istore 5, 2) := by decide +kernel
theorem dL_bids_17 : decode cL_bids 17 = .ok (.iload_n 3, 1) := by decide +kernel
theorem dL_bids_18 : decode cL_bids 18 = .ok (.iconst 5, 1) := by decide +kernel
theorem dL_bids_19 : decode cL_bids 19 = .ok (.ishr, 1) := by decide +kernel
theorem dL_bids_20 : decode cL_bids 20 = .ok (.iconst 2, 1) := by decide +kernel
theorem dL_bids_21 : decode cL_bids 21 = .ok (.invokestatic 136, 3) := by decide +kernel
theorem dL_bids_24 : decode cL_bids 24 = .ok (.istore 6, 2) := by decide +kernel
theorem dL_bids_26 : decode cL_bids 26 = .ok (.iconst 1, 1) := by decide +kernel
theorem dL_bids_27 : decode cL_bids 27 = .ok (.iload_n 3, 1) := by decide +kernel
theorem dL_bids_28 : decode cL_bids 28 = .ok (.bipush 6, 2) := by decide +kernel
theorem dL_bids_30 : decode cL_bids 30 = .ok (.ishr, 1) := by decide +kernel
theorem dL_bids_31 : decode cL_bids 31 = .ok (.bipush 25, 2) := by decide +kernel
theorem dL_bids_33 : decode cL_bids 33 = .ok (.invokestatic 136, 3) := by decide +kernel
theorem dL_bids_36 : decode cL_bids 36 = .ok (.iadd, 1) := by decide +kernel
theorem dL_bids_37 : decode cL_bids 37 = .ok (.istore 7, 2) := by decide +kernel
theorem dL_bids_39 : decode cL_bids 39 = .ok (.iload_n 3, 1) := by decide +kernel
theorem dL_bids_40 : decode cL_bids 40 = .ok (.bipush 8, 2) := by decide +kernel
theorem dL_bids_42 : decode cL_bids 42 = .ok (.ishr, 1) := by decide +kernel
theorem dL_bids_43 : decode cL_bids 43 = .ok (.bipush 45, 2) := by decide +kernel
theorem dL_bids_45 : decode cL_bids 45 = .ok (.invokestatic 136, 3) := by decide +kernel
theorem dL_bids_48 : decode cL_bids 48 = .ok (.istore 8, 2) := by decide +kernel
theorem dL_bids_50 : decode cL_bids 50 = .ok (.aload_n 0, 1) := by decide +kernel
theorem dL_bids_51 : decode cL_bids 51 = .ok (.iload 4, 2) := by decide +kernel
theorem dL_bids_53 : decode cL_bids 53 = .ok (.invokevirtual 100, 3) := by decide +kernel
theorem dL_bids_56 : decode cL_bids 56 = .ok (.istore 9, 2) := by decide +kernel
theorem dL_bids_58 : decode cL_bids 58 = .ok (.aload_n 0, 1) := by decide +kernel
theorem dL_bids_59 : decode cL_bids 59 = .ok (.aload_n 1, 1) := by decide +kernel
theorem dL_bids_60 : decode cL_bids 60 = .ok (.bipush 21, 2) := by decide +kernel
theorem dL_bids_62 : decode cL_bids 62 = .ok (.iload 4, 2) := by decide +kernel
theorem dL_bids_64 : decode cL_bids 64 = .ok (.sipush 400, 3) := by decide +kernel
theorem dL_bids_67 : decode cL_bids 67 = .ok (.iconst 0, 1) := by decide +kernel
theorem dL_bids_68 : decode cL_bids 68 = .ok (.invokestatic 139, 3) := by decide +kernel
theorem dL_bids_71 : decode cL_bids 71 = .ok (.istore 10, 2) := by decide +kernel
theorem dL_bids_73 : decode cL_bids 73 = .ok (.iload 10, 2) := by decide +kernel
theorem dL_bids_75 : decode cL_bids 75 = .ok (.ifCond .lt 25, 3) := by decide +kernel
theorem dL_bids_78 : decode cL_bids 78 = .ok (.aload_n 0, 1) := by decide +kernel
theorem dL_bids_79 : decode cL_bids 79 = .ok (.aload_n 1, 1) := by decide +kernel
theorem dL_bids_80 : decode cL_bids 80 = .ok (.bipush 21, 2) := by decide +kernel
theorem dL_bids_82 : decode cL_bids 82 = .ok (.iload 4, 2) := by decide +kernel
theorem dL_bids_84 : decode cL_bids 84 = .ok (.iload 10, 2) := by decide +kernel
theorem dL_bids_86 : decode cL_bids 86 = .ok (.iconst 0, 1) := by decide +kernel
theorem dL_bids_87 : decode cL_bids 87 = .ok (.invokestatic 139, 3) := by decide +kernel
theorem dL_bids_90 : decode cL_bids 90 = .ok (.sipush 400, 3) := by decide +kernel
theorem dL_bids_93 : decode cL_bids 93 = .ok (.if_icmp .ne 7, 3) := by decide +kernel
theorem dL_bids_96 : decode cL_bids 96 = .ok (.iconst 1, 1) := by decide +kernel
theorem dL_bids_97 : decode cL_bids 97 = .ok (.goto 4, 3) := by decide +kernel
theorem dL_bids_100 : decode cL_bids 100 = .ok (.iconst 0, 1) := by decide +kernel
theorem dL_bids_101 : decode cL_bids 101 = .ok (.istore 11, 2) := by decide +kernel
theorem dL_bids_103 : decode cL_bids 103 = .ok (.aload_n 0, 1) := by decide +kernel
theorem dL_bids_104 : decode cL_bids 104 = .ok (.aload_n 1, 1) := by decide +kernel
theorem dL_bids_105 : decode cL_bids 105 = .ok (.bipush 10, 2) := by decide +kernel
theorem dL_bids_107 : decode cL_bids 107 = .ok (.iload 4, 2) := by decide +kernel
theorem dL_bids_109 : decode cL_bids 109 = .ok (.iconst 2, 1) := by decide +kernel
theorem dL_bids_110 : decode cL_bids 110 = .ok (.iload 5, 2) := by decide +kernel
theorem dL_bids_112 : decode cL_bids 112 = .ok (.imul, 1) := by decide +kernel
theorem dL_bids_113 : decode cL_bids 113 = .ok (.iload 6, 2) := by decide +kernel
theorem dL_bids_115 : decode cL_bids 115 = .ok (.iadd, 1) := by decide +kernel
theorem dL_bids_116 : decode cL_bids 116 = .ok (.sipush 16384, 3) := by decide +kernel
theorem dL_bids_119 : decode cL_bids 119 = .ok (.iload 7, 2) := by decide +kernel
theorem dL_bids_121 : decode cL_bids 121 = .ok (.iconst 2, 1) := by decide +kernel
theorem dL_bids_122 : decode cL_bids 122 = .ok (.iadd, 1) := by decide +kernel
theorem dL_bids_123 : decode cL_bids 123 = .ok (.imul, 1) := by decide +kernel
theorem dL_bids_124 : decode cL_bids 124 = .ok (.iload 8, 2) := by decide +kernel
theorem dL_bids_126 : decode cL_bids 126 = .ok (.iadd, 1) := by decide +kernel
theorem dL_bids_127 : decode cL_bids 127 = .ok (.iconst 2, 1) := by decide +kernel
theorem dL_bids_128 : decode cL_bids 128 = .ok (.iadd, 1) := by decide +kernel
theorem dL_bids_129 : decode cL_bids 129 = .ok (.invokestatic 139, 3) := by decide +kernel
theorem dL_bids_132 : decode cL_bids 132 = .ok (.istore 12, 2) := by decide +kernel
theorem dL_bids_134 : decode cL_bids 134 = .ok (.aload_n 0, 1) := by decide +kernel
theorem dL_bids_135 : decode cL_bids 135 = .ok (.iload 5, 2) := by decide +kernel
theorem dL_bids_137 : decode cL_bids 137 = .ok (.invokevirtual 75, 3) := by decide +kernel
theorem dL_bids_140 : decode cL_bids 140 = .ok (.ifCond .ne 25, 3) := by decide +kernel
theorem dL_bids_143 : decode cL_bids 143 = .ok (.iload 6, 2) := by decide +kernel
theorem dL_bids_145 : decode cL_bids 145 = .ok (.ifCond .eq 16, 3) := by decide +kernel
theorem dL_bids_148 : decode cL_bids 148 = .ok (.iload 9, 2) := by decide +kernel
theorem dL_bids_150 : decode cL_bids 150 = .ok (.iload 7, 2) := by decide +kernel
theorem dL_bids_152 : decode cL_bids 152 = .ok (.iload 8, 2) := by decide +kernel
theorem dL_bids_154 : decode cL_bids 154 = .ok (.imul, 1) := by decide +kernel
theorem dL_bids_155 : decode cL_bids 155 = .ok (.iadd, 1) := by decide +kernel
theorem dL_bids_156 : decode cL_bids 156 = .ok (.iload 10, 2) := by decide +kernel
theorem dL_bids_158 : decode cL_bids 158 = .ok (.if_icmp .gt 7, 3) := by decide +kernel
theorem dL_bids_161 : decode cL_bids 161 = .ok (.iconst 1, 1) := by decide +kernel
theorem dL_bids_162 : decode cL_bids 162 = .ok (.goto 4, 3) := by decide +kernel
theorem dL_bids_165 : decode cL_bids 165 = .ok (.iconst 0, 1) := by decide +kernel
theorem dL_bids_166 : decode cL_bids 166 = .ok (.istore 13, 2) := by decide +kernel
theorem dL_bids_168 : decode cL_bids 168 = .ok (.iload 12, 2) := by decide +kernel
theorem dL_bids_170 : decode cL_bids 170 = .ok (.ldc 23, 2) := by decide +kernel
theorem dL_bids_172 : decode cL_bids 172 = .ok (.if_icmp .ne 44, 3) := by decide +kernel
theorem dL_bids_175 : decode cL_bids 175 = .ok (.iload 11, 2) := by decide +kernel
theorem dL_bids_177 : decode cL_bids 177 = .ok (.ifCond .eq 37, 3) := by decide +kernel
theorem dL_bids_180 : decode cL_bids 180 = .ok (.iload 13, 2) := by decide +kernel
theorem dL_bids_182 : decode cL_bids 182 = .ok (.ifCond .ne 32, 3) := by decide +kernel
theorem dL_bids_185 : decode cL_bids 185 = .ok (.aload_n 0, 1) := by decide +kernel
theorem dL_bids_186 : decode cL_bids 186 = .ok (.iload 4, 2) := by decide +kernel
theorem dL_bids_188 : decode cL_bids 188 = .ok (.invokevirtual 100, 3) := by decide +kernel
theorem dL_bids_191 : decode cL_bids 191 = .ok (.iload 9, 2) := by decide +kernel
theorem dL_bids_193 : decode cL_bids 193 = .ok (.if_icmp .ne 21, 3) := by decide +kernel
theorem dL_bids_196 : decode cL_bids 196 = .ok (.aload_n 0, 1) := by decide +kernel
theorem dL_bids_197 : decode cL_bids 197 = .ok (.bipush 17, 2) := by decide +kernel
theorem dL_bids_199 : decode cL_bids 199 = .ok (.iload_n 2, 1) := by decide +kernel
theorem dL_bids_200 : decode cL_bids 200 = .ok (.iconst 0, 1) := by decide +kernel
theorem dL_bids_201 : decode cL_bids 201 = .ok (.iconst 0, 1) := by decide +kernel
theorem dL_bids_202 : decode cL_bids 202 = .ok (.invokestatic 132, 3) := by decide +kernel
theorem dL_bids_205 : decode cL_bids 205 = .ok (.ldc 17, 2) := by decide +kernel
theorem dL_bids_207 : decode cL_bids 207 = .ok (.if_icmp .ne 7, 3) := by decide +kernel
theorem dL_bids_210 : decode cL_bids 210 = .ok (.iconst 1, 1) := by decide +kernel
theorem dL_bids_211 : decode cL_bids 211 = .ok (.goto 4, 3) := by decide +kernel
theorem dL_bids_214 : decode cL_bids 214 = .ok (.iconst 0, 1) := by decide +kernel
theorem dL_bids_215 : decode cL_bids 215 = .ok (.ireturn, 1) := by decide +kernel
theorem dL_bids_216 : decode cL_bids 216 = .ok (.iload 11, 2) := by decide +kernel
theorem dL_bids_218 : decode cL_bids 218 = .ok (.ifCond .eq 47, 3) := by decide +kernel
theorem dL_bids_221 : decode cL_bids 221 = .ok (.iload 13, 2) := by decide +kernel
theorem dL_bids_223 : decode cL_bids 223 = .ok (.ifCond .eq 42, 3) := by decide +kernel
theorem dL_bids_226 : decode cL_bids 226 = .ok (.iload 12, 2) := by decide +kernel
theorem dL_bids_228 : decode cL_bids 228 = .ok (.iload_n 2, 1) := by decide +kernel
theorem dL_bids_229 : decode cL_bids 229 = .ok (.if_icmp .ne 36, 3) := by decide +kernel
theorem dL_bids_232 : decode cL_bids 232 = .ok (.aload_n 0, 1) := by decide +kernel
theorem dL_bids_233 : decode cL_bids 233 = .ok (.iload 4, 2) := by decide +kernel
theorem dL_bids_235 : decode cL_bids 235 = .ok (.invokevirtual 100, 3) := by decide +kernel
theorem dL_bids_238 : decode cL_bids 238 = .ok (.iload 9, 2) := by decide +kernel
theorem dL_bids_240 : decode cL_bids 240 = .ok (.iload 6, 2) := by decide +kernel
theorem dL_bids_242 : decode cL_bids 242 = .ok (.iload 7, 2) := by decide +kernel
theorem dL_bids_244 : decode cL_bids 244 = .ok (.imul, 1) := by decide +kernel
theorem dL_bids_245 : decode cL_bids 245 = .ok (.iload 8, 2) := by decide +kernel
theorem dL_bids_247 : decode cL_bids 247 = .ok (.imul, 1) := by decide +kernel
theorem dL_bids_248 : decode cL_bids 248 = .ok (.iadd, 1) := by decide +kernel
theorem dL_bids_249 : decode cL_bids 249 = .ok (.if_icmp .ne 16, 3) := by decide +kernel
theorem dL_bids_252 : decode cL_bids 252 = .ok (.aload_n 0, 1) := by decide +kernel
theorem dL_bids_253 : decode cL_bids 253 = .ok (.iload 12, 2) := by decide +kernel
theorem dL_bids_255 : decode cL_bids 255 = .ok (.invokevirtual 85, 3) := by decide +kernel
theorem dL_bids_258 : decode cL_bids 258 = .ok (.ifCond .ne 7, 3) := by decide +kernel
theorem dL_bids_261 : decode cL_bids 261 = .ok (.iconst 1, 1) := by decide +kernel
theorem dL_bids_262 : decode cL_bids 262 = .ok (.goto 4, 3) := by decide +kernel
theorem dL_bids_265 : decode cL_bids 265 = .ok (.iconst 0, 1) := by decide +kernel
theorem dL_bids_266 : decode cL_bids 266 = .ok (.istore 11, 2) := by decide +kernel
theorem dL_bids_268 : decode cL_bids 268 = .ok (.iload_n 3, 1) := by decide +kernel
theorem dL_bids_269 : decode cL_bids 269 = .ok (.bipush 11, 2) := by decide +kernel
theorem dL_bids_271 : decode cL_bids 271 = .ok (.ishr, 1) := by decide +kernel
theorem dL_bids_272 : decode cL_bids 272 = .ok (.bipush 6, 2) := by decide +kernel
theorem dL_bids_274 : decode cL_bids 274 = .ok (.invokestatic 136, 3) := by decide +kernel
theorem dL_bids_277 : decode cL_bids 277 = .ok (.ifCond .ne 82, 3) := by decide +kernel
theorem dL_bids_280 : decode cL_bids 280 = .ok (.iload 11, 2) := by decide +kernel
theorem dL_bids_282 : decode cL_bids 282 = .ok (.ifCond .eq 74, 3) := by decide +kernel
theorem dL_bids_285 : decode cL_bids 285 = .ok (.aload_n 0, 1) := by decide +kernel
theorem dL_bids_286 : decode cL_bids 286 = .ok (.aload_n 1, 1) := by decide +kernel
theorem dL_bids_287 : decode cL_bids 287 = .ok (.bipush 11, 2) := by decide +kernel
theorem dL_bids_289 : decode cL_bids 289 = .ok (.iload 4, 2) := by decide +kernel
theorem dL_bids_291 : decode cL_bids 291 = .ok (.iconst 1, 1) := by decide +kernel
theorem dL_bids_292 : decode cL_bids 292 = .ok (.iadd, 1) := by decide +kernel
theorem dL_bids_293 : decode cL_bids 293 = .ok (.bipush 6, 2) := by decide +kernel
theorem dL_bids_295 : decode cL_bids 295 = .ok (.irem, 1) := by decide +kernel
theorem dL_bids_296 : decode cL_bids 296 = .ok (.iload 12, 2) := by decide +kernel
theorem dL_bids_298 : decode cL_bids 298 = .ok (.iconst 0, 1) := by decide +kernel
theorem dL_bids_299 : decode cL_bids 299 = .ok (.invokestatic 139, 3) := by decide +kernel
theorem dL_bids_302 : decode cL_bids 302 = .ok (.ldc 23, 2) := by decide +kernel
theorem dL_bids_304 : decode cL_bids 304 = .ok (.if_icmp .ne 52, 3) := by decide +kernel
theorem dL_bids_307 : decode cL_bids 307 = .ok (.aload_n 0, 1) := by decide +kernel
theorem dL_bids_308 : decode cL_bids 308 = .ok (.aload_n 1, 1) := by decide +kernel
theorem dL_bids_309 : decode cL_bids 309 = .ok (.bipush 11, 2) := by decide +kernel
theorem dL_bids_311 : decode cL_bids 311 = .ok (.iload 4, 2) := by decide +kernel
theorem dL_bids_313 : decode cL_bids 313 = .ok (.iload 12, 2) := by decide +kernel
theorem dL_bids_315 : decode cL_bids 315 = .ok (.iconst 0, 1) := by decide +kernel
theorem dL_bids_316 : decode cL_bids 316 = .ok (.invokestatic 139, 3) := by decide +kernel
theorem dL_bids_319 : decode cL_bids 319 = .ok (.iload 7, 2) := by decide +kernel
theorem dL_bids_321 : decode cL_bids 321 = .ok (.if_icmp .ne 35, 3) := by decide +kernel
theorem dL_bids_324 : decode cL_bids 324 = .ok (.aload_n 0, 1) := by decide +kernel
theorem dL_bids_325 : decode cL_bids 325 = .ok (.iload 4, 2) := by decide +kernel
theorem dL_bids_327 : decode cL_bids 327 = .ok (.invokevirtual 100, 3) := by decide +kernel
theorem dL_bids_330 : decode cL_bids 330 = .ok (.iload 9, 2) := by decide +kernel
theorem dL_bids_332 : decode cL_bids 332 = .ok (.if_icmp .ne 24, 3) := by decide +kernel
theorem dL_bids_335 : decode cL_bids 335 = .ok (.aload_n 0, 1) := by decide +kernel
theorem dL_bids_336 : decode cL_bids 336 = .ok (.aload_n 1, 1) := by decide +kernel
theorem dL_bids_337 : decode cL_bids 337 = .ok (.bipush 11, 2) := by decide +kernel
theorem dL_bids_339 : decode cL_bids 339 = .ok (.iload 4, 2) := by decide +kernel
theorem dL_bids_341 : decode cL_bids 341 = .ok (.iload 12, 2) := by decide +kernel
theorem dL_bids_343 : decode cL_bids 343 = .ok (.iconst 0, 1) := by decide +kernel
theorem dL_bids_344 : decode cL_bids 344 = .ok (.invokestatic 139, 3) := by decide +kernel
theorem dL_bids_347 : decode cL_bids 347 = .ok (.ldc 23, 2) := by decide +kernel
theorem dL_bids_349 : decode cL_bids 349 = .ok (.if_icmp .ne 7, 3) := by decide +kernel
theorem dL_bids_352 : decode cL_bids 352 = .ok (.iconst 1, 1) := by decide +kernel
theorem dL_bids_353 : decode cL_bids 353 = .ok (.goto 4, 3) := by decide +kernel
theorem dL_bids_356 : decode cL_bids 356 = .ok (.iconst 0, 1) := by decide +kernel
theorem dL_bids_357 : decode cL_bids 357 = .ok (.istore 11, 2) := by decide +kernel
theorem dL_bids_359 : decode cL_bids 359 = .ok (.iload 11, 2) := by decide +kernel
theorem dL_bids_361 : decode cL_bids 361 = .ok (.ireturn, 1) := by decide +kernel
theorem dL_rings_0 : decode cL_rings 0 = .ok (.iload 4, 2) := by decide +kernel
theorem dL_rings_2 : decode cL_rings 2 = .ok (.iconst 2, 1) := by decide +kernel
theorem dL_rings_3 : decode cL_rings 3 = .ok (.invokestatic 136, 3) := by decide +kernel
theorem dL_rings_6 : decode cL_rings 6 = .ok (.istore 5, 2) := by decide +kernel
theorem dL_rings_8 : decode cL_rings 8 = .ok (.aload_n 0, 1) := by decide +kernel
theorem dL_rings_9 : decode cL_rings 9 = .ok (.iload 5, 2) := by decide +kernel
theorem dL_rings_11 : decode cL_rings 11 = .ok (.invokevirtual 75, 3) := by decide +kernel
theorem dL_rings_14 : decode cL_rings 14 = .ok (.istore 6, 2) := by decide +kernel
theorem dL_rings_16 : decode cL_rings 16 = .ok (.lconst 0, 1) := by decide +kernel
theorem dL_rings_17 : decode cL_rings 17 = .ok (.lstore 7, 2) := by decide +kernel
theorem dL_rings_19 : decode cL_rings 19 = .ok (.iconst 0, 1) := by decide +kernel
theorem dL_rings_20 : decode cL_rings 20 = .ok (.istore 9, 2) := by decide +kernel
theorem dL_rings_22 : decode cL_rings 22 = .ok (.iload 9, 2) := by decide +kernel
theorem dL_rings_24 : decode cL_rings 24 = .ok (.iload_n 2, 1) := by decide +kernel
theorem dL_rings_25 : decode cL_rings 25 = .ok (.if_icmp .ge 21, 3) := by decide +kernel
theorem dL_rings_28 : decode cL_rings 28 = .ok (.lload 7, 2) := by decide +kernel
theorem dL_rings_30 : decode cL_rings 30 = .ok (.aload_n 0, 1) := by decide +kernel
theorem dL_rings_31 : decode cL_rings 31 = .ok (.iload 9, 2) := by decide +kernel
theorem dL_rings_33 : decode cL_rings 33 = .ok (.invokevirtual 85, 3) := by decide +kernel
theorem dL_rings_36 : decode cL_rings 36 = .ok (.i2l, 1) := by decide +kernel
theorem dL_rings_37 : decode cL_rings 37 = .ok (.ladd, 1) := by decide +kernel
theorem dL_rings_38 : decode cL_rings 38 = .ok (.lstore 7, 2) := by decide +kernel
theorem dL_rings_40 : decode cL_rings 40 = .ok (.iinc 9 1, 3) := by decide +kernel
theorem dL_rings_43 : decode cL_rings 43 = .ok (.goto (-21), 3) := by decide +kernel
theorem dL_rings_46 : decode cL_rings 46 = .ok (.iconst 0, 1) := by decide +kernel
theorem dL_rings_47 : decode cL_rings 47 = .ok (.istore 9, 2) := by decide +kernel
theorem dL_rings_49 : decode cL_rings 49 = .ok (.iconst 0, 1) := by decide +kernel
theorem dL_rings_50 : decode cL_rings 50 = .ok (.istore 10, 2) := by decide +kernel
theorem dL_rings_52 : decode cL_rings 52 = .ok (.iload 10, 2) := by decide +kernel
theorem dL_rings_54 : decode cL_rings 54 = .ok (.bipush 6, 2) := by decide +kernel
theorem dL_rings_56 : decode cL_rings 56 = .ok (.if_icmp .ge 37, 3) := by decide +kernel
theorem dL_rings_59 : decode cL_rings 59 = .ok (.iload 9, 2) := by decide +kernel
theorem dL_rings_61 : decode cL_rings 61 = .ok (.aload_n 0, 1) := by decide +kernel
theorem dL_rings_62 : decode cL_rings 62 = .ok (.iload 10, 2) := by decide +kernel
theorem dL_rings_64 : decode cL_rings 64 = .ok (.iload 5, 2) := by decide +kernel
theorem dL_rings_66 : decode cL_rings 66 = .ok (.invokevirtual 88, 3) := by decide +kernel
theorem dL_rings_69 : decode cL_rings 69 = .ok (.ifCond .le 14, 3) := by decide +kernel
theorem dL_rings_72 : decode cL_rings 72 = .ok (.aload_n 0, 1) := by decide +kernel
theorem dL_rings_73 : decode cL_rings 73 = .ok (.iload 10, 2) := by decide +kernel
theorem dL_rings_75 : decode cL_rings 75 = .ok (.iload 5, 2) := by decide +kernel
theorem dL_rings_77 : decode cL_rings 77 = .ok (.invokevirtual 88, 3) := by decide +kernel
theorem dL_rings_80 : decode cL_rings 80 = .ok (.goto 4, 3) := by decide +kernel
theorem dL_rings_83 : decode cL_rings 83 = .ok (.iconst 0, 1) := by decide +kernel
theorem dL_rings_84 : decode cL_rings 84 = .ok (.iadd, 1) := by decide +kernel
theorem dL_rings_85 : decode cL_rings 85 = .ok (.istore 9, 2) := by decide +kernel
theorem dL_rings_87 : decode cL_rings 87 = .ok (.iinc 10 1, 3) := by decide +kernel
theorem dL_rings_90 : decode cL_rings 90 = .ok (.goto (-38), 3) := by decide +kernel
theorem dL_rings_93 : decode cL_rings 93 = .ok (.aload_n 0, 1) := by decide +kernel
theorem dL_rings_94 : decode cL_rings 94 = .ok (.aload_n 1, 1) := by decide +kernel
theorem dL_rings_95 : decode cL_rings 95 = .ok (.bipush 13, 2) := by decide +kernel
theorem dL_rings_97 : decode cL_rings 97 = .ok (.iload 5, 2) := by decide +kernel
theorem dL_rings_99 : decode cL_rings 99 = .ok (.iconst 0, 1) := by decide +kernel
theorem dL_rings_100 : decode cL_rings 100 = .ok (.iconst 0, 1) := by decide +kernel
theorem dL_rings_101 : decode cL_rings 101 = .ok (.invokestatic 139, 3) := by decide +kernel
theorem dL_rings_104 : decode cL_rings 104 = .ok (.istore 10, 2) := by decide +kernel
theorem dL_rings_106 : decode cL_rings 106 = .ok (.iload 6, 2) := by decide +kernel
theorem dL_rings_108 : decode cL_rings 108 = .ok (.ifCond .ne 57, 3) := by decide +kernel
theorem dL_rings_111 : decode cL_rings 111 = .ok (.iload 10, 2) := by decide +kernel
theorem dL_rings_113 : decode cL_rings 113 = .ok (.iconst (-1), 1) := by decide +kernel
theorem dL_rings_114 : decode cL_rings 114 = .ok (.if_icmp .ne 49, 3) := by decide +kernel
theorem dL_rings_117 : decode cL_rings 117 = .ok (.aload_n 0, 1) := by decide +kernel
theorem dL_rings_118 : decode cL_rings 118 = .ok (.iload 5, 2) := by decide +kernel
theorem dL_rings_120 : decode cL_rings 120 = .ok (.invokevirtual 75, 3) := by decide +kernel
theorem dL_rings_123 : decode cL_rings 123 = .ok (.ifCond .eq 40, 3) := by decide +kernel
theorem dL_rings_126 : decode cL_rings 126 = .ok (.aload_n 0, 1) := by decide +kernel
theorem dL_rings_127 : decode cL_rings 127 = .ok (.aload_n 1, 1) := by decide +kernel
theorem dL_rings_128 : decode cL_rings 128 = .ok (.bipush 10, 2) := by decide +kernel
theorem dL_rings_130 : decode cL_rings 130 = .ok (.iconst 1, 1) := by decide +kernel
theorem dL_rings_131 : decode cL_rings 131 = .ok (.iconst 2, 1) := by decide +kernel
theorem dL_rings_132 : decode cL_rings 132 = .ok (.iload 5, 2) := by decide +kernel
theorem dL_rings_134 : decode cL_rings 134 = .ok (.imul, 1) := by decide +kernel
theorem dL_rings_135 : decode cL_rings 135 = .ok (.ldc 146, 2) := by decide +kernel
theorem dL_rings_137 : decode cL_rings 137 = .ok (.invokestatic 139, 3) := by decide +kernel
theorem dL_rings_140 : decode cL_rings 140 = .ok (.ldc 23, 2) := by decide +kernel
theorem dL_rings_142 : decode cL_rings 142 = .ok (.if_icmp .ne 21, 3) := by decide +kernel
theorem dL_rings_145 : decode cL_rings 145 = .ok (.aload_n 0, 1) := by decide +kernel
theorem dL_rings_146 : decode cL_rings 146 = .ok (.bipush 15, 2) := by decide +kernel
theorem dL_rings_148 : decode cL_rings 148 = .ok (.iload_n 3, 1) := by decide +kernel
theorem dL_rings_149 : decode cL_rings 149 = .ok (.iconst 0, 1) := by decide +kernel
theorem dL_rings_150 : decode cL_rings 150 = .ok (.iconst 0, 1) := by decide +kernel
theorem dL_rings_151 : decode cL_rings 151 = .ok (.invokestatic 132, 3) := by decide +kernel
theorem dL_rings_154 : decode cL_rings 154 = .ok (.ldc 17, 2) := by decide +kernel
theorem dL_rings_156 : decode cL_rings 156 = .ok (.if_icmp .ne 7, 3) := by decide +kernel
theorem dL_rings_159 : decode cL_rings 159 = .ok (.iconst 1, 1) := by decide +kernel
theorem dL_rings_160 : decode cL_rings 160 = .ok (.goto 4, 3) := by decide +kernel
theorem dL_rings_163 : decode cL_rings 163 = .ok (.iconst 0, 1) := by decide +kernel
theorem dL_rings_164 : decode cL_rings 164 = .ok (.ireturn, 1) := by decide +kernel
theorem dL_rings_165 : decode cL_rings 165 = .ok (.lconst 0, 1) := by decide +kernel
theorem dL_rings_166 : decode cL_rings 166 = .ok (.lstore 11, 2) := by decide +kernel
theorem dL_rings_168 : decode cL_rings 168 = .ok (.iconst 0, 1) := by decide +kernel
theorem dL_rings_169 : decode cL_rings 169 = .ok (.istore 13, 2) := by decide +kernel
theorem dL_rings_171 : decode cL_rings 171 = .ok (.iload 13, 2) := by decide +kernel
theorem dL_rings_173 : decode cL_rings 173 = .ok (.iload_n 2, 1) := by decide +kernel
theorem dL_rings_174 : decode cL_rings 174 = .ok (.if_icmp .ge 21, 3) := by decide +kernel
theorem dL_rings_177 : decode cL_rings 177 = .ok (.lload 11, 2) := by decide +kernel
theorem dL_rings_179 : decode cL_rings 179 = .ok (.aload_n 0, 1) := by decide +kernel
theorem dL_rings_180 : decode cL_rings 180 = .ok (.iload 13, 2) := by decide +kernel
theorem dL_rings_182 : decode cL_rings 182 = .ok (.invokevirtual 85, 3) := by decide +kernel
theorem dL_rings_185 : decode cL_rings 185 = .ok (.i2l, 1) := by decide +kernel
theorem dL_rings_186 : decode cL_rings 186 = .ok (.ladd, 1) := by decide +kernel
theorem dL_rings_187 : decode cL_rings 187 = .ok (.lstore 11, 2) := by decide +kernel
theorem dL_rings_189 : decode cL_rings 189 = .ok (.iinc 13 1, 3) := by decide +kernel
theorem dL_rings_192 : decode cL_rings 192 = .ok (.goto (-21), 3) := by decide +kernel
theorem dL_rings_195 : decode cL_rings 195 = .ok (.iconst 0, 1) := by decide +kernel
theorem dL_rings_196 : decode cL_rings 196 = .ok (.istore 13, 2) := by decide +kernel
theorem dL_rings_198 : decode cL_rings 198 = .ok (.iconst 0, 1) := by decide +kernel
theorem dL_rings_199 : decode cL_rings 199 = .ok (.istore 14, 2) := by decide +kernel
theorem dL_rings_201 : decode cL_rings 201 = .ok (.iload 14, 2) := by decide +kernel
theorem dL_rings_203 : decode cL_rings 203 = .ok (.bipush 6, 2) := by decide +kernel
theorem dL_rings_205 : decode cL_rings 205 = .ok (.if_icmp .ge 22, 3) := by decide +kernel
theorem dL_rings_208 : decode cL_rings 208 = .ok (.iload 13, 2) := by decide +kernel
theorem dL_rings_210 : decode cL_rings 210 = .ok (.aload_n 0, 1) := by decide +kernel
theorem dL_rings_211 : decode cL_rings 211 = .ok (.iload 14, 2) := by decide +kernel
theorem dL_rings_213 : decode cL_rings 213 = .ok (.iload 5, 2) := by decide +kernel
theorem dL_rings_215 : decode cL_rings 215 = .ok (.invokevirtual 88, 3) := by decide +kernel
theorem dL_rings_218 : decode cL_rings 218 = .ok (.iadd, 1) := by decide +kernel
theorem dL_rings_219 : decode cL_rings 219 = .ok (.istore 13, 2) := by decide +kernel
theorem dL_rings_221 : decode cL_rings 221 = .ok (.iinc 14 1, 3) := by decide +kernel
theorem dL_rings_224 : decode cL_rings 224 = .ok (.goto (-23), 3) := by decide +kernel
theorem dL_rings_227 : decode cL_rings 227 = .ok (.iload 10, 2) := by decide +kernel
theorem dL_rings_229 : decode cL_rings 229 = .ok (.iload_n 3, 1) := by decide +kernel
theorem dL_rings_230 : decode cL_rings 230 = .ok (.if_icmp .ne 59, 3) := by decide +kernel
theorem dL_rings_233 : decode cL_rings 233 = .ok (.aload_n 0, 1) := by decide +kernel
theorem dL_rings_234 : decode cL_rings 234 = .ok (.iload 5, 2) := by decide +kernel
theorem dL_rings_236 : decode cL_rings 236 = .ok (.invokevirtual 75, 3) := by decide +kernel
theorem dL_rings_239 : decode cL_rings 239 = .ok (.ifCond .ne 50, 3) := by decide +kernel
theorem dL_rings_242 : decode cL_rings 242 = .ok (.aload_n 0, 1) := by decide +kernel
theorem dL_rings_243 : decode cL_rings 243 = .ok (.iload 10, 2) := by decide +kernel
theorem dL_rings_245 : decode cL_rings 245 = .ok (.iconst 0, 1) := by decide +kernel
theorem dL_rings_246 : decode cL_rings 246 = .ok (.invokevirtual 79, 3) := by decide +kernel
theorem dL_rings_249 : decode cL_rings 249 = .ok (.iload 5, 2) := by decide +kernel
theorem dL_rings_251 : decode cL_rings 251 = .ok (.if_icmp .ne 38, 3) := by decide +kernel
theorem dL_rings_254 : decode cL_rings 254 = .ok (.lload 11, 2) := by decide +kernel
theorem dL_rings_256 : decode cL_rings 256 = .ok (.lload 7, 2) := by decide +kernel
theorem dL_rings_258 : decode cL_rings 258 = .ok (.lsub, 1) := by decide +kernel
theorem dL_rings_259 : decode cL_rings 259 = .ok (.ldc2_w 147, 3) := by decide +kernel
theorem dL_rings_262 : decode cL_rings 262 = .ok (.aload_n 0, 1) := by decide +kernel
theorem dL_rings_263 : decode cL_rings 263 = .ok (.iload 10, 2) := by decide +kernel
theorem dL_rings_265 : decode cL_rings 265 = .ok (.iconst 2, 1) := by decide +kernel
theorem dL_rings_266 : decode cL_rings 266 = .ok (.invokevirtual 79, 3) := by decide +kernel
theorem dL_rings_269 : decode cL_rings 269 = .ok (.i2l, 1) := by decide +kernel
theorem dL_rings_270 : decode cL_rings 270 = .ok (.lmul, 1) := by decide +kernel
theorem dL_rings_271 : decode cL_rings 271 = .ok (.lcmp, 1) := by decide +kernel
theorem dL_rings_272 : decode cL_rings 272 = .ok (.ifCond .ne 17, 3) := by decide +kernel
theorem dL_rings_275 : decode cL_rings 275 = .ok (.iload 13, 2) := by decide +kernel
theorem dL_rings_277 : decode cL_rings 277 = .ok (.ifCond .ne 12, 3) := by decide +kernel
theorem dL_rings_280 : decode cL_rings 280 = .ok (.iload 9, 2) := by decide +kernel
theorem dL_rings_282 : decode cL_rings 282 = .ok (.ifCond .lt 7, 3) := by decide +kernel
theorem dL_rings_285 : decode cL_rings 285 = .ok (.iconst 1, 1) := by decide +kernel
theorem dL_rings_286 : decode cL_rings 286 = .ok (.goto 4, 3) := by decide +kernel
theorem dL_rings_289 : decode cL_rings 289 = .ok (.iconst 0, 1) := by decide +kernel
theorem dL_rings_290 : decode cL_rings 290 = .ok (.istore 14, 2) := by decide +kernel
theorem dL_rings_292 : decode cL_rings 292 = .ok (.iload 14, 2) := by decide +kernel
theorem dL_rings_294 : decode cL_rings 294 = .ok (.ifCond .eq 87, 3) := by decide +kernel
theorem dL_rings_297 : decode cL_rings 297 = .ok (.aload_n 0, 1) := by decide +kernel
theorem dL_rings_298 : decode cL_rings 298 = .ok (.iload 10, 2) := by decide +kernel
theorem dL_rings_300 : decode cL_rings 300 = .ok (.iconst 4, 1) := by decide +kernel
theorem dL_rings_301 : decode cL_rings 301 = .ok (.invokevirtual 79, 3) := by decide +kernel
theorem dL_rings_304 : decode cL_rings 304 = .ok (.ifCond .ne 16, 3) := by decide +kernel
theorem dL_rings_307 : decode cL_rings 307 = .ok (.aload_n 0, 1) := by decide +kernel
theorem dL_rings_308 : decode cL_rings 308 = .ok (.iload 10, 2) := by decide +kernel
theorem dL_rings_310 : decode cL_rings 310 = .ok (.iconst 1, 1) := by decide +kernel
theorem dL_rings_311 : decode cL_rings 311 = .ok (.invokevirtual 79, 3) := by decide +kernel
theorem dL_rings_314 : decode cL_rings 314 = .ok (.ifCond .lt 67, 3) := by decide +kernel
theorem dL_rings_317 : decode cL_rings 317 = .ok (.goto 44, 3) := by decide +kernel
theorem dL_rings_320 : decode cL_rings 320 = .ok (.aload_n 0, 1) := by decide +kernel
theorem dL_rings_321 : decode cL_rings 321 = .ok (.iload 10, 2) := by decide +kernel
theorem dL_rings_323 : decode cL_rings 323 = .ok (.iconst 1, 1) := by decide +kernel
theorem dL_rings_324 : decode cL_rings 324 = .ok (.invokevirtual 79, 3) := by decide +kernel
theorem dL_rings_327 : decode cL_rings 327 = .ok (.iconst (-1), 1) := by decide +kernel
theorem dL_rings_328 : decode cL_rings 328 = .ok (.if_icmp .ne 53, 3) := by decide +kernel
theorem dL_rings_331 : decode cL_rings 331 = .ok (.aload_n 0, 1) := by decide +kernel
theorem dL_rings_332 : decode cL_rings 332 = .ok (.iload 10, 2) := by decide +kernel
theorem dL_rings_334 : decode cL_rings 334 = .ok (.iconst 2, 1) := by decide +kernel
theorem dL_rings_335 : decode cL_rings 335 = .ok (.invokevirtual 79, 3) := by decide +kernel
theorem dL_rings_338 : decode cL_rings 338 = .ok (.ifCond .ne 43, 3) := by decide +kernel
theorem dL_rings_341 : decode cL_rings 341 = .ok (.aload_n 0, 1) := by decide +kernel
theorem dL_rings_342 : decode cL_rings 342 = .ok (.iload 10, 2) := by decide +kernel
theorem dL_rings_344 : decode cL_rings 344 = .ok (.iconst 3, 1) := by decide +kernel
theorem dL_rings_345 : decode cL_rings 345 = .ok (.invokevirtual 79, 3) := by decide +kernel
theorem dL_rings_348 : decode cL_rings 348 = .ok (.ifCond .ne 33, 3) := by decide +kernel
theorem dL_rings_351 : decode cL_rings 351 = .ok (.aload_n 0, 1) := by decide +kernel
theorem dL_rings_352 : decode cL_rings 352 = .ok (.iload 10, 2) := by decide +kernel
theorem dL_rings_354 : decode cL_rings 354 = .ok (.iconst 5, 1) := by decide +kernel
theorem dL_rings_355 : decode cL_rings 355 = .ok (.invokevirtual 79, 3) := by decide +kernel
theorem dL_rings_358 : decode cL_rings 358 = .ok (.ifCond .ne 23, 3) := by decide +kernel
theorem dL_rings_361 : decode cL_rings 361 = .ok (.aload_n 0, 1) := by decide +kernel
theorem dL_rings_362 : decode cL_rings 362 = .ok (.iload 10, 2) := by decide +kernel
theorem dL_rings_364 : decode cL_rings 364 = .ok (.invokevirtual 82, 3) := by decide +kernel
theorem dL_rings_367 : decode cL_rings 367 = .ok (.aload_n 0, 1) := by decide +kernel
theorem dL_rings_368 : decode cL_rings 368 = .ok (.iload 10, 2) := by decide +kernel
theorem dL_rings_370 : decode cL_rings 370 = .ok (.iconst 1, 1) := by decide +kernel
theorem dL_rings_371 : decode cL_rings 371 = .ok (.invokevirtual 79, 3) := by decide +kernel
theorem dL_rings_374 : decode cL_rings 374 = .ok (.if_icmp .ne 7, 3) := by decide +kernel
theorem dL_rings_377 : decode cL_rings 377 = .ok (.iconst 1, 1) := by decide +kernel
theorem dL_rings_378 : decode cL_rings 378 = .ok (.goto 4, 3) := by decide +kernel
theorem dL_rings_381 : decode cL_rings 381 = .ok (.iconst 0, 1) := by decide +kernel
theorem dL_rings_382 : decode cL_rings 382 = .ok (.ireturn, 1) := by decide +kernel
theorem dL_strikes_0 : decode cL_strikes 0 = .ok (.iload 5, 2) := by decide +kernel
theorem dL_strikes_2 : decode cL_strikes 2 = .ok (.iconst 2, 1) := by decide +kernel
theorem dL_strikes_3 : decode cL_strikes 3 = .ok (.invokestatic 136, 3) := by decide +kernel
theorem dL_strikes_6 : decode cL_strikes 6 = .ok (.ifCond .ne 7, 3) := by decide +kernel
theorem dL_strikes_9 : decode cL_strikes 9 = .ok (.iconst 1, 1) := by decide +kernel
theorem dL_strikes_10 : decode cL_strikes 10 = .ok (.goto 4, 3) := by decide +kernel
theorem dL_strikes_13 : decode cL_strikes 13 = .ok (.iconst 0, 1) := by decide +kernel
theorem dL_strikes_14 : decode cL_strikes 14 = .ok (.istore 6, 2) := by decide +kernel
theorem dL_strikes_16 : decode cL_strikes 16 = .ok (.iload 6, 2) := by decide +kernel
theorem dL_strikes_18 : decode cL_strikes 18 = .ok (.ifCond .eq 7, 3) := by decide +kernel
theorem dL_strikes_21 : decode cL_strikes 21 = .ok (.iload_n 2, 1) := by decide +kernel
theorem dL_strikes_22 : decode cL_strikes 22 = .ok (.goto 4, 3) := by decide +kernel
theorem dL_strikes_25 : decode cL_strikes 25 = .ok (.iload_n 3, 1) := by decide +kernel
theorem dL_strikes_26 : decode cL_strikes 26 = .ok (.istore 7, 2) := by decide +kernel
theorem dL_strikes_28 : decode cL_strikes 28 = .ok (.iload 5, 2) := by decide +kernel
theorem dL_strikes_30 : decode cL_strikes 30 = .ok (.iconst 2, 1) := by decide +kernel
theorem dL_strikes_31 : decode cL_strikes 31 = .ok (.ishr, 1) := by decide +kernel
theorem dL_strikes_32 : decode cL_strikes 32 = .ok (.iload 7, 2) := by decide +kernel
theorem dL_strikes_34 : decode cL_strikes 34 = .ok (.iconst 1, 1) := by decide +kernel
theorem dL_strikes_35 : decode cL_strikes 35 = .ok (.iadd, 1) := by decide +kernel
theorem dL_strikes_36 : decode cL_strikes 36 = .ok (.invokestatic 136, 3) := by decide +kernel
theorem dL_strikes_39 : decode cL_strikes 39 = .ok (.istore 8, 2) := by decide +kernel
theorem dL_strikes_41 : decode cL_strikes 41 = .ok (.aload_n 0, 1) := by decide +kernel
theorem dL_strikes_42 : decode cL_strikes 42 = .ok (.iload_n 3, 1) := by decide +kernel
theorem dL_strikes_43 : decode cL_strikes 43 = .ok (.iload 4, 2) := by decide +kernel
theorem dL_strikes_45 : decode cL_strikes 45 = .ok (.invokestatic 149, 3) := by decide +kernel
theorem dL_strikes_48 : decode cL_strikes 48 = .ok (.lstore 9, 2) := by decide +kernel
theorem dL_strikes_50 : decode cL_strikes 50 = .ok (.aload_n 0, 1) := by decide +kernel
theorem dL_strikes_51 : decode cL_strikes 51 = .ok (.invokevirtual 116, 3) := by decide +kernel
theorem dL_strikes_54 : decode cL_strikes 54 = .ok (.istore 11, 2) := by decide +kernel
theorem dL_strikes_56 : decode cL_strikes 56 = .ok (.aload_n 0, 1) := by decide +kernel
theorem dL_strikes_57 : decode cL_strikes 57 = .ok (.aload_n 1, 1) := by decide +kernel
theorem dL_strikes_58 : decode cL_strikes 58 = .ok (.iload 6, 2) := by decide +kernel
theorem dL_strikes_60 : decode cL_strikes 60 = .ok (.ifCond .eq 8, 3) := by decide +kernel
theorem dL_strikes_63 : decode cL_strikes 63 = .ok (.bipush 24, 2) := by decide +kernel
theorem dL_strikes_65 : decode cL_strikes 65 = .ok (.goto 5, 3) := by decide +kernel
theorem dL_strikes_68 : decode cL_strikes 68 = .ok (.bipush 23, 2) := by decide +kernel
theorem dL_strikes_70 : decode cL_strikes 70 = .ok (.iload 8, 2) := by decide +kernel
theorem dL_strikes_72 : decode cL_strikes 72 = .ok (.iconst 0, 1) := by decide +kernel
theorem dL_strikes_73 : decode cL_strikes 73 = .ok (.iconst 0, 1) := by decide +kernel
theorem dL_strikes_74 : decode cL_strikes 74 = .ok (.invokestatic 139, 3) := by decide +kernel
theorem dL_strikes_77 : decode cL_strikes 77 = .ok (.istore 12, 2) := by decide +kernel
theorem dL_strikes_79 : decode cL_strikes 79 = .ok (.iload 12, 2) := by decide +kernel
theorem dL_strikes_81 : decode cL_strikes 81 = .ok (.ifCond .ge 46, 3) := by decide +kernel
theorem dL_strikes_84 : decode cL_strikes 84 = .ok (.aload_n 0, 1) := by decide +kernel
theorem dL_strikes_85 : decode cL_strikes 85 = .ok (.iload_n 3, 1) := by decide +kernel
theorem dL_strikes_86 : decode cL_strikes 86 = .ok (.iload 4, 2) := by decide +kernel
theorem dL_strikes_88 : decode cL_strikes 88 = .ok (.invokestatic 149, 3) := by decide +kernel
theorem dL_strikes_91 : decode cL_strikes 91 = .ok (.lload 9, 2) := by decide +kernel
theorem dL_strikes_93 : decode cL_strikes 93 = .ok (.lcmp, 1) := by decide +kernel
theorem dL_strikes_94 : decode cL_strikes 94 = .ok (.ifCond .ne 31, 3) := by decide +kernel
theorem dL_strikes_97 : decode cL_strikes 97 = .ok (.iload 8, 2) := by decide +kernel
theorem dL_strikes_99 : decode cL_strikes 99 = .ok (.iload 7, 2) := by decide +kernel
theorem dL_strikes_101 : decode cL_strikes 101 = .ok (.if_icmp .ne 13, 3) := by decide +kernel
theorem dL_strikes_104 : decode cL_strikes 104 = .ok (.iload 12, 2) := by decide +kernel
theorem dL_strikes_106 : decode cL_strikes 106 = .ok (.ldc 17, 2) := by decide +kernel
theorem dL_strikes_108 : decode cL_strikes 108 = .ok (.if_icmp .ne 17, 3) := by decide +kernel
theorem dL_strikes_111 : decode cL_strikes 111 = .ok (.goto 10, 3) := by decide +kernel
theorem dL_strikes_114 : decode cL_strikes 114 = .ok (.iload 12, 2) := by decide +kernel
theorem dL_strikes_116 : decode cL_strikes 116 = .ok (.ldc 23, 2) := by decide +kernel
theorem dL_strikes_118 : decode cL_strikes 118 = .ok (.if_icmp .ne 7, 3) := by decide +kernel
theorem dL_strikes_121 : decode cL_strikes 121 = .ok (.iconst 1, 1) := by decide +kernel
theorem dL_strikes_122 : decode cL_strikes 122 = .ok (.goto 4, 3) := by decide +kernel
theorem dL_strikes_125 : decode cL_strikes 125 = .ok (.iconst 0, 1) := by decide +kernel
theorem dL_strikes_126 : decode cL_strikes 126 = .ok (.ireturn, 1) := by decide +kernel
theorem dL_strikes_127 : decode cL_strikes 127 = .ok (.iconst 0, 1) := by decide +kernel
theorem dL_strikes_128 : decode cL_strikes 128 = .ok (.istore 13, 2) := by decide +kernel
theorem dL_strikes_130 : decode cL_strikes 130 = .ok (.iconst 0, 1) := by decide +kernel
theorem dL_strikes_131 : decode cL_strikes 131 = .ok (.istore 14, 2) := by decide +kernel
theorem dL_strikes_133 : decode cL_strikes 133 = .ok (.iconst 0, 1) := by decide +kernel
theorem dL_strikes_134 : decode cL_strikes 134 = .ok (.istore 15, 2) := by decide +kernel
theorem dL_strikes_136 : decode cL_strikes 136 = .ok (.iload 15, 2) := by decide +kernel
theorem dL_strikes_138 : decode cL_strikes 138 = .ok (.bipush 6, 2) := by decide +kernel
theorem dL_strikes_140 : decode cL_strikes 140 = .ok (.if_icmp .ge 40, 3) := by decide +kernel
theorem dL_strikes_143 : decode cL_strikes 143 = .ok (.iload 13, 2) := by decide +kernel
theorem dL_strikes_145 : decode cL_strikes 145 = .ok (.aload_n 0, 1) := by decide +kernel
theorem dL_strikes_146 : decode cL_strikes 146 = .ok (.iload 15, 2) := by decide +kernel
theorem dL_strikes_148 : decode cL_strikes 148 = .ok (.iconst 0, 1) := by decide +kernel
theorem dL_strikes_149 : decode cL_strikes 149 = .ok (.invokevirtual 88, 3) := by decide +kernel
theorem dL_strikes_152 : decode cL_strikes 152 = .ok (.aload_n 0, 1) := by decide +kernel
theorem dL_strikes_153 : decode cL_strikes 153 = .ok (.iload 15, 2) := by decide +kernel
theorem dL_strikes_155 : decode cL_strikes 155 = .ok (.iconst 1, 1) := by decide +kernel
theorem dL_strikes_156 : decode cL_strikes 156 = .ok (.invokevirtual 88, 3) := by decide +kernel
theorem dL_strikes_159 : decode cL_strikes 159 = .ok (.iadd, 1) := by decide +kernel
theorem dL_strikes_160 : decode cL_strikes 160 = .ok (.iadd, 1) := by decide +kernel
theorem dL_strikes_161 : decode cL_strikes 161 = .ok (.istore 13, 2) := by decide +kernel
theorem dL_strikes_163 : decode cL_strikes 163 = .ok (.iload 14, 2) := by decide +kernel
theorem dL_strikes_165 : decode cL_strikes 165 = .ok (.aload_n 0, 1) := by decide +kernel
theorem dL_strikes_166 : decode cL_strikes 166 = .ok (.iload 15, 2) := by decide +kernel
theorem dL_strikes_168 : decode cL_strikes 168 = .ok (.invokevirtual 94, 3) := by decide +kernel
theorem dL_strikes_171 : decode cL_strikes 171 = .ok (.iadd, 1) := by decide +kernel
theorem dL_strikes_172 : decode cL_strikes 172 = .ok (.istore 14, 2) := by decide +kernel
theorem dL_strikes_174 : decode cL_strikes 174 = .ok (.iinc 15 1, 3) := by decide +kernel
theorem dL_strikes_177 : decode cL_strikes 177 = .ok (.goto (-41), 3) := by decide +kernel
theorem dL_strikes_180 : decode cL_strikes 180 = .ok (.iload 12, 2) := by decide +kernel
theorem dL_strikes_182 : decode cL_strikes 182 = .ok (.iload 4, 2) := by decide +kernel
theorem dL_strikes_184 : decode cL_strikes 184 = .ok (.if_icmp .gt 83, 3) := by decide +kernel
theorem dL_strikes_187 : decode cL_strikes 187 = .ok (.aload_n 0, 1) := by decide +kernel
theorem dL_strikes_188 : decode cL_strikes 188 = .ok (.invokevirtual 116, 3) := by decide +kernel
theorem dL_strikes_191 : decode cL_strikes 191 = .ok (.iload 11, 2) := by decide +kernel
theorem dL_strikes_193 : decode cL_strikes 193 = .ok (.iconst 1, 1) := by decide +kernel
theorem dL_strikes_194 : decode cL_strikes 194 = .ok (.iadd, 1) := by decide +kernel
theorem dL_strikes_195 : decode cL_strikes 195 = .ok (.if_icmp .ne 72, 3) := by decide +kernel
theorem dL_strikes_198 : decode cL_strikes 198 = .ok (.iload 13, 2) := by decide +kernel
theorem dL_strikes_200 : decode cL_strikes 200 = .ok (.ifCond .ne 67, 3) := by decide +kernel
theorem dL_strikes_203 : decode cL_strikes 203 = .ok (.iload 14, 2) := by decide +kernel
theorem dL_strikes_205 : decode cL_strikes 205 = .ok (.ifCond .ne 62, 3) := by decide +kernel
theorem dL_strikes_208 : decode cL_strikes 208 = .ok (.iload 6, 2) := by decide +kernel
theorem dL_strikes_210 : decode cL_strikes 210 = .ok (.ifCond .ne 12, 3) := by decide +kernel
theorem dL_strikes_213 : decode cL_strikes 213 = .ok (.aload_n 0, 1) := by decide +kernel
theorem dL_strikes_214 : decode cL_strikes 214 = .ok (.iload 8, 2) := by decide +kernel
theorem dL_strikes_216 : decode cL_strikes 216 = .ok (.invokevirtual 85, 3) := by decide +kernel
theorem dL_strikes_219 : decode cL_strikes 219 = .ok (.ifCond .ne 48, 3) := by decide +kernel
theorem dL_strikes_222 : decode cL_strikes 222 = .ok (.aload_n 0, 1) := by decide +kernel
theorem dL_strikes_223 : decode cL_strikes 223 = .ok (.aload_n 1, 1) := by decide +kernel
theorem dL_strikes_224 : decode cL_strikes 224 = .ok (.iload 6, 2) := by decide +kernel
theorem dL_strikes_226 : decode cL_strikes 226 = .ok (.ifCond .eq 8, 3) := by decide +kernel
theorem dL_strikes_229 : decode cL_strikes 229 = .ok (.bipush 24, 2) := by decide +kernel
theorem dL_strikes_231 : decode cL_strikes 231 = .ok (.goto 5, 3) := by decide +kernel
theorem dL_strikes_234 : decode cL_strikes 234 = .ok (.bipush 23, 2) := by decide +kernel
theorem dL_strikes_236 : decode cL_strikes 236 = .ok (.iload 8, 2) := by decide +kernel
theorem dL_strikes_238 : decode cL_strikes 238 = .ok (.iconst 0, 1) := by decide +kernel
theorem dL_strikes_239 : decode cL_strikes 239 = .ok (.iconst 0, 1) := by decide +kernel
theorem dL_strikes_240 : decode cL_strikes 240 = .ok (.invokestatic 139, 3) := by decide +kernel
theorem dL_strikes_243 : decode cL_strikes 243 = .ok (.ldc 23, 2) := by decide +kernel
theorem dL_strikes_245 : decode cL_strikes 245 = .ok (.if_icmp .ne 22, 3) := by decide +kernel
theorem dL_strikes_248 : decode cL_strikes 248 = .ok (.iload 12, 2) := by decide +kernel
theorem dL_strikes_250 : decode cL_strikes 250 = .ok (.ifCond .gt 13, 3) := by decide +kernel
theorem dL_strikes_253 : decode cL_strikes 253 = .ok (.iload 6, 2) := by decide +kernel
theorem dL_strikes_255 : decode cL_strikes 255 = .ok (.ifCond .ne 8, 3) := by decide +kernel
theorem dL_strikes_258 : decode cL_strikes 258 = .ok (.iload 4, 2) := by decide +kernel
theorem dL_strikes_260 : decode cL_strikes 260 = .ok (.ifCond .le 7, 3) := by decide +kernel
theorem dL_strikes_263 : decode cL_strikes 263 = .ok (.iconst 1, 1) := by decide +kernel
theorem dL_strikes_264 : decode cL_strikes 264 = .ok (.goto 4, 3) := by decide +kernel
theorem dL_strikes_267 : decode cL_strikes 267 = .ok (.iconst 0, 1) := by decide +kernel
theorem dL_strikes_268 : decode cL_strikes 268 = .ok (.ireturn, 1) := by decide +kernel
theorem dL_refused_0 : decode cL_refused 0 = .ok (.aload_n 0, 1) := by decide +kernel
theorem dL_refused_1 : decode cL_refused 1 = .ok (.iload_n 2, 1) := by decide +kernel
theorem dL_refused_2 : decode cL_refused 2 = .ok (.iload_n 3, 1) := by decide +kernel
theorem dL_refused_3 : decode cL_refused 3 = .ok (.invokestatic 149, 3) := by decide +kernel
theorem dL_refused_6 : decode cL_refused 6 = .ok (.lstore 4, 2) := by decide +kernel
theorem dL_refused_8 : decode cL_refused 8 = .ok (.aload_n 0, 1) := by decide +kernel
theorem dL_refused_9 : decode cL_refused 9 = .ok (.iconst 0, 1) := by decide +kernel
theorem dL_refused_10 : decode cL_refused 10 = .ok (.iconst (-1), 1) := by decide +kernel
theorem dL_refused_11 : decode cL_refused 11 = .ok (.bipush 17, 2) := by decide +kernel
theorem dL_refused_13 : decode cL_refused 13 = .ok (.iconst 0, 1) := by decide +kernel
theorem dL_refused_14 : decode cL_refused 14 = .ok (.invokestatic 132, 3) := by decide +kernel
theorem dL_refused_17 : decode cL_refused 17 = .ok (.ldc 17, 2) := by decide +kernel
theorem dL_refused_19 : decode cL_refused 19 = .ok (.if_icmp .ne 176, 3) := by decide +kernel
theorem dL_refused_22 : decode cL_refused 22 = .ok (.aload_n 0, 1) := by decide +kernel
theorem dL_refused_23 : decode cL_refused 23 = .ok (.iconst 1, 1) := by decide +kernel
theorem dL_refused_24 : decode cL_refused 24 = .ok (.iconst 0, 1) := by decide +kernel
theorem dL_refused_25 : decode cL_refused 25 = .ok (.bipush 10, 2) := by decide +kernel
theorem dL_refused_27 : decode cL_refused 27 = .ok (.bipush 18, 2) := by decide +kernel
theorem dL_refused_29 : decode cL_refused 29 = .ok (.invokestatic 132, 3) := by decide +kernel
theorem dL_refused_32 : decode cL_refused 32 = .ok (.ldc 17, 2) := by decide +kernel
theorem dL_refused_34 : decode cL_refused 34 = .ok (.if_icmp .ne 161, 3) := by decide +kernel
theorem dL_refused_37 : decode cL_refused 37 = .ok (.aload_n 0, 1) := by decide +kernel
theorem dL_refused_38 : decode cL_refused 38 = .ok (.iconst 1, 1) := by decide +kernel
theorem dL_refused_39 : decode cL_refused 39 = .ok (.iconst 0, 1) := by decide +kernel
theorem dL_refused_40 : decode cL_refused 40 = .ok (.bipush 26, 2) := by decide +kernel
theorem dL_refused_42 : decode cL_refused 42 = .ok (.bipush 114, 2) := by decide +kernel
theorem dL_refused_44 : decode cL_refused 44 = .ok (.invokestatic 132, 3) := by decide +kernel
theorem dL_refused_47 : decode cL_refused 47 = .ok (.ldc 17, 2) := by decide +kernel
theorem dL_refused_49 : decode cL_refused 49 = .ok (.if_icmp .ne 146, 3) := by decide +kernel
theorem dL_refused_52 : decode cL_refused 52 = .ok (.aload_n 0, 1) := by decide +kernel
theorem dL_refused_53 : decode cL_refused 53 = .ok (.iconst 2, 1) := by decide +kernel
theorem dL_refused_54 : decode cL_refused 54 = .ok (.iconst 1, 1) := by decide +kernel
theorem dL_refused_55 : decode cL_refused 55 = .ok (.iconst 4, 1) := by decide +kernel
theorem dL_refused_56 : decode cL_refused 56 = .ok (.iconst 0, 1) := by decide +kernel
theorem dL_refused_57 : decode cL_refused 57 = .ok (.invokestatic 132, 3) := by decide +kernel
theorem dL_refused_60 : decode cL_refused 60 = .ok (.ldc 20, 2) := by decide +kernel
theorem dL_refused_62 : decode cL_refused 62 = .ok (.if_icmp .ne 133, 3) := by decide +kernel
theorem dL_refused_65 : decode cL_refused 65 = .ok (.aload_n 0, 1) := by decide +kernel
theorem dL_refused_66 : decode cL_refused 66 = .ok (.iconst 3, 1) := by decide +kernel
theorem dL_refused_67 : decode cL_refused 67 = .ok (.iconst 0, 1) := by decide +kernel
theorem dL_refused_68 : decode cL_refused 68 = .ok (.iconst 4, 1) := by decide +kernel
theorem dL_refused_69 : decode cL_refused 69 = .ok (.iconst 0, 1) := by decide +kernel
theorem dL_refused_70 : decode cL_refused 70 = .ok (.invokestatic 132, 3) := by decide +kernel
theorem dL_refused_73 : decode cL_refused 73 = .ok (.ldc 17, 2) := by decide +kernel
theorem dL_refused_75 : decode cL_refused 75 = .ok (.if_icmp .ne 120, 3) := by decide +kernel
theorem dL_refused_78 : decode cL_refused 78 = .ok (.aload_n 0, 1) := by decide +kernel
theorem dL_refused_79 : decode cL_refused 79 = .ok (.iconst 4, 1) := by decide +kernel
theorem dL_refused_80 : decode cL_refused 80 = .ok (.iconst 0, 1) := by decide +kernel
theorem dL_refused_81 : decode cL_refused 81 = .ok (.iconst 0, 1) := by decide +kernel
theorem dL_refused_82 : decode cL_refused 82 = .ok (.bipush 6, 2) := by decide +kernel
theorem dL_refused_84 : decode cL_refused 84 = .ok (.invokestatic 132, 3) := by decide +kernel
theorem dL_refused_87 : decode cL_refused 87 = .ok (.ldc 17, 2) := by decide +kernel
theorem dL_refused_89 : decode cL_refused 89 = .ok (.if_icmp .ne 106, 3) := by decide +kernel
theorem dL_refused_92 : decode cL_refused 92 = .ok (.aload_n 0, 1) := by decide +kernel
theorem dL_refused_93 : decode cL_refused 93 = .ok (.iconst 5, 1) := by decide +kernel
theorem dL_refused_94 : decode cL_refused 94 = .ok (.iconst (-1), 1) := by decide +kernel
theorem dL_refused_95 : decode cL_refused 95 = .ok (.iconst 0, 1) := by decide +kernel
theorem dL_refused_96 : decode cL_refused 96 = .ok (.iconst 0, 1) := by decide +kernel
theorem dL_refused_97 : decode cL_refused 97 = .ok (.invokestatic 132, 3) := by decide +kernel
theorem dL_refused_100 : decode cL_refused 100 = .ok (.ldc 17, 2) := by decide +kernel
theorem dL_refused_102 : decode cL_refused 102 = .ok (.if_icmp .ne 93, 3) := by decide +kernel
theorem dL_refused_105 : decode cL_refused 105 = .ok (.aload_n 0, 1) := by decide +kernel
theorem dL_refused_106 : decode cL_refused 106 = .ok (.iconst 5, 1) := by decide +kernel
theorem dL_refused_107 : decode cL_refused 107 = .ok (.iconst 0, 1) := by decide +kernel
theorem dL_refused_108 : decode cL_refused 108 = .ok (.iconst (-1), 1) := by decide +kernel
theorem dL_refused_109 : decode cL_refused 109 = .ok (.iconst 0, 1) := by decide +kernel
theorem dL_refused_110 : decode cL_refused 110 = .ok (.invokestatic 132, 3) := by decide +kernel
theorem dL_refused_113 : decode cL_refused 113 = .ok (.ldc 20, 2) := by decide +kernel
theorem dL_refused_115 : decode cL_refused 115 = .ok (.if_icmp .ne 80, 3) := by decide +kernel
theorem dL_refused_118 : decode cL_refused 118 = .ok (.aload_n 0, 1) := by decide +kernel
theorem dL_refused_119 : decode cL_refused 119 = .ok (.bipush 6, 2) := by decide +kernel
theorem dL_refused_121 : decode cL_refused 121 = .ok (.iconst 0, 1) := by decide +kernel
theorem dL_refused_122 : decode cL_refused 122 = .ok (.iconst 0, 1) := by decide +kernel
theorem dL_refused_123 : decode cL_refused 123 = .ok (.iconst (-1), 1) := by decide +kernel
theorem dL_refused_124 : decode cL_refused 124 = .ok (.invokestatic 132, 3) := by decide +kernel
theorem dL_refused_127 : decode cL_refused 127 = .ok (.ldc 17, 2) := by decide +kernel
theorem dL_refused_129 : decode cL_refused 129 = .ok (.if_icmp .ne 66, 3) := by decide +kernel
theorem dL_refused_132 : decode cL_refused 132 = .ok (.aload_n 0, 1) := by decide +kernel
theorem dL_refused_133 : decode cL_refused 133 = .ok (.bipush 7, 2) := by decide +kernel
theorem dL_refused_135 : decode cL_refused 135 = .ok (.iconst (-1), 1) := by decide +kernel
theorem dL_refused_136 : decode cL_refused 136 = .ok (.iconst 0, 1) := by decide +kernel
theorem dL_refused_137 : decode cL_refused 137 = .ok (.iconst 0, 1) := by decide +kernel
theorem dL_refused_138 : decode cL_refused 138 = .ok (.invokestatic 132, 3) := by decide +kernel
theorem dL_refused_141 : decode cL_refused 141 = .ok (.ldc 17, 2) := by decide +kernel
theorem dL_refused_143 : decode cL_refused 143 = .ok (.if_icmp .ne 52, 3) := by decide +kernel
theorem dL_refused_146 : decode cL_refused 146 = .ok (.aload_n 0, 1) := by decide +kernel
theorem dL_refused_147 : decode cL_refused 147 = .ok (.bipush 8, 2) := by decide +kernel
theorem dL_refused_149 : decode cL_refused 149 = .ok (.iconst 4, 1) := by decide +kernel
theorem dL_refused_150 : decode cL_refused 150 = .ok (.iconst 0, 1) := by decide +kernel
theorem dL_refused_151 : decode cL_refused 151 = .ok (.iconst 0, 1) := by decide +kernel
theorem dL_refused_152 : decode cL_refused 152 = .ok (.invokestatic 132, 3) := by decide +kernel
theorem dL_refused_155 : decode cL_refused 155 = .ok (.ldc 17, 2) := by decide +kernel
theorem dL_refused_157 : decode cL_refused 157 = .ok (.if_icmp .ne 38, 3) := by decide +kernel
theorem dL_refused_160 : decode cL_refused 160 = .ok (.aload_n 0, 1) := by decide +kernel
theorem dL_refused_161 : decode cL_refused 161 = .ok (.bipush 9, 2) := by decide +kernel
theorem dL_refused_163 : decode cL_refused 163 = .ok (.iconst 0, 1) := by decide +kernel
theorem dL_refused_164 : decode cL_refused 164 = .ok (.iconst 0, 1) := by decide +kernel
theorem dL_refused_165 : decode cL_refused 165 = .ok (.bipush 18, 2) := by decide +kernel
theorem dL_refused_167 : decode cL_refused 167 = .ok (.invokestatic 132, 3) := by decide +kernel
theorem dL_refused_170 : decode cL_refused 170 = .ok (.ldc 17, 2) := by decide +kernel
theorem dL_refused_172 : decode cL_refused 172 = .ok (.if_icmp .ne 23, 3) := by decide +kernel
theorem dL_refused_175 : decode cL_refused 175 = .ok (.aload_n 0, 1) := by decide +kernel
theorem dL_refused_176 : decode cL_refused 176 = .ok (.bipush 10, 2) := by decide +kernel
theorem dL_refused_178 : decode cL_refused 178 = .ok (.iconst 0, 1) := by decide +kernel
theorem dL_refused_179 : decode cL_refused 179 = .ok (.bipush 8, 2) := by decide +kernel
theorem dL_refused_181 : decode cL_refused 181 = .ok (.ldc 146, 2) := by decide +kernel
theorem dL_refused_183 : decode cL_refused 183 = .ok (.invokestatic 132, 3) := by decide +kernel
theorem dL_refused_186 : decode cL_refused 186 = .ok (.ldc 17, 2) := by decide +kernel
theorem dL_refused_188 : decode cL_refused 188 = .ok (.if_icmp .ne 7, 3) := by decide +kernel
theorem dL_refused_191 : decode cL_refused 191 = .ok (.iconst 1, 1) := by decide +kernel
theorem dL_refused_192 : decode cL_refused 192 = .ok (.goto 4, 3) := by decide +kernel
theorem dL_refused_195 : decode cL_refused 195 = .ok (.iconst 0, 1) := by decide +kernel
theorem dL_refused_196 : decode cL_refused 196 = .ok (.istore 6, 2) := by decide +kernel
theorem dL_refused_198 : decode cL_refused 198 = .ok (.iload 6, 2) := by decide +kernel
theorem dL_refused_200 : decode cL_refused 200 = .ok (.ifCond .eq 246, 3) := by decide +kernel
theorem dL_refused_203 : decode cL_refused 203 = .ok (.aload_n 0, 1) := by decide +kernel
theorem dL_refused_204 : decode cL_refused 204 = .ok (.bipush 11, 2) := by decide +kernel
theorem dL_refused_206 : decode cL_refused 206 = .ok (.iconst 0, 1) := by decide +kernel
theorem dL_refused_207 : decode cL_refused 207 = .ok (.iload_n 2, 1) := by decide +kernel
theorem dL_refused_208 : decode cL_refused 208 = .ok (.iconst 0, 1) := by decide +kernel
theorem dL_refused_209 : decode cL_refused 209 = .ok (.invokestatic 132, 3) := by decide +kernel
theorem dL_refused_212 : decode cL_refused 212 = .ok (.ldc 17, 2) := by decide +kernel
theorem dL_refused_214 : decode cL_refused 214 = .ok (.if_icmp .ne 232, 3) := by decide +kernel
theorem dL_refused_217 : decode cL_refused 217 = .ok (.aload_n 0, 1) := by decide +kernel
theorem dL_refused_218 : decode cL_refused 218 = .ok (.bipush 12, 2) := by decide +kernel
theorem dL_refused_220 : decode cL_refused 220 = .ok (.iconst 4, 1) := by decide +kernel
theorem dL_refused_221 : decode cL_refused 221 = .ok (.iconst 0, 1) := by decide +kernel
theorem dL_refused_222 : decode cL_refused 222 = .ok (.iconst 0, 1) := by decide +kernel
theorem dL_refused_223 : decode cL_refused 223 = .ok (.invokestatic 132, 3) := by decide +kernel
theorem dL_refused_226 : decode cL_refused 226 = .ok (.ldc 17, 2) := by decide +kernel
theorem dL_refused_228 : decode cL_refused 228 = .ok (.if_icmp .ne 218, 3) := by decide +kernel
theorem dL_refused_231 : decode cL_refused 231 = .ok (.aload_n 0, 1) := by decide +kernel
theorem dL_refused_232 : decode cL_refused 232 = .ok (.bipush 13, 2) := by decide +kernel
theorem dL_refused_234 : decode cL_refused 234 = .ok (.iconst (-1), 1) := by decide +kernel
theorem dL_refused_235 : decode cL_refused 235 = .ok (.iconst 0, 1) := by decide +kernel
theorem dL_refused_236 : decode cL_refused 236 = .ok (.iconst 0, 1) := by decide +kernel
theorem dL_refused_237 : decode cL_refused 237 = .ok (.invokestatic 132, 3) := by decide +kernel
theorem dL_refused_240 : decode cL_refused 240 = .ok (.ldc 17, 2) := by decide +kernel
theorem dL_refused_242 : decode cL_refused 242 = .ok (.if_icmp .ne 204, 3) := by decide +kernel
theorem dL_refused_245 : decode cL_refused 245 = .ok (.aload_n 0, 1) := by decide +kernel
theorem dL_refused_246 : decode cL_refused 246 = .ok (.bipush 14, 2) := by decide +kernel
theorem dL_refused_248 : decode cL_refused 248 = .ok (.iconst (-1), 1) := by decide +kernel
theorem dL_refused_249 : decode cL_refused 249 = .ok (.iconst 0, 1) := by decide +kernel
theorem dL_refused_250 : decode cL_refused 250 = .ok (.iconst 0, 1) := by decide +kernel
theorem dL_refused_251 : decode cL_refused 251 = .ok (.invokestatic 132, 3) := by decide +kernel
theorem dL_refused_254 : decode cL_refused 254 = .ok (.ldc 17, 2) := by decide +kernel
theorem dL_refused_256 : decode cL_refused 256 = .ok (.if_icmp .ne 190, 3) := by decide +kernel
theorem dL_refused_259 : decode cL_refused 259 = .ok (.aload_n 0, 1) := by decide +kernel
theorem dL_refused_260 : decode cL_refused 260 = .ok (.bipush 15, 2) := by decide +kernel
theorem dL_refused_262 : decode cL_refused 262 = .ok (.iload_n 3, 1) := by decide +kernel
theorem dL_refused_263 : decode cL_refused 263 = .ok (.iconst 0, 1) := by decide +kernel
theorem dL_refused_264 : decode cL_refused 264 = .ok (.iconst 0, 1) := by decide +kernel
theorem dL_refused_265 : decode cL_refused 265 = .ok (.invokestatic 132, 3) := by decide +kernel
theorem dL_refused_268 : decode cL_refused 268 = .ok (.ldc 17, 2) := by decide +kernel
theorem dL_refused_270 : decode cL_refused 270 = .ok (.if_icmp .ne 176, 3) := by decide +kernel
theorem dL_refused_273 : decode cL_refused 273 = .ok (.aload_n 0, 1) := by decide +kernel
theorem dL_refused_274 : decode cL_refused 274 = .ok (.bipush 16, 2) := by decide +kernel
theorem dL_refused_276 : decode cL_refused 276 = .ok (.iload_n 3, 1) := by decide +kernel
theorem dL_refused_277 : decode cL_refused 277 = .ok (.iconst 0, 1) := by decide +kernel
theorem dL_refused_278 : decode cL_refused 278 = .ok (.iconst 0, 1) := by decide +kernel
theorem dL_refused_279 : decode cL_refused 279 = .ok (.invokestatic 132, 3) := by decide +kernel
theorem dL_refused_282 : decode cL_refused 282 = .ok (.ldc 17, 2) := by decide +kernel
theorem dL_refused_284 : decode cL_refused 284 = .ok (.if_icmp .ne 162, 3) := by decide +kernel
theorem dL_refused_287 : decode cL_refused 287 = .ok (.aload_n 0, 1) := by decide +kernel
theorem dL_refused_288 : decode cL_refused 288 = .ok (.bipush 17, 2) := by decide +kernel
theorem dL_refused_290 : decode cL_refused 290 = .ok (.iconst (-1), 1) := by decide +kernel
theorem dL_refused_291 : decode cL_refused 291 = .ok (.iconst 0, 1) := by decide +kernel
theorem dL_refused_292 : decode cL_refused 292 = .ok (.iconst 0, 1) := by decide +kernel
theorem dL_refused_293 : decode cL_refused 293 = .ok (.invokestatic 132, 3) := by decide +kernel
theorem dL_refused_296 : decode cL_refused 296 = .ok (.ldc 17, 2) := by decide +kernel
theorem dL_refused_298 : decode cL_refused 298 = .ok (.if_icmp .ne 148, 3) := by decide +kernel
theorem dL_refused_301 : decode cL_refused 301 = .ok (.aload_n 0, 1) := by decide +kernel
theorem dL_refused_302 : decode cL_refused 302 = .ok (.bipush 18, 2) := by decide +kernel
theorem dL_refused_304 : decode cL_refused 304 = .ok (.bipush 6, 2) := by decide +kernel
theorem dL_refused_306 : decode cL_refused 306 = .ok (.iconst 0, 1) := by decide +kernel
theorem dL_refused_307 : decode cL_refused 307 = .ok (.iconst 0, 1) := by decide +kernel
theorem dL_refused_308 : decode cL_refused 308 = .ok (.invokestatic 132, 3) := by decide +kernel
theorem dL_refused_311 : decode cL_refused 311 = .ok (.ldc 17, 2) := by decide +kernel
theorem dL_refused_313 : decode cL_refused 313 = .ok (.if_icmp .ne 133, 3) := by decide +kernel
theorem dL_refused_316 : decode cL_refused 316 = .ok (.aload_n 0, 1) := by decide +kernel
theorem dL_refused_317 : decode cL_refused 317 = .ok (.bipush 19, 2) := by decide +kernel
theorem dL_refused_319 : decode cL_refused 319 = .ok (.iconst 4, 1) := by decide +kernel
theorem dL_refused_320 : decode cL_refused 320 = .ok (.iconst 0, 1) := by decide +kernel
theorem dL_refused_321 : decode cL_refused 321 = .ok (.iconst 0, 1) := by decide +kernel
theorem dL_refused_322 : decode cL_refused 322 = .ok (.invokestatic 132, 3) := by decide +kernel
theorem dL_refused_325 : decode cL_refused 325 = .ok (.ldc 17, 2) := by decide +kernel
theorem dL_refused_327 : decode cL_refused 327 = .ok (.if_icmp .ne 119, 3) := by decide +kernel
theorem dL_refused_330 : decode cL_refused 330 = .ok (.aload_n 0, 1) := by decide +kernel
theorem dL_refused_331 : decode cL_refused 331 = .ok (.bipush 20, 2) := by decide +kernel
theorem dL_refused_333 : decode cL_refused 333 = .ok (.iconst (-1), 1) := by decide +kernel
theorem dL_refused_334 : decode cL_refused 334 = .ok (.iconst 0, 1) := by decide +kernel
theorem dL_refused_335 : decode cL_refused 335 = .ok (.iconst 0, 1) := by decide +kernel
theorem dL_refused_336 : decode cL_refused 336 = .ok (.invokestatic 132, 3) := by decide +kernel
theorem dL_refused_339 : decode cL_refused 339 = .ok (.ldc 17, 2) := by decide +kernel
theorem dL_refused_341 : decode cL_refused 341 = .ok (.if_icmp .ne 105, 3) := by decide +kernel
theorem dL_refused_344 : decode cL_refused 344 = .ok (.aload_n 0, 1) := by decide +kernel
theorem dL_refused_345 : decode cL_refused 345 = .ok (.bipush 21, 2) := by decide +kernel
theorem dL_refused_347 : decode cL_refused 347 = .ok (.iconst 0, 1) := by decide +kernel
theorem dL_refused_348 : decode cL_refused 348 = .ok (.iconst (-1), 1) := by decide +kernel
theorem dL_refused_349 : decode cL_refused 349 = .ok (.iconst 0, 1) := by decide +kernel
theorem dL_refused_350 : decode cL_refused 350 = .ok (.invokestatic 132, 3) := by decide +kernel
theorem dL_refused_353 : decode cL_refused 353 = .ok (.ldc 20, 2) := by decide +kernel
theorem dL_refused_355 : decode cL_refused 355 = .ok (.if_icmp .ne 91, 3) := by decide +kernel
theorem dL_refused_358 : decode cL_refused 358 = .ok (.aload_n 0, 1) := by decide +kernel
theorem dL_refused_359 : decode cL_refused 359 = .ok (.bipush 22, 2) := by decide +kernel
theorem dL_refused_361 : decode cL_refused 361 = .ok (.bipush 6, 2) := by decide +kernel
theorem dL_refused_363 : decode cL_refused 363 = .ok (.iconst 0, 1) := by decide +kernel
theorem dL_refused_364 : decode cL_refused 364 = .ok (.iconst 0, 1) := by decide +kernel
theorem dL_refused_365 : decode cL_refused 365 = .ok (.invokestatic 132, 3) := by decide +kernel
theorem dL_refused_368 : decode cL_refused 368 = .ok (.ldc 17, 2) := by decide +kernel
theorem dL_refused_370 : decode cL_refused 370 = .ok (.if_icmp .ne 76, 3) := by decide +kernel
theorem dL_refused_373 : decode cL_refused 373 = .ok (.aload_n 0, 1) := by decide +kernel
theorem dL_refused_374 : decode cL_refused 374 = .ok (.bipush 23, 2) := by decide +kernel
theorem dL_refused_376 : decode cL_refused 376 = .ok (.iconst (-1), 1) := by decide +kernel
theorem dL_refused_377 : decode cL_refused 377 = .ok (.iconst 0, 1) := by decide +kernel
theorem dL_refused_378 : decode cL_refused 378 = .ok (.iconst 0, 1) := by decide +kernel
theorem dL_refused_379 : decode cL_refused 379 = .ok (.invokestatic 132, 3) := by decide +kernel
theorem dL_refused_382 : decode cL_refused 382 = .ok (.ldc 17, 2) := by decide +kernel
theorem dL_refused_384 : decode cL_refused 384 = .ok (.if_icmp .ne 62, 3) := by decide +kernel
theorem dL_refused_387 : decode cL_refused 387 = .ok (.aload_n 0, 1) := by decide +kernel
theorem dL_refused_388 : decode cL_refused 388 = .ok (.bipush 24, 2) := by decide +kernel
theorem dL_refused_390 : decode cL_refused 390 = .ok (.iload_n 1, 1) := by decide +kernel
theorem dL_refused_391 : decode cL_refused 391 = .ok (.iconst 0, 1) := by decide +kernel
theorem dL_refused_392 : decode cL_refused 392 = .ok (.iconst 0, 1) := by decide +kernel
theorem dL_refused_393 : decode cL_refused 393 = .ok (.invokestatic 132, 3) := by decide +kernel
theorem dL_refused_396 : decode cL_refused 396 = .ok (.ldc 17, 2) := by decide +kernel
theorem dL_refused_398 : decode cL_refused 398 = .ok (.if_icmp .ne 48, 3) := by decide +kernel
theorem dL_refused_401 : decode cL_refused 401 = .ok (.aload_n 0, 1) := by decide +kernel
theorem dL_refused_402 : decode cL_refused 402 = .ok (.bipush 25, 2) := by decide +kernel
theorem dL_refused_404 : decode cL_refused 404 = .ok (.iconst 0, 1) := by decide +kernel
theorem dL_refused_405 : decode cL_refused 405 = .ok (.bipush 6, 2) := by decide +kernel
theorem dL_refused_407 : decode cL_refused 407 = .ok (.iconst 0, 1) := by decide +kernel
theorem dL_refused_408 : decode cL_refused 408 = .ok (.invokestatic 132, 3) := by decide +kernel
theorem dL_refused_411 : decode cL_refused 411 = .ok (.ldc 17, 2) := by decide +kernel
theorem dL_refused_413 : decode cL_refused 413 = .ok (.if_icmp .ne 33, 3) := by decide +kernel
theorem dL_refused_416 : decode cL_refused 416 = .ok (.aload_n 0, 1) := by decide +kernel
theorem dL_refused_417 : decode cL_refused 417 = .ok (.bipush 26, 2) := by decide +kernel
theorem dL_refused_419 : decode cL_refused 419 = .ok (.iconst 0, 1) := by decide +kernel
theorem dL_refused_420 : decode cL_refused 420 = .ok (.iconst (-1), 1) := by decide +kernel
theorem dL_refused_421 : decode cL_refused 421 = .ok (.iconst 0, 1) := by decide +kernel
theorem dL_refused_422 : decode cL_refused 422 = .ok (.invokestatic 132, 3) := by decide +kernel
theorem dL_refused_425 : decode cL_refused 425 = .ok (.ldc 17, 2) := by decide +kernel
theorem dL_refused_427 : decode cL_refused 427 = .ok (.if_icmp .ne 19, 3) := by decide +kernel
theorem dL_refused_430 : decode cL_refused 430 = .ok (.aload_n 0, 1) := by decide +kernel
theorem dL_refused_431 : decode cL_refused 431 = .ok (.iload_n 2, 1) := by decide +kernel
theorem dL_refused_432 : decode cL_refused 432 = .ok (.iload_n 3, 1) := by decide +kernel
theorem dL_refused_433 : decode cL_refused 433 = .ok (.invokestatic 149, 3) := by decide +kernel
theorem dL_refused_436 : decode cL_refused 436 = .ok (.lload 4, 2) := by decide +kernel
theorem dL_refused_438 : decode cL_refused 438 = .ok (.lcmp, 1) := by decide +kernel
theorem dL_refused_439 : decode cL_refused 439 = .ok (.ifCond .ne 7, 3) := by decide +kernel
theorem dL_refused_442 : decode cL_refused 442 = .ok (.iconst 1, 1) := by decide +kernel
theorem dL_refused_443 : decode cL_refused 443 = .ok (.goto 4, 3) := by decide +kernel
theorem dL_refused_446 : decode cL_refused 446 = .ok (.iconst 0, 1) := by decide +kernel
theorem dL_refused_447 : decode cL_refused 447 = .ok (.ireturn, 1) := by decide +kernel
theorem dL_law_0 : decode cL_law 0 = .ok (.new 25, 3) := by decide +kernel
theorem dL_law_3 : decode cL_law 3 = .ok (.dup, 1) := by decide +kernel
theorem dL_law_4 : decode cL_law 4 = .ok (.invokespecial 153, 3) := by decide +kernel
theorem dL_law_7 : decode cL_law 7 = .ok (.astore_n 1, 1) := by decide +kernel
theorem dL_law_8 : decode cL_law 8 = .ok (.new 25, 3) := by decide +kernel
theorem dL_law_11 : decode cL_law 11 = .ok (.dup, 1) := by decide +kernel
theorem dL_law_12 : decode cL_law 12 = .ok (.invokespecial 153, 3) := by decide +kernel
theorem dL_law_15 : decode cL_law 15 = .ok (.astore_n 2, 1) := by decide +kernel
theorem dL_law_16 : decode cL_law 16 = .ok (.iconst 0, 1) := by decide +kernel
theorem dL_law_17 : decode cL_law 17 = .ok (.istore_n 3, 1) := by decide +kernel
theorem dL_law_18 : decode cL_law 18 = .ok (.iconst 0, 1) := by decide +kernel
theorem dL_law_19 : decode cL_law 19 = .ok (.istore 4, 2) := by decide +kernel
theorem dL_law_21 : decode cL_law 21 = .ok (.iconst 0, 1) := by decide +kernel
theorem dL_law_22 : decode cL_law 22 = .ok (.istore 5, 2) := by decide +kernel
theorem dL_law_24 : decode cL_law 24 = .ok (.aload_n 1, 1) := by decide +kernel
theorem dL_law_25 : decode cL_law 25 = .ok (.iconst 0, 1) := by decide +kernel
theorem dL_law_26 : decode cL_law 26 = .ok (.iconst 0, 1) := by decide +kernel
theorem dL_law_27 : decode cL_law 27 = .ok (.iconst 0, 1) := by decide +kernel
theorem dL_law_28 : decode cL_law 28 = .ok (.invokestatic 154, 3) := by decide +kernel
theorem dL_law_31 : decode cL_law 31 = .ok (.ifCond .eq 23, 3) := by decide +kernel
theorem dL_law_34 : decode cL_law 34 = .ok (.aload_n 1, 1) := by decide +kernel
theorem dL_law_35 : decode cL_law 35 = .ok (.iconst 0, 1) := by decide +kernel
theorem dL_law_36 : decode cL_law 36 = .ok (.iconst 0, 1) := by decide +kernel
theorem dL_law_37 : decode cL_law 37 = .ok (.invokestatic 149, 3) := by decide +kernel
theorem dL_law_40 : decode cL_law 40 = .ok (.aload_n 2, 1) := by decide +kernel
theorem dL_law_41 : decode cL_law 41 = .ok (.iconst 0, 1) := by decide +kernel
theorem dL_law_42 : decode cL_law 42 = .ok (.iconst 0, 1) := by decide +kernel
theorem dL_law_43 : decode cL_law 43 = .ok (.invokestatic 149, 3) := by decide +kernel
theorem dL_law_46 : decode cL_law 46 = .ok (.lcmp, 1) := by decide +kernel
theorem dL_law_47 : decode cL_law 47 = .ok (.ifCond .ne 7, 3) := by decide +kernel
theorem dL_law_50 : decode cL_law 50 = .ok (.iconst 1, 1) := by decide +kernel
theorem dL_law_51 : decode cL_law 51 = .ok (.goto 4, 3) := by decide +kernel
theorem dL_law_54 : decode cL_law 54 = .ok (.iconst 0, 1) := by decide +kernel
theorem dL_law_55 : decode cL_law 55 = .ok (.istore 6, 2) := by decide +kernel
theorem dL_law_57 : decode cL_law 57 = .ok (.iconst 0, 1) := by decide +kernel
theorem dL_law_58 : decode cL_law 58 = .ok (.istore 7, 2) := by decide +kernel
theorem dL_law_60 : decode cL_law 60 = .ok (.iload 7, 2) := by decide +kernel
theorem dL_law_62 : decode cL_law 62 = .ok (.bipush 90, 2) := by decide +kernel
theorem dL_law_64 : decode cL_law 64 = .ok (.if_icmp .ge 510, 3) := by decide +kernel
theorem dL_law_67 : decode cL_law 67 = .ok (.iload 6, 2) := by decide +kernel
theorem dL_law_69 : decode cL_law 69 = .ok (.ifCond .eq 505, 3) := by decide +kernel
theorem dL_law_72 : decode cL_law 72 = .ok (.aload_n 0, 1) := by decide +kernel
theorem dL_law_73 : decode cL_law 73 = .ok (.iconst 2, 1) := by decide +kernel
theorem dL_law_74 : decode cL_law 74 = .ok (.iload 7, 2) := by decide +kernel
theorem dL_law_76 : decode cL_law 76 = .ok (.imul, 1) := by decide +kernel
theorem dL_law_77 : decode cL_law 77 = .ok (.invokestatic 158, 3) := by decide +kernel
theorem dL_law_80 : decode cL_law 80 = .ok (.istore 8, 2) := by decide +kernel
theorem dL_law_82 : decode cL_law 82 = .ok (.aload_n 0, 1) := by decide +kernel
theorem dL_law_83 : decode cL_law 83 = .ok (.iconst 2, 1) := by decide +kernel
theorem dL_law_84 : decode cL_law 84 = .ok (.iload 7, 2) := by decide +kernel
theorem dL_law_86 : decode cL_law 86 = .ok (.imul, 1) := by decide +kernel
theorem dL_law_87 : decode cL_law 87 = .ok (.iconst 1, 1) := by decide +kernel
theorem dL_law_88 : decode cL_law 88 = .ok (.iadd, 1) := by decide +kernel
theorem dL_law_89 : decode cL_law 89 = .ok (.invokestatic 158, 3) := by decide +kernel
theorem dL_law_92 : decode cL_law 92 = .ok (.istore 9, 2) := by decide +kernel
theorem dL_law_94 : decode cL_law 94 = .ok (.iload 8, 2) := by decide +kernel
theorem dL_law_96 : decode cL_law 96 = .ok (.bipush 20, 2) := by decide +kernel
theorem dL_law_98 : decode cL_law 98 = .ok (.invokestatic 136, 3) := by decide +kernel
theorem dL_law_101 : decode cL_law 101 = .ok (.istore 10, 2) := by decide +kernel
theorem dL_law_103 : decode cL_law 103 = .ok (.iload 10, 2) := by decide +kernel
theorem dL_law_105 : decode cL_law 105 = .ok (.iconst 2, 1) := by decide +kernel
theorem dL_law_106 : decode cL_law 106 = .ok (.if_icmp .ge 15, 3) := by decide +kernel
theorem dL_law_109 : decode cL_law 109 = .ok (.aload_n 1, 1) := by decide +kernel
theorem dL_law_110 : decode cL_law 110 = .ok (.aload_n 2, 1) := by decide +kernel
theorem dL_law_111 : decode cL_law 111 = .ok (.iload 9, 2) := by decide +kernel
theorem dL_law_113 : decode cL_law 113 = .ok (.invokestatic 162, 3) := by decide +kernel
theorem dL_law_116 : decode cL_law 116 = .ok (.istore 6, 2) := by decide +kernel
theorem dL_law_118 : decode cL_law 118 = .ok (.goto 391, 3) := by decide +kernel
theorem dL_law_121 : decode cL_law 121 = .ok (.iload 10, 2) := by decide +kernel
theorem dL_law_123 : decode cL_law 123 = .ok (.bipush 6, 2) := by decide +kernel
theorem dL_law_125 : decode cL_law 125 = .ok (.if_icmp .ge 9, 3) := by decide +kernel
theorem dL_law_128 : decode cL_law 128 = .ok (.iload_n 3, 1) := by decide +kernel
theorem dL_law_129 : decode cL_law 129 = .ok (.bipush 55, 2) := by decide +kernel
theorem dL_law_131 : decode cL_law 131 = .ok (.if_icmp .lt 9, 3) := by decide +kernel
theorem dL_law_134 : decode cL_law 134 = .ok (.iload 7, 2) := by decide +kernel
theorem dL_law_136 : decode cL_law 136 = .ok (.iconst 4, 1) := by decide +kernel
theorem dL_law_137 : decode cL_law 137 = .ok (.if_icmp .ge 61, 3) := by decide +kernel
theorem dL_law_140 : decode cL_law 140 = .ok (.aload_n 1, 1) := by decide +kernel
theorem dL_law_141 : decode cL_law 141 = .ok (.aload_n 2, 1) := by decide +kernel
theorem dL_law_142 : decode cL_law 142 = .ok (.iload_n 3, 1) := by decide +kernel
theorem dL_law_143 : decode cL_law 143 = .ok (.iload 8, 2) := by decide +kernel
theorem dL_law_145 : decode cL_law 145 = .ok (.iconst 3, 1) := by decide +kernel
theorem dL_law_146 : decode cL_law 146 = .ok (.ishr, 1) := by decide +kernel
theorem dL_law_147 : decode cL_law 147 = .ok (.iload 9, 2) := by decide +kernel
theorem dL_law_149 : decode cL_law 149 = .ok (.invokestatic 166, 3) := by decide +kernel
theorem dL_law_152 : decode cL_law 152 = .ok (.istore 6, 2) := by decide +kernel
theorem dL_law_154 : decode cL_law 154 = .ok (.iconst 0, 1) := by decide +kernel
theorem dL_law_155 : decode cL_law 155 = .ok (.istore 11, 2) := by decide +kernel
theorem dL_law_157 : decode cL_law 157 = .ok (.iconst 0, 1) := by decide +kernel
theorem dL_law_158 : decode cL_law 158 = .ok (.istore 12, 2) := by decide +kernel
theorem dL_law_160 : decode cL_law 160 = .ok (.iload 12, 2) := by decide +kernel
theorem dL_law_162 : decode cL_law 162 = .ok (.bipush 24, 2) := by decide +kernel
theorem dL_law_164 : decode cL_law 164 = .ok (.if_icmp .ge 28, 3) := by decide +kernel
theorem dL_law_167 : decode cL_law 167 = .ok (.iload 11, 2) := by decide +kernel
theorem dL_law_169 : decode cL_law 169 = .ok (.aload_n 1, 1) := by decide +kernel
theorem dL_law_170 : decode cL_law 170 = .ok (.iload 12, 2) := by decide +kernel
theorem dL_law_172 : decode cL_law 172 = .ok (.bipush 6, 2) := by decide +kernel
theorem dL_law_174 : decode cL_law 174 = .ok (.idiv, 1) := by decide +kernel
theorem dL_law_175 : decode cL_law 175 = .ok (.iload 12, 2) := by decide +kernel
theorem dL_law_177 : decode cL_law 177 = .ok (.bipush 6, 2) := by decide +kernel
theorem dL_law_179 : decode cL_law 179 = .ok (.irem, 1) := by decide +kernel
theorem dL_law_180 : decode cL_law 180 = .ok (.invokevirtual 54, 3) := by decide +kernel
theorem dL_law_183 : decode cL_law 183 = .ok (.iadd, 1) := by decide +kernel
theorem dL_law_184 : decode cL_law 184 = .ok (.istore 11, 2) := by decide +kernel
theorem dL_law_186 : decode cL_law 186 = .ok (.iinc 12 1, 3) := by decide +kernel
theorem dL_law_189 : decode cL_law 189 = .ok (.goto (-29), 3) := by decide +kernel
theorem dL_law_192 : decode cL_law 192 = .ok (.iload 11, 2) := by decide +kernel
theorem dL_law_194 : decode cL_law 194 = .ok (.istore_n 3, 1) := by decide +kernel
theorem dL_law_195 : decode cL_law 195 = .ok (.goto 314, 3) := by decide +kernel
theorem dL_law_198 : decode cL_law 198 = .ok (.iload 10, 2) := by decide +kernel
theorem dL_law_200 : decode cL_law 200 = .ok (.bipush 13, 2) := by decide +kernel
theorem dL_law_202 : decode cL_law 202 = .ok (.if_icmp .ge 47, 3) := by decide +kernel
theorem dL_law_205 : decode cL_law 205 = .ok (.iload 4, 2) := by decide +kernel
theorem dL_law_207 : decode cL_law 207 = .ok (.bipush 75, 2) := by decide +kernel
theorem dL_law_209 : decode cL_law 209 = .ok (.if_icmp .ge 40, 3) := by decide +kernel
theorem dL_law_212 : decode cL_law 212 = .ok (.aload_n 1, 1) := by decide +kernel
theorem dL_law_213 : decode cL_law 213 = .ok (.aload_n 2, 1) := by decide +kernel
theorem dL_law_214 : decode cL_law 214 = .ok (.iload 4, 2) := by decide +kernel
theorem dL_law_216 : decode cL_law 216 = .ok (.iload 9, 2) := by decide +kernel
theorem dL_law_218 : decode cL_law 218 = .ok (.invokestatic 169, 3) := by decide +kernel
theorem dL_law_221 : decode cL_law 221 = .ok (.istore 6, 2) := by decide +kernel
theorem dL_law_223 : decode cL_law 223 = .ok (.iload 4, 2) := by decide +kernel
theorem dL_law_225 : decode cL_law 225 = .ok (.aload_n 1, 1) := by decide +kernel
theorem dL_law_226 : decode cL_law 226 = .ok (.bipush 17, 2) := by decide +kernel
theorem dL_law_228 : decode cL_law 228 = .ok (.iload 4, 2) := by decide +kernel
theorem dL_law_230 : decode cL_law 230 = .ok (.iconst 0, 1) := by decide +kernel
theorem dL_law_231 : decode cL_law 231 = .ok (.iconst 0, 1) := by decide +kernel
theorem dL_law_232 : decode cL_law 232 = .ok (.invokestatic 132, 3) := by decide +kernel
theorem dL_law_235 : decode cL_law 235 = .ok (.ifCond .ne 7, 3) := by decide +kernel
theorem dL_law_238 : decode cL_law 238 = .ok (.iconst 1, 1) := by decide +kernel
theorem dL_law_239 : decode cL_law 239 = .ok (.goto 4, 3) := by decide +kernel
theorem dL_law_242 : decode cL_law 242 = .ok (.iconst 0, 1) := by decide +kernel
theorem dL_law_243 : decode cL_law 243 = .ok (.iadd, 1) := by decide +kernel
theorem dL_law_244 : decode cL_law 244 = .ok (.istore 4, 2) := by decide +kernel
theorem dL_law_246 : decode cL_law 246 = .ok (.goto 263, 3) := by decide +kernel
theorem dL_law_249 : decode cL_law 249 = .ok (.iload 10, 2) := by decide +kernel
theorem dL_law_251 : decode cL_law 251 = .ok (.bipush 16, 2) := by decide +kernel
theorem dL_law_253 : decode cL_law 253 = .ok (.if_icmp .ge 57, 3) := by decide +kernel
theorem dL_law_256 : decode cL_law 256 = .ok (.iload 5, 2) := by decide +kernel
theorem dL_law_258 : decode cL_law 258 = .ok (.bipush 28, 2) := by decide +kernel
theorem dL_law_260 : decode cL_law 260 = .ok (.if_icmp .eq 17, 3) := by decide +kernel
theorem dL_law_263 : decode cL_law 263 = .ok (.aload_n 1, 1) := by decide +kernel
theorem dL_law_264 : decode cL_law 264 = .ok (.aload_n 2, 1) := by decide +kernel
theorem dL_law_265 : decode cL_law 265 = .ok (.iload 4, 2) := by decide +kernel
theorem dL_law_267 : decode cL_law 267 = .ok (.iload 5, 2) := by decide +kernel
theorem dL_law_269 : decode cL_law 269 = .ok (.iload 9, 2) := by decide +kernel
theorem dL_law_271 : decode cL_law 271 = .ok (.invokestatic 173, 3) := by decide +kernel
theorem dL_law_274 : decode cL_law 274 = .ok (.ifCond .eq 7, 3) := by decide +kernel
theorem dL_law_277 : decode cL_law 277 = .ok (.iconst 1, 1) := by decide +kernel
theorem dL_law_278 : decode cL_law 278 = .ok (.goto 4, 3) := by decide +kernel
theorem dL_law_281 : decode cL_law 281 = .ok (.iconst 0, 1) := by decide +kernel
theorem dL_law_282 : decode cL_law 282 = .ok (.istore 6, 2) := by decide +kernel
theorem dL_law_284 : decode cL_law 284 = .ok (.iload 5, 2) := by decide +kernel
theorem dL_law_286 : decode cL_law 286 = .ok (.aload_n 1, 1) := by decide +kernel
theorem dL_law_287 : decode cL_law 287 = .ok (.bipush 15, 2) := by decide +kernel
theorem dL_law_289 : decode cL_law 289 = .ok (.iload 5, 2) := by decide +kernel
theorem dL_law_291 : decode cL_law 291 = .ok (.iconst 0, 1) := by decide +kernel
theorem dL_law_292 : decode cL_law 292 = .ok (.iconst 0, 1) := by decide +kernel
theorem dL_law_293 : decode cL_law 293 = .ok (.invokestatic 132, 3) := by decide +kernel
theorem dL_law_296 : decode cL_law 296 = .ok (.ifCond .lt 7, 3) := by decide +kernel
theorem dL_law_299 : decode cL_law 299 = .ok (.iconst 1, 1) := by decide +kernel
theorem dL_law_300 : decode cL_law 300 = .ok (.goto 4, 3) := by decide +kernel
theorem dL_law_303 : decode cL_law 303 = .ok (.iconst 0, 1) := by decide +kernel
theorem dL_law_304 : decode cL_law 304 = .ok (.iadd, 1) := by decide +kernel
theorem dL_law_305 : decode cL_law 305 = .ok (.istore 5, 2) := by decide +kernel
theorem dL_law_307 : decode cL_law 307 = .ok (.goto 202, 3) := by decide +kernel
theorem dL_law_310 : decode cL_law 310 = .ok (.iload 10, 2) := by decide +kernel
theorem dL_law_312 : decode cL_law 312 = .ok (.bipush 17, 2) := by decide +kernel
theorem dL_law_314 : decode cL_law 314 = .ok (.if_icmp .ge 73, 3) := by decide +kernel
theorem dL_law_317 : decode cL_law 317 = .ok (.iload 9, 2) := by decide +kernel
theorem dL_law_319 : decode cL_law 319 = .ok (.iconst 4, 1) := by decide +kernel
theorem dL_law_320 : decode cL_law 320 = .ok (.invokestatic 136, 3) := by decide +kernel
theorem dL_law_323 : decode cL_law 323 = .ok (.istore 11, 2) := by decide +kernel
theorem dL_law_325 : decode cL_law 325 = .ok (.iload 9, 2) := by decide +kernel
theorem dL_law_327 : decode cL_law 327 = .ok (.iconst 3, 1) := by decide +kernel
theorem dL_law_328 : decode cL_law 328 = .ok (.ishr, 1) := by decide +kernel
theorem dL_law_329 : decode cL_law 329 = .ok (.iconst 2, 1) := by decide +kernel
theorem dL_law_330 : decode cL_law 330 = .ok (.invokestatic 136, 3) := by decide +kernel
theorem dL_law_333 : decode cL_law 333 = .ok (.istore 12, 2) := by decide +kernel
theorem dL_law_335 : decode cL_law 335 = .ok (.aload_n 1, 1) := by decide +kernel
theorem dL_law_336 : decode cL_law 336 = .ok (.aload_n 2, 1) := by decide +kernel
theorem dL_law_337 : decode cL_law 337 = .ok (.bipush 12, 2) := by decide +kernel
theorem dL_law_339 : decode cL_law 339 = .ok (.iload 11, 2) := by decide +kernel
theorem dL_law_341 : decode cL_law 341 = .ok (.iload 12, 2) := by decide +kernel
theorem dL_law_343 : decode cL_law 343 = .ok (.iconst 0, 1) := by decide +kernel
theorem dL_law_344 : decode cL_law 344 = .ok (.invokestatic 139, 3) := by decide +kernel
theorem dL_law_347 : decode cL_law 347 = .ok (.istore 13, 2) := by decide +kernel
theorem dL_law_349 : decode cL_law 349 = .ok (.iload 13, 2) := by decide +kernel
theorem dL_law_351 : decode cL_law 351 = .ok (.ifCond .eq 9, 3) := by decide +kernel
theorem dL_law_354 : decode cL_law 354 = .ok (.iload 13, 2) := by decide +kernel
theorem dL_law_356 : decode cL_law 356 = .ok (.iconst 1, 1) := by decide +kernel
theorem dL_law_357 : decode cL_law 357 = .ok (.if_icmp .ne 24, 3) := by decide +kernel
theorem dL_law_360 : decode cL_law 360 = .ok (.aload_n 1, 1) := by decide +kernel
theorem dL_law_361 : decode cL_law 361 = .ok (.aload_n 2, 1) := by decide +kernel
theorem dL_law_362 : decode cL_law 362 = .ok (.bipush 12, 2) := by decide +kernel
theorem dL_law_364 : decode cL_law 364 = .ok (.iload 11, 2) := by decide +kernel
theorem dL_law_366 : decode cL_law 366 = .ok (.iload 12, 2) := by decide +kernel
theorem dL_law_368 : decode cL_law 368 = .ok (.iconst 0, 1) := by decide +kernel
theorem dL_law_369 : decode cL_law 369 = .ok (.invokestatic 139, 3) := by decide +kernel
theorem dL_law_372 : decode cL_law 372 = .ok (.iload 12, 2) := by decide +kernel
theorem dL_law_374 : decode cL_law 374 = .ok (.if_icmp .ne 7, 3) := by decide +kernel
theorem dL_law_377 : decode cL_law 377 = .ok (.iconst 1, 1) := by decide +kernel
theorem dL_law_378 : decode cL_law 378 = .ok (.goto 4, 3) := by decide +kernel
theorem dL_law_381 : decode cL_law 381 = .ok (.iconst 0, 1) := by decide +kernel
theorem dL_law_382 : decode cL_law 382 = .ok (.istore 6, 2) := by decide +kernel
theorem dL_law_384 : decode cL_law 384 = .ok (.goto 125, 3) := by decide +kernel
theorem dL_law_387 : decode cL_law 387 = .ok (.iload 10, 2) := by decide +kernel
theorem dL_law_389 : decode cL_law 389 = .ok (.bipush 18, 2) := by decide +kernel
theorem dL_law_391 : decode cL_law 391 = .ok (.if_icmp .ge 104, 3) := by decide +kernel
theorem dL_law_394 : decode cL_law 394 = .ok (.iload 9, 2) := by decide +kernel
theorem dL_law_396 : decode cL_law 396 = .ok (.iconst 2, 1) := by decide +kernel
theorem dL_law_397 : decode cL_law 397 = .ok (.invokestatic 136, 3) := by decide +kernel
theorem dL_law_400 : decode cL_law 400 = .ok (.istore 11, 2) := by decide +kernel
theorem dL_law_402 : decode cL_law 402 = .ok (.aload_n 1, 1) := by decide +kernel
theorem dL_law_403 : decode cL_law 403 = .ok (.aload_n 2, 1) := by decide +kernel
theorem dL_law_404 : decode cL_law 404 = .ok (.bipush 19, 2) := by decide +kernel
theorem dL_law_406 : decode cL_law 406 = .ok (.iload 11, 2) := by decide +kernel
theorem dL_law_408 : decode cL_law 408 = .ok (.iconst 0, 1) := by decide +kernel
theorem dL_law_409 : decode cL_law 409 = .ok (.iconst 0, 1) := by decide +kernel
theorem dL_law_410 : decode cL_law 410 = .ok (.invokestatic 139, 3) := by decide +kernel
theorem dL_law_413 : decode cL_law 413 = .ok (.istore 12, 2) := by decide +kernel
theorem dL_law_415 : decode cL_law 415 = .ok (.iload 12, 2) := by decide +kernel
theorem dL_law_417 : decode cL_law 417 = .ok (.ifCond .lt 7, 3) := by decide +kernel
theorem dL_law_420 : decode cL_law 420 = .ok (.iconst 1, 1) := by decide +kernel
theorem dL_law_421 : decode cL_law 421 = .ok (.goto 4, 3) := by decide +kernel
theorem dL_law_424 : decode cL_law 424 = .ok (.iconst 0, 1) := by decide +kernel
theorem dL_law_425 : decode cL_law 425 = .ok (.istore 6, 2) := by decide +kernel
theorem dL_law_427 : decode cL_law 427 = .ok (.iconst 0, 1) := by decide +kernel
theorem dL_law_428 : decode cL_law 428 = .ok (.istore 13, 2) := by decide +kernel
theorem dL_law_430 : decode cL_law 430 = .ok (.iload 13, 2) := by decide +kernel
theorem dL_law_432 : decode cL_law 432 = .ok (.bipush 6, 2) := by decide +kernel
theorem dL_law_434 : decode cL_law 434 = .ok (.if_icmp .ge 32, 3) := by decide +kernel
theorem dL_law_437 : decode cL_law 437 = .ok (.iload 6, 2) := by decide +kernel
theorem dL_law_439 : decode cL_law 439 = .ok (.ifCond .eq 27, 3) := by decide +kernel
theorem dL_law_442 : decode cL_law 442 = .ok (.aload_n 1, 1) := by decide +kernel
theorem dL_law_443 : decode cL_law 443 = .ok (.iload 13, 2) := by decide +kernel
theorem dL_law_445 : decode cL_law 445 = .ok (.iload 11, 2) := by decide +kernel
theorem dL_law_447 : decode cL_law 447 = .ok (.invokevirtual 88, 3) := by decide +kernel
theorem dL_law_450 : decode cL_law 450 = .ok (.ifCond .ne 7, 3) := by decide +kernel
theorem dL_law_453 : decode cL_law 453 = .ok (.iconst 1, 1) := by decide +kernel
theorem dL_law_454 : decode cL_law 454 = .ok (.goto 4, 3) := by decide +kernel
theorem dL_law_457 : decode cL_law 457 = .ok (.iconst 0, 1) := by decide +kernel
theorem dL_law_458 : decode cL_law 458 = .ok (.istore 6, 2) := by decide +kernel
theorem dL_law_460 : decode cL_law 460 = .ok (.iinc 13 1, 3) := by decide +kernel
theorem dL_law_463 : decode cL_law 463 = .ok (.goto (-33), 3) := by decide +kernel
theorem dL_law_466 : decode cL_law 466 = .ok (.iload 6, 2) := by decide +kernel
theorem dL_law_468 : decode cL_law 468 = .ok (.ifCond .eq 21, 3) := by decide +kernel
theorem dL_law_471 : decode cL_law 471 = .ok (.aload_n 1, 1) := by decide +kernel
theorem dL_law_472 : decode cL_law 472 = .ok (.aload_n 2, 1) := by decide +kernel
theorem dL_law_473 : decode cL_law 473 = .ok (.bipush 19, 2) := by decide +kernel
theorem dL_law_475 : decode cL_law 475 = .ok (.iload 11, 2) := by decide +kernel
theorem dL_law_477 : decode cL_law 477 = .ok (.iconst 0, 1) := by decide +kernel
theorem dL_law_478 : decode cL_law 478 = .ok (.iconst 0, 1) := by decide +kernel
theorem dL_law_479 : decode cL_law 479 = .ok (.invokestatic 139, 3) := by decide +kernel
theorem dL_law_482 : decode cL_law 482 = .ok (.ifCond .ne 7, 3) := by decide +kernel
theorem dL_law_485 : decode cL_law 485 = .ok (.iconst 1, 1) := by decide +kernel
theorem dL_law_486 : decode cL_law 486 = .ok (.goto 4, 3) := by decide +kernel
theorem dL_law_489 : decode cL_law 489 = .ok (.iconst 0, 1) := by decide +kernel
theorem dL_law_490 : decode cL_law 490 = .ok (.istore 6, 2) := by decide +kernel
theorem dL_law_492 : decode cL_law 492 = .ok (.goto 17, 3) := by decide +kernel
theorem dL_law_495 : decode cL_law 495 = .ok (.aload_n 1, 1) := by decide +kernel
theorem dL_law_496 : decode cL_law 496 = .ok (.aload_n 2, 1) := by decide +kernel
theorem dL_law_497 : decode cL_law 497 = .ok (.iload_n 3, 1) := by decide +kernel
theorem dL_law_498 : decode cL_law 498 = .ok (.iload 4, 2) := by decide +kernel
theorem dL_law_500 : decode cL_law 500 = .ok (.iload 5, 2) := by decide +kernel
theorem dL_law_502 : decode cL_law 502 = .ok (.iload 9, 2) := by decide +kernel
theorem dL_law_504 : decode cL_law 504 = .ok (.invokestatic 176, 3) := by decide +kernel
theorem dL_law_507 : decode cL_law 507 = .ok (.istore 6, 2) := by decide +kernel
theorem dL_law_509 : decode cL_law 509 = .ok (.iload 6, 2) := by decide +kernel
theorem dL_law_511 : decode cL_law 511 = .ok (.ifCond .eq 54, 3) := by decide +kernel
theorem dL_law_514 : decode cL_law 514 = .ok (.iload 7, 2) := by decide +kernel
theorem dL_law_516 : decode cL_law 516 = .ok (.iconst 5, 1) := by decide +kernel
theorem dL_law_517 : decode cL_law 517 = .ok (.irem, 1) := by decide +kernel
theorem dL_law_518 : decode cL_law 518 = .ok (.ifCond .gt 23, 3) := by decide +kernel
theorem dL_law_521 : decode cL_law 521 = .ok (.aload_n 1, 1) := by decide +kernel
theorem dL_law_522 : decode cL_law 522 = .ok (.iload 4, 2) := by decide +kernel
theorem dL_law_524 : decode cL_law 524 = .ok (.iload 5, 2) := by decide +kernel
theorem dL_law_526 : decode cL_law 526 = .ok (.invokestatic 149, 3) := by decide +kernel
theorem dL_law_529 : decode cL_law 529 = .ok (.aload_n 2, 1) := by decide +kernel
theorem dL_law_530 : decode cL_law 530 = .ok (.iload 4, 2) := by decide +kernel
theorem dL_law_532 : decode cL_law 532 = .ok (.iload 5, 2) := by decide +kernel
theorem dL_law_534 : decode cL_law 534 = .ok (.invokestatic 149, 3) := by decide +kernel
theorem dL_law_537 : decode cL_law 537 = .ok (.lcmp, 1) := by decide +kernel
theorem dL_law_538 : decode cL_law 538 = .ok (.ifCond .ne 27, 3) := by decide +kernel
theorem dL_law_541 : decode cL_law 541 = .ok (.iload 7, 2) := by decide +kernel
theorem dL_law_543 : decode cL_law 543 = .ok (.bipush 20, 2) := by decide +kernel
theorem dL_law_545 : decode cL_law 545 = .ok (.irem, 1) := by decide +kernel
theorem dL_law_546 : decode cL_law 546 = .ok (.ifCond .gt 15, 3) := by decide +kernel
theorem dL_law_549 : decode cL_law 549 = .ok (.aload_n 1, 1) := by decide +kernel
theorem dL_law_550 : decode cL_law 550 = .ok (.iload_n 3, 1) := by decide +kernel
theorem dL_law_551 : decode cL_law 551 = .ok (.iload 4, 2) := by decide +kernel
theorem dL_law_553 : decode cL_law 553 = .ok (.iload 5, 2) := by decide +kernel
theorem dL_law_555 : decode cL_law 555 = .ok (.invokestatic 154, 3) := by decide +kernel
theorem dL_law_558 : decode cL_law 558 = .ok (.ifCond .eq 7, 3) := by decide +kernel
theorem dL_law_561 : decode cL_law 561 = .ok (.iconst 1, 1) := by decide +kernel
theorem dL_law_562 : decode cL_law 562 = .ok (.goto 4, 3) := by decide +kernel
theorem dL_law_565 : decode cL_law 565 = .ok (.iconst 0, 1) := by decide +kernel
theorem dL_law_566 : decode cL_law 566 = .ok (.istore 6, 2) := by decide +kernel
theorem dL_law_568 : decode cL_law 568 = .ok (.iinc 7 1, 3) := by decide +kernel
theorem dL_law_571 : decode cL_law 571 = .ok (.goto (-511), 3) := by decide +kernel
theorem dL_law_574 : decode cL_law 574 = .ok (.iload 6, 2) := by decide +kernel
theorem dL_law_576 : decode cL_law 576 = .ok (.ifCond .eq 27, 3) := by decide +kernel
theorem dL_law_579 : decode cL_law 579 = .ok (.aload_n 1, 1) := by decide +kernel
theorem dL_law_580 : decode cL_law 580 = .ok (.iload 4, 2) := by decide +kernel
theorem dL_law_582 : decode cL_law 582 = .ok (.iload 5, 2) := by decide +kernel
theorem dL_law_584 : decode cL_law 584 = .ok (.invokestatic 149, 3) := by decide +kernel
theorem dL_law_587 : decode cL_law 587 = .ok (.aload_n 2, 1) := by decide +kernel
theorem dL_law_588 : decode cL_law 588 = .ok (.iload 4, 2) := by decide +kernel
theorem dL_law_590 : decode cL_law 590 = .ok (.iload 5, 2) := by decide +kernel
theorem dL_law_592 : decode cL_law 592 = .ok (.invokestatic 149, 3) := by decide +kernel
theorem dL_law_595 : decode cL_law 595 = .ok (.lcmp, 1) := by decide +kernel
theorem dL_law_596 : decode cL_law 596 = .ok (.ifCond .ne 7, 3) := by decide +kernel
theorem dL_law_599 : decode cL_law 599 = .ok (.iconst 1, 1) := by decide +kernel
theorem dL_law_600 : decode cL_law 600 = .ok (.goto 4, 3) := by decide +kernel
theorem dL_law_603 : decode cL_law 603 = .ok (.iconst 0, 1) := by decide +kernel
theorem dL_law_604 : decode cL_law 604 = .ok (.ireturn, 1) := by decide +kernel
