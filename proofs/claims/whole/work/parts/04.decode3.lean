theorem dX11_shares_44 : decode cX11_shares 44 = .ok (.invokevirtual 310, 3) := by decide +kernel
theorem dX11_shares_47 : decode cX11_shares 47 = .ok (.ifCond .eq 38, 3) := by decide +kernel
theorem dX11_shares_50 : decode cX11_shares 50 = .ok (.aload_n 0, 1) := by decide +kernel
theorem dX11_shares_51 : decode cX11_shares 51 = .ok (.getfield 95, 3) := by decide +kernel
theorem dX11_shares_54 : decode cX11_shares 54 = .ok (.iload 5, 2) := by decide +kernel
theorem dX11_shares_56 : decode cX11_shares 56 = .ok (.aload_n 0, 1) := by decide +kernel
theorem dX11_shares_57 : decode cX11_shares 57 = .ok (.getfield 116, 3) := by decide +kernel
theorem dX11_shares_60 : decode cX11_shares 60 = .ok (.iload_n 1, 1) := by decide +kernel
theorem dX11_shares_61 : decode cX11_shares 61 = .ok (.iaload, 1) := by decide +kernel
theorem dX11_shares_62 : decode cX11_shares 62 = .ok (.aload_n 0, 1) := by decide +kernel
theorem dX11_shares_63 : decode cX11_shares 63 = .ok (.getfield 77, 3) := by decide +kernel
theorem dX11_shares_66 : decode cX11_shares 66 = .ok (.iload 5, 2) := by decide +kernel
theorem dX11_shares_68 : decode cX11_shares 68 = .ok (.iaload, 1) := by decide +kernel
theorem dX11_shares_69 : decode cX11_shares 69 = .ok (.imul, 1) := by decide +kernel
theorem dX11_shares_70 : decode cX11_shares 70 = .ok (.iload_n 3, 1) := by decide +kernel
theorem dX11_shares_71 : decode cX11_shares 71 = .ok (.idiv, 1) := by decide +kernel
theorem dX11_shares_72 : decode cX11_shares 72 = .ok (.iastore, 1) := by decide +kernel
theorem dX11_shares_73 : decode cX11_shares 73 = .ok (.iload 4, 2) := by decide +kernel
theorem dX11_shares_75 : decode cX11_shares 75 = .ok (.aload_n 0, 1) := by decide +kernel
theorem dX11_shares_76 : decode cX11_shares 76 = .ok (.getfield 95, 3) := by decide +kernel
theorem dX11_shares_79 : decode cX11_shares 79 = .ok (.iload 5, 2) := by decide +kernel
theorem dX11_shares_81 : decode cX11_shares 81 = .ok (.iaload, 1) := by decide +kernel
theorem dX11_shares_82 : decode cX11_shares 82 = .ok (.isub, 1) := by decide +kernel
theorem dX11_shares_83 : decode cX11_shares 83 = .ok (.istore 4, 2) := by decide +kernel
theorem dX11_shares_85 : decode cX11_shares 85 = .ok (.iinc 5 1, 3) := by decide +kernel
theorem dX11_shares_88 : decode cX11_shares 88 = .ok (.goto (-68), 3) := by decide +kernel
theorem dX11_shares_91 : decode cX11_shares 91 = .ok (.lconst 0, 1) := by decide +kernel
theorem dX11_shares_92 : decode cX11_shares 92 = .ok (.lstore 5, 2) := by decide +kernel
theorem dX11_shares_94 : decode cX11_shares 94 = .ok (.lconst 0, 1) := by decide +kernel
theorem dX11_shares_95 : decode cX11_shares 95 = .ok (.lstore 7, 2) := by decide +kernel
theorem dX11_shares_97 : decode cX11_shares 97 = .ok (.iload 4, 2) := by decide +kernel
theorem dX11_shares_99 : decode cX11_shares 99 = .ok (.ifCond .le 228, 3) := by decide +kernel
theorem dX11_shares_102 : decode cX11_shares 102 = .ok (.iconst (-1), 1) := by decide +kernel
theorem dX11_shares_103 : decode cX11_shares 103 = .ok (.istore 9, 2) := by decide +kernel
theorem dX11_shares_105 : decode cX11_shares 105 = .ok (.iconst 0, 1) := by decide +kernel
theorem dX11_shares_106 : decode cX11_shares 106 = .ok (.istore 10, 2) := by decide +kernel
theorem dX11_shares_108 : decode cX11_shares 108 = .ok (.iload 10, 2) := by decide +kernel
theorem dX11_shares_110 : decode cX11_shares 110 = .ok (.aload_n 0, 1) := by decide +kernel
theorem dX11_shares_111 : decode cX11_shares 111 = .ok (.getfield 269, 3) := by decide +kernel
theorem dX11_shares_114 : decode cX11_shares 114 = .ok (.if_icmp .ge 109, 3) := by decide +kernel
theorem dX11_shares_117 : decode cX11_shares 117 = .ok (.iload 10, 2) := by decide +kernel
theorem dX11_shares_119 : decode cX11_shares 119 = .ok (.bipush 40, 2) := by decide +kernel
theorem dX11_shares_121 : decode cX11_shares 121 = .ok (.if_icmp .ge 8, 3) := by decide +kernel
theorem dX11_shares_124 : decode cX11_shares 124 = .ok (.lload 5, 2) := by decide +kernel
theorem dX11_shares_126 : decode cX11_shares 126 = .ok (.goto 5, 3) := by decide +kernel
theorem dX11_shares_129 : decode cX11_shares 129 = .ok (.lload 7, 2) := by decide +kernel
theorem dX11_shares_131 : decode cX11_shares 131 = .ok (.iload 10, 2) := by decide +kernel
theorem dX11_shares_133 : decode cX11_shares 133 = .ok (.bipush 40, 2) := by decide +kernel
theorem dX11_shares_135 : decode cX11_shares 135 = .ok (.irem, 1) := by decide +kernel
theorem dX11_shares_136 : decode cX11_shares 136 = .ok (.lshr, 1) := by decide +kernel
theorem dX11_shares_137 : decode cX11_shares 137 = .ok (.lconst 1, 1) := by decide +kernel
theorem dX11_shares_138 : decode cX11_shares 138 = .ok (.land, 1) := by decide +kernel
theorem dX11_shares_139 : decode cX11_shares 139 = .ok (.lconst 1, 1) := by decide +kernel
theorem dX11_shares_140 : decode cX11_shares 140 = .ok (.lcmp, 1) := by decide +kernel
theorem dX11_shares_141 : decode cX11_shares 141 = .ok (.ifCond .ne 7, 3) := by decide +kernel
theorem dX11_shares_144 : decode cX11_shares 144 = .ok (.iconst 1, 1) := by decide +kernel
theorem dX11_shares_145 : decode cX11_shares 145 = .ok (.goto 4, 3) := by decide +kernel
theorem dX11_shares_148 : decode cX11_shares 148 = .ok (.iconst 0, 1) := by decide +kernel
theorem dX11_shares_149 : decode cX11_shares 149 = .ok (.istore 11, 2) := by decide +kernel
theorem dX11_shares_151 : decode cX11_shares 151 = .ok (.aload_n 0, 1) := by decide +kernel
theorem dX11_shares_152 : decode cX11_shares 152 = .ok (.getfield 74, 3) := by decide +kernel
theorem dX11_shares_155 : decode cX11_shares 155 = .ok (.iload 10, 2) := by decide +kernel
theorem dX11_shares_157 : decode cX11_shares 157 = .ok (.baload, 1) := by decide +kernel
theorem dX11_shares_158 : decode cX11_shares 158 = .ok (.iload_n 2, 1) := by decide +kernel
theorem dX11_shares_159 : decode cX11_shares 159 = .ok (.if_icmp .ne 22, 3) := by decide +kernel
theorem dX11_shares_162 : decode cX11_shares 162 = .ok (.aload_n 0, 1) := by decide +kernel
theorem dX11_shares_163 : decode cX11_shares 163 = .ok (.iload 10, 2) := by decide +kernel
theorem dX11_shares_165 : decode cX11_shares 165 = .ok (.iload_n 1, 1) := by decide +kernel
theorem dX11_shares_166 : decode cX11_shares 166 = .ok (.invokevirtual 310, 3) := by decide +kernel
theorem dX11_shares_169 : decode cX11_shares 169 = .ok (.ifCond .eq 12, 3) := by decide +kernel
theorem dX11_shares_172 : decode cX11_shares 172 = .ok (.iload 11, 2) := by decide +kernel
theorem dX11_shares_174 : decode cX11_shares 174 = .ok (.ifCond .ne 7, 3) := by decide +kernel
theorem dX11_shares_177 : decode cX11_shares 177 = .ok (.iconst 1, 1) := by decide +kernel
theorem dX11_shares_178 : decode cX11_shares 178 = .ok (.goto 4, 3) := by decide +kernel
theorem dX11_shares_181 : decode cX11_shares 181 = .ok (.iconst 0, 1) := by decide +kernel
theorem dX11_shares_182 : decode cX11_shares 182 = .ok (.istore 12, 2) := by decide +kernel
theorem dX11_shares_184 : decode cX11_shares 184 = .ok (.iload 12, 2) := by decide +kernel
theorem dX11_shares_186 : decode cX11_shares 186 = .ok (.ifCond .eq 27, 3) := by decide +kernel
theorem dX11_shares_189 : decode cX11_shares 189 = .ok (.iload 9, 2) := by decide +kernel
theorem dX11_shares_191 : decode cX11_shares 191 = .ok (.iconst (-1), 1) := by decide +kernel
theorem dX11_shares_192 : decode cX11_shares 192 = .ok (.if_icmp .eq 16, 3) := by decide +kernel
theorem dX11_shares_195 : decode cX11_shares 195 = .ok (.aload_n 0, 1) := by decide +kernel
theorem dX11_shares_196 : decode cX11_shares 196 = .ok (.iload 10, 2) := by decide +kernel
theorem dX11_shares_198 : decode cX11_shares 198 = .ok (.iload 9, 2) := by decide +kernel
theorem dX11_shares_200 : decode cX11_shares 200 = .ok (.iload_n 1, 1) := by decide +kernel
theorem dX11_shares_201 : decode cX11_shares 201 = .ok (.iload_n 3, 1) := by decide +kernel
theorem dX11_shares_202 : decode cX11_shares 202 = .ok (.invokevirtual 321, 3) := by decide +kernel
theorem dX11_shares_205 : decode cX11_shares 205 = .ok (.ifCond .eq 8, 3) := by decide +kernel
theorem dX11_shares_208 : decode cX11_shares 208 = .ok (.iload 10, 2) := by decide +kernel
theorem dX11_shares_210 : decode cX11_shares 210 = .ok (.goto 5, 3) := by decide +kernel
theorem dX11_shares_213 : decode cX11_shares 213 = .ok (.iload 9, 2) := by decide +kernel
theorem dX11_shares_215 : decode cX11_shares 215 = .ok (.istore 9, 2) := by decide +kernel
theorem dX11_shares_217 : decode cX11_shares 217 = .ok (.iinc 10 1, 3) := by decide +kernel
theorem dX11_shares_220 : decode cX11_shares 220 = .ok (.goto (-112), 3) := by decide +kernel
theorem dX11_shares_223 : decode cX11_shares 223 = .ok (.lload 5, 2) := by decide +kernel
theorem dX11_shares_225 : decode cX11_shares 225 = .ok (.iload 9, 2) := by decide +kernel
theorem dX11_shares_227 : decode cX11_shares 227 = .ok (.bipush 40, 2) := by decide +kernel
theorem dX11_shares_229 : decode cX11_shares 229 = .ok (.if_icmp .ge 10, 3) := by decide +kernel
theorem dX11_shares_232 : decode cX11_shares 232 = .ok (.lconst 1, 1) := by decide +kernel
theorem dX11_shares_233 : decode cX11_shares 233 = .ok (.iload 9, 2) := by decide +kernel
theorem dX11_shares_235 : decode cX11_shares 235 = .ok (.lshl, 1) := by decide +kernel
theorem dX11_shares_236 : decode cX11_shares 236 = .ok (.goto 4, 3) := by decide +kernel
theorem dX11_shares_239 : decode cX11_shares 239 = .ok (.lconst 0, 1) := by decide +kernel
theorem dX11_shares_240 : decode cX11_shares 240 = .ok (.lor, 1) := by decide +kernel
theorem dX11_shares_241 : decode cX11_shares 241 = .ok (.lstore 5, 2) := by decide +kernel
theorem dX11_shares_243 : decode cX11_shares 243 = .ok (.lload 7, 2) := by decide +kernel
theorem dX11_shares_245 : decode cX11_shares 245 = .ok (.iload 9, 2) := by decide +kernel
theorem dX11_shares_247 : decode cX11_shares 247 = .ok (.bipush 40, 2) := by decide +kernel
theorem dX11_shares_249 : decode cX11_shares 249 = .ok (.if_icmp .ge 7, 3) := by decide +kernel
theorem dX11_shares_252 : decode cX11_shares 252 = .ok (.lconst 0, 1) := by decide +kernel
theorem dX11_shares_253 : decode cX11_shares 253 = .ok (.goto 10, 3) := by decide +kernel
theorem dX11_shares_256 : decode cX11_shares 256 = .ok (.lconst 1, 1) := by decide +kernel
theorem dX11_shares_257 : decode cX11_shares 257 = .ok (.iload 9, 2) := by decide +kernel
theorem dX11_shares_259 : decode cX11_shares 259 = .ok (.bipush 40, 2) := by decide +kernel
theorem dX11_shares_261 : decode cX11_shares 261 = .ok (.isub, 1) := by decide +kernel
theorem dX11_shares_262 : decode cX11_shares 262 = .ok (.lshl, 1) := by decide +kernel
theorem dX11_shares_263 : decode cX11_shares 263 = .ok (.lor, 1) := by decide +kernel
theorem dX11_shares_264 : decode cX11_shares 264 = .ok (.lstore 7, 2) := by decide +kernel
theorem dX11_shares_266 : decode cX11_shares 266 = .ok (.aload_n 0, 1) := by decide +kernel
theorem dX11_shares_267 : decode cX11_shares 267 = .ok (.getfield 110, 3) := by decide +kernel
theorem dX11_shares_270 : decode cX11_shares 270 = .ok (.iload_n 1, 1) := by decide +kernel
theorem dX11_shares_271 : decode cX11_shares 271 = .ok (.baload, 1) := by decide +kernel
theorem dX11_shares_272 : decode cX11_shares 272 = .ok (.ifCond .eq 7, 3) := by decide +kernel
theorem dX11_shares_275 : decode cX11_shares 275 = .ok (.iconst 1, 1) := by decide +kernel
theorem dX11_shares_276 : decode cX11_shares 276 = .ok (.goto 27, 3) := by decide +kernel
theorem dX11_shares_279 : decode cX11_shares 279 = .ok (.aload_n 0, 1) := by decide +kernel
theorem dX11_shares_280 : decode cX11_shares 280 = .ok (.getfield 77, 3) := by decide +kernel
theorem dX11_shares_283 : decode cX11_shares 283 = .ok (.iload 9, 2) := by decide +kernel
theorem dX11_shares_285 : decode cX11_shares 285 = .ok (.iaload, 1) := by decide +kernel
theorem dX11_shares_286 : decode cX11_shares 286 = .ok (.iload 4, 2) := by decide +kernel
theorem dX11_shares_288 : decode cX11_shares 288 = .ok (.if_icmp .ge 13, 3) := by decide +kernel
theorem dX11_shares_291 : decode cX11_shares 291 = .ok (.aload_n 0, 1) := by decide +kernel
theorem dX11_shares_292 : decode cX11_shares 292 = .ok (.getfield 77, 3) := by decide +kernel
theorem dX11_shares_295 : decode cX11_shares 295 = .ok (.iload 9, 2) := by decide +kernel
theorem dX11_shares_297 : decode cX11_shares 297 = .ok (.iaload, 1) := by decide +kernel
theorem dX11_shares_298 : decode cX11_shares 298 = .ok (.goto 5, 3) := by decide +kernel
theorem dX11_shares_301 : decode cX11_shares 301 = .ok (.iload 4, 2) := by decide +kernel
theorem dX11_shares_303 : decode cX11_shares 303 = .ok (.istore 10, 2) := by decide +kernel
theorem dX11_shares_305 : decode cX11_shares 305 = .ok (.aload_n 0, 1) := by decide +kernel
theorem dX11_shares_306 : decode cX11_shares 306 = .ok (.getfield 95, 3) := by decide +kernel
theorem dX11_shares_309 : decode cX11_shares 309 = .ok (.iload 9, 2) := by decide +kernel
theorem dX11_shares_311 : decode cX11_shares 311 = .ok (.dup2, 1) := by decide +kernel
theorem dX11_shares_312 : decode cX11_shares 312 = .ok (.iaload, 1) := by decide +kernel
theorem dX11_shares_313 : decode cX11_shares 313 = .ok (.iload 10, 2) := by decide +kernel
theorem dX11_shares_315 : decode cX11_shares 315 = .ok (.iadd, 1) := by decide +kernel
theorem dX11_shares_316 : decode cX11_shares 316 = .ok (.iastore, 1) := by decide +kernel
theorem dX11_shares_317 : decode cX11_shares 317 = .ok (.iload 4, 2) := by decide +kernel
theorem dX11_shares_319 : decode cX11_shares 319 = .ok (.iload 10, 2) := by decide +kernel
theorem dX11_shares_321 : decode cX11_shares 321 = .ok (.isub, 1) := by decide +kernel
theorem dX11_shares_322 : decode cX11_shares 322 = .ok (.istore 4, 2) := by decide +kernel
theorem dX11_shares_324 : decode cX11_shares 324 = .ok (.goto (-227), 3) := by decide +kernel
theorem dX11_shares_327 : decode cX11_shares 327 = .ok (.return_, 1) := by decide +kernel
theorem dX11_isAhead_0 : decode cX11_isAhead 0 = .ok (.aload_n 0, 1) := by decide +kernel
theorem dX11_isAhead_1 : decode cX11_isAhead 1 = .ok (.getfield 110, 3) := by decide +kernel
theorem dX11_isAhead_4 : decode cX11_isAhead 4 = .ok (.iload_n 3, 1) := by decide +kernel
theorem dX11_isAhead_5 : decode cX11_isAhead 5 = .ok (.baload, 1) := by decide +kernel
theorem dX11_isAhead_6 : decode cX11_isAhead 6 = .ok (.ifCond .eq 44, 3) := by decide +kernel
theorem dX11_isAhead_9 : decode cX11_isAhead 9 = .ok (.aload_n 0, 1) := by decide +kernel
theorem dX11_isAhead_10 : decode cX11_isAhead 10 = .ok (.getfield 116, 3) := by decide +kernel
theorem dX11_isAhead_13 : decode cX11_isAhead 13 = .ok (.iload_n 3, 1) := by decide +kernel
theorem dX11_isAhead_14 : decode cX11_isAhead 14 = .ok (.iaload, 1) := by decide +kernel
theorem dX11_isAhead_15 : decode cX11_isAhead 15 = .ok (.aload_n 0, 1) := by decide +kernel
theorem dX11_isAhead_16 : decode cX11_isAhead 16 = .ok (.getfield 77, 3) := by decide +kernel
theorem dX11_isAhead_19 : decode cX11_isAhead 19 = .ok (.iload_n 1, 1) := by decide +kernel
theorem dX11_isAhead_20 : decode cX11_isAhead 20 = .ok (.iaload, 1) := by decide +kernel
theorem dX11_isAhead_21 : decode cX11_isAhead 21 = .ok (.imul, 1) := by decide +kernel
theorem dX11_isAhead_22 : decode cX11_isAhead 22 = .ok (.iload 4, 2) := by decide +kernel
theorem dX11_isAhead_24 : decode cX11_isAhead 24 = .ok (.irem, 1) := by decide +kernel
theorem dX11_isAhead_25 : decode cX11_isAhead 25 = .ok (.aload_n 0, 1) := by decide +kernel
theorem dX11_isAhead_26 : decode cX11_isAhead 26 = .ok (.getfield 116, 3) := by decide +kernel
theorem dX11_isAhead_29 : decode cX11_isAhead 29 = .ok (.iload_n 3, 1) := by decide +kernel
theorem dX11_isAhead_30 : decode cX11_isAhead 30 = .ok (.iaload, 1) := by decide +kernel
theorem dX11_isAhead_31 : decode cX11_isAhead 31 = .ok (.aload_n 0, 1) := by decide +kernel
theorem dX11_isAhead_32 : decode cX11_isAhead 32 = .ok (.getfield 77, 3) := by decide +kernel
theorem dX11_isAhead_35 : decode cX11_isAhead 35 = .ok (.iload_n 2, 1) := by decide +kernel
theorem dX11_isAhead_36 : decode cX11_isAhead 36 = .ok (.iaload, 1) := by decide +kernel
theorem dX11_isAhead_37 : decode cX11_isAhead 37 = .ok (.imul, 1) := by decide +kernel
theorem dX11_isAhead_38 : decode cX11_isAhead 38 = .ok (.iload 4, 2) := by decide +kernel
theorem dX11_isAhead_40 : decode cX11_isAhead 40 = .ok (.irem, 1) := by decide +kernel
theorem dX11_isAhead_41 : decode cX11_isAhead 41 = .ok (.if_icmp .le 7, 3) := by decide +kernel
theorem dX11_isAhead_44 : decode cX11_isAhead 44 = .ok (.iconst 1, 1) := by decide +kernel
theorem dX11_isAhead_45 : decode cX11_isAhead 45 = .ok (.goto 4, 3) := by decide +kernel
theorem dX11_isAhead_48 : decode cX11_isAhead 48 = .ok (.iconst 0, 1) := by decide +kernel
theorem dX11_isAhead_49 : decode cX11_isAhead 49 = .ok (.ireturn, 1) := by decide +kernel
theorem dX11_isAhead_50 : decode cX11_isAhead 50 = .ok (.aload_n 0, 1) := by decide +kernel
theorem dX11_isAhead_51 : decode cX11_isAhead 51 = .ok (.getfield 74, 3) := by decide +kernel
theorem dX11_isAhead_54 : decode cX11_isAhead 54 = .ok (.iload_n 1, 1) := by decide +kernel
theorem dX11_isAhead_55 : decode cX11_isAhead 55 = .ok (.baload, 1) := by decide +kernel
theorem dX11_isAhead_56 : decode cX11_isAhead 56 = .ok (.ifCond .eq 26, 3) := by decide +kernel
theorem dX11_isAhead_59 : decode cX11_isAhead 59 = .ok (.aload_n 0, 1) := by decide +kernel
theorem dX11_isAhead_60 : decode cX11_isAhead 60 = .ok (.getfield 80, 3) := by decide +kernel
theorem dX11_isAhead_63 : decode cX11_isAhead 63 = .ok (.iload_n 1, 1) := by decide +kernel
theorem dX11_isAhead_64 : decode cX11_isAhead 64 = .ok (.iaload, 1) := by decide +kernel
theorem dX11_isAhead_65 : decode cX11_isAhead 65 = .ok (.aload_n 0, 1) := by decide +kernel
theorem dX11_isAhead_66 : decode cX11_isAhead 66 = .ok (.getfield 80, 3) := by decide +kernel
theorem dX11_isAhead_69 : decode cX11_isAhead 69 = .ok (.iload_n 2, 1) := by decide +kernel
theorem dX11_isAhead_70 : decode cX11_isAhead 70 = .ok (.iaload, 1) := by decide +kernel
theorem dX11_isAhead_71 : decode cX11_isAhead 71 = .ok (.if_icmp .le 7, 3) := by decide +kernel
theorem dX11_isAhead_74 : decode cX11_isAhead 74 = .ok (.iconst 1, 1) := by decide +kernel
theorem dX11_isAhead_75 : decode cX11_isAhead 75 = .ok (.goto 27, 3) := by decide +kernel
theorem dX11_isAhead_78 : decode cX11_isAhead 78 = .ok (.iconst 0, 1) := by decide +kernel
theorem dX11_isAhead_79 : decode cX11_isAhead 79 = .ok (.goto 23, 3) := by decide +kernel
theorem dX11_isAhead_82 : decode cX11_isAhead 82 = .ok (.aload_n 0, 1) := by decide +kernel
theorem dX11_isAhead_83 : decode cX11_isAhead 83 = .ok (.getfield 80, 3) := by decide +kernel
theorem dX11_isAhead_86 : decode cX11_isAhead 86 = .ok (.iload_n 1, 1) := by decide +kernel
theorem dX11_isAhead_87 : decode cX11_isAhead 87 = .ok (.iaload, 1) := by decide +kernel
theorem dX11_isAhead_88 : decode cX11_isAhead 88 = .ok (.aload_n 0, 1) := by decide +kernel
theorem dX11_isAhead_89 : decode cX11_isAhead 89 = .ok (.getfield 80, 3) := by decide +kernel
theorem dX11_isAhead_92 : decode cX11_isAhead 92 = .ok (.iload_n 2, 1) := by decide +kernel
theorem dX11_isAhead_93 : decode cX11_isAhead 93 = .ok (.iaload, 1) := by decide +kernel
theorem dX11_isAhead_94 : decode cX11_isAhead 94 = .ok (.if_icmp .ge 7, 3) := by decide +kernel
theorem dX11_isAhead_97 : decode cX11_isAhead 97 = .ok (.iconst 1, 1) := by decide +kernel
theorem dX11_isAhead_98 : decode cX11_isAhead 98 = .ok (.goto 4, 3) := by decide +kernel
theorem dX11_isAhead_101 : decode cX11_isAhead 101 = .ok (.iconst 0, 1) := by decide +kernel
theorem dX11_isAhead_102 : decode cX11_isAhead 102 = .ok (.ireturn, 1) := by decide +kernel
theorem dX11_isFrozen_0 : decode cX11_isFrozen 0 = .ok (.aload_n 0, 1) := by decide +kernel
theorem dX11_isFrozen_1 : decode cX11_isFrozen 1 = .ok (.iload_n 1, 1) := by decide +kernel
theorem dX11_isFrozen_2 : decode cX11_isFrozen 2 = .ok (.ifCond .lt 12, 3) := by decide +kernel
theorem dX11_isFrozen_5 : decode cX11_isFrozen 5 = .ok (.iload_n 1, 1) := by decide +kernel
theorem dX11_isFrozen_6 : decode cX11_isFrozen 6 = .ok (.iconst 4, 1) := by decide +kernel
theorem dX11_isFrozen_7 : decode cX11_isFrozen 7 = .ok (.if_icmp .ge 7, 3) := by decide +kernel
theorem dX11_isFrozen_10 : decode cX11_isFrozen 10 = .ok (.iconst 1, 1) := by decide +kernel
theorem dX11_isFrozen_11 : decode cX11_isFrozen 11 = .ok (.goto 4, 3) := by decide +kernel
theorem dX11_isFrozen_14 : decode cX11_isFrozen 14 = .ok (.iconst 0, 1) := by decide +kernel
theorem dX11_isFrozen_15 : decode cX11_isFrozen 15 = .ok (.invokevirtual 185, 3) := by decide +kernel
theorem dX11_isFrozen_18 : decode cX11_isFrozen 18 = .ok (.ifCond .eq 17, 3) := by decide +kernel
theorem dX11_isFrozen_21 : decode cX11_isFrozen 21 = .ok (.aload_n 0, 1) := by decide +kernel
theorem dX11_isFrozen_22 : decode cX11_isFrozen 22 = .ok (.getfield 62, 3) := by decide +kernel
theorem dX11_isFrozen_25 : decode cX11_isFrozen 25 = .ok (.iload_n 1, 1) := by decide +kernel
theorem dX11_isFrozen_26 : decode cX11_isFrozen 26 = .ok (.iaload, 1) := by decide +kernel
theorem dX11_isFrozen_27 : decode cX11_isFrozen 27 = .ok (.iconst (-1), 1) := by decide +kernel
theorem dX11_isFrozen_28 : decode cX11_isFrozen 28 = .ok (.if_icmp .eq 7, 3) := by decide +kernel
theorem dX11_isFrozen_31 : decode cX11_isFrozen 31 = .ok (.iconst 1, 1) := by decide +kernel
theorem dX11_isFrozen_32 : decode cX11_isFrozen 32 = .ok (.goto 4, 3) := by decide +kernel
theorem dX11_isFrozen_35 : decode cX11_isFrozen 35 = .ok (.iconst 0, 1) := by decide +kernel
theorem dX11_isFrozen_36 : decode cX11_isFrozen 36 = .ok (.ireturn, 1) := by decide +kernel
theorem dX11_round_0 : decode cX11_round 0 = .ok (.aload_n 0, 1) := by decide +kernel
theorem dX11_round_1 : decode cX11_round 1 = .ok (.iload_n 1, 1) := by decide +kernel
theorem dX11_round_2 : decode cX11_round 2 = .ok (.ifCond .lt 15, 3) := by decide +kernel
theorem dX11_round_5 : decode cX11_round 5 = .ok (.iload_n 1, 1) := by decide +kernel
theorem dX11_round_6 : decode cX11_round 6 = .ok (.aload_n 0, 1) := by decide +kernel
theorem dX11_round_7 : decode cX11_round 7 = .ok (.getfield 266, 3) := by decide +kernel
theorem dX11_round_10 : decode cX11_round 10 = .ok (.if_icmp .ge 7, 3) := by decide +kernel
theorem dX11_round_13 : decode cX11_round 13 = .ok (.iconst 1, 1) := by decide +kernel
theorem dX11_round_14 : decode cX11_round 14 = .ok (.goto 4, 3) := by decide +kernel
theorem dX11_round_17 : decode cX11_round 17 = .ok (.iconst 0, 1) := by decide +kernel
theorem dX11_round_18 : decode cX11_round 18 = .ok (.invokevirtual 185, 3) := by decide +kernel
theorem dX11_round_21 : decode cX11_round 21 = .ok (.ifCond .ne 5, 3) := by decide +kernel
theorem dX11_round_24 : decode cX11_round 24 = .ok (.iconst 0, 1) := by decide +kernel
theorem dX11_round_25 : decode cX11_round 25 = .ok (.ireturn, 1) := by decide +kernel
theorem dX11_round_26 : decode cX11_round 26 = .ok (.iload_n 2, 1) := by decide +kernel
theorem dX11_round_27 : decode cX11_round 27 = .ok (.iconst 0, 1) := by decide +kernel
theorem dX11_round_28 : decode cX11_round 28 = .ok (.iconst 5, 1) := by decide +kernel
theorem dX11_round_29 : decode cX11_round 29 = .ok (.invokestatic 208, 3) := by decide +kernel
theorem dX11_round_32 : decode cX11_round 32 = .ok (.ifCond .ne 9, 3) := by decide +kernel
theorem dX11_round_35 : decode cX11_round 35 = .ok (.aload_n 0, 1) := by decide +kernel
theorem dX11_round_36 : decode cX11_round 36 = .ok (.iconst 2, 1) := by decide +kernel
theorem dX11_round_37 : decode cX11_round 37 = .ok (.invokevirtual 189, 3) := by decide +kernel
theorem dX11_round_40 : decode cX11_round 40 = .ok (.ireturn, 1) := by decide +kernel
theorem dX11_round_41 : decode cX11_round 41 = .ok (.iload_n 2, 1) := by decide +kernel
theorem dX11_round_42 : decode cX11_round 42 = .ok (.iconst 2, 1) := by decide +kernel
theorem dX11_round_43 : decode cX11_round 43 = .ok (.if_icmp .le 38, 3) := by decide +kernel
theorem dX11_round_46 : decode cX11_round 46 = .ok (.iload_n 2, 1) := by decide +kernel
theorem dX11_round_47 : decode cX11_round 47 = .ok (.iconst 3, 1) := by decide +kernel
theorem dX11_round_48 : decode cX11_round 48 = .ok (.if_icmp .ne 12, 3) := by decide +kernel
theorem dX11_round_51 : decode cX11_round 51 = .ok (.aload_n 0, 1) := by decide +kernel
theorem dX11_round_52 : decode cX11_round 52 = .ok (.getfield 119, 3) := by decide +kernel
theorem dX11_round_55 : decode cX11_round 55 = .ok (.iload_n 1, 1) := by decide +kernel
theorem dX11_round_56 : decode cX11_round 56 = .ok (.iaload, 1) := by decide +kernel
theorem dX11_round_57 : decode cX11_round 57 = .ok (.goto 23, 3) := by decide +kernel
theorem dX11_round_60 : decode cX11_round 60 = .ok (.iload_n 2, 1) := by decide +kernel
theorem dX11_round_61 : decode cX11_round 61 = .ok (.iconst 4, 1) := by decide +kernel
theorem dX11_round_62 : decode cX11_round 62 = .ok (.if_icmp .ne 12, 3) := by decide +kernel
theorem dX11_round_65 : decode cX11_round 65 = .ok (.aload_n 0, 1) := by decide +kernel
theorem dX11_round_66 : decode cX11_round 66 = .ok (.getfield 122, 3) := by decide +kernel
theorem dX11_round_69 : decode cX11_round 69 = .ok (.iload_n 1, 1) := by decide +kernel
theorem dX11_round_70 : decode cX11_round 70 = .ok (.iaload, 1) := by decide +kernel
theorem dX11_round_71 : decode cX11_round 71 = .ok (.goto 9, 3) := by decide +kernel
theorem dX11_round_74 : decode cX11_round 74 = .ok (.aload_n 0, 1) := by decide +kernel
theorem dX11_round_75 : decode cX11_round 75 = .ok (.iload_n 1, 1) := by decide +kernel
theorem dX11_round_76 : decode cX11_round 76 = .ok (.invokevirtual 285, 3) := by decide +kernel
theorem dX11_round_79 : decode cX11_round 79 = .ok (.l2i, 1) := by decide +kernel
theorem dX11_round_80 : decode cX11_round 80 = .ok (.ireturn, 1) := by decide +kernel
theorem dX11_round_81 : decode cX11_round 81 = .ok (.iload_n 2, 1) := by decide +kernel
theorem dX11_round_82 : decode cX11_round 82 = .ok (.ifCond .ne 12, 3) := by decide +kernel
theorem dX11_round_85 : decode cX11_round 85 = .ok (.aload_n 0, 1) := by decide +kernel
theorem dX11_round_86 : decode cX11_round 86 = .ok (.getfield 101, 3) := by decide +kernel
theorem dX11_round_89 : decode cX11_round 89 = .ok (.iload_n 1, 1) := by decide +kernel
theorem dX11_round_90 : decode cX11_round 90 = .ok (.iaload, 1) := by decide +kernel
theorem dX11_round_91 : decode cX11_round 91 = .ok (.goto 23, 3) := by decide +kernel
theorem dX11_round_94 : decode cX11_round 94 = .ok (.iload_n 2, 1) := by decide +kernel
theorem dX11_round_95 : decode cX11_round 95 = .ok (.iconst 1, 1) := by decide +kernel
theorem dX11_round_96 : decode cX11_round 96 = .ok (.if_icmp .ne 12, 3) := by decide +kernel
theorem dX11_round_99 : decode cX11_round 99 = .ok (.aload_n 0, 1) := by decide +kernel
theorem dX11_round_100 : decode cX11_round 100 = .ok (.getfield 113, 3) := by decide +kernel
theorem dX11_round_103 : decode cX11_round 103 = .ok (.iload_n 1, 1) := by decide +kernel
theorem dX11_round_104 : decode cX11_round 104 = .ok (.iaload, 1) := by decide +kernel
theorem dX11_round_105 : decode cX11_round 105 = .ok (.goto 9, 3) := by decide +kernel
theorem dX11_round_108 : decode cX11_round 108 = .ok (.aload_n 0, 1) := by decide +kernel
theorem dX11_round_109 : decode cX11_round 109 = .ok (.getfield 116, 3) := by decide +kernel
theorem dX11_round_112 : decode cX11_round 112 = .ok (.iload_n 1, 1) := by decide +kernel
theorem dX11_round_113 : decode cX11_round 113 = .ok (.iaload, 1) := by decide +kernel
theorem dX11_round_114 : decode cX11_round 114 = .ok (.ireturn, 1) := by decide +kernel
theorem dX11_priceAnew_0 : decode cX11_priceAnew 0 = .ok (.aload_n 0, 1) := by decide +kernel
theorem dX11_priceAnew_1 : decode cX11_priceAnew 1 = .ok (.iload_n 1, 1) := by decide +kernel
theorem dX11_priceAnew_2 : decode cX11_priceAnew 2 = .ok (.ifCond .lt 15, 3) := by decide +kernel
theorem dX11_priceAnew_5 : decode cX11_priceAnew 5 = .ok (.iload_n 1, 1) := by decide +kernel
theorem dX11_priceAnew_6 : decode cX11_priceAnew 6 = .ok (.aload_n 0, 1) := by decide +kernel
theorem dX11_priceAnew_7 : decode cX11_priceAnew 7 = .ok (.getfield 266, 3) := by decide +kernel
theorem dX11_priceAnew_10 : decode cX11_priceAnew 10 = .ok (.if_icmp .ge 7, 3) := by decide +kernel
theorem dX11_priceAnew_13 : decode cX11_priceAnew 13 = .ok (.iconst 1, 1) := by decide +kernel
theorem dX11_priceAnew_14 : decode cX11_priceAnew 14 = .ok (.goto 4, 3) := by decide +kernel
theorem dX11_priceAnew_17 : decode cX11_priceAnew 17 = .ok (.iconst 0, 1) := by decide +kernel
theorem dX11_priceAnew_18 : decode cX11_priceAnew 18 = .ok (.invokevirtual 185, 3) := by decide +kernel
theorem dX11_priceAnew_21 : decode cX11_priceAnew 21 = .ok (.ifCond .eq 12, 3) := by decide +kernel
theorem dX11_priceAnew_24 : decode cX11_priceAnew 24 = .ok (.aload_n 0, 1) := by decide +kernel
theorem dX11_priceAnew_25 : decode cX11_priceAnew 25 = .ok (.getfield 113, 3) := by decide +kernel
theorem dX11_priceAnew_28 : decode cX11_priceAnew 28 = .ok (.iload_n 1, 1) := by decide +kernel
theorem dX11_priceAnew_29 : decode cX11_priceAnew 29 = .ok (.iaload, 1) := by decide +kernel
theorem dX11_priceAnew_30 : decode cX11_priceAnew 30 = .ok (.goto 4, 3) := by decide +kernel
theorem dX11_priceAnew_33 : decode cX11_priceAnew 33 = .ok (.iconst 0, 1) := by decide +kernel
theorem dX11_priceAnew_34 : decode cX11_priceAnew 34 = .ok (.ireturn, 1) := by decide +kernel
theorem dX11_got_0 : decode cX11_got 0 = .ok (.aload_n 0, 1) := by decide +kernel
theorem dX11_got_1 : decode cX11_got 1 = .ok (.aload_n 0, 1) := by decide +kernel
theorem dX11_got_2 : decode cX11_got 2 = .ok (.iload_n 1, 1) := by decide +kernel
theorem dX11_got_3 : decode cX11_got 3 = .ok (.invokevirtual 304, 3) := by decide +kernel
theorem dX11_got_6 : decode cX11_got 6 = .ok (.invokevirtual 185, 3) := by decide +kernel
theorem dX11_got_9 : decode cX11_got 9 = .ok (.ifCond .eq 12, 3) := by decide +kernel
theorem dX11_got_12 : decode cX11_got 12 = .ok (.aload_n 0, 1) := by decide +kernel
theorem dX11_got_13 : decode cX11_got 13 = .ok (.getfield 95, 3) := by decide +kernel
theorem dX11_got_16 : decode cX11_got 16 = .ok (.iload_n 1, 1) := by decide +kernel
theorem dX11_got_17 : decode cX11_got 17 = .ok (.iaload, 1) := by decide +kernel
theorem dX11_got_18 : decode cX11_got 18 = .ok (.goto 4, 3) := by decide +kernel
theorem dX11_got_21 : decode cX11_got 21 = .ok (.iconst 0, 1) := by decide +kernel
theorem dX11_got_22 : decode cX11_got 22 = .ok (.ireturn, 1) := by decide +kernel
theorem dX11_due_0 : decode cX11_due 0 = .ok (.aload_n 0, 1) := by decide +kernel
theorem dX11_due_1 : decode cX11_due 1 = .ok (.iload_n 1, 1) := by decide +kernel
theorem dX11_due_2 : decode cX11_due 2 = .ok (.invokestatic 177, 3) := by decide +kernel
theorem dX11_due_5 : decode cX11_due 5 = .ok (.ifCond .eq 16, 3) := by decide +kernel
theorem dX11_due_8 : decode cX11_due 8 = .ok (.iload_n 2, 1) := by decide +kernel
theorem dX11_due_9 : decode cX11_due 9 = .ok (.ifCond .lt 12, 3) := by decide +kernel
theorem dX11_due_12 : decode cX11_due 12 = .ok (.iload_n 2, 1) := by decide +kernel
theorem dX11_due_13 : decode cX11_due 13 = .ok (.iconst 4, 1) := by decide +kernel
theorem dX11_due_14 : decode cX11_due 14 = .ok (.if_icmp .ge 7, 3) := by decide +kernel
theorem dX11_due_17 : decode cX11_due 17 = .ok (.iconst 1, 1) := by decide +kernel
theorem dX11_due_18 : decode cX11_due 18 = .ok (.goto 4, 3) := by decide +kernel
theorem dX11_due_21 : decode cX11_due 21 = .ok (.iconst 0, 1) := by decide +kernel
theorem dX11_due_22 : decode cX11_due 22 = .ok (.invokevirtual 185, 3) := by decide +kernel
theorem dX11_due_25 : decode cX11_due 25 = .ok (.ifCond .eq 13, 3) := by decide +kernel
theorem dX11_due_28 : decode cX11_due 28 = .ok (.aload_n 0, 1) := by decide +kernel
theorem dX11_due_29 : decode cX11_due 29 = .ok (.iload_n 1, 1) := by decide +kernel
theorem dX11_due_30 : decode cX11_due 30 = .ok (.iload_n 2, 1) := by decide +kernel
theorem dX11_due_31 : decode cX11_due 31 = .ok (.invokevirtual 297, 3) := by decide +kernel
theorem dX11_due_34 : decode cX11_due 34 = .ok (.l2i, 1) := by decide +kernel
theorem dX11_due_35 : decode cX11_due 35 = .ok (.goto 4, 3) := by decide +kernel
theorem dX11_due_38 : decode cX11_due 38 = .ok (.iconst 0, 1) := by decide +kernel
theorem dX11_due_39 : decode cX11_due 39 = .ok (.ireturn, 1) := by decide +kernel
theorem dX11_down_0 : decode cX11_down 0 = .ok (.lload_n 0, 1) := by decide +kernel
theorem dX11_down_1 : decode cX11_down 1 = .ok (.lconst 0, 1) := by decide +kernel
theorem dX11_down_2 : decode cX11_down 2 = .ok (.lcmp, 1) := by decide +kernel
theorem dX11_down_3 : decode cX11_down 3 = .ok (.ifCond .lt 11, 3) := by decide +kernel
theorem dX11_down_6 : decode cX11_down 6 = .ok (.lload_n 0, 1) := by decide +kernel
theorem dX11_down_7 : decode cX11_down 7 = .ok (.ldc2_w 325, 3) := by decide +kernel
theorem dX11_down_10 : decode cX11_down 10 = .ok (.ldiv, 1) := by decide +kernel
theorem dX11_down_11 : decode cX11_down 11 = .ok (.goto 13, 3) := by decide +kernel
theorem dX11_down_14 : decode cX11_down 14 = .ok (.ldc2_w 327, 3) := by decide +kernel
theorem dX11_down_17 : decode cX11_down 17 = .ok (.lload_n 0, 1) := by decide +kernel
theorem dX11_down_18 : decode cX11_down 18 = .ok (.lsub, 1) := by decide +kernel
theorem dX11_down_19 : decode cX11_down 19 = .ok (.ldc2_w 325, 3) := by decide +kernel
theorem dX11_down_22 : decode cX11_down 22 = .ok (.ldiv, 1) := by decide +kernel
theorem dX11_down_23 : decode cX11_down 23 = .ok (.lneg, 1) := by decide +kernel
theorem dX11_down_24 : decode cX11_down 24 = .ok (.lreturn, 1) := by decide +kernel
theorem dX11_settle_0 : decode cX11_settle 0 = .ok (.aload_n 0, 1) := by decide +kernel
theorem dX11_settle_1 : decode cX11_settle 1 = .ok (.iload_n 1, 1) := by decide +kernel
theorem dX11_settle_2 : decode cX11_settle 2 = .ok (.ifCond .lt 12, 3) := by decide +kernel
theorem dX11_settle_5 : decode cX11_settle 5 = .ok (.iload_n 1, 1) := by decide +kernel
theorem dX11_settle_6 : decode cX11_settle 6 = .ok (.iconst 4, 1) := by decide +kernel
theorem dX11_settle_7 : decode cX11_settle 7 = .ok (.if_icmp .ge 7, 3) := by decide +kernel
theorem dX11_settle_10 : decode cX11_settle 10 = .ok (.iconst 1, 1) := by decide +kernel
theorem dX11_settle_11 : decode cX11_settle 11 = .ok (.goto 4, 3) := by decide +kernel
theorem dX11_settle_14 : decode cX11_settle 14 = .ok (.iconst 0, 1) := by decide +kernel
theorem dX11_settle_15 : decode cX11_settle 15 = .ok (.invokevirtual 185, 3) := by decide +kernel
theorem dX11_settle_18 : decode cX11_settle 18 = .ok (.ifCond .ne 5, 3) := by decide +kernel
theorem dX11_settle_21 : decode cX11_settle 21 = .ok (.iconst 0, 1) := by decide +kernel
theorem dX11_settle_22 : decode cX11_settle 22 = .ok (.ireturn, 1) := by decide +kernel
theorem dX11_settle_23 : decode cX11_settle 23 = .ok (.lconst 0, 1) := by decide +kernel
theorem dX11_settle_24 : decode cX11_settle 24 = .ok (.lstore_n 2, 1) := by decide +kernel
theorem dX11_settle_25 : decode cX11_settle 25 = .ok (.iconst 0, 1) := by decide +kernel
theorem dX11_settle_26 : decode cX11_settle 26 = .ok (.istore 4, 2) := by decide +kernel
theorem dX11_settle_28 : decode cX11_settle 28 = .ok (.iload 4, 2) := by decide +kernel
theorem dX11_settle_30 : decode cX11_settle 30 = .ok (.bipush 6, 2) := by decide +kernel
theorem dX11_settle_32 : decode cX11_settle 32 = .ok (.if_icmp .ge 22, 3) := by decide +kernel
theorem dX11_settle_35 : decode cX11_settle 35 = .ok (.lload_n 2, 1) := by decide +kernel
theorem dX11_settle_36 : decode cX11_settle 36 = .ok (.aload_n 0, 1) := by decide +kernel
theorem dX11_settle_37 : decode cX11_settle 37 = .ok (.iload 4, 2) := by decide +kernel
theorem dX11_settle_39 : decode cX11_settle 39 = .ok (.iload_n 1, 1) := by decide +kernel
theorem dX11_settle_40 : decode cX11_settle 40 = .ok (.invokevirtual 297, 3) := by decide +kernel
theorem dX11_settle_43 : decode cX11_settle 43 = .ok (.invokestatic 329, 3) := by decide +kernel
theorem dX11_settle_46 : decode cX11_settle 46 = .ok (.lsub, 1) := by decide +kernel
theorem dX11_settle_47 : decode cX11_settle 47 = .ok (.lstore_n 2, 1) := by decide +kernel
theorem dX11_settle_48 : decode cX11_settle 48 = .ok (.iinc 4 1, 3) := by decide +kernel
theorem dX11_settle_51 : decode cX11_settle 51 = .ok (.goto (-23), 3) := by decide +kernel
theorem dX11_settle_54 : decode cX11_settle 54 = .ok (.iconst 0, 1) := by decide +kernel
theorem dX11_settle_55 : decode cX11_settle 55 = .ok (.istore 4, 2) := by decide +kernel
theorem dX11_settle_57 : decode cX11_settle 57 = .ok (.lload_n 2, 1) := by decide +kernel
theorem dX11_settle_58 : decode cX11_settle 58 = .ok (.lconst 0, 1) := by decide +kernel
theorem dX11_settle_59 : decode cX11_settle 59 = .ok (.lcmp, 1) := by decide +kernel
theorem dX11_settle_60 : decode cX11_settle 60 = .ok (.ifCond .le 93, 3) := by decide +kernel
theorem dX11_settle_63 : decode cX11_settle 63 = .ok (.iconst (-1), 1) := by decide +kernel
theorem dX11_settle_64 : decode cX11_settle 64 = .ok (.istore 5, 2) := by decide +kernel
theorem dX11_settle_66 : decode cX11_settle 66 = .ok (.iconst 0, 1) := by decide +kernel
theorem dX11_settle_67 : decode cX11_settle 67 = .ok (.istore 6, 2) := by decide +kernel
theorem dX11_settle_69 : decode cX11_settle 69 = .ok (.iload 6, 2) := by decide +kernel
theorem dX11_settle_71 : decode cX11_settle 71 = .ok (.bipush 6, 2) := by decide +kernel
theorem dX11_settle_73 : decode cX11_settle 73 = .ok (.if_icmp .ge 64, 3) := by decide +kernel
theorem dX11_settle_76 : decode cX11_settle 76 = .ok (.iload 4, 2) := by decide +kernel
theorem dX11_settle_78 : decode cX11_settle 78 = .ok (.iload 6, 2) := by decide +kernel
theorem dX11_settle_80 : decode cX11_settle 80 = .ok (.ishr, 1) := by decide +kernel
theorem dX11_settle_81 : decode cX11_settle 81 = .ok (.iconst 1, 1) := by decide +kernel
theorem dX11_settle_82 : decode cX11_settle 82 = .ok (.iand, 1) := by decide +kernel
theorem dX11_settle_83 : decode cX11_settle 83 = .ok (.ifCond .ne 7, 3) := by decide +kernel
theorem dX11_settle_86 : decode cX11_settle 86 = .ok (.iconst 1, 1) := by decide +kernel
theorem dX11_settle_87 : decode cX11_settle 87 = .ok (.goto 4, 3) := by decide +kernel
theorem dX11_settle_90 : decode cX11_settle 90 = .ok (.iconst 0, 1) := by decide +kernel
theorem dX11_settle_91 : decode cX11_settle 91 = .ok (.istore 7, 2) := by decide +kernel
theorem dX11_settle_93 : decode cX11_settle 93 = .ok (.iload 7, 2) := by decide +kernel
theorem dX11_settle_95 : decode cX11_settle 95 = .ok (.ifCond .eq 32, 3) := by decide +kernel
theorem dX11_settle_98 : decode cX11_settle 98 = .ok (.iload 5, 2) := by decide +kernel
theorem dX11_settle_100 : decode cX11_settle 100 = .ok (.iconst (-1), 1) := by decide +kernel
theorem dX11_settle_101 : decode cX11_settle 101 = .ok (.if_icmp .eq 21, 3) := by decide +kernel
theorem dX11_settle_104 : decode cX11_settle 104 = .ok (.aload_n 0, 1) := by decide +kernel
theorem dX11_settle_105 : decode cX11_settle 105 = .ok (.iload 6, 2) := by decide +kernel
theorem dX11_settle_107 : decode cX11_settle 107 = .ok (.iload_n 1, 1) := by decide +kernel
theorem dX11_settle_108 : decode cX11_settle 108 = .ok (.invokevirtual 333, 3) := by decide +kernel
theorem dX11_settle_111 : decode cX11_settle 111 = .ok (.aload_n 0, 1) := by decide +kernel
theorem dX11_settle_112 : decode cX11_settle 112 = .ok (.iload 5, 2) := by decide +kernel
theorem dX11_settle_114 : decode cX11_settle 114 = .ok (.iload_n 1, 1) := by decide +kernel
theorem dX11_settle_115 : decode cX11_settle 115 = .ok (.invokevirtual 333, 3) := by decide +kernel
theorem dX11_settle_118 : decode cX11_settle 118 = .ok (.lcmp, 1) := by decide +kernel
theorem dX11_settle_119 : decode cX11_settle 119 = .ok (.ifCond .le 8, 3) := by decide +kernel
theorem dX11_settle_122 : decode cX11_settle 122 = .ok (.iload 6, 2) := by decide +kernel
theorem dX11_settle_124 : decode cX11_settle 124 = .ok (.goto 5, 3) := by decide +kernel
theorem dX11_settle_127 : decode cX11_settle 127 = .ok (.iload 5, 2) := by decide +kernel
theorem dX11_settle_129 : decode cX11_settle 129 = .ok (.istore 5, 2) := by decide +kernel
theorem dX11_settle_131 : decode cX11_settle 131 = .ok (.iinc 6 1, 3) := by decide +kernel
theorem dX11_settle_134 : decode cX11_settle 134 = .ok (.goto (-65), 3) := by decide +kernel
theorem dX11_settle_137 : decode cX11_settle 137 = .ok (.iload 4, 2) := by decide +kernel
theorem dX11_settle_139 : decode cX11_settle 139 = .ok (.iconst 1, 1) := by decide +kernel
theorem dX11_settle_140 : decode cX11_settle 140 = .ok (.iload 5, 2) := by decide +kernel
theorem dX11_settle_142 : decode cX11_settle 142 = .ok (.ishl, 1) := by decide +kernel
theorem dX11_settle_143 : decode cX11_settle 143 = .ok (.ior, 1) := by decide +kernel
theorem dX11_settle_144 : decode cX11_settle 144 = .ok (.istore 4, 2) := by decide +kernel
theorem dX11_settle_146 : decode cX11_settle 146 = .ok (.lload_n 2, 1) := by decide +kernel
theorem dX11_settle_147 : decode cX11_settle 147 = .ok (.lconst 1, 1) := by decide +kernel
theorem dX11_settle_148 : decode cX11_settle 148 = .ok (.lsub, 1) := by decide +kernel
theorem dX11_settle_149 : decode cX11_settle 149 = .ok (.lstore_n 2, 1) := by decide +kernel
theorem dX11_settle_150 : decode cX11_settle 150 = .ok (.goto (-93), 3) := by decide +kernel
theorem dX11_settle_153 : decode cX11_settle 153 = .ok (.iconst 0, 1) := by decide +kernel
theorem dX11_settle_154 : decode cX11_settle 154 = .ok (.istore 5, 2) := by decide +kernel
theorem dX11_settle_156 : decode cX11_settle 156 = .ok (.iconst 0, 1) := by decide +kernel
theorem dX11_settle_157 : decode cX11_settle 157 = .ok (.istore 6, 2) := by decide +kernel
theorem dX11_settle_159 : decode cX11_settle 159 = .ok (.iload 6, 2) := by decide +kernel
theorem dX11_settle_161 : decode cX11_settle 161 = .ok (.bipush 6, 2) := by decide +kernel
theorem dX11_settle_163 : decode cX11_settle 163 = .ok (.if_icmp .ge 78, 3) := by decide +kernel
theorem dX11_settle_166 : decode cX11_settle 166 = .ok (.aload_n 0, 1) := by decide +kernel
theorem dX11_settle_167 : decode cX11_settle 167 = .ok (.iload 6, 2) := by decide +kernel
theorem dX11_settle_169 : decode cX11_settle 169 = .ok (.iload_n 1, 1) := by decide +kernel
theorem dX11_settle_170 : decode cX11_settle 170 = .ok (.invokevirtual 297, 3) := by decide +kernel
theorem dX11_settle_173 : decode cX11_settle 173 = .ok (.lstore 7, 2) := by decide +kernel
theorem dX11_settle_175 : decode cX11_settle 175 = .ok (.lload 7, 2) := by decide +kernel
theorem dX11_settle_177 : decode cX11_settle 177 = .ok (.invokestatic 329, 3) := by decide +kernel
theorem dX11_settle_180 : decode cX11_settle 180 = .ok (.l2i, 1) := by decide +kernel
theorem dX11_settle_181 : decode cX11_settle 181 = .ok (.iload 4, 2) := by decide +kernel
theorem dX11_settle_183 : decode cX11_settle 183 = .ok (.iload 6, 2) := by decide +kernel
theorem dX11_settle_185 : decode cX11_settle 185 = .ok (.ishr, 1) := by decide +kernel
theorem dX11_settle_186 : decode cX11_settle 186 = .ok (.iconst 1, 1) := by decide +kernel
theorem dX11_settle_187 : decode cX11_settle 187 = .ok (.iand, 1) := by decide +kernel
theorem dX11_settle_188 : decode cX11_settle 188 = .ok (.iadd, 1) := by decide +kernel
theorem dX11_settle_189 : decode cX11_settle 189 = .ok (.istore 9, 2) := by decide +kernel
theorem dX11_settle_191 : decode cX11_settle 191 = .ok (.aload_n 0, 1) := by decide +kernel
theorem dX11_settle_192 : decode cX11_settle 192 = .ok (.getfield 132, 3) := by decide +kernel
theorem dX11_settle_195 : decode cX11_settle 195 = .ok (.iload 6, 2) := by decide +kernel
theorem dX11_settle_197 : decode cX11_settle 197 = .ok (.dup2, 1) := by decide +kernel
theorem dX11_settle_198 : decode cX11_settle 198 = .ok (.iaload, 1) := by decide +kernel
theorem dX11_settle_199 : decode cX11_settle 199 = .ok (.iload 9, 2) := by decide +kernel
theorem dX11_settle_201 : decode cX11_settle 201 = .ok (.isub, 1) := by decide +kernel
theorem dX11_settle_202 : decode cX11_settle 202 = .ok (.iastore, 1) := by decide +kernel
theorem dX11_settle_203 : decode cX11_settle 203 = .ok (.aload_n 0, 1) := by decide +kernel
theorem dX11_settle_204 : decode cX11_settle 204 = .ok (.getfield 128, 3) := by decide +kernel
theorem dX11_settle_207 : decode cX11_settle 207 = .ok (.iconst 4, 1) := by decide +kernel
theorem dX11_settle_208 : decode cX11_settle 208 = .ok (.iload 6, 2) := by decide +kernel
theorem dX11_settle_210 : decode cX11_settle 210 = .ok (.imul, 1) := by decide +kernel
theorem dX11_settle_211 : decode cX11_settle 211 = .ok (.iload_n 1, 1) := by decide +kernel
theorem dX11_settle_212 : decode cX11_settle 212 = .ok (.iadd, 1) := by decide +kernel
theorem dX11_settle_213 : decode cX11_settle 213 = .ok (.dup2, 1) := by decide +kernel
theorem dX11_settle_214 : decode cX11_settle 214 = .ok (.laload, 1) := by decide +kernel
theorem dX11_settle_215 : decode cX11_settle 215 = .ok (.lload 7, 2) := by decide +kernel
theorem dX11_settle_217 : decode cX11_settle 217 = .ok (.ladd, 1) := by decide +kernel
theorem dX11_settle_218 : decode cX11_settle 218 = .ok (.lastore, 1) := by decide +kernel
theorem dX11_settle_219 : decode cX11_settle 219 = .ok (.iload 5, 2) := by decide +kernel
theorem dX11_settle_221 : decode cX11_settle 221 = .ok (.iload 9, 2) := by decide +kernel
theorem dX11_settle_223 : decode cX11_settle 223 = .ok (.ifCond .le 8, 3) := by decide +kernel
theorem dX11_settle_226 : decode cX11_settle 226 = .ok (.iload 9, 2) := by decide +kernel
theorem dX11_settle_228 : decode cX11_settle 228 = .ok (.goto 4, 3) := by decide +kernel
theorem dX11_settle_231 : decode cX11_settle 231 = .ok (.iconst 0, 1) := by decide +kernel
theorem dX11_settle_232 : decode cX11_settle 232 = .ok (.iadd, 1) := by decide +kernel
theorem dX11_settle_233 : decode cX11_settle 233 = .ok (.istore 5, 2) := by decide +kernel
theorem dX11_settle_235 : decode cX11_settle 235 = .ok (.iinc 6 1, 3) := by decide +kernel
theorem dX11_settle_238 : decode cX11_settle 238 = .ok (.goto (-79), 3) := by decide +kernel
theorem dX11_settle_241 : decode cX11_settle 241 = .ok (.aload_n 0, 1) := by decide +kernel
theorem dX11_settle_242 : decode cX11_settle 242 = .ok (.iload 5, 2) := by decide +kernel
theorem dX11_settle_244 : decode cX11_settle 244 = .ok (.invokevirtual 193, 3) := by decide +kernel
theorem dX11_settle_247 : decode cX11_settle 247 = .ok (.ireturn, 1) := by decide +kernel
theorem dX11_restOf_0 : decode cX11_restOf 0 = .ok (.aload_n 0, 1) := by decide +kernel
theorem dX11_restOf_1 : decode cX11_restOf 1 = .ok (.iload_n 1, 1) := by decide +kernel
theorem dX11_restOf_2 : decode cX11_restOf 2 = .ok (.iload_n 2, 1) := by decide +kernel
theorem dX11_restOf_3 : decode cX11_restOf 3 = .ok (.invokevirtual 297, 3) := by decide +kernel
theorem dX11_restOf_6 : decode cX11_restOf 6 = .ok (.lstore_n 3, 1) := by decide +kernel
theorem dX11_restOf_7 : decode cX11_restOf 7 = .ok (.lload_n 3, 1) := by decide +kernel
theorem dX11_restOf_8 : decode cX11_restOf 8 = .ok (.ldc2_w 325, 3) := by decide +kernel
theorem dX11_restOf_11 : decode cX11_restOf 11 = .ok (.lload_n 3, 1) := by decide +kernel
theorem dX11_restOf_12 : decode cX11_restOf 12 = .ok (.invokestatic 329, 3) := by decide +kernel
theorem dX11_restOf_15 : decode cX11_restOf 15 = .ok (.lmul, 1) := by decide +kernel
theorem dX11_restOf_16 : decode cX11_restOf 16 = .ok (.lsub, 1) := by decide +kernel
theorem dX11_restOf_17 : decode cX11_restOf 17 = .ok (.lreturn, 1) := by decide +kernel
theorem dX11_cash_0 : decode cX11_cash 0 = .ok (.aload_n 0, 1) := by decide +kernel
theorem dX11_cash_1 : decode cX11_cash 1 = .ok (.iload_n 1, 1) := by decide +kernel
theorem dX11_cash_2 : decode cX11_cash 2 = .ok (.invokestatic 177, 3) := by decide +kernel
theorem dX11_cash_5 : decode cX11_cash 5 = .ok (.invokevirtual 185, 3) := by decide +kernel
theorem dX11_cash_8 : decode cX11_cash 8 = .ok (.ifCond .eq 12, 3) := by decide +kernel
theorem dX11_cash_11 : decode cX11_cash 11 = .ok (.aload_n 0, 1) := by decide +kernel
theorem dX11_cash_12 : decode cX11_cash 12 = .ok (.getfield 132, 3) := by decide +kernel
theorem dX11_cash_15 : decode cX11_cash 15 = .ok (.iload_n 1, 1) := by decide +kernel
theorem dX11_cash_16 : decode cX11_cash 16 = .ok (.iaload, 1) := by decide +kernel
theorem dX11_cash_17 : decode cX11_cash 17 = .ok (.goto 4, 3) := by decide +kernel
theorem dX11_cash_20 : decode cX11_cash 20 = .ok (.iconst 0, 1) := by decide +kernel
theorem dX11_cash_21 : decode cX11_cash 21 = .ok (.ireturn, 1) := by decide +kernel
theorem dX11_limit_0 : decode cX11_limit 0 = .ok (.aload_n 0, 1) := by decide +kernel
theorem dX11_limit_1 : decode cX11_limit 1 = .ok (.iload_n 1, 1) := by decide +kernel
theorem dX11_limit_2 : decode cX11_limit 2 = .ok (.invokestatic 177, 3) := by decide +kernel
theorem dX11_limit_5 : decode cX11_limit 5 = .ok (.invokevirtual 185, 3) := by decide +kernel
theorem dX11_limit_8 : decode cX11_limit 8 = .ok (.ifCond .ne 5, 3) := by decide +kernel
theorem dX11_limit_11 : decode cX11_limit 11 = .ok (.iconst 0, 1) := by decide +kernel
theorem dX11_limit_12 : decode cX11_limit 12 = .ok (.ireturn, 1) := by decide +kernel
theorem dX11_limit_13 : decode cX11_limit 13 = .ok (.iload_n 2, 1) := by decide +kernel
theorem dX11_limit_14 : decode cX11_limit 14 = .ok (.iconst 0, 1) := by decide +kernel
theorem dX11_limit_15 : decode cX11_limit 15 = .ok (.ldc_w 336, 3) := by decide +kernel
theorem dX11_limit_18 : decode cX11_limit 18 = .ok (.invokestatic 208, 3) := by decide +kernel
theorem dX11_limit_21 : decode cX11_limit 21 = .ok (.ifCond .ne 9, 3) := by decide +kernel
theorem dX11_limit_24 : decode cX11_limit 24 = .ok (.aload_n 0, 1) := by decide +kernel
theorem dX11_limit_25 : decode cX11_limit 25 = .ok (.iconst 2, 1) := by decide +kernel
theorem dX11_limit_26 : decode cX11_limit 26 = .ok (.invokevirtual 189, 3) := by decide +kernel
theorem dX11_limit_29 : decode cX11_limit 29 = .ok (.ireturn, 1) := by decide +kernel
theorem dX11_limit_30 : decode cX11_limit 30 = .ok (.aload_n 0, 1) := by decide +kernel
theorem dX11_limit_31 : decode cX11_limit 31 = .ok (.getfield 135, 3) := by decide +kernel
theorem dX11_limit_34 : decode cX11_limit 34 = .ok (.iload_n 1, 1) := by decide +kernel
theorem dX11_limit_35 : decode cX11_limit 35 = .ok (.iaload, 1) := by decide +kernel
theorem dX11_limit_36 : decode cX11_limit 36 = .ok (.istore_n 3, 1) := by decide +kernel
theorem dX11_limit_37 : decode cX11_limit 37 = .ok (.aload_n 0, 1) := by decide +kernel
theorem dX11_limit_38 : decode cX11_limit 38 = .ok (.getfield 135, 3) := by decide +kernel
theorem dX11_limit_41 : decode cX11_limit 41 = .ok (.iload_n 1, 1) := by decide +kernel
theorem dX11_limit_42 : decode cX11_limit 42 = .ok (.iload_n 2, 1) := by decide +kernel
theorem dX11_limit_43 : decode cX11_limit 43 = .ok (.iastore, 1) := by decide +kernel
theorem dX11_limit_44 : decode cX11_limit 44 = .ok (.aload_n 0, 1) := by decide +kernel
theorem dX11_limit_45 : decode cX11_limit 45 = .ok (.iload_n 3, 1) := by decide +kernel
theorem dX11_limit_46 : decode cX11_limit 46 = .ok (.invokevirtual 193, 3) := by decide +kernel
theorem dX11_limit_49 : decode cX11_limit 49 = .ok (.ireturn, 1) := by decide +kernel
theorem dX11_exposure_0 : decode cX11_exposure 0 = .ok (.aload_n 0, 1) := by decide +kernel
theorem dX11_exposure_1 : decode cX11_exposure 1 = .ok (.iload_n 1, 1) := by decide +kernel
theorem dX11_exposure_2 : decode cX11_exposure 2 = .ok (.invokestatic 177, 3) := by decide +kernel
theorem dX11_exposure_5 : decode cX11_exposure 5 = .ok (.invokevirtual 185, 3) := by decide +kernel
theorem dX11_exposure_8 : decode cX11_exposure 8 = .ok (.ifCond .eq 12, 3) := by decide +kernel
theorem dX11_exposure_11 : decode cX11_exposure 11 = .ok (.aload_n 0, 1) := by decide +kernel
theorem dX11_exposure_12 : decode cX11_exposure 12 = .ok (.iload_n 1, 1) := by decide +kernel
theorem dX11_exposure_13 : decode cX11_exposure 13 = .ok (.invokevirtual 301, 3) := by decide +kernel
theorem dX11_exposure_16 : decode cX11_exposure 16 = .ok (.l2i, 1) := by decide +kernel
theorem dX11_exposure_17 : decode cX11_exposure 17 = .ok (.goto 4, 3) := by decide +kernel
theorem dX11_exposure_20 : decode cX11_exposure 20 = .ok (.iconst 0, 1) := by decide +kernel
theorem dX11_exposure_21 : decode cX11_exposure 21 = .ok (.ireturn, 1) := by decide +kernel
theorem dX11_clearsAll_0 : decode cX11_clearsAll 0 = .ok (.iconst 0, 1) := by decide +kernel
theorem dX11_clearsAll_1 : decode cX11_clearsAll 1 = .ok (.istore_n 1, 1) := by decide +kernel
theorem dX11_clearsAll_2 : decode cX11_clearsAll 2 = .ok (.iload_n 1, 1) := by decide +kernel
theorem dX11_clearsAll_3 : decode cX11_clearsAll 3 = .ok (.aload_n 0, 1) := by decide +kernel
theorem dX11_clearsAll_4 : decode cX11_clearsAll 4 = .ok (.getfield 266, 3) := by decide +kernel
theorem dX11_clearsAll_7 : decode cX11_clearsAll 7 = .ok (.if_icmp .ge 55, 3) := by decide +kernel
theorem dX11_clearsAll_10 : decode cX11_clearsAll 10 = .ok (.aload_n 0, 1) := by decide +kernel
theorem dX11_clearsAll_11 : decode cX11_clearsAll 11 = .ok (.getfield 125, 3) := by decide +kernel
theorem dX11_clearsAll_14 : decode cX11_clearsAll 14 = .ok (.iconst 3, 1) := by decide +kernel
theorem dX11_clearsAll_15 : decode cX11_clearsAll 15 = .ok (.iload_n 1, 1) := by decide +kernel
theorem dX11_clearsAll_16 : decode cX11_clearsAll 16 = .ok (.imul, 1) := by decide +kernel
theorem dX11_clearsAll_17 : decode cX11_clearsAll 17 = .ok (.aload_n 0, 1) := by decide +kernel
theorem dX11_clearsAll_18 : decode cX11_clearsAll 18 = .ok (.getfield 113, 3) := by decide +kernel
theorem dX11_clearsAll_21 : decode cX11_clearsAll 21 = .ok (.iload_n 1, 1) := by decide +kernel
theorem dX11_clearsAll_22 : decode cX11_clearsAll 22 = .ok (.iaload, 1) := by decide +kernel
theorem dX11_clearsAll_23 : decode cX11_clearsAll 23 = .ok (.iastore, 1) := by decide +kernel
theorem dX11_clearsAll_24 : decode cX11_clearsAll 24 = .ok (.aload_n 0, 1) := by decide +kernel
theorem dX11_clearsAll_25 : decode cX11_clearsAll 25 = .ok (.getfield 125, 3) := by decide +kernel
theorem dX11_clearsAll_28 : decode cX11_clearsAll 28 = .ok (.iconst 3, 1) := by decide +kernel
theorem dX11_clearsAll_29 : decode cX11_clearsAll 29 = .ok (.iload_n 1, 1) := by decide +kernel
theorem dX11_clearsAll_30 : decode cX11_clearsAll 30 = .ok (.imul, 1) := by decide +kernel
theorem dX11_clearsAll_31 : decode cX11_clearsAll 31 = .ok (.iconst 1, 1) := by decide +kernel
theorem dX11_clearsAll_32 : decode cX11_clearsAll 32 = .ok (.iadd, 1) := by decide +kernel
theorem dX11_clearsAll_33 : decode cX11_clearsAll 33 = .ok (.aload_n 0, 1) := by decide +kernel
theorem dX11_clearsAll_34 : decode cX11_clearsAll 34 = .ok (.getfield 116, 3) := by decide +kernel
theorem dX11_clearsAll_37 : decode cX11_clearsAll 37 = .ok (.iload_n 1, 1) := by decide +kernel
theorem dX11_clearsAll_38 : decode cX11_clearsAll 38 = .ok (.iaload, 1) := by decide +kernel
theorem dX11_clearsAll_39 : decode cX11_clearsAll 39 = .ok (.iastore, 1) := by decide +kernel
theorem dX11_clearsAll_40 : decode cX11_clearsAll 40 = .ok (.aload_n 0, 1) := by decide +kernel
theorem dX11_clearsAll_41 : decode cX11_clearsAll 41 = .ok (.getfield 125, 3) := by decide +kernel
theorem dX11_clearsAll_44 : decode cX11_clearsAll 44 = .ok (.iconst 3, 1) := by decide +kernel
theorem dX11_clearsAll_45 : decode cX11_clearsAll 45 = .ok (.iload_n 1, 1) := by decide +kernel
theorem dX11_clearsAll_46 : decode cX11_clearsAll 46 = .ok (.imul, 1) := by decide +kernel
theorem dX11_clearsAll_47 : decode cX11_clearsAll 47 = .ok (.iconst 2, 1) := by decide +kernel
theorem dX11_clearsAll_48 : decode cX11_clearsAll 48 = .ok (.iadd, 1) := by decide +kernel
theorem dX11_clearsAll_49 : decode cX11_clearsAll 49 = .ok (.aload_n 0, 1) := by decide +kernel
theorem dX11_clearsAll_50 : decode cX11_clearsAll 50 = .ok (.getfield 119, 3) := by decide +kernel
theorem dX11_clearsAll_53 : decode cX11_clearsAll 53 = .ok (.iload_n 1, 1) := by decide +kernel
theorem dX11_clearsAll_54 : decode cX11_clearsAll 54 = .ok (.iaload, 1) := by decide +kernel
theorem dX11_clearsAll_55 : decode cX11_clearsAll 55 = .ok (.iastore, 1) := by decide +kernel
theorem dX11_clearsAll_56 : decode cX11_clearsAll 56 = .ok (.iinc 1 1, 3) := by decide +kernel
theorem dX11_clearsAll_59 : decode cX11_clearsAll 59 = .ok (.goto (-57), 3) := by decide +kernel
theorem dX11_clearsAll_62 : decode cX11_clearsAll 62 = .ok (.iconst 0, 1) := by decide +kernel
theorem dX11_clearsAll_63 : decode cX11_clearsAll 63 = .ok (.istore_n 1, 1) := by decide +kernel
theorem dX11_clearsAll_64 : decode cX11_clearsAll 64 = .ok (.iload_n 1, 1) := by decide +kernel
theorem dX11_clearsAll_65 : decode cX11_clearsAll 65 = .ok (.aload_n 0, 1) := by decide +kernel
theorem dX11_clearsAll_66 : decode cX11_clearsAll 66 = .ok (.getfield 269, 3) := by decide +kernel
theorem dX11_clearsAll_69 : decode cX11_clearsAll 69 = .ok (.if_icmp .ge 21, 3) := by decide +kernel
theorem dX11_clearsAll_72 : decode cX11_clearsAll 72 = .ok (.aload_n 0, 1) := by decide +kernel
theorem dX11_clearsAll_73 : decode cX11_clearsAll 73 = .ok (.getfield 98, 3) := by decide +kernel
theorem dX11_clearsAll_76 : decode cX11_clearsAll 76 = .ok (.iload_n 1, 1) := by decide +kernel
theorem dX11_clearsAll_77 : decode cX11_clearsAll 77 = .ok (.aload_n 0, 1) := by decide +kernel
theorem dX11_clearsAll_78 : decode cX11_clearsAll 78 = .ok (.getfield 95, 3) := by decide +kernel
theorem dX11_clearsAll_81 : decode cX11_clearsAll 81 = .ok (.iload_n 1, 1) := by decide +kernel
theorem dX11_clearsAll_82 : decode cX11_clearsAll 82 = .ok (.iaload, 1) := by decide +kernel
theorem dX11_clearsAll_83 : decode cX11_clearsAll 83 = .ok (.iastore, 1) := by decide +kernel
theorem dX11_clearsAll_84 : decode cX11_clearsAll 84 = .ok (.iinc 1 1, 3) := by decide +kernel
theorem dX11_clearsAll_87 : decode cX11_clearsAll 87 = .ok (.goto (-23), 3) := by decide +kernel
theorem dX11_clearsAll_90 : decode cX11_clearsAll 90 = .ok (.iconst 0, 1) := by decide +kernel
theorem dX11_clearsAll_91 : decode cX11_clearsAll 91 = .ok (.istore_n 1, 1) := by decide +kernel
theorem dX11_clearsAll_92 : decode cX11_clearsAll 92 = .ok (.iconst 0, 1) := by decide +kernel
theorem dX11_clearsAll_93 : decode cX11_clearsAll 93 = .ok (.istore_n 2, 1) := by decide +kernel
theorem dX11_clearsAll_94 : decode cX11_clearsAll 94 = .ok (.iload_n 2, 1) := by decide +kernel
theorem dX11_clearsAll_95 : decode cX11_clearsAll 95 = .ok (.aload_n 0, 1) := by decide +kernel
theorem dX11_clearsAll_96 : decode cX11_clearsAll 96 = .ok (.getfield 266, 3) := by decide +kernel
theorem dX11_clearsAll_99 : decode cX11_clearsAll 99 = .ok (.if_icmp .ge 143, 3) := by decide +kernel
theorem dX11_clearsAll_102 : decode cX11_clearsAll 102 = .ok (.aload_n 0, 1) := by decide +kernel
theorem dX11_clearsAll_103 : decode cX11_clearsAll 103 = .ok (.iload_n 2, 1) := by decide +kernel
theorem dX11_clearsAll_104 : decode cX11_clearsAll 104 = .ok (.invokevirtual 307, 3) := by decide +kernel
theorem dX11_clearsAll_107 : decode cX11_clearsAll 107 = .ok (.aload_n 0, 1) := by decide +kernel
theorem dX11_clearsAll_108 : decode cX11_clearsAll 108 = .ok (.getfield 125, 3) := by decide +kernel
theorem dX11_clearsAll_111 : decode cX11_clearsAll 111 = .ok (.iconst 3, 1) := by decide +kernel
theorem dX11_clearsAll_112 : decode cX11_clearsAll 112 = .ok (.iload_n 2, 1) := by decide +kernel
theorem dX11_clearsAll_113 : decode cX11_clearsAll 113 = .ok (.imul, 1) := by decide +kernel
theorem dX11_clearsAll_114 : decode cX11_clearsAll 114 = .ok (.iaload, 1) := by decide +kernel
theorem dX11_clearsAll_115 : decode cX11_clearsAll 115 = .ok (.aload_n 0, 1) := by decide +kernel
theorem dX11_clearsAll_116 : decode cX11_clearsAll 116 = .ok (.getfield 113, 3) := by decide +kernel
theorem dX11_clearsAll_119 : decode cX11_clearsAll 119 = .ok (.iload_n 2, 1) := by decide +kernel
theorem dX11_clearsAll_120 : decode cX11_clearsAll 120 = .ok (.iaload, 1) := by decide +kernel
theorem dX11_clearsAll_121 : decode cX11_clearsAll 121 = .ok (.if_icmp .ne 41, 3) := by decide +kernel
theorem dX11_clearsAll_124 : decode cX11_clearsAll 124 = .ok (.aload_n 0, 1) := by decide +kernel
theorem dX11_clearsAll_125 : decode cX11_clearsAll 125 = .ok (.getfield 125, 3) := by decide +kernel
theorem dX11_clearsAll_128 : decode cX11_clearsAll 128 = .ok (.iconst 3, 1) := by decide +kernel
theorem dX11_clearsAll_129 : decode cX11_clearsAll 129 = .ok (.iload_n 2, 1) := by decide +kernel
theorem dX11_clearsAll_130 : decode cX11_clearsAll 130 = .ok (.imul, 1) := by decide +kernel
theorem dX11_clearsAll_131 : decode cX11_clearsAll 131 = .ok (.iconst 1, 1) := by decide +kernel
theorem dX11_clearsAll_132 : decode cX11_clearsAll 132 = .ok (.iadd, 1) := by decide +kernel
theorem dX11_clearsAll_133 : decode cX11_clearsAll 133 = .ok (.iaload, 1) := by decide +kernel
theorem dX11_clearsAll_134 : decode cX11_clearsAll 134 = .ok (.aload_n 0, 1) := by decide +kernel
theorem dX11_clearsAll_135 : decode cX11_clearsAll 135 = .ok (.getfield 116, 3) := by decide +kernel
theorem dX11_clearsAll_138 : decode cX11_clearsAll 138 = .ok (.iload_n 2, 1) := by decide +kernel
theorem dX11_clearsAll_139 : decode cX11_clearsAll 139 = .ok (.iaload, 1) := by decide +kernel
theorem dX11_clearsAll_140 : decode cX11_clearsAll 140 = .ok (.if_icmp .ne 22, 3) := by decide +kernel
theorem dX11_clearsAll_143 : decode cX11_clearsAll 143 = .ok (.aload_n 0, 1) := by decide +kernel
theorem dX11_clearsAll_144 : decode cX11_clearsAll 144 = .ok (.getfield 125, 3) := by decide +kernel
theorem dX11_clearsAll_147 : decode cX11_clearsAll 147 = .ok (.iconst 3, 1) := by decide +kernel
theorem dX11_clearsAll_148 : decode cX11_clearsAll 148 = .ok (.iload_n 2, 1) := by decide +kernel
theorem dX11_clearsAll_149 : decode cX11_clearsAll 149 = .ok (.imul, 1) := by decide +kernel
theorem dX11_clearsAll_150 : decode cX11_clearsAll 150 = .ok (.iconst 2, 1) := by decide +kernel
theorem dX11_clearsAll_151 : decode cX11_clearsAll 151 = .ok (.iadd, 1) := by decide +kernel
theorem dX11_clearsAll_152 : decode cX11_clearsAll 152 = .ok (.iaload, 1) := by decide +kernel
theorem dX11_clearsAll_153 : decode cX11_clearsAll 153 = .ok (.aload_n 0, 1) := by decide +kernel
theorem dX11_clearsAll_154 : decode cX11_clearsAll 154 = .ok (.getfield 119, 3) := by decide +kernel
theorem dX11_clearsAll_157 : decode cX11_clearsAll 157 = .ok (.iload_n 2, 1) := by decide +kernel
theorem dX11_clearsAll_158 : decode cX11_clearsAll 158 = .ok (.iaload, 1) := by decide +kernel
theorem dX11_clearsAll_159 : decode cX11_clearsAll 159 = .ok (.if_icmp .eq 7, 3) := by decide +kernel
theorem dX11_clearsAll_162 : decode cX11_clearsAll 162 = .ok (.iconst 1, 1) := by decide +kernel
theorem dX11_clearsAll_163 : decode cX11_clearsAll 163 = .ok (.goto 4, 3) := by decide +kernel
theorem dX11_clearsAll_166 : decode cX11_clearsAll 166 = .ok (.iconst 0, 1) := by decide +kernel
theorem dX11_clearsAll_167 : decode cX11_clearsAll 167 = .ok (.istore_n 3, 1) := by decide +kernel
theorem dX11_clearsAll_168 : decode cX11_clearsAll 168 = .ok (.iconst 0, 1) := by decide +kernel
theorem dX11_clearsAll_169 : decode cX11_clearsAll 169 = .ok (.istore 4, 2) := by decide +kernel
theorem dX11_clearsAll_171 : decode cX11_clearsAll 171 = .ok (.iload 4, 2) := by decide +kernel
theorem dX11_clearsAll_173 : decode cX11_clearsAll 173 = .ok (.aload_n 0, 1) := by decide +kernel
theorem dX11_clearsAll_174 : decode cX11_clearsAll 174 = .ok (.getfield 269, 3) := by decide +kernel
theorem dX11_clearsAll_177 : decode cX11_clearsAll 177 = .ok (.if_icmp .ge 47, 3) := by decide +kernel
theorem dX11_clearsAll_180 : decode cX11_clearsAll 180 = .ok (.iload_n 3, 1) := by decide +kernel
theorem dX11_clearsAll_181 : decode cX11_clearsAll 181 = .ok (.ifCond .ne 31, 3) := by decide +kernel
theorem dX11_clearsAll_184 : decode cX11_clearsAll 184 = .ok (.aload_n 0, 1) := by decide +kernel
theorem dX11_clearsAll_185 : decode cX11_clearsAll 185 = .ok (.getfield 89, 3) := by decide +kernel
theorem dX11_clearsAll_188 : decode cX11_clearsAll 188 = .ok (.iload 4, 2) := by decide +kernel
theorem dX11_clearsAll_190 : decode cX11_clearsAll 190 = .ok (.iaload, 1) := by decide +kernel
theorem dX11_clearsAll_191 : decode cX11_clearsAll 191 = .ok (.iload_n 2, 1) := by decide +kernel
theorem dX11_clearsAll_192 : decode cX11_clearsAll 192 = .ok (.if_icmp .ne 24, 3) := by decide +kernel
theorem dX11_clearsAll_195 : decode cX11_clearsAll 195 = .ok (.aload_n 0, 1) := by decide +kernel
theorem dX11_clearsAll_196 : decode cX11_clearsAll 196 = .ok (.getfield 95, 3) := by decide +kernel
theorem dX11_clearsAll_199 : decode cX11_clearsAll 199 = .ok (.iload 4, 2) := by decide +kernel
theorem dX11_clearsAll_201 : decode cX11_clearsAll 201 = .ok (.iaload, 1) := by decide +kernel
theorem dX11_clearsAll_202 : decode cX11_clearsAll 202 = .ok (.aload_n 0, 1) := by decide +kernel
theorem dX11_clearsAll_203 : decode cX11_clearsAll 203 = .ok (.getfield 98, 3) := by decide +kernel
theorem dX11_clearsAll_206 : decode cX11_clearsAll 206 = .ok (.iload 4, 2) := by decide +kernel
theorem dX11_clearsAll_208 : decode cX11_clearsAll 208 = .ok (.iaload, 1) := by decide +kernel
theorem dX11_clearsAll_209 : decode cX11_clearsAll 209 = .ok (.if_icmp .eq 7, 3) := by decide +kernel
theorem dX11_clearsAll_212 : decode cX11_clearsAll 212 = .ok (.iconst 1, 1) := by decide +kernel
theorem dX11_clearsAll_213 : decode cX11_clearsAll 213 = .ok (.goto 4, 3) := by decide +kernel
theorem dX11_clearsAll_216 : decode cX11_clearsAll 216 = .ok (.iconst 0, 1) := by decide +kernel
theorem dX11_clearsAll_217 : decode cX11_clearsAll 217 = .ok (.istore_n 3, 1) := by decide +kernel
theorem dX11_clearsAll_218 : decode cX11_clearsAll 218 = .ok (.iinc 4 1, 3) := by decide +kernel
theorem dX11_clearsAll_221 : decode cX11_clearsAll 221 = .ok (.goto (-50), 3) := by decide +kernel
theorem dX11_clearsAll_224 : decode cX11_clearsAll 224 = .ok (.iload_n 1, 1) := by decide +kernel
theorem dX11_clearsAll_225 : decode cX11_clearsAll 225 = .ok (.iload_n 3, 1) := by decide +kernel
theorem dX11_clearsAll_226 : decode cX11_clearsAll 226 = .ok (.ifCond .eq 7, 3) := by decide +kernel
theorem dX11_clearsAll_229 : decode cX11_clearsAll 229 = .ok (.iconst 1, 1) := by decide +kernel
theorem dX11_clearsAll_230 : decode cX11_clearsAll 230 = .ok (.goto 4, 3) := by decide +kernel
theorem dX11_clearsAll_233 : decode cX11_clearsAll 233 = .ok (.iconst 0, 1) := by decide +kernel
theorem dX11_clearsAll_234 : decode cX11_clearsAll 234 = .ok (.iadd, 1) := by decide +kernel
theorem dX11_clearsAll_235 : decode cX11_clearsAll 235 = .ok (.istore_n 1, 1) := by decide +kernel
theorem dX11_clearsAll_236 : decode cX11_clearsAll 236 = .ok (.iinc 2 1, 3) := by decide +kernel
theorem dX11_clearsAll_239 : decode cX11_clearsAll 239 = .ok (.goto (-145), 3) := by decide +kernel
theorem dX11_clearsAll_242 : decode cX11_clearsAll 242 = .ok (.iload_n 1, 1) := by decide +kernel
theorem dX11_clearsAll_243 : decode cX11_clearsAll 243 = .ok (.ireturn, 1) := by decide +kernel
theorem dX11_strikeBid_0 : decode cX11_strikeBid 0 = .ok (.aload_n 0, 1) := by decide +kernel
theorem dX11_strikeBid_1 : decode cX11_strikeBid 1 = .ok (.aload_n 0, 1) := by decide +kernel
theorem dX11_strikeBid_2 : decode cX11_strikeBid 2 = .ok (.iload_n 1, 1) := by decide +kernel
theorem dX11_strikeBid_3 : decode cX11_strikeBid 3 = .ok (.invokevirtual 304, 3) := by decide +kernel
theorem dX11_strikeBid_6 : decode cX11_strikeBid 6 = .ok (.invokevirtual 185, 3) := by decide +kernel
theorem dX11_strikeBid_9 : decode cX11_strikeBid 9 = .ok (.ifCond .ne 5, 3) := by decide +kernel
theorem dX11_strikeBid_12 : decode cX11_strikeBid 12 = .ok (.iconst 0, 1) := by decide +kernel
theorem dX11_strikeBid_13 : decode cX11_strikeBid 13 = .ok (.ireturn, 1) := by decide +kernel
theorem dX11_strikeBid_14 : decode cX11_strikeBid 14 = .ok (.aload_n 0, 1) := by decide +kernel
theorem dX11_strikeBid_15 : decode cX11_strikeBid 15 = .ok (.getfield 89, 3) := by decide +kernel
theorem dX11_strikeBid_18 : decode cX11_strikeBid 18 = .ok (.iload_n 1, 1) := by decide +kernel
theorem dX11_strikeBid_19 : decode cX11_strikeBid 19 = .ok (.iaload, 1) := by decide +kernel
theorem dX11_strikeBid_20 : decode cX11_strikeBid 20 = .ok (.iconst (-1), 1) := by decide +kernel
theorem dX11_strikeBid_21 : decode cX11_strikeBid 21 = .ok (.if_icmp .eq 12, 3) := by decide +kernel
theorem dX11_strikeBid_24 : decode cX11_strikeBid 24 = .ok (.aload_n 0, 1) := by decide +kernel
theorem dX11_strikeBid_25 : decode cX11_strikeBid 25 = .ok (.getfield 92, 3) := by decide +kernel
theorem dX11_strikeBid_28 : decode cX11_strikeBid 28 = .ok (.iload_n 1, 1) := by decide +kernel
theorem dX11_strikeBid_29 : decode cX11_strikeBid 29 = .ok (.baload, 1) := by decide +kernel
theorem dX11_strikeBid_30 : decode cX11_strikeBid 30 = .ok (.ifCond .eq 9, 3) := by decide +kernel
theorem dX11_strikeBid_33 : decode cX11_strikeBid 33 = .ok (.aload_n 0, 1) := by decide +kernel
theorem dX11_strikeBid_34 : decode cX11_strikeBid 34 = .ok (.iconst 2, 1) := by decide +kernel
theorem dX11_strikeBid_35 : decode cX11_strikeBid 35 = .ok (.invokevirtual 189, 3) := by decide +kernel
theorem dX11_strikeBid_38 : decode cX11_strikeBid 38 = .ok (.ireturn, 1) := by decide +kernel
theorem dX11_strikeBid_39 : decode cX11_strikeBid 39 = .ok (.aload_n 0, 1) := by decide +kernel
theorem dX11_strikeBid_40 : decode cX11_strikeBid 40 = .ok (.getfield 92, 3) := by decide +kernel
theorem dX11_strikeBid_43 : decode cX11_strikeBid 43 = .ok (.iload_n 1, 1) := by decide +kernel
theorem dX11_strikeBid_44 : decode cX11_strikeBid 44 = .ok (.iconst 1, 1) := by decide +kernel
theorem dX11_strikeBid_45 : decode cX11_strikeBid 45 = .ok (.bastore, 1) := by decide +kernel
theorem dX11_strikeBid_46 : decode cX11_strikeBid 46 = .ok (.aload_n 0, 1) := by decide +kernel
theorem dX11_strikeBid_47 : decode cX11_strikeBid 47 = .ok (.aload_n 0, 1) := by decide +kernel
theorem dX11_strikeBid_48 : decode cX11_strikeBid 48 = .ok (.invokevirtual 337, 3) := by decide +kernel
theorem dX11_strikeBid_51 : decode cX11_strikeBid 51 = .ok (.invokevirtual 193, 3) := by decide +kernel
theorem dX11_strikeBid_54 : decode cX11_strikeBid 54 = .ok (.ireturn, 1) := by decide +kernel
theorem dX11_strikeEdit_0 : decode cX11_strikeEdit 0 = .ok (.aload_n 0, 1) := by decide +kernel
theorem dX11_strikeEdit_1 : decode cX11_strikeEdit 1 = .ok (.iload_n 1, 1) := by decide +kernel
theorem dX11_strikeEdit_2 : decode cX11_strikeEdit 2 = .ok (.ifCond .lt 15, 3) := by decide +kernel
theorem dX11_strikeEdit_5 : decode cX11_strikeEdit 5 = .ok (.iload_n 1, 1) := by decide +kernel
theorem dX11_strikeEdit_6 : decode cX11_strikeEdit 6 = .ok (.aload_n 0, 1) := by decide +kernel
theorem dX11_strikeEdit_7 : decode cX11_strikeEdit 7 = .ok (.getfield 215, 3) := by decide +kernel
theorem dX11_strikeEdit_10 : decode cX11_strikeEdit 10 = .ok (.if_icmp .ge 7, 3) := by decide +kernel
theorem dX11_strikeEdit_13 : decode cX11_strikeEdit 13 = .ok (.iconst 1, 1) := by decide +kernel
theorem dX11_strikeEdit_14 : decode cX11_strikeEdit 14 = .ok (.goto 4, 3) := by decide +kernel
theorem dX11_strikeEdit_17 : decode cX11_strikeEdit 17 = .ok (.iconst 0, 1) := by decide +kernel
theorem dX11_strikeEdit_18 : decode cX11_strikeEdit 18 = .ok (.invokevirtual 185, 3) := by decide +kernel
theorem dX11_strikeEdit_21 : decode cX11_strikeEdit 21 = .ok (.ifCond .ne 5, 3) := by decide +kernel
theorem dX11_strikeEdit_24 : decode cX11_strikeEdit 24 = .ok (.iconst 0, 1) := by decide +kernel
theorem dX11_strikeEdit_25 : decode cX11_strikeEdit 25 = .ok (.ireturn, 1) := by decide +kernel
theorem dX11_strikeEdit_26 : decode cX11_strikeEdit 26 = .ok (.aload_n 0, 1) := by decide +kernel
theorem dX11_strikeEdit_27 : decode cX11_strikeEdit 27 = .ok (.getfield 49, 3) := by decide +kernel
theorem dX11_strikeEdit_30 : decode cX11_strikeEdit 30 = .ok (.iload_n 1, 1) := by decide +kernel
theorem dX11_strikeEdit_31 : decode cX11_strikeEdit 31 = .ok (.baload, 1) := by decide +kernel
theorem dX11_strikeEdit_32 : decode cX11_strikeEdit 32 = .ok (.ifCond .eq 9, 3) := by decide +kernel
theorem dX11_strikeEdit_35 : decode cX11_strikeEdit 35 = .ok (.aload_n 0, 1) := by decide +kernel
theorem dX11_strikeEdit_36 : decode cX11_strikeEdit 36 = .ok (.iconst 2, 1) := by decide +kernel
theorem dX11_strikeEdit_37 : decode cX11_strikeEdit 37 = .ok (.invokevirtual 189, 3) := by decide +kernel
theorem dX11_strikeEdit_40 : decode cX11_strikeEdit 40 = .ok (.ireturn, 1) := by decide +kernel
theorem dX11_strikeEdit_41 : decode cX11_strikeEdit 41 = .ok (.aload_n 0, 1) := by decide +kernel
theorem dX11_strikeEdit_42 : decode cX11_strikeEdit 42 = .ok (.getfield 49, 3) := by decide +kernel
theorem dX11_strikeEdit_45 : decode cX11_strikeEdit 45 = .ok (.iload_n 1, 1) := by decide +kernel
theorem dX11_strikeEdit_46 : decode cX11_strikeEdit 46 = .ok (.iconst 1, 1) := by decide +kernel
theorem dX11_strikeEdit_47 : decode cX11_strikeEdit 47 = .ok (.bastore, 1) := by decide +kernel
theorem dX11_strikeEdit_48 : decode cX11_strikeEdit 48 = .ok (.aload_n 0, 1) := by decide +kernel
theorem dX11_strikeEdit_49 : decode cX11_strikeEdit 49 = .ok (.aload_n 0, 1) := by decide +kernel
theorem dX11_strikeEdit_50 : decode cX11_strikeEdit 50 = .ok (.invokevirtual 337, 3) := by decide +kernel
theorem dX11_strikeEdit_53 : decode cX11_strikeEdit 53 = .ok (.invokevirtual 193, 3) := by decide +kernel
theorem dX11_strikeEdit_56 : decode cX11_strikeEdit 56 = .ok (.ireturn, 1) := by decide +kernel
theorem dX11_events_0 : decode cX11_events 0 = .ok (.aload_n 0, 1) := by decide +kernel
theorem dX11_events_1 : decode cX11_events 1 = .ok (.iconst 0, 1) := by decide +kernel
theorem dX11_events_2 : decode cX11_events 2 = .ok (.putfield 160, 3) := by decide +kernel
theorem dX11_events_5 : decode cX11_events 5 = .ok (.aload_n 0, 1) := by decide +kernel
theorem dX11_events_6 : decode cX11_events 6 = .ok (.getfield 164, 3) := by decide +kernel
theorem dX11_events_9 : decode cX11_events 9 = .ok (.ireturn, 1) := by decide +kernel
theorem dJ9_floorDiv_7cf53_0 : decode cJ9_floorDiv_7cf53 0 = .ok (.iload_n 0, 1) := by decide +kernel
theorem dJ9_floorDiv_7cf53_1 : decode cJ9_floorDiv_7cf53 1 = .ok (.iload_n 1, 1) := by decide +kernel
theorem dJ9_floorDiv_7cf53_2 : decode cJ9_floorDiv_7cf53 2 = .ok (.idiv, 1) := by decide +kernel
theorem dJ9_floorDiv_7cf53_3 : decode cJ9_floorDiv_7cf53 3 = .ok (.istore_n 2, 1) := by decide +kernel
theorem dJ9_floorDiv_7cf53_4 : decode cJ9_floorDiv_7cf53 4 = .ok (.iload_n 0, 1) := by decide +kernel
theorem dJ9_floorDiv_7cf53_5 : decode cJ9_floorDiv_7cf53 5 = .ok (.iload_n 1, 1) := by decide +kernel
theorem dJ9_floorDiv_7cf53_6 : decode cJ9_floorDiv_7cf53 6 = .ok (.ixor, 1) := by decide +kernel
theorem dJ9_floorDiv_7cf53_7 : decode cJ9_floorDiv_7cf53 7 = .ok (.ifCond .ge 14, 3) := by decide +kernel
theorem dJ9_floorDiv_7cf53_10 : decode cJ9_floorDiv_7cf53 10 = .ok (.iload_n 2, 1) := by decide +kernel
theorem dJ9_floorDiv_7cf53_11 : decode cJ9_floorDiv_7cf53 11 = .ok (.iload_n 1, 1) := by decide +kernel
theorem dJ9_floorDiv_7cf53_12 : decode cJ9_floorDiv_7cf53 12 = .ok (.imul, 1) := by decide +kernel
theorem dJ9_floorDiv_7cf53_13 : decode cJ9_floorDiv_7cf53 13 = .ok (.iload_n 0, 1) := by decide +kernel
theorem dJ9_floorDiv_7cf53_14 : decode cJ9_floorDiv_7cf53 14 = .ok (.if_icmp .eq 7, 3) := by decide +kernel
theorem dJ9_floorDiv_7cf53_17 : decode cJ9_floorDiv_7cf53 17 = .ok (.iload_n 2, 1) := by decide +kernel
theorem dJ9_floorDiv_7cf53_18 : decode cJ9_floorDiv_7cf53 18 = .ok (.iconst 1, 1) := by decide +kernel
theorem dJ9_floorDiv_7cf53_19 : decode cJ9_floorDiv_7cf53 19 = .ok (.isub, 1) := by decide +kernel
theorem dJ9_floorDiv_7cf53_20 : decode cJ9_floorDiv_7cf53 20 = .ok (.ireturn, 1) := by decide +kernel
theorem dJ9_floorDiv_7cf53_21 : decode cJ9_floorDiv_7cf53 21 = .ok (.iload_n 2, 1) := by decide +kernel
theorem dJ9_floorDiv_7cf53_22 : decode cJ9_floorDiv_7cf53 22 = .ok (.ireturn, 1) := by decide +kernel
theorem dJ9_floorMod_7cf53_0 : decode cJ9_floorMod_7cf53 0 = .ok (.iload_n 0, 1) := by decide +kernel
theorem dJ9_floorMod_7cf53_1 : decode cJ9_floorMod_7cf53 1 = .ok (.iload_n 1, 1) := by decide +kernel
theorem dJ9_floorMod_7cf53_2 : decode cJ9_floorMod_7cf53 2 = .ok (.irem, 1) := by decide +kernel
theorem dJ9_floorMod_7cf53_3 : decode cJ9_floorMod_7cf53 3 = .ok (.istore_n 2, 1) := by decide +kernel
theorem dJ9_floorMod_7cf53_4 : decode cJ9_floorMod_7cf53 4 = .ok (.iload_n 0, 1) := by decide +kernel
theorem dJ9_floorMod_7cf53_5 : decode cJ9_floorMod_7cf53 5 = .ok (.iload_n 1, 1) := by decide +kernel
theorem dJ9_floorMod_7cf53_6 : decode cJ9_floorMod_7cf53 6 = .ok (.ixor, 1) := by decide +kernel
theorem dJ9_floorMod_7cf53_7 : decode cJ9_floorMod_7cf53 7 = .ok (.ifCond .ge 11, 3) := by decide +kernel
theorem dJ9_floorMod_7cf53_10 : decode cJ9_floorMod_7cf53 10 = .ok (.iload_n 2, 1) := by decide +kernel
theorem dJ9_floorMod_7cf53_11 : decode cJ9_floorMod_7cf53 11 = .ok (.ifCond .eq 7, 3) := by decide +kernel
theorem dJ9_floorMod_7cf53_14 : decode cJ9_floorMod_7cf53 14 = .ok (.iload_n 2, 1) := by decide +kernel
theorem dJ9_floorMod_7cf53_15 : decode cJ9_floorMod_7cf53 15 = .ok (.iload_n 1, 1) := by decide +kernel
theorem dJ9_floorMod_7cf53_16 : decode cJ9_floorMod_7cf53 16 = .ok (.iadd, 1) := by decide +kernel
theorem dJ9_floorMod_7cf53_17 : decode cJ9_floorMod_7cf53 17 = .ok (.ireturn, 1) := by decide +kernel
theorem dJ9_floorMod_7cf53_18 : decode cJ9_floorMod_7cf53 18 = .ok (.iload_n 2, 1) := by decide +kernel
theorem dJ9_floorMod_7cf53_19 : decode cJ9_floorMod_7cf53 19 = .ok (.ireturn, 1) := by decide +kernel
theorem dJ9_max_7cf53_0 : decode cJ9_max_7cf53 0 = .ok (.iload_n 0, 1) := by decide +kernel
theorem dJ9_max_7cf53_1 : decode cJ9_max_7cf53 1 = .ok (.iload_n 1, 1) := by decide +kernel
theorem dJ9_max_7cf53_2 : decode cJ9_max_7cf53 2 = .ok (.if_icmp .lt 7, 3) := by decide +kernel
theorem dJ9_max_7cf53_5 : decode cJ9_max_7cf53 5 = .ok (.iload_n 0, 1) := by decide +kernel
theorem dJ9_max_7cf53_6 : decode cJ9_max_7cf53 6 = .ok (.goto 4, 3) := by decide +kernel
theorem dJ9_max_7cf53_9 : decode cJ9_max_7cf53 9 = .ok (.iload_n 1, 1) := by decide +kernel
theorem dJ9_max_7cf53_10 : decode cJ9_max_7cf53 10 = .ok (.ireturn, 1) := by decide +kernel
theorem dJ9_min_7cf53_0 : decode cJ9_min_7cf53 0 = .ok (.iload_n 0, 1) := by decide +kernel
theorem dJ9_min_7cf53_1 : decode cJ9_min_7cf53 1 = .ok (.iload_n 1, 1) := by decide +kernel
theorem dJ9_min_7cf53_2 : decode cJ9_min_7cf53 2 = .ok (.if_icmp .gt 7, 3) := by decide +kernel
theorem dJ9_min_7cf53_5 : decode cJ9_min_7cf53 5 = .ok (.iload_n 0, 1) := by decide +kernel
theorem dJ9_min_7cf53_6 : decode cJ9_min_7cf53 6 = .ok (.goto 4, 3) := by decide +kernel
theorem dJ9_min_7cf53_9 : decode cJ9_min_7cf53 9 = .ok (.iload_n 1, 1) := by decide +kernel
theorem dJ9_min_7cf53_10 : decode cJ9_min_7cf53 10 = .ok (.ireturn, 1) := by decide +kernel
theorem dJxa1e45_init_da8c8_0 : decode cJxa1e45_init_da8c8 0 = .ok (.aload_n 0, 1) := by decide +kernel
theorem dJxa1e45_init_da8c8_1 : decode cJxa1e45_init_da8c8 1 = .ok (.invokespecial 1, 3) := by decide +kernel
theorem dJxa1e45_init_da8c8_4 : decode cJxa1e45_init_da8c8 4 = .ok (.return_, 1) := by decide +kernel
theorem dJxc12de_init_da8c8_0 : decode cJxc12de_init_da8c8 0 = .ok (.aload_n 0, 1) := by decide +kernel
theorem dJxc12de_init_da8c8_1 : decode cJxc12de_init_da8c8 1 = .ok (.invokespecial 1, 3) := by decide +kernel
theorem dJxc12de_init_da8c8_4 : decode cJxc12de_init_da8c8 4 = .ok (.aload_n 0, 1) := by decide +kernel
theorem dJxc12de_init_da8c8_5 : decode cJxc12de_init_da8c8 5 = .ok (.iconst 0, 1) := by decide +kernel
theorem dJxc12de_init_da8c8_6 : decode cJxc12de_init_da8c8 6 = .ok (.putfield 7, 3) := by decide +kernel
theorem dJxc12de_init_da8c8_9 : decode cJxc12de_init_da8c8 9 = .ok (.return_, 1) := by decide +kernel
theorem dJx4a65c_init_da8c8_0 : decode cJx4a65c_init_da8c8 0 = .ok (.aload_n 0, 1) := by decide +kernel
theorem dJx4a65c_init_da8c8_1 : decode cJx4a65c_init_da8c8 1 = .ok (.invokespecial 1, 3) := by decide +kernel
theorem dJx4a65c_init_da8c8_4 : decode cJx4a65c_init_da8c8 4 = .ok (.aload_n 0, 1) := by decide +kernel
theorem dJx4a65c_init_da8c8_5 : decode cJx4a65c_init_da8c8 5 = .ok (.getstatic 39, 3) := by decide +kernel
theorem dJx4a65c_init_da8c8_8 : decode cJx4a65c_init_da8c8 8 = .ok (.putfield 9, 3) := by decide +kernel
theorem dJx4a65c_init_da8c8_11 : decode cJx4a65c_init_da8c8 11 = .ok (.return_, 1) := by decide +kernel
theorem dJx4a65c_grow_92f84_0 : decode cJx4a65c_grow_92f84 0 = .ok (.aload_n 0, 1) := by decide +kernel
theorem dJx4a65c_grow_92f84_1 : decode cJx4a65c_grow_92f84 1 = .ok (.getfield 9, 3) := by decide +kernel
theorem dJx4a65c_grow_92f84_4 : decode cJx4a65c_grow_92f84 4 = .ok (.arraylength, 1) := by decide +kernel
theorem dJx4a65c_grow_92f84_5 : decode cJx4a65c_grow_92f84 5 = .ok (.istore_n 2, 1) := by decide +kernel
theorem dJx4a65c_grow_92f84_6 : decode cJx4a65c_grow_92f84 6 = .ok (.iload_n 2, 1) := by decide +kernel
theorem dJx4a65c_grow_92f84_7 : decode cJx4a65c_grow_92f84 7 = .ok (.ifCond .gt 13, 3) := by decide +kernel
theorem dJx4a65c_grow_92f84_10 : decode cJx4a65c_grow_92f84 10 = .ok (.aload_n 0, 1) := by decide +kernel
theorem dJx4a65c_grow_92f84_11 : decode cJx4a65c_grow_92f84 11 = .ok (.getfield 9, 3) := by decide +kernel
theorem dJx4a65c_grow_92f84_14 : decode cJx4a65c_grow_92f84 14 = .ok (.getstatic 39, 3) := by decide +kernel
theorem dJx4a65c_grow_92f84_17 : decode cJx4a65c_grow_92f84 17 = .ok (.if_acmp .eq 28, 3) := by decide +kernel
theorem dJx4a65c_grow_92f84_20 : decode cJx4a65c_grow_92f84 20 = .ok (.iload_n 2, 1) := by decide +kernel
theorem dJx4a65c_grow_92f84_21 : decode cJx4a65c_grow_92f84 21 = .ok (.iload_n 1, 1) := by decide +kernel
theorem dJx4a65c_grow_92f84_22 : decode cJx4a65c_grow_92f84 22 = .ok (.iload_n 2, 1) := by decide +kernel
theorem dJx4a65c_grow_92f84_23 : decode cJx4a65c_grow_92f84 23 = .ok (.isub, 1) := by decide +kernel
theorem dJx4a65c_grow_92f84_24 : decode cJx4a65c_grow_92f84 24 = .ok (.iload_n 2, 1) := by decide +kernel
theorem dJx4a65c_grow_92f84_25 : decode cJx4a65c_grow_92f84 25 = .ok (.iconst 1, 1) := by decide +kernel
theorem dJx4a65c_grow_92f84_26 : decode cJx4a65c_grow_92f84 26 = .ok (.ishr, 1) := by decide +kernel
theorem dJx4a65c_grow_92f84_27 : decode cJx4a65c_grow_92f84 27 = .ok (.invokestatic 73, 3) := by decide +kernel
theorem dJx4a65c_grow_92f84_30 : decode cJx4a65c_grow_92f84 30 = .ok (.istore_n 3, 1) := by decide +kernel
theorem dJx4a65c_grow_92f84_31 : decode cJx4a65c_grow_92f84 31 = .ok (.aload_n 0, 1) := by decide +kernel
theorem dJx4a65c_grow_92f84_32 : decode cJx4a65c_grow_92f84 32 = .ok (.aload_n 0, 1) := by decide +kernel
theorem dJx4a65c_grow_92f84_33 : decode cJx4a65c_grow_92f84 33 = .ok (.getfield 9, 3) := by decide +kernel
theorem dJx4a65c_grow_92f84_36 : decode cJx4a65c_grow_92f84 36 = .ok (.iload_n 3, 1) := by decide +kernel
theorem dJx4a65c_grow_92f84_37 : decode cJx4a65c_grow_92f84 37 = .ok (.invokestatic 66, 3) := by decide +kernel
theorem dJx4a65c_grow_92f84_40 : decode cJx4a65c_grow_92f84 40 = .ok (.dup_x1, 1) := by decide +kernel
theorem dJx4a65c_grow_92f84_41 : decode cJx4a65c_grow_92f84 41 = .ok (.putfield 9, 3) := by decide +kernel
theorem dJx4a65c_grow_92f84_44 : decode cJx4a65c_grow_92f84 44 = .ok (.areturn, 1) := by decide +kernel
theorem dJx4a65c_grow_92f84_45 : decode cJx4a65c_grow_92f84 45 = .ok (.aload_n 0, 1) := by decide +kernel
theorem dJx4a65c_grow_92f84_46 : decode cJx4a65c_grow_92f84 46 = .ok (.bipush 10, 2) := by decide +kernel
theorem dJx4a65c_grow_92f84_48 : decode cJx4a65c_grow_92f84 48 = .ok (.iload_n 1, 1) := by decide +kernel
theorem dJx4a65c_grow_92f84_49 : decode cJx4a65c_grow_92f84 49 = .ok (.invokestatic 79, 3) := by decide +kernel
theorem dJx4a65c_grow_92f84_52 : decode cJx4a65c_grow_92f84 52 = .ok (.anewarray 7, 3) := by decide +kernel
theorem dJx4a65c_grow_92f84_55 : decode cJx4a65c_grow_92f84 55 = .ok (.dup_x1, 1) := by decide +kernel
theorem dJx4a65c_grow_92f84_56 : decode cJx4a65c_grow_92f84 56 = .ok (.putfield 9, 3) := by decide +kernel
theorem dJx4a65c_grow_92f84_59 : decode cJx4a65c_grow_92f84 59 = .ok (.areturn, 1) := by decide +kernel
theorem dJx4a65c_grow_d5877_0 : decode cJx4a65c_grow_d5877 0 = .ok (.aload_n 0, 1) := by decide +kernel
theorem dJx4a65c_grow_d5877_1 : decode cJx4a65c_grow_d5877 1 = .ok (.aload_n 0, 1) := by decide +kernel
theorem dJx4a65c_grow_d5877_2 : decode cJx4a65c_grow_d5877 2 = .ok (.getfield 48, 3) := by decide +kernel
theorem dJx4a65c_grow_d5877_5 : decode cJx4a65c_grow_d5877 5 = .ok (.iconst 1, 1) := by decide +kernel
theorem dJx4a65c_grow_d5877_6 : decode cJx4a65c_grow_d5877 6 = .ok (.iadd, 1) := by decide +kernel
theorem dJx4a65c_grow_d5877_7 : decode cJx4a65c_grow_d5877 7 = .ok (.invokevirtual 69, 3) := by decide +kernel
theorem dJx4a65c_grow_d5877_10 : decode cJx4a65c_grow_d5877 10 = .ok (.areturn, 1) := by decide +kernel
theorem dJx4a65c_size_8abf5_0 : decode cJx4a65c_size_8abf5 0 = .ok (.aload_n 0, 1) := by decide +kernel
theorem dJx4a65c_size_8abf5_1 : decode cJx4a65c_size_8abf5 1 = .ok (.getfield 48, 3) := by decide +kernel
theorem dJx4a65c_size_8abf5_4 : decode cJx4a65c_size_8abf5 4 = .ok (.ireturn, 1) := by decide +kernel
theorem dJx4a65c_elementData_915e3_0 : decode cJx4a65c_elementData_915e3 0 = .ok (.aload_n 0, 1) := by decide +kernel
theorem dJx4a65c_elementData_915e3_1 : decode cJx4a65c_elementData_915e3 1 = .ok (.getfield 9, 3) := by decide +kernel
theorem dJx4a65c_elementData_915e3_4 : decode cJx4a65c_elementData_915e3 4 = .ok (.iload_n 1, 1) := by decide +kernel
theorem dJx4a65c_elementData_915e3_5 : decode cJx4a65c_elementData_915e3 5 = .ok (.aaload, 1) := by decide +kernel
theorem dJx4a65c_elementData_915e3_6 : decode cJx4a65c_elementData_915e3 6 = .ok (.areturn, 1) := by decide +kernel
theorem dJx4a65c_get_915e3_0 : decode cJx4a65c_get_915e3 0 = .ok (.iload_n 1, 1) := by decide +kernel
theorem dJx4a65c_get_915e3_1 : decode cJx4a65c_get_915e3 1 = .ok (.aload_n 0, 1) := by decide +kernel
theorem dJx4a65c_get_915e3_2 : decode cJx4a65c_get_915e3 2 = .ok (.getfield 48, 3) := by decide +kernel
theorem dJx4a65c_get_915e3_5 : decode cJx4a65c_get_915e3 5 = .ok (.invokestatic 118, 3) := by decide +kernel
theorem dJx4a65c_get_915e3_8 : decode cJx4a65c_get_915e3 8 = .ok (.pop, 1) := by decide +kernel
theorem dJx4a65c_get_915e3_9 : decode cJx4a65c_get_915e3 9 = .ok (.aload_n 0, 1) := by decide +kernel
theorem dJx4a65c_get_915e3_10 : decode cJx4a65c_get_915e3 10 = .ok (.iload_n 1, 1) := by decide +kernel
theorem dJx4a65c_get_915e3_11 : decode cJx4a65c_get_915e3 11 = .ok (.invokevirtual 123, 3) := by decide +kernel
theorem dJx4a65c_get_915e3_14 : decode cJx4a65c_get_915e3 14 = .ok (.areturn, 1) := by decide +kernel
theorem dJx4a65c_add_72be8_0 : decode cJx4a65c_add_72be8 0 = .ok (.iload_n 3, 1) := by decide +kernel
theorem dJx4a65c_add_72be8_1 : decode cJx4a65c_add_72be8 1 = .ok (.aload_n 2, 1) := by decide +kernel
theorem dJx4a65c_add_72be8_2 : decode cJx4a65c_add_72be8 2 = .ok (.arraylength, 1) := by decide +kernel
theorem dJx4a65c_add_72be8_3 : decode cJx4a65c_add_72be8 3 = .ok (.if_icmp .ne 8, 3) := by decide +kernel
theorem dJx4a65c_add_72be8_6 : decode cJx4a65c_add_72be8 6 = .ok (.aload_n 0, 1) := by decide +kernel
theorem dJx4a65c_add_72be8_7 : decode cJx4a65c_add_72be8 7 = .ok (.invokevirtual 129, 3) := by decide +kernel
theorem dJx4a65c_add_72be8_10 : decode cJx4a65c_add_72be8 10 = .ok (.astore_n 2, 1) := by decide +kernel
theorem dJx4a65c_add_72be8_11 : decode cJx4a65c_add_72be8 11 = .ok (.aload_n 2, 1) := by decide +kernel
theorem dJx4a65c_add_72be8_12 : decode cJx4a65c_add_72be8 12 = .ok (.iload_n 3, 1) := by decide +kernel
theorem dJx4a65c_add_72be8_13 : decode cJx4a65c_add_72be8 13 = .ok (.aload_n 1, 1) := by decide +kernel
theorem dJx4a65c_add_72be8_14 : decode cJx4a65c_add_72be8 14 = .ok (.aastore, 1) := by decide +kernel
theorem dJx4a65c_add_72be8_15 : decode cJx4a65c_add_72be8 15 = .ok (.aload_n 0, 1) := by decide +kernel
theorem dJx4a65c_add_72be8_16 : decode cJx4a65c_add_72be8 16 = .ok (.iload_n 3, 1) := by decide +kernel
theorem dJx4a65c_add_72be8_17 : decode cJx4a65c_add_72be8 17 = .ok (.iconst 1, 1) := by decide +kernel
theorem dJx4a65c_add_72be8_18 : decode cJx4a65c_add_72be8 18 = .ok (.iadd, 1) := by decide +kernel
theorem dJx4a65c_add_72be8_19 : decode cJx4a65c_add_72be8 19 = .ok (.putfield 48, 3) := by decide +kernel
theorem dJx4a65c_add_72be8_22 : decode cJx4a65c_add_72be8 22 = .ok (.return_, 1) := by decide +kernel
theorem dJx4a65c_add_9ea2d_0 : decode cJx4a65c_add_9ea2d 0 = .ok (.aload_n 0, 1) := by decide +kernel
theorem dJx4a65c_add_9ea2d_1 : decode cJx4a65c_add_9ea2d 1 = .ok (.dup, 1) := by decide +kernel
theorem dJx4a65c_add_9ea2d_2 : decode cJx4a65c_add_9ea2d 2 = .ok (.getfield 63, 3) := by decide +kernel
theorem dJx4a65c_add_9ea2d_5 : decode cJx4a65c_add_9ea2d 5 = .ok (.iconst 1, 1) := by decide +kernel
theorem dJx4a65c_add_9ea2d_6 : decode cJx4a65c_add_9ea2d 6 = .ok (.iadd, 1) := by decide +kernel
theorem dJx4a65c_add_9ea2d_7 : decode cJx4a65c_add_9ea2d 7 = .ok (.putfield 63, 3) := by decide +kernel
theorem dJx4a65c_add_9ea2d_10 : decode cJx4a65c_add_9ea2d 10 = .ok (.aload_n 0, 1) := by decide +kernel
theorem dJx4a65c_add_9ea2d_11 : decode cJx4a65c_add_9ea2d 11 = .ok (.aload_n 1, 1) := by decide +kernel
theorem dJx4a65c_add_9ea2d_12 : decode cJx4a65c_add_9ea2d 12 = .ok (.aload_n 0, 1) := by decide +kernel
theorem dJx4a65c_add_9ea2d_13 : decode cJx4a65c_add_9ea2d 13 = .ok (.getfield 9, 3) := by decide +kernel
theorem dJx4a65c_add_9ea2d_16 : decode cJx4a65c_add_9ea2d 16 = .ok (.aload_n 0, 1) := by decide +kernel
theorem dJx4a65c_add_9ea2d_17 : decode cJx4a65c_add_9ea2d 17 = .ok (.getfield 48, 3) := by decide +kernel
theorem dJx4a65c_add_9ea2d_20 : decode cJx4a65c_add_9ea2d 20 = .ok (.invokevirtual 131, 3) := by decide +kernel
theorem dJx4a65c_add_9ea2d_23 : decode cJx4a65c_add_9ea2d 23 = .ok (.iconst 1, 1) := by decide +kernel
theorem dJx4a65c_add_9ea2d_24 : decode cJx4a65c_add_9ea2d 24 = .ok (.ireturn, 1) := by decide +kernel
theorem dJ7_copyOf_1904c_0 : decode cJ7_copyOf_1904c 0 = .ok (.aload_n 0, 1) := by decide +kernel
theorem dJ7_copyOf_1904c_1 : decode cJ7_copyOf_1904c 1 = .ok (.iload_n 1, 1) := by decide +kernel
theorem dJ7_copyOf_1904c_2 : decode cJ7_copyOf_1904c 2 = .ok (.aload_n 0, 1) := by decide +kernel
theorem dJ7_copyOf_1904c_3 : decode cJ7_copyOf_1904c 3 = .ok (.invokevirtual 86, 3) := by decide +kernel
theorem dJ7_copyOf_1904c_6 : decode cJ7_copyOf_1904c 6 = .ok (.invokestatic 300, 3) := by decide +kernel
theorem dJ7_copyOf_1904c_9 : decode cJ7_copyOf_1904c 9 = .ok (.areturn, 1) := by decide +kernel
theorem dJ7_copyOf_6403c_0 : decode cJ7_copyOf_6403c 0 = .ok (.aload_n 2, 1) := by decide +kernel
theorem dJ7_copyOf_6403c_1 : decode cJ7_copyOf_6403c 1 = .ok (.ldc 110, 2) := by decide +kernel
theorem dJ7_copyOf_6403c_3 : decode cJ7_copyOf_6403c 3 = .ok (.if_acmp .ne 10, 3) := by decide +kernel
theorem dJ7_copyOf_6403c_6 : decode cJ7_copyOf_6403c 6 = .ok (.iload_n 1, 1) := by decide +kernel
theorem dJ7_copyOf_6403c_7 : decode cJ7_copyOf_6403c 7 = .ok (.anewarray 2, 3) := by decide +kernel
theorem dJ7_copyOf_6403c_10 : decode cJ7_copyOf_6403c 10 = .ok (.goto 14, 3) := by decide +kernel
theorem dJ7_copyOf_6403c_13 : decode cJ7_copyOf_6403c 13 = .ok (.aload_n 2, 1) := by decide +kernel
theorem dJ7_copyOf_6403c_14 : decode cJ7_copyOf_6403c 14 = .ok (.invokevirtual 90, 3) := by decide +kernel
theorem dJ7_copyOf_6403c_17 : decode cJ7_copyOf_6403c 17 = .ok (.iload_n 1, 1) := by decide +kernel
theorem dJ7_copyOf_6403c_18 : decode cJ7_copyOf_6403c 18 = .ok (.invokestatic 95, 3) := by decide +kernel
theorem dJ7_copyOf_6403c_21 : decode cJ7_copyOf_6403c 21 = .ok (.checkcast 110, 3) := by decide +kernel
theorem dJ7_copyOf_6403c_24 : decode cJ7_copyOf_6403c 24 = .ok (.astore_n 3, 1) := by decide +kernel
theorem dJ7_copyOf_6403c_25 : decode cJ7_copyOf_6403c 25 = .ok (.aload_n 0, 1) := by decide +kernel
theorem dJ7_copyOf_6403c_26 : decode cJ7_copyOf_6403c 26 = .ok (.iconst 0, 1) := by decide +kernel
theorem dJ7_copyOf_6403c_27 : decode cJ7_copyOf_6403c 27 = .ok (.aload_n 3, 1) := by decide +kernel
theorem dJ7_copyOf_6403c_28 : decode cJ7_copyOf_6403c 28 = .ok (.iconst 0, 1) := by decide +kernel
theorem dJ7_copyOf_6403c_29 : decode cJ7_copyOf_6403c 29 = .ok (.aload_n 0, 1) := by decide +kernel
theorem dJ7_copyOf_6403c_30 : decode cJ7_copyOf_6403c 30 = .ok (.arraylength, 1) := by decide +kernel
theorem dJ7_copyOf_6403c_31 : decode cJ7_copyOf_6403c 31 = .ok (.iload_n 1, 1) := by decide +kernel
theorem dJ7_copyOf_6403c_32 : decode cJ7_copyOf_6403c 32 = .ok (.invokestatic 304, 3) := by decide +kernel
theorem dJ7_copyOf_6403c_35 : decode cJ7_copyOf_6403c 35 = .ok (.invokestatic 150, 3) := by decide +kernel
theorem dJ7_copyOf_6403c_38 : decode cJ7_copyOf_6403c 38 = .ok (.aload_n 3, 1) := by decide +kernel
theorem dJ7_copyOf_6403c_39 : decode cJ7_copyOf_6403c 39 = .ok (.areturn, 1) := by decide +kernel
theorem dJ15_checkIndex_7cf53_0 : decode cJ15_checkIndex_7cf53 0 = .ok (.iload_n 0, 1) := by decide +kernel
theorem dJ15_checkIndex_7cf53_1 : decode cJ15_checkIndex_7cf53 1 = .ok (.iload_n 1, 1) := by decide +kernel
theorem dJ15_checkIndex_7cf53_2 : decode cJ15_checkIndex_7cf53 2 = .ok (.aconst_null, 1) := by decide +kernel
theorem dJ15_checkIndex_7cf53_3 : decode cJ15_checkIndex_7cf53 3 = .ok (.invokestatic 105, 3) := by decide +kernel
theorem dJ15_checkIndex_7cf53_6 : decode cJ15_checkIndex_7cf53 6 = .ok (.ireturn, 1) := by decide +kernel
theorem dJ8_newLength_cabcc_0 : decode cJ8_newLength_cabcc 0 = .ok (.iload_n 0, 1) := by decide +kernel
theorem dJ8_newLength_cabcc_1 : decode cJ8_newLength_cabcc 1 = .ok (.iload_n 1, 1) := by decide +kernel
theorem dJ8_newLength_cabcc_2 : decode cJ8_newLength_cabcc 2 = .ok (.iload_n 2, 1) := by decide +kernel
theorem dJ8_newLength_cabcc_3 : decode cJ8_newLength_cabcc 3 = .ok (.invokestatic 194, 3) := by decide +kernel
theorem dJ8_newLength_cabcc_6 : decode cJ8_newLength_cabcc 6 = .ok (.iadd, 1) := by decide +kernel
theorem dJ8_newLength_cabcc_7 : decode cJ8_newLength_cabcc 7 = .ok (.istore_n 3, 1) := by decide +kernel
theorem dJ8_newLength_cabcc_8 : decode cJ8_newLength_cabcc 8 = .ok (.iconst 0, 1) := by decide +kernel
theorem dJ8_newLength_cabcc_9 : decode cJ8_newLength_cabcc 9 = .ok (.iload_n 3, 1) := by decide +kernel
theorem dJ8_newLength_cabcc_10 : decode cJ8_newLength_cabcc 10 = .ok (.if_icmp .ge 11, 3) := by decide +kernel
theorem dJ8_newLength_cabcc_13 : decode cJ8_newLength_cabcc 13 = .ok (.iload_n 3, 1) := by decide +kernel
theorem dJ8_newLength_cabcc_14 : decode cJ8_newLength_cabcc 14 = .ok (.ldc 200, 2) := by decide +kernel
theorem dJ8_newLength_cabcc_16 : decode cJ8_newLength_cabcc 16 = .ok (.if_icmp .gt 5, 3) := by decide +kernel
theorem dJ8_newLength_cabcc_19 : decode cJ8_newLength_cabcc 19 = .ok (.iload_n 3, 1) := by decide +kernel
theorem dJ8_newLength_cabcc_20 : decode cJ8_newLength_cabcc 20 = .ok (.ireturn, 1) := by decide +kernel
theorem dJ8_newLength_cabcc_21 : decode cJ8_newLength_cabcc 21 = .ok (.iload_n 0, 1) := by decide +kernel
theorem dJ8_newLength_cabcc_22 : decode cJ8_newLength_cabcc 22 = .ok (.iload_n 1, 1) := by decide +kernel
theorem dJ8_newLength_cabcc_23 : decode cJ8_newLength_cabcc 23 = .ok (.invokestatic 201, 3) := by decide +kernel
theorem dJ8_newLength_cabcc_26 : decode cJ8_newLength_cabcc 26 = .ok (.ireturn, 1) := by decide +kernel
theorem dJ8_hugeLength_7cf53_0 : decode cJ8_hugeLength_7cf53 0 = .ok (.iload_n 0, 1) := by decide +kernel
theorem dJ8_hugeLength_7cf53_1 : decode cJ8_hugeLength_7cf53 1 = .ok (.iload_n 1, 1) := by decide +kernel
theorem dJ8_hugeLength_7cf53_2 : decode cJ8_hugeLength_7cf53 2 = .ok (.iadd, 1) := by decide +kernel
theorem dJ8_hugeLength_7cf53_3 : decode cJ8_hugeLength_7cf53 3 = .ok (.istore_n 2, 1) := by decide +kernel
theorem dJ8_hugeLength_7cf53_4 : decode cJ8_hugeLength_7cf53 4 = .ok (.iload_n 2, 1) := by decide +kernel
theorem dJ8_hugeLength_7cf53_5 : decode cJ8_hugeLength_7cf53 5 = .ok (.ifCond .ge 44, 3) := by decide +kernel
theorem dJ8_hugeLength_7cf53_8 : decode cJ8_hugeLength_7cf53 8 = .ok (.new 204, 3) := by decide +kernel
theorem dJ8_hugeLength_7cf53_11 : decode cJ8_hugeLength_7cf53 11 = .ok (.dup, 1) := by decide +kernel
theorem dJ8_hugeLength_7cf53_12 : decode cJ8_hugeLength_7cf53 12 = .ok (.new 89, 3) := by decide +kernel
theorem dJ8_hugeLength_7cf53_15 : decode cJ8_hugeLength_7cf53 15 = .ok (.dup, 1) := by decide +kernel
theorem dJ8_hugeLength_7cf53_16 : decode cJ8_hugeLength_7cf53 16 = .ok (.invokespecial 91, 3) := by decide +kernel
theorem dJ8_hugeLength_7cf53_19 : decode cJ8_hugeLength_7cf53 19 = .ok (.ldc 206, 2) := by decide +kernel
theorem dJ8_hugeLength_7cf53_21 : decode cJ8_hugeLength_7cf53 21 = .ok (.invokevirtual 94, 3) := by decide +kernel
theorem dJ8_hugeLength_7cf53_24 : decode cJ8_hugeLength_7cf53 24 = .ok (.iload_n 0, 1) := by decide +kernel
theorem dJ8_hugeLength_7cf53_25 : decode cJ8_hugeLength_7cf53 25 = .ok (.invokevirtual 98, 3) := by decide +kernel
theorem dJ8_hugeLength_7cf53_28 : decode cJ8_hugeLength_7cf53 28 = .ok (.ldc 208, 2) := by decide +kernel
theorem dJ8_hugeLength_7cf53_30 : decode cJ8_hugeLength_7cf53 30 = .ok (.invokevirtual 94, 3) := by decide +kernel
theorem dJ8_hugeLength_7cf53_33 : decode cJ8_hugeLength_7cf53 33 = .ok (.iload_n 1, 1) := by decide +kernel
theorem dJ8_hugeLength_7cf53_34 : decode cJ8_hugeLength_7cf53 34 = .ok (.invokevirtual 98, 3) := by decide +kernel
theorem dJ8_hugeLength_7cf53_37 : decode cJ8_hugeLength_7cf53 37 = .ok (.ldc 210, 2) := by decide +kernel
theorem dJ8_hugeLength_7cf53_39 : decode cJ8_hugeLength_7cf53 39 = .ok (.invokevirtual 94, 3) := by decide +kernel
theorem dJ8_hugeLength_7cf53_42 : decode cJ8_hugeLength_7cf53 42 = .ok (.invokevirtual 101, 3) := by decide +kernel
theorem dJ8_hugeLength_7cf53_45 : decode cJ8_hugeLength_7cf53 45 = .ok (.invokespecial 212, 3) := by decide +kernel
theorem dJ8_hugeLength_7cf53_48 : decode cJ8_hugeLength_7cf53 48 = .ok (.athrow, 1) := by decide +kernel
theorem dJ8_hugeLength_7cf53_49 : decode cJ8_hugeLength_7cf53 49 = .ok (.iload_n 2, 1) := by decide +kernel
theorem dJ8_hugeLength_7cf53_50 : decode cJ8_hugeLength_7cf53 50 = .ok (.ldc 200, 2) := by decide +kernel
theorem dJ8_hugeLength_7cf53_52 : decode cJ8_hugeLength_7cf53 52 = .ok (.if_icmp .gt 6, 3) := by decide +kernel
theorem dJ8_hugeLength_7cf53_55 : decode cJ8_hugeLength_7cf53 55 = .ok (.ldc 200, 2) := by decide +kernel
theorem dJ8_hugeLength_7cf53_57 : decode cJ8_hugeLength_7cf53 57 = .ok (.ireturn, 1) := by decide +kernel
theorem dJ8_hugeLength_7cf53_58 : decode cJ8_hugeLength_7cf53 58 = .ok (.iload_n 2, 1) := by decide +kernel
theorem dJ8_hugeLength_7cf53_59 : decode cJ8_hugeLength_7cf53 59 = .ok (.ireturn, 1) := by decide +kernel
theorem dJ3_checkIndex_8e157_0 : decode cJ3_checkIndex_8e157 0 = .ok (.iload_n 0, 1) := by decide +kernel
theorem dJ3_checkIndex_8e157_1 : decode cJ3_checkIndex_8e157 1 = .ok (.ifCond .lt 8, 3) := by decide +kernel
theorem dJ3_checkIndex_8e157_4 : decode cJ3_checkIndex_8e157 4 = .ok (.iload_n 0, 1) := by decide +kernel
theorem dJ3_checkIndex_8e157_5 : decode cJ3_checkIndex_8e157 5 = .ok (.iload_n 1, 1) := by decide +kernel
theorem dJ3_checkIndex_8e157_6 : decode cJ3_checkIndex_8e157 6 = .ok (.if_icmp .lt 10, 3) := by decide +kernel
theorem dJ3_checkIndex_8e157_9 : decode cJ3_checkIndex_8e157 9 = .ok (.aload_n 2, 1) := by decide +kernel
theorem dJ3_checkIndex_8e157_10 : decode cJ3_checkIndex_8e157 10 = .ok (.iload_n 0, 1) := by decide +kernel
theorem dJ3_checkIndex_8e157_11 : decode cJ3_checkIndex_8e157 11 = .ok (.iload_n 1, 1) := by decide +kernel
theorem dJ3_checkIndex_8e157_12 : decode cJ3_checkIndex_8e157 12 = .ok (.invokestatic 95, 3) := by decide +kernel
theorem dJ3_checkIndex_8e157_15 : decode cJ3_checkIndex_8e157 15 = .ok (.athrow, 1) := by decide +kernel
theorem dJ3_checkIndex_8e157_16 : decode cJ3_checkIndex_8e157 16 = .ok (.iload_n 0, 1) := by decide +kernel
theorem dJ3_checkIndex_8e157_17 : decode cJ3_checkIndex_8e157 17 = .ok (.ireturn, 1) := by decide +kernel
theorem dL_give_0 : decode cL_give 0 = .ok (.aload 5, 2) := by decide +kernel
theorem dL_give_2 : decode cL_give 2 = .ok (.iconst 0, 1) := by decide +kernel
theorem dL_give_3 : decode cL_give 3 = .ok (.aload_n 0, 1) := by decide +kernel
theorem dL_give_4 : decode cL_give 4 = .ok (.iload_n 1, 1) := by decide +kernel
theorem dL_give_5 : decode cL_give 5 = .ok (.iload_n 2, 1) := by decide +kernel
theorem dL_give_6 : decode cL_give 6 = .ok (.iload_n 3, 1) := by decide +kernel
theorem dL_give_7 : decode cL_give 7 = .ok (.iload 4, 2) := by decide +kernel
theorem dL_give_9 : decode cL_give 9 = .ok (.invokevirtual 7, 3) := by decide +kernel
theorem dL_give_12 : decode cL_give 12 = .ok (.i2l, 1) := by decide +kernel
theorem dL_give_13 : decode cL_give 13 = .ok (.lastore, 1) := by decide +kernel
theorem dL_give_14 : decode cL_give 14 = .ok (.goto 11, 3) := by decide +kernel
theorem dL_give_17 : decode cL_give 17 = .ok (.astore 6, 2) := by decide +kernel
theorem dL_give_19 : decode cL_give 19 = .ok (.iconst 1, 1) := by decide +kernel
theorem dL_give_20 : decode cL_give 20 = .ok (.ireturn, 1) := by decide +kernel
theorem dL_give_21 : decode cL_give 21 = .ok (.astore 6, 2) := by decide +kernel
theorem dL_give_23 : decode cL_give 23 = .ok (.iconst 2, 1) := by decide +kernel
theorem dL_give_24 : decode cL_give 24 = .ok (.ireturn, 1) := by decide +kernel
theorem dL_give_25 : decode cL_give 25 = .ok (.iconst 0, 1) := by decide +kernel
theorem dL_give_26 : decode cL_give 26 = .ok (.ireturn, 1) := by decide +kernel
theorem dL_let_0 : decode cL_let 0 = .ok (.aload 7, 2) := by decide +kernel
theorem dL_let_2 : decode cL_let 2 = .ok (.iconst 0, 1) := by decide +kernel
theorem dL_let_3 : decode cL_let 3 = .ok (.aload_n 0, 1) := by decide +kernel
theorem dL_let_4 : decode cL_let 4 = .ok (.iload_n 1, 1) := by decide +kernel
theorem dL_let_5 : decode cL_let 5 = .ok (.iload_n 2, 1) := by decide +kernel
theorem dL_let_6 : decode cL_let 6 = .ok (.iload_n 3, 1) := by decide +kernel
theorem dL_let_7 : decode cL_let 7 = .ok (.iload 4, 2) := by decide +kernel
theorem dL_let_9 : decode cL_let 9 = .ok (.iload 5, 2) := by decide +kernel
theorem dL_let_11 : decode cL_let 11 = .ok (.iload 6, 2) := by decide +kernel
theorem dL_let_13 : decode cL_let 13 = .ok (.invokevirtual 17, 3) := by decide +kernel
theorem dL_let_16 : decode cL_let 16 = .ok (.i2l, 1) := by decide +kernel
theorem dL_let_17 : decode cL_let 17 = .ok (.lastore, 1) := by decide +kernel
theorem dL_let_18 : decode cL_let 18 = .ok (.goto 11, 3) := by decide +kernel
theorem dL_let_21 : decode cL_let 21 = .ok (.astore 8, 2) := by decide +kernel
theorem dL_let_23 : decode cL_let 23 = .ok (.iconst 1, 1) := by decide +kernel
theorem dL_let_24 : decode cL_let 24 = .ok (.ireturn, 1) := by decide +kernel
theorem dL_let_25 : decode cL_let 25 = .ok (.astore 8, 2) := by decide +kernel
theorem dL_let_27 : decode cL_let 27 = .ok (.iconst 2, 1) := by decide +kernel
theorem dL_let_28 : decode cL_let 28 = .ok (.ireturn, 1) := by decide +kernel
theorem dL_let_29 : decode cL_let 29 = .ok (.iconst 0, 1) := by decide +kernel
theorem dL_let_30 : decode cL_let 30 = .ok (.ireturn, 1) := by decide +kernel
theorem dL_ownerOf_0 : decode cL_ownerOf 0 = .ok (.aload_n 3, 1) := by decide +kernel
theorem dL_ownerOf_1 : decode cL_ownerOf 1 = .ok (.iconst 0, 1) := by decide +kernel
theorem dL_ownerOf_2 : decode cL_ownerOf 2 = .ok (.aload_n 0, 1) := by decide +kernel
theorem dL_ownerOf_3 : decode cL_ownerOf 3 = .ok (.iload_n 1, 1) := by decide +kernel
theorem dL_ownerOf_4 : decode cL_ownerOf 4 = .ok (.iload_n 2, 1) := by decide +kernel
theorem dL_ownerOf_5 : decode cL_ownerOf 5 = .ok (.invokevirtual 23, 3) := by decide +kernel
theorem dL_ownerOf_8 : decode cL_ownerOf 8 = .ok (.i2l, 1) := by decide +kernel
theorem dL_ownerOf_9 : decode cL_ownerOf 9 = .ok (.lastore, 1) := by decide +kernel
theorem dL_ownerOf_10 : decode cL_ownerOf 10 = .ok (.goto 7, 3) := by decide +kernel
theorem dL_ownerOf_13 : decode cL_ownerOf 13 = .ok (.astore 4, 2) := by decide +kernel
theorem dL_ownerOf_15 : decode cL_ownerOf 15 = .ok (.iconst 1, 1) := by decide +kernel
theorem dL_ownerOf_16 : decode cL_ownerOf 16 = .ok (.ireturn, 1) := by decide +kernel
theorem dL_ownerOf_17 : decode cL_ownerOf 17 = .ok (.iconst 0, 1) := by decide +kernel
theorem dL_ownerOf_18 : decode cL_ownerOf 18 = .ok (.ireturn, 1) := by decide +kernel
theorem dL_reads_0 : decode cL_reads 0 = .ok (.aload 4, 2) := by decide +kernel
theorem dL_reads_2 : decode cL_reads 2 = .ok (.iconst 0, 1) := by decide +kernel
theorem dL_reads_3 : decode cL_reads 3 = .ok (.aload_n 0, 1) := by decide +kernel
theorem dL_reads_4 : decode cL_reads 4 = .ok (.iload_n 1, 1) := by decide +kernel
theorem dL_reads_5 : decode cL_reads 5 = .ok (.iload_n 2, 1) := by decide +kernel
theorem dL_reads_6 : decode cL_reads 6 = .ok (.iload_n 3, 1) := by decide +kernel
theorem dL_reads_7 : decode cL_reads 7 = .ok (.invokevirtual 27, 3) := by decide +kernel
theorem dL_reads_10 : decode cL_reads 10 = .ok (.ifCond .eq 7, 3) := by decide +kernel
theorem dL_reads_13 : decode cL_reads 13 = .ok (.lconst 1, 1) := by decide +kernel
theorem dL_reads_14 : decode cL_reads 14 = .ok (.goto 4, 3) := by decide +kernel
theorem dL_reads_17 : decode cL_reads 17 = .ok (.lconst 0, 1) := by decide +kernel
theorem dL_reads_18 : decode cL_reads 18 = .ok (.lastore, 1) := by decide +kernel
theorem dL_reads_19 : decode cL_reads 19 = .ok (.goto 7, 3) := by decide +kernel
theorem dL_reads_22 : decode cL_reads 22 = .ok (.astore 5, 2) := by decide +kernel
theorem dL_reads_24 : decode cL_reads 24 = .ok (.iconst 1, 1) := by decide +kernel
theorem dL_reads_25 : decode cL_reads 25 = .ok (.ireturn, 1) := by decide +kernel
theorem dL_reads_26 : decode cL_reads 26 = .ok (.iconst 0, 1) := by decide +kernel
theorem dL_reads_27 : decode cL_reads 27 = .ok (.ireturn, 1) := by decide +kernel
theorem dL_word_0 : decode cL_word 0 = .ok (.aload 4, 2) := by decide +kernel
theorem dL_word_2 : decode cL_word 2 = .ok (.iconst 0, 1) := by decide +kernel
theorem dL_word_3 : decode cL_word 3 = .ok (.aload_n 0, 1) := by decide +kernel
theorem dL_word_4 : decode cL_word 4 = .ok (.iload_n 1, 1) := by decide +kernel
theorem dL_word_5 : decode cL_word 5 = .ok (.iload_n 2, 1) := by decide +kernel
theorem dL_word_6 : decode cL_word 6 = .ok (.iload_n 3, 1) := by decide +kernel
theorem dL_word_7 : decode cL_word 7 = .ok (.invokevirtual 31, 3) := by decide +kernel
theorem dL_word_10 : decode cL_word 10 = .ok (.i2l, 1) := by decide +kernel
theorem dL_word_11 : decode cL_word 11 = .ok (.lastore, 1) := by decide +kernel
theorem dL_word_12 : decode cL_word 12 = .ok (.goto 11, 3) := by decide +kernel
theorem dL_word_15 : decode cL_word 15 = .ok (.astore 5, 2) := by decide +kernel
theorem dL_word_17 : decode cL_word 17 = .ok (.iconst 1, 1) := by decide +kernel
theorem dL_word_18 : decode cL_word 18 = .ok (.ireturn, 1) := by decide +kernel
theorem dL_word_19 : decode cL_word 19 = .ok (.astore 5, 2) := by decide +kernel
theorem dL_word_21 : decode cL_word 21 = .ok (.iconst 2, 1) := by decide +kernel
theorem dL_word_22 : decode cL_word 22 = .ok (.ireturn, 1) := by decide +kernel
theorem dL_word_23 : decode cL_word 23 = .ok (.iconst 0, 1) := by decide +kernel
theorem dL_word_24 : decode cL_word 24 = .ok (.ireturn, 1) := by decide +kernel
theorem dL_enter_0 : decode cL_enter 0 = .ok (.aload 4, 2) := by decide +kernel
theorem dL_enter_2 : decode cL_enter 2 = .ok (.iconst 0, 1) := by decide +kernel
theorem dL_enter_3 : decode cL_enter 3 = .ok (.aload_n 0, 1) := by decide +kernel
theorem dL_enter_4 : decode cL_enter 4 = .ok (.iload_n 1, 1) := by decide +kernel
theorem dL_enter_5 : decode cL_enter 5 = .ok (.iload_n 2, 1) := by decide +kernel
theorem dL_enter_6 : decode cL_enter 6 = .ok (.iload_n 3, 1) := by decide +kernel
theorem dL_enter_7 : decode cL_enter 7 = .ok (.invokevirtual 35, 3) := by decide +kernel
theorem dL_enter_10 : decode cL_enter 10 = .ok (.i2l, 1) := by decide +kernel
theorem dL_enter_11 : decode cL_enter 11 = .ok (.lastore, 1) := by decide +kernel
theorem dL_enter_12 : decode cL_enter 12 = .ok (.goto 11, 3) := by decide +kernel
theorem dL_enter_15 : decode cL_enter 15 = .ok (.astore 5, 2) := by decide +kernel
theorem dL_enter_17 : decode cL_enter 17 = .ok (.iconst 1, 1) := by decide +kernel
theorem dL_enter_18 : decode cL_enter 18 = .ok (.ireturn, 1) := by decide +kernel
theorem dL_enter_19 : decode cL_enter 19 = .ok (.astore 5, 2) := by decide +kernel
theorem dL_enter_21 : decode cL_enter 21 = .ok (.iconst 2, 1) := by decide +kernel
theorem dL_enter_22 : decode cL_enter 22 = .ok (.ireturn, 1) := by decide +kernel
theorem dL_enter_23 : decode cL_enter 23 = .ok (.iconst 0, 1) := by decide +kernel
theorem dL_enter_24 : decode cL_enter 24 = .ok (.ireturn, 1) := by decide +kernel
theorem dL_empty_0 : decode cL_empty 0 = .ok (.aload 4, 2) := by decide +kernel
theorem dL_empty_2 : decode cL_empty 2 = .ok (.iconst 0, 1) := by decide +kernel
theorem dL_empty_3 : decode cL_empty 3 = .ok (.aload_n 0, 1) := by decide +kernel
theorem dL_empty_4 : decode cL_empty 4 = .ok (.iload_n 1, 1) := by decide +kernel
theorem dL_empty_5 : decode cL_empty 5 = .ok (.iload_n 2, 1) := by decide +kernel
theorem dL_empty_6 : decode cL_empty 6 = .ok (.iload_n 3, 1) := by decide +kernel
theorem dL_empty_7 : decode cL_empty 7 = .ok (.invokevirtual 38, 3) := by decide +kernel
theorem dL_empty_10 : decode cL_empty 10 = .ok (.i2l, 1) := by decide +kernel
theorem dL_empty_11 : decode cL_empty 11 = .ok (.lastore, 1) := by decide +kernel
theorem dL_empty_12 : decode cL_empty 12 = .ok (.goto 11, 3) := by decide +kernel
theorem dL_empty_15 : decode cL_empty 15 = .ok (.astore 5, 2) := by decide +kernel
theorem dL_empty_17 : decode cL_empty 17 = .ok (.iconst 1, 1) := by decide +kernel
theorem dL_empty_18 : decode cL_empty 18 = .ok (.ireturn, 1) := by decide +kernel
theorem dL_empty_19 : decode cL_empty 19 = .ok (.astore 5, 2) := by decide +kernel
theorem dL_empty_21 : decode cL_empty 21 = .ok (.iconst 2, 1) := by decide +kernel
theorem dL_empty_22 : decode cL_empty 22 = .ok (.ireturn, 1) := by decide +kernel
theorem dL_empty_23 : decode cL_empty 23 = .ok (.iconst 0, 1) := by decide +kernel
theorem dL_empty_24 : decode cL_empty 24 = .ok (.ireturn, 1) := by decide +kernel
theorem dL_notice_0 : decode cL_notice 0 = .ok (.aload_n 3, 1) := by decide +kernel
theorem dL_notice_1 : decode cL_notice 1 = .ok (.iconst 0, 1) := by decide +kernel
theorem dL_notice_2 : decode cL_notice 2 = .ok (.aload_n 0, 1) := by decide +kernel
theorem dL_notice_3 : decode cL_notice 3 = .ok (.iload_n 1, 1) := by decide +kernel
theorem dL_notice_4 : decode cL_notice 4 = .ok (.iload_n 2, 1) := by decide +kernel
theorem dL_notice_5 : decode cL_notice 5 = .ok (.invokevirtual 41, 3) := by decide +kernel
theorem dL_notice_8 : decode cL_notice 8 = .ok (.i2l, 1) := by decide +kernel
theorem dL_notice_9 : decode cL_notice 9 = .ok (.lastore, 1) := by decide +kernel
theorem dL_notice_10 : decode cL_notice 10 = .ok (.goto 11, 3) := by decide +kernel
theorem dL_notice_13 : decode cL_notice 13 = .ok (.astore 4, 2) := by decide +kernel
theorem dL_notice_15 : decode cL_notice 15 = .ok (.iconst 1, 1) := by decide +kernel
theorem dL_notice_16 : decode cL_notice 16 = .ok (.ireturn, 1) := by decide +kernel
theorem dL_notice_17 : decode cL_notice 17 = .ok (.astore 4, 2) := by decide +kernel
theorem dL_notice_19 : decode cL_notice 19 = .ok (.iconst 2, 1) := by decide +kernel
theorem dL_notice_20 : decode cL_notice 20 = .ok (.ireturn, 1) := by decide +kernel
theorem dL_notice_21 : decode cL_notice 21 = .ok (.iconst 0, 1) := by decide +kernel
theorem dL_notice_22 : decode cL_notice 22 = .ok (.ireturn, 1) := by decide +kernel
theorem dL_value_0 : decode cL_value 0 = .ok (.aload 4, 2) := by decide +kernel
theorem dL_value_2 : decode cL_value 2 = .ok (.iconst 0, 1) := by decide +kernel
theorem dL_value_3 : decode cL_value 3 = .ok (.aload_n 0, 1) := by decide +kernel
theorem dL_value_4 : decode cL_value 4 = .ok (.iload_n 1, 1) := by decide +kernel
theorem dL_value_5 : decode cL_value 5 = .ok (.iload_n 2, 1) := by decide +kernel
theorem dL_value_6 : decode cL_value 6 = .ok (.iload_n 3, 1) := by decide +kernel
theorem dL_value_7 : decode cL_value 7 = .ok (.invokevirtual 44, 3) := by decide +kernel
theorem dL_value_10 : decode cL_value 10 = .ok (.i2l, 1) := by decide +kernel
theorem dL_value_11 : decode cL_value 11 = .ok (.lastore, 1) := by decide +kernel
theorem dL_value_12 : decode cL_value 12 = .ok (.goto 11, 3) := by decide +kernel
theorem dL_value_15 : decode cL_value 15 = .ok (.astore 5, 2) := by decide +kernel
theorem dL_value_17 : decode cL_value 17 = .ok (.iconst 1, 1) := by decide +kernel
theorem dL_value_18 : decode cL_value 18 = .ok (.ireturn, 1) := by decide +kernel
theorem dL_value_19 : decode cL_value 19 = .ok (.astore 5, 2) := by decide +kernel
theorem dL_value_21 : decode cL_value 21 = .ok (.iconst 2, 1) := by decide +kernel
theorem dL_value_22 : decode cL_value 22 = .ok (.ireturn, 1) := by decide +kernel
theorem dL_value_23 : decode cL_value 23 = .ok (.iconst 0, 1) := by decide +kernel
theorem dL_value_24 : decode cL_value 24 = .ok (.ireturn, 1) := by decide +kernel
theorem dL_fault_0 : decode cL_fault 0 = .ok (.aload 4, 2) := by decide +kernel
theorem dL_fault_2 : decode cL_fault 2 = .ok (.iconst 0, 1) := by decide +kernel
theorem dL_fault_3 : decode cL_fault 3 = .ok (.aload_n 0, 1) := by decide +kernel
theorem dL_fault_4 : decode cL_fault 4 = .ok (.iload_n 1, 1) := by decide +kernel
theorem dL_fault_5 : decode cL_fault 5 = .ok (.iload_n 2, 1) := by decide +kernel
theorem dL_fault_6 : decode cL_fault 6 = .ok (.iload_n 3, 1) := by decide +kernel
theorem dL_fault_7 : decode cL_fault 7 = .ok (.invokevirtual 47, 3) := by decide +kernel
theorem dL_fault_10 : decode cL_fault 10 = .ok (.i2l, 1) := by decide +kernel
theorem dL_fault_11 : decode cL_fault 11 = .ok (.lastore, 1) := by decide +kernel
theorem dL_fault_12 : decode cL_fault 12 = .ok (.goto 11, 3) := by decide +kernel
theorem dL_fault_15 : decode cL_fault 15 = .ok (.astore 5, 2) := by decide +kernel
theorem dL_fault_17 : decode cL_fault 17 = .ok (.iconst 1, 1) := by decide +kernel
theorem dL_fault_18 : decode cL_fault 18 = .ok (.ireturn, 1) := by decide +kernel
theorem dL_fault_19 : decode cL_fault 19 = .ok (.astore 5, 2) := by decide +kernel
theorem dL_fault_21 : decode cL_fault 21 = .ok (.iconst 2, 1) := by decide +kernel
theorem dL_fault_22 : decode cL_fault 22 = .ok (.ireturn, 1) := by decide +kernel
theorem dL_fault_23 : decode cL_fault 23 = .ok (.iconst 0, 1) := by decide +kernel
theorem dL_fault_24 : decode cL_fault 24 = .ok (.ireturn, 1) := by decide +kernel
theorem dL_edits_0 : decode cL_edits 0 = .ok (.aload_n 3, 1) := by decide +kernel
theorem dL_edits_1 : decode cL_edits 1 = .ok (.iconst 0, 1) := by decide +kernel
theorem dL_edits_2 : decode cL_edits 2 = .ok (.aload_n 0, 1) := by decide +kernel
theorem dL_edits_3 : decode cL_edits 3 = .ok (.iload_n 1, 1) := by decide +kernel
theorem dL_edits_4 : decode cL_edits 4 = .ok (.iload_n 2, 1) := by decide +kernel
theorem dL_edits_5 : decode cL_edits 5 = .ok (.invokevirtual 50, 3) := by decide +kernel
theorem dL_edits_8 : decode cL_edits 8 = .ok (.i2l, 1) := by decide +kernel
theorem dL_edits_9 : decode cL_edits 9 = .ok (.lastore, 1) := by decide +kernel
theorem dL_edits_10 : decode cL_edits 10 = .ok (.goto 7, 3) := by decide +kernel
theorem dL_edits_13 : decode cL_edits 13 = .ok (.astore 4, 2) := by decide +kernel
theorem dL_edits_15 : decode cL_edits 15 = .ok (.iconst 1, 1) := by decide +kernel
theorem dL_edits_16 : decode cL_edits 16 = .ok (.ireturn, 1) := by decide +kernel
theorem dL_edits_17 : decode cL_edits 17 = .ok (.iconst 0, 1) := by decide +kernel
theorem dL_edits_18 : decode cL_edits 18 = .ok (.ireturn, 1) := by decide +kernel
theorem dL_edit_0 : decode cL_edit 0 = .ok (.aload 5, 2) := by decide +kernel
theorem dL_edit_2 : decode cL_edit 2 = .ok (.iconst 0, 1) := by decide +kernel
theorem dL_edit_3 : decode cL_edit 3 = .ok (.aload_n 0, 1) := by decide +kernel
theorem dL_edit_4 : decode cL_edit 4 = .ok (.iload_n 1, 1) := by decide +kernel
theorem dL_edit_5 : decode cL_edit 5 = .ok (.iload_n 2, 1) := by decide +kernel
theorem dL_edit_6 : decode cL_edit 6 = .ok (.iload_n 3, 1) := by decide +kernel
theorem dL_edit_7 : decode cL_edit 7 = .ok (.iload 4, 2) := by decide +kernel
theorem dL_edit_9 : decode cL_edit 9 = .ok (.invokevirtual 53, 3) := by decide +kernel
theorem dL_edit_12 : decode cL_edit 12 = .ok (.i2l, 1) := by decide +kernel
theorem dL_edit_13 : decode cL_edit 13 = .ok (.lastore, 1) := by decide +kernel
theorem dL_edit_14 : decode cL_edit 14 = .ok (.goto 11, 3) := by decide +kernel
theorem dL_edit_17 : decode cL_edit 17 = .ok (.astore 6, 2) := by decide +kernel
theorem dL_edit_19 : decode cL_edit 19 = .ok (.iconst 1, 1) := by decide +kernel
theorem dL_edit_20 : decode cL_edit 20 = .ok (.ireturn, 1) := by decide +kernel
theorem dL_edit_21 : decode cL_edit 21 = .ok (.astore 6, 2) := by decide +kernel
theorem dL_edit_23 : decode cL_edit 23 = .ok (.iconst 2, 1) := by decide +kernel
theorem dL_edit_24 : decode cL_edit 24 = .ok (.ireturn, 1) := by decide +kernel
theorem dL_edit_25 : decode cL_edit 25 = .ok (.iconst 0, 1) := by decide +kernel
theorem dL_edit_26 : decode cL_edit 26 = .ok (.ireturn, 1) := by decide +kernel
theorem dL_bid_0 : decode cL_bid 0 = .ok (.aload 6, 2) := by decide +kernel
theorem dL_bid_2 : decode cL_bid 2 = .ok (.iconst 0, 1) := by decide +kernel
theorem dL_bid_3 : decode cL_bid 3 = .ok (.aload_n 0, 1) := by decide +kernel
theorem dL_bid_4 : decode cL_bid 4 = .ok (.iload_n 1, 1) := by decide +kernel
theorem dL_bid_5 : decode cL_bid 5 = .ok (.iload_n 2, 1) := by decide +kernel
theorem dL_bid_6 : decode cL_bid 6 = .ok (.iload_n 3, 1) := by decide +kernel
theorem dL_bid_7 : decode cL_bid 7 = .ok (.iload 4, 2) := by decide +kernel
theorem dL_bid_9 : decode cL_bid 9 = .ok (.iload 5, 2) := by decide +kernel
theorem dL_bid_11 : decode cL_bid 11 = .ok (.invokevirtual 56, 3) := by decide +kernel
theorem dL_bid_14 : decode cL_bid 14 = .ok (.i2l, 1) := by decide +kernel
theorem dL_bid_15 : decode cL_bid 15 = .ok (.lastore, 1) := by decide +kernel
theorem dL_bid_16 : decode cL_bid 16 = .ok (.goto 15, 3) := by decide +kernel
theorem dL_bid_19 : decode cL_bid 19 = .ok (.astore 7, 2) := by decide +kernel
theorem dL_bid_21 : decode cL_bid 21 = .ok (.iconst 1, 1) := by decide +kernel
theorem dL_bid_22 : decode cL_bid 22 = .ok (.ireturn, 1) := by decide +kernel
theorem dL_bid_23 : decode cL_bid 23 = .ok (.astore 7, 2) := by decide +kernel
theorem dL_bid_25 : decode cL_bid 25 = .ok (.iconst 2, 1) := by decide +kernel
theorem dL_bid_26 : decode cL_bid 26 = .ok (.ireturn, 1) := by decide +kernel
theorem dL_bid_27 : decode cL_bid 27 = .ok (.astore 7, 2) := by decide +kernel
theorem dL_bid_29 : decode cL_bid 29 = .ok (.iconst 3, 1) := by decide +kernel
theorem dL_bid_30 : decode cL_bid 30 = .ok (.ireturn, 1) := by decide +kernel
theorem dL_bid_31 : decode cL_bid 31 = .ok (.iconst 0, 1) := by decide +kernel
theorem dL_bid_32 : decode cL_bid 32 = .ok (.ireturn, 1) := by decide +kernel
theorem dL_withdraw_0 : decode cL_withdraw 0 = .ok (.aload_n 3, 1) := by decide +kernel
theorem dL_withdraw_1 : decode cL_withdraw 1 = .ok (.iconst 0, 1) := by decide +kernel
theorem dL_withdraw_2 : decode cL_withdraw 2 = .ok (.aload_n 0, 1) := by decide +kernel
theorem dL_withdraw_3 : decode cL_withdraw 3 = .ok (.iload_n 1, 1) := by decide +kernel
theorem dL_withdraw_4 : decode cL_withdraw 4 = .ok (.iload_n 2, 1) := by decide +kernel
theorem dL_withdraw_5 : decode cL_withdraw 5 = .ok (.invokevirtual 60, 3) := by decide +kernel
theorem dL_withdraw_8 : decode cL_withdraw 8 = .ok (.i2l, 1) := by decide +kernel
theorem dL_withdraw_9 : decode cL_withdraw 9 = .ok (.lastore, 1) := by decide +kernel
theorem dL_withdraw_10 : decode cL_withdraw 10 = .ok (.goto 11, 3) := by decide +kernel
theorem dL_withdraw_13 : decode cL_withdraw 13 = .ok (.astore 4, 2) := by decide +kernel
theorem dL_withdraw_15 : decode cL_withdraw 15 = .ok (.iconst 1, 1) := by decide +kernel
theorem dL_withdraw_16 : decode cL_withdraw 16 = .ok (.ireturn, 1) := by decide +kernel
theorem dL_withdraw_17 : decode cL_withdraw 17 = .ok (.astore 4, 2) := by decide +kernel
theorem dL_withdraw_19 : decode cL_withdraw 19 = .ok (.iconst 2, 1) := by decide +kernel
theorem dL_withdraw_20 : decode cL_withdraw 20 = .ok (.ireturn, 1) := by decide +kernel
theorem dL_withdraw_21 : decode cL_withdraw 21 = .ok (.iconst 0, 1) := by decide +kernel
theorem dL_withdraw_22 : decode cL_withdraw 22 = .ok (.ireturn, 1) := by decide +kernel
theorem dL_share_0 : decode cL_share 0 = .ok (.aload_n 3, 1) := by decide +kernel
theorem dL_share_1 : decode cL_share 1 = .ok (.iconst 0, 1) := by decide +kernel
theorem dL_share_2 : decode cL_share 2 = .ok (.aload_n 0, 1) := by decide +kernel
theorem dL_share_3 : decode cL_share 3 = .ok (.iload_n 1, 1) := by decide +kernel
theorem dL_share_4 : decode cL_share 4 = .ok (.iload_n 2, 1) := by decide +kernel
theorem dL_share_5 : decode cL_share 5 = .ok (.invokevirtual 63, 3) := by decide +kernel
theorem dL_share_8 : decode cL_share 8 = .ok (.ifCond .eq 7, 3) := by decide +kernel
theorem dL_share_11 : decode cL_share 11 = .ok (.lconst 1, 1) := by decide +kernel
theorem dL_share_12 : decode cL_share 12 = .ok (.goto 4, 3) := by decide +kernel
theorem dL_share_15 : decode cL_share 15 = .ok (.lconst 0, 1) := by decide +kernel
theorem dL_share_16 : decode cL_share 16 = .ok (.lastore, 1) := by decide +kernel
theorem dL_share_17 : decode cL_share 17 = .ok (.goto 7, 3) := by decide +kernel
theorem dL_share_20 : decode cL_share 20 = .ok (.astore 4, 2) := by decide +kernel
theorem dL_share_22 : decode cL_share 22 = .ok (.iconst 1, 1) := by decide +kernel
theorem dL_share_23 : decode cL_share 23 = .ok (.ireturn, 1) := by decide +kernel
theorem dL_share_24 : decode cL_share 24 = .ok (.iconst 0, 1) := by decide +kernel
theorem dL_share_25 : decode cL_share 25 = .ok (.ireturn, 1) := by decide +kernel
theorem dL_bell_0 : decode cL_bell 0 = .ok (.aload_n 2, 1) := by decide +kernel
theorem dL_bell_1 : decode cL_bell 1 = .ok (.iconst 0, 1) := by decide +kernel
theorem dL_bell_2 : decode cL_bell 2 = .ok (.aload_n 0, 1) := by decide +kernel
theorem dL_bell_3 : decode cL_bell 3 = .ok (.iload_n 1, 1) := by decide +kernel
theorem dL_bell_4 : decode cL_bell 4 = .ok (.invokevirtual 67, 3) := by decide +kernel
theorem dL_bell_7 : decode cL_bell 7 = .ok (.i2l, 1) := by decide +kernel
theorem dL_bell_8 : decode cL_bell 8 = .ok (.lastore, 1) := by decide +kernel
theorem dL_bell_9 : decode cL_bell 9 = .ok (.goto 9, 3) := by decide +kernel
theorem dL_bell_12 : decode cL_bell 12 = .ok (.astore_n 3, 1) := by decide +kernel
theorem dL_bell_13 : decode cL_bell 13 = .ok (.iconst 1, 1) := by decide +kernel
theorem dL_bell_14 : decode cL_bell 14 = .ok (.ireturn, 1) := by decide +kernel
theorem dL_bell_15 : decode cL_bell 15 = .ok (.astore_n 3, 1) := by decide +kernel
theorem dL_bell_16 : decode cL_bell 16 = .ok (.iconst 2, 1) := by decide +kernel
theorem dL_bell_17 : decode cL_bell 17 = .ok (.ireturn, 1) := by decide +kernel
theorem dL_bell_18 : decode cL_bell 18 = .ok (.iconst 0, 1) := by decide +kernel
theorem dL_bell_19 : decode cL_bell 19 = .ok (.ireturn, 1) := by decide +kernel
theorem dL_isFrozen_0 : decode cL_isFrozen 0 = .ok (.aload_n 2, 1) := by decide +kernel
theorem dL_isFrozen_1 : decode cL_isFrozen 1 = .ok (.iconst 0, 1) := by decide +kernel
theorem dL_isFrozen_2 : decode cL_isFrozen 2 = .ok (.aload_n 0, 1) := by decide +kernel
theorem dL_isFrozen_3 : decode cL_isFrozen 3 = .ok (.iload_n 1, 1) := by decide +kernel
theorem dL_isFrozen_4 : decode cL_isFrozen 4 = .ok (.invokevirtual 71, 3) := by decide +kernel
theorem dL_isFrozen_7 : decode cL_isFrozen 7 = .ok (.ifCond .eq 7, 3) := by decide +kernel
theorem dL_isFrozen_10 : decode cL_isFrozen 10 = .ok (.lconst 1, 1) := by decide +kernel
theorem dL_isFrozen_11 : decode cL_isFrozen 11 = .ok (.goto 4, 3) := by decide +kernel
theorem dL_isFrozen_14 : decode cL_isFrozen 14 = .ok (.lconst 0, 1) := by decide +kernel
theorem dL_isFrozen_15 : decode cL_isFrozen 15 = .ok (.lastore, 1) := by decide +kernel
theorem dL_isFrozen_16 : decode cL_isFrozen 16 = .ok (.goto 6, 3) := by decide +kernel
theorem dL_isFrozen_19 : decode cL_isFrozen 19 = .ok (.astore_n 3, 1) := by decide +kernel
theorem dL_isFrozen_20 : decode cL_isFrozen 20 = .ok (.iconst 1, 1) := by decide +kernel
theorem dL_isFrozen_21 : decode cL_isFrozen 21 = .ok (.ireturn, 1) := by decide +kernel
theorem dL_isFrozen_22 : decode cL_isFrozen 22 = .ok (.iconst 0, 1) := by decide +kernel
theorem dL_isFrozen_23 : decode cL_isFrozen 23 = .ok (.ireturn, 1) := by decide +kernel
theorem dL_round_0 : decode cL_round 0 = .ok (.aload_n 3, 1) := by decide +kernel
theorem dL_round_1 : decode cL_round 1 = .ok (.iconst 0, 1) := by decide +kernel
theorem dL_round_2 : decode cL_round 2 = .ok (.aload_n 0, 1) := by decide +kernel
theorem dL_round_3 : decode cL_round 3 = .ok (.iload_n 1, 1) := by decide +kernel
theorem dL_round_4 : decode cL_round 4 = .ok (.iload_n 2, 1) := by decide +kernel
theorem dL_round_5 : decode cL_round 5 = .ok (.invokevirtual 75, 3) := by decide +kernel
theorem dL_round_8 : decode cL_round 8 = .ok (.i2l, 1) := by decide +kernel
theorem dL_round_9 : decode cL_round 9 = .ok (.lastore, 1) := by decide +kernel
theorem dL_round_10 : decode cL_round 10 = .ok (.goto 11, 3) := by decide +kernel
theorem dL_round_13 : decode cL_round 13 = .ok (.astore 4, 2) := by decide +kernel
theorem dL_round_15 : decode cL_round 15 = .ok (.iconst 1, 1) := by decide +kernel
theorem dL_round_16 : decode cL_round 16 = .ok (.ireturn, 1) := by decide +kernel
theorem dL_round_17 : decode cL_round 17 = .ok (.astore 4, 2) := by decide +kernel
theorem dL_round_19 : decode cL_round 19 = .ok (.iconst 2, 1) := by decide +kernel
theorem dL_round_20 : decode cL_round 20 = .ok (.ireturn, 1) := by decide +kernel
theorem dL_round_21 : decode cL_round 21 = .ok (.iconst 0, 1) := by decide +kernel
theorem dL_round_22 : decode cL_round 22 = .ok (.ireturn, 1) := by decide +kernel
theorem dL_priceAnew_0 : decode cL_priceAnew 0 = .ok (.aload_n 2, 1) := by decide +kernel
theorem dL_priceAnew_1 : decode cL_priceAnew 1 = .ok (.iconst 0, 1) := by decide +kernel
theorem dL_priceAnew_2 : decode cL_priceAnew 2 = .ok (.aload_n 0, 1) := by decide +kernel
theorem dL_priceAnew_3 : decode cL_priceAnew 3 = .ok (.iload_n 1, 1) := by decide +kernel
theorem dL_priceAnew_4 : decode cL_priceAnew 4 = .ok (.invokevirtual 78, 3) := by decide +kernel
theorem dL_priceAnew_7 : decode cL_priceAnew 7 = .ok (.i2l, 1) := by decide +kernel
theorem dL_priceAnew_8 : decode cL_priceAnew 8 = .ok (.lastore, 1) := by decide +kernel
theorem dL_priceAnew_9 : decode cL_priceAnew 9 = .ok (.goto 6, 3) := by decide +kernel
theorem dL_priceAnew_12 : decode cL_priceAnew 12 = .ok (.astore_n 3, 1) := by decide +kernel
theorem dL_priceAnew_13 : decode cL_priceAnew 13 = .ok (.iconst 1, 1) := by decide +kernel
theorem dL_priceAnew_14 : decode cL_priceAnew 14 = .ok (.ireturn, 1) := by decide +kernel
theorem dL_priceAnew_15 : decode cL_priceAnew 15 = .ok (.iconst 0, 1) := by decide +kernel
theorem dL_priceAnew_16 : decode cL_priceAnew 16 = .ok (.ireturn, 1) := by decide +kernel
theorem dL_got_0 : decode cL_got 0 = .ok (.aload_n 2, 1) := by decide +kernel
theorem dL_got_1 : decode cL_got 1 = .ok (.iconst 0, 1) := by decide +kernel
theorem dL_got_2 : decode cL_got 2 = .ok (.aload_n 0, 1) := by decide +kernel
theorem dL_got_3 : decode cL_got 3 = .ok (.iload_n 1, 1) := by decide +kernel
theorem dL_got_4 : decode cL_got 4 = .ok (.invokevirtual 81, 3) := by decide +kernel
theorem dL_got_7 : decode cL_got 7 = .ok (.i2l, 1) := by decide +kernel
theorem dL_got_8 : decode cL_got 8 = .ok (.lastore, 1) := by decide +kernel
theorem dL_got_9 : decode cL_got 9 = .ok (.goto 6, 3) := by decide +kernel
theorem dL_got_12 : decode cL_got 12 = .ok (.astore_n 3, 1) := by decide +kernel
theorem dL_got_13 : decode cL_got 13 = .ok (.iconst 1, 1) := by decide +kernel
theorem dL_got_14 : decode cL_got 14 = .ok (.ireturn, 1) := by decide +kernel
theorem dL_got_15 : decode cL_got 15 = .ok (.iconst 0, 1) := by decide +kernel
theorem dL_got_16 : decode cL_got 16 = .ok (.ireturn, 1) := by decide +kernel
theorem dL_due_0 : decode cL_due 0 = .ok (.aload_n 3, 1) := by decide +kernel
theorem dL_due_1 : decode cL_due 1 = .ok (.iconst 0, 1) := by decide +kernel
theorem dL_due_2 : decode cL_due 2 = .ok (.aload_n 0, 1) := by decide +kernel
theorem dL_due_3 : decode cL_due 3 = .ok (.iload_n 1, 1) := by decide +kernel
theorem dL_due_4 : decode cL_due 4 = .ok (.iload_n 2, 1) := by decide +kernel
theorem dL_due_5 : decode cL_due 5 = .ok (.invokevirtual 84, 3) := by decide +kernel
theorem dL_due_8 : decode cL_due 8 = .ok (.i2l, 1) := by decide +kernel
theorem dL_due_9 : decode cL_due 9 = .ok (.lastore, 1) := by decide +kernel
theorem dL_due_10 : decode cL_due 10 = .ok (.goto 7, 3) := by decide +kernel
theorem dL_due_13 : decode cL_due 13 = .ok (.astore 4, 2) := by decide +kernel
theorem dL_due_15 : decode cL_due 15 = .ok (.iconst 1, 1) := by decide +kernel
theorem dL_due_16 : decode cL_due 16 = .ok (.ireturn, 1) := by decide +kernel
theorem dL_due_17 : decode cL_due 17 = .ok (.iconst 0, 1) := by decide +kernel
theorem dL_due_18 : decode cL_due 18 = .ok (.ireturn, 1) := by decide +kernel
theorem dL_settle_0 : decode cL_settle 0 = .ok (.aload_n 2, 1) := by decide +kernel
theorem dL_settle_1 : decode cL_settle 1 = .ok (.iconst 0, 1) := by decide +kernel
theorem dL_settle_2 : decode cL_settle 2 = .ok (.aload_n 0, 1) := by decide +kernel
theorem dL_settle_3 : decode cL_settle 3 = .ok (.iload_n 1, 1) := by decide +kernel
theorem dL_settle_4 : decode cL_settle 4 = .ok (.invokevirtual 87, 3) := by decide +kernel
theorem dL_settle_7 : decode cL_settle 7 = .ok (.i2l, 1) := by decide +kernel
theorem dL_settle_8 : decode cL_settle 8 = .ok (.lastore, 1) := by decide +kernel
theorem dL_settle_9 : decode cL_settle 9 = .ok (.goto 6, 3) := by decide +kernel
theorem dL_settle_12 : decode cL_settle 12 = .ok (.astore_n 3, 1) := by decide +kernel
theorem dL_settle_13 : decode cL_settle 13 = .ok (.iconst 1, 1) := by decide +kernel
theorem dL_settle_14 : decode cL_settle 14 = .ok (.ireturn, 1) := by decide +kernel
theorem dL_settle_15 : decode cL_settle 15 = .ok (.iconst 0, 1) := by decide +kernel
theorem dL_settle_16 : decode cL_settle 16 = .ok (.ireturn, 1) := by decide +kernel
theorem dL_cash_0 : decode cL_cash 0 = .ok (.aload_n 2, 1) := by decide +kernel
theorem dL_cash_1 : decode cL_cash 1 = .ok (.iconst 0, 1) := by decide +kernel
theorem dL_cash_2 : decode cL_cash 2 = .ok (.aload_n 0, 1) := by decide +kernel
theorem dL_cash_3 : decode cL_cash 3 = .ok (.iload_n 1, 1) := by decide +kernel
theorem dL_cash_4 : decode cL_cash 4 = .ok (.invokevirtual 90, 3) := by decide +kernel
theorem dL_cash_7 : decode cL_cash 7 = .ok (.i2l, 1) := by decide +kernel
theorem dL_cash_8 : decode cL_cash 8 = .ok (.lastore, 1) := by decide +kernel
theorem dL_cash_9 : decode cL_cash 9 = .ok (.goto 6, 3) := by decide +kernel
theorem dL_cash_12 : decode cL_cash 12 = .ok (.astore_n 3, 1) := by decide +kernel
theorem dL_cash_13 : decode cL_cash 13 = .ok (.iconst 1, 1) := by decide +kernel
theorem dL_cash_14 : decode cL_cash 14 = .ok (.ireturn, 1) := by decide +kernel
theorem dL_cash_15 : decode cL_cash 15 = .ok (.iconst 0, 1) := by decide +kernel
theorem dL_cash_16 : decode cL_cash 16 = .ok (.ireturn, 1) := by decide +kernel
theorem dL_limit_0 : decode cL_limit 0 = .ok (.aload_n 3, 1) := by decide +kernel
theorem dL_limit_1 : decode cL_limit 1 = .ok (.iconst 0, 1) := by decide +kernel
theorem dL_limit_2 : decode cL_limit 2 = .ok (.aload_n 0, 1) := by decide +kernel
theorem dL_limit_3 : decode cL_limit 3 = .ok (.iload_n 1, 1) := by decide +kernel
theorem dL_limit_4 : decode cL_limit 4 = .ok (.iload_n 2, 1) := by decide +kernel
theorem dL_limit_5 : decode cL_limit 5 = .ok (.invokevirtual 93, 3) := by decide +kernel
theorem dL_limit_8 : decode cL_limit 8 = .ok (.i2l, 1) := by decide +kernel
theorem dL_limit_9 : decode cL_limit 9 = .ok (.lastore, 1) := by decide +kernel
theorem dL_limit_10 : decode cL_limit 10 = .ok (.goto 11, 3) := by decide +kernel
theorem dL_limit_13 : decode cL_limit 13 = .ok (.astore 4, 2) := by decide +kernel
theorem dL_limit_15 : decode cL_limit 15 = .ok (.iconst 1, 1) := by decide +kernel
theorem dL_limit_16 : decode cL_limit 16 = .ok (.ireturn, 1) := by decide +kernel
theorem dL_limit_17 : decode cL_limit 17 = .ok (.astore 4, 2) := by decide +kernel
theorem dL_limit_19 : decode cL_limit 19 = .ok (.iconst 2, 1) := by decide +kernel
theorem dL_limit_20 : decode cL_limit 20 = .ok (.ireturn, 1) := by decide +kernel
theorem dL_limit_21 : decode cL_limit 21 = .ok (.iconst 0, 1) := by decide +kernel
theorem dL_limit_22 : decode cL_limit 22 = .ok (.ireturn, 1) := by decide +kernel
theorem dL_exposure_0 : decode cL_exposure 0 = .ok (.aload_n 2, 1) := by decide +kernel
theorem dL_exposure_1 : decode cL_exposure 1 = .ok (.iconst 0, 1) := by decide +kernel
theorem dL_exposure_2 : decode cL_exposure 2 = .ok (.aload_n 0, 1) := by decide +kernel
theorem dL_exposure_3 : decode cL_exposure 3 = .ok (.iload_n 1, 1) := by decide +kernel
theorem dL_exposure_4 : decode cL_exposure 4 = .ok (.invokevirtual 96, 3) := by decide +kernel
theorem dL_exposure_7 : decode cL_exposure 7 = .ok (.i2l, 1) := by decide +kernel
theorem dL_exposure_8 : decode cL_exposure 8 = .ok (.lastore, 1) := by decide +kernel
theorem dL_exposure_9 : decode cL_exposure 9 = .ok (.goto 6, 3) := by decide +kernel
theorem dL_exposure_12 : decode cL_exposure 12 = .ok (.astore_n 3, 1) := by decide +kernel
theorem dL_exposure_13 : decode cL_exposure 13 = .ok (.iconst 1, 1) := by decide +kernel
theorem dL_exposure_14 : decode cL_exposure 14 = .ok (.ireturn, 1) := by decide +kernel
theorem dL_exposure_15 : decode cL_exposure 15 = .ok (.iconst 0, 1) := by decide +kernel
theorem dL_exposure_16 : decode cL_exposure 16 = .ok (.ireturn, 1) := by decide +kernel
theorem dL_strikeBid_0 : decode cL_strikeBid 0 = .ok (.aload_n 2, 1) := by decide +kernel
theorem dL_strikeBid_1 : decode cL_strikeBid 1 = .ok (.iconst 0, 1) := by decide +kernel
theorem dL_strikeBid_2 : decode cL_strikeBid 2 = .ok (.aload_n 0, 1) := by decide +kernel
theorem dL_strikeBid_3 : decode cL_strikeBid 3 = .ok (.iload_n 1, 1) := by decide +kernel
theorem dL_strikeBid_4 : decode cL_strikeBid 4 = .ok (.invokevirtual 99, 3) := by decide +kernel
theorem dL_strikeBid_7 : decode cL_strikeBid 7 = .ok (.i2l, 1) := by decide +kernel
theorem dL_strikeBid_8 : decode cL_strikeBid 8 = .ok (.lastore, 1) := by decide +kernel
theorem dL_strikeBid_9 : decode cL_strikeBid 9 = .ok (.goto 9, 3) := by decide +kernel
theorem dL_strikeBid_12 : decode cL_strikeBid 12 = .ok (.astore_n 3, 1) := by decide +kernel
theorem dL_strikeBid_13 : decode cL_strikeBid 13 = .ok (.iconst 1, 1) := by decide +kernel
theorem dL_strikeBid_14 : decode cL_strikeBid 14 = .ok (.ireturn, 1) := by decide +kernel
theorem dL_strikeBid_15 : decode cL_strikeBid 15 = .ok (.astore_n 3, 1) := by decide +kernel
theorem dL_strikeBid_16 : decode cL_strikeBid 16 = .ok (.iconst 2, 1) := by decide +kernel
theorem dL_strikeBid_17 : decode cL_strikeBid 17 = .ok (.ireturn, 1) := by decide +kernel
theorem dL_strikeBid_18 : decode cL_strikeBid 18 = .ok (.iconst 0, 1) := by decide +kernel
theorem dL_strikeBid_19 : decode cL_strikeBid 19 = .ok (.ireturn, 1) := by decide +kernel
theorem dL_strikeEdit_0 : decode cL_strikeEdit 0 = .ok (.aload_n 2, 1) := by decide +kernel
theorem dL_strikeEdit_1 : decode cL_strikeEdit 1 = .ok (.iconst 0, 1) := by decide +kernel
theorem dL_strikeEdit_2 : decode cL_strikeEdit 2 = .ok (.aload_n 0, 1) := by decide +kernel
theorem dL_strikeEdit_3 : decode cL_strikeEdit 3 = .ok (.iload_n 1, 1) := by decide +kernel
theorem dL_strikeEdit_4 : decode cL_strikeEdit 4 = .ok (.invokevirtual 102, 3) := by decide +kernel
theorem dL_strikeEdit_7 : decode cL_strikeEdit 7 = .ok (.i2l, 1) := by decide +kernel
theorem dL_strikeEdit_8 : decode cL_strikeEdit 8 = .ok (.lastore, 1) := by decide +kernel
theorem dL_strikeEdit_9 : decode cL_strikeEdit 9 = .ok (.goto 9, 3) := by decide +kernel
theorem dL_strikeEdit_12 : decode cL_strikeEdit 12 = .ok (.astore_n 3, 1) := by decide +kernel
theorem dL_strikeEdit_13 : decode cL_strikeEdit 13 = .ok (.iconst 1, 1) := by decide +kernel
theorem dL_strikeEdit_14 : decode cL_strikeEdit 14 = .ok (.ireturn, 1) := by decide +kernel
theorem dL_strikeEdit_15 : decode cL_strikeEdit 15 = .ok (.astore_n 3, 1) := by decide +kernel
theorem dL_strikeEdit_16 : decode cL_strikeEdit 16 = .ok (.iconst 2, 1) := by decide +kernel
theorem dL_strikeEdit_17 : decode cL_strikeEdit 17 = .ok (.ireturn, 1) := by decide +kernel
theorem dL_strikeEdit_18 : decode cL_strikeEdit 18 = .ok (.iconst 0, 1) := by decide +kernel
theorem dL_strikeEdit_19 : decode cL_strikeEdit 19 = .ok (.ireturn, 1) := by decide +kernel
theorem dL_law_0 : decode cL_law 0 = .ok (.new 8, 3) := by decide +kernel
theorem dL_law_3 : decode cL_law 3 = .ok (.dup, 1) := by decide +kernel
theorem dL_law_4 : decode cL_law 4 = .ok (.invokespecial 105, 3) := by decide +kernel
theorem dL_law_7 : decode cL_law 7 = .ok (.astore_n 1, 1) := by decide +kernel
theorem dL_law_8 : decode cL_law 8 = .ok (.new 106, 3) := by decide +kernel
theorem dL_law_11 : decode cL_law 11 = .ok (.dup, 1) := by decide +kernel
theorem dL_law_12 : decode cL_law 12 = .ok (.invokespecial 108, 3) := by decide +kernel
theorem dL_law_15 : decode cL_law 15 = .ok (.astore_n 2, 1) := by decide +kernel
theorem dL_law_16 : decode cL_law 16 = .ok (.iconst 1, 1) := by decide +kernel
theorem dL_law_17 : decode cL_law 17 = .ok (.newarray .long, 2) := by decide +kernel
theorem dL_law_19 : decode cL_law 19 = .ok (.astore_n 3, 1) := by decide +kernel
theorem dL_law_20 : decode cL_law 20 = .ok (.iconst 0, 1) := by decide +kernel
theorem dL_law_21 : decode cL_law 21 = .ok (.istore 4, 2) := by decide +kernel
theorem dL_law_23 : decode cL_law 23 = .ok (.iload 4, 2) := by decide +kernel
theorem dL_law_25 : decode cL_law 25 = .ok (.aload_n 0, 1) := by decide +kernel
theorem dL_law_26 : decode cL_law 26 = .ok (.arraylength, 1) := by decide +kernel
theorem dL_law_27 : decode cL_law 27 = .ok (.bipush 7, 2) := by decide +kernel
theorem dL_law_29 : decode cL_law 29 = .ok (.isub, 1) := by decide +kernel
theorem dL_law_30 : decode cL_law 30 = .ok (.if_icmp .gt 2177, 3) := by decide +kernel
theorem dL_law_33 : decode cL_law 33 = .ok (.aload_n 0, 1) := by decide +kernel
theorem dL_law_34 : decode cL_law 34 = .ok (.iload 4, 2) := by decide +kernel
theorem dL_law_36 : decode cL_law 36 = .ok (.iaload, 1) := by decide +kernel
theorem dL_law_37 : decode cL_law 37 = .ok (.bipush 31, 2) := by decide +kernel
theorem dL_law_39 : decode cL_law 39 = .ok (.iand, 1) := by decide +kernel
theorem dL_law_40 : decode cL_law 40 = .ok (.tableswitch 2161 0 28 #[132, 224, 358, 426, 513, 593, 606, 686, 766, 834, 914, 994, 1062, 1154, 1274, 1342, 1433, 1489, 1552, 1620, 1676, 1732, 1800, 1856, 1912, 1980, 2036, 2092, 2148], 132) := by decide +kernel
theorem dL_law_172 : decode cL_law 172 = .ok (.aload_n 1, 1) := by decide +kernel
theorem dL_law_173 : decode cL_law 173 = .ok (.aload_n 0, 1) := by decide +kernel
theorem dL_law_174 : decode cL_law 174 = .ok (.iload 4, 2) := by decide +kernel
theorem dL_law_176 : decode cL_law 176 = .ok (.iconst 1, 1) := by decide +kernel
theorem dL_law_177 : decode cL_law 177 = .ok (.iadd, 1) := by decide +kernel
theorem dL_law_178 : decode cL_law 178 = .ok (.iaload, 1) := by decide +kernel
theorem dL_law_179 : decode cL_law 179 = .ok (.aload_n 0, 1) := by decide +kernel
theorem dL_law_180 : decode cL_law 180 = .ok (.iload 4, 2) := by decide +kernel
theorem dL_law_182 : decode cL_law 182 = .ok (.iconst 2, 1) := by decide +kernel
theorem dL_law_183 : decode cL_law 183 = .ok (.iadd, 1) := by decide +kernel
theorem dL_law_184 : decode cL_law 184 = .ok (.iaload, 1) := by decide +kernel
theorem dL_law_185 : decode cL_law 185 = .ok (.aload_n 0, 1) := by decide +kernel
theorem dL_law_186 : decode cL_law 186 = .ok (.iload 4, 2) := by decide +kernel
theorem dL_law_188 : decode cL_law 188 = .ok (.iconst 3, 1) := by decide +kernel
theorem dL_law_189 : decode cL_law 189 = .ok (.iadd, 1) := by decide +kernel
theorem dL_law_190 : decode cL_law 190 = .ok (.iaload, 1) := by decide +kernel
theorem dL_law_191 : decode cL_law 191 = .ok (.aload_n 0, 1) := by decide +kernel
theorem dL_law_192 : decode cL_law 192 = .ok (.iload 4, 2) := by decide +kernel
theorem dL_law_194 : decode cL_law 194 = .ok (.iconst 4, 1) := by decide +kernel
theorem dL_law_195 : decode cL_law 195 = .ok (.iadd, 1) := by decide +kernel
theorem dL_law_196 : decode cL_law 196 = .ok (.iaload, 1) := by decide +kernel
theorem dL_law_197 : decode cL_law 197 = .ok (.aload_n 3, 1) := by decide +kernel
theorem dL_law_198 : decode cL_law 198 = .ok (.invokestatic 109, 3) := by decide +kernel
theorem dL_law_201 : decode cL_law 201 = .ok (.istore 5, 2) := by decide +kernel
theorem dL_law_203 : decode cL_law 203 = .ok (.aload_n 2, 1) := by decide +kernel
theorem dL_law_204 : decode cL_law 204 = .ok (.aload_n 0, 1) := by decide +kernel
theorem dL_law_205 : decode cL_law 205 = .ok (.iload 4, 2) := by decide +kernel
theorem dL_law_207 : decode cL_law 207 = .ok (.iconst 1, 1) := by decide +kernel
theorem dL_law_208 : decode cL_law 208 = .ok (.iadd, 1) := by decide +kernel
theorem dL_law_209 : decode cL_law 209 = .ok (.iaload, 1) := by decide +kernel
theorem dL_law_210 : decode cL_law 210 = .ok (.aload_n 0, 1) := by decide +kernel
theorem dL_law_211 : decode cL_law 211 = .ok (.iload 4, 2) := by decide +kernel
theorem dL_law_213 : decode cL_law 213 = .ok (.iconst 2, 1) := by decide +kernel
theorem dL_law_214 : decode cL_law 214 = .ok (.iadd, 1) := by decide +kernel
theorem dL_law_215 : decode cL_law 215 = .ok (.iaload, 1) := by decide +kernel
theorem dL_law_216 : decode cL_law 216 = .ok (.aload_n 0, 1) := by decide +kernel
theorem dL_law_217 : decode cL_law 217 = .ok (.iload 4, 2) := by decide +kernel
theorem dL_law_219 : decode cL_law 219 = .ok (.iconst 3, 1) := by decide +kernel
theorem dL_law_220 : decode cL_law 220 = .ok (.iadd, 1) := by decide +kernel
theorem dL_law_221 : decode cL_law 221 = .ok (.iaload, 1) := by decide +kernel
theorem dL_law_222 : decode cL_law 222 = .ok (.aload_n 0, 1) := by decide +kernel
theorem dL_law_223 : decode cL_law 223 = .ok (.iload 4, 2) := by decide +kernel
theorem dL_law_225 : decode cL_law 225 = .ok (.iconst 4, 1) := by decide +kernel
theorem dL_law_226 : decode cL_law 226 = .ok (.iadd, 1) := by decide +kernel
theorem dL_law_227 : decode cL_law 227 = .ok (.iaload, 1) := by decide +kernel
theorem dL_law_228 : decode cL_law 228 = .ok (.invokevirtual 114, 3) := by decide +kernel
theorem dL_law_231 : decode cL_law 231 = .ok (.istore 6, 2) := by decide +kernel
theorem dL_law_233 : decode cL_law 233 = .ok (.aload_n 2, 1) := by decide +kernel
theorem dL_law_234 : decode cL_law 234 = .ok (.invokevirtual 115, 3) := by decide +kernel
theorem dL_law_237 : decode cL_law 237 = .ok (.iload 5, 2) := by decide +kernel
theorem dL_law_239 : decode cL_law 239 = .ok (.if_icmp .eq 5, 3) := by decide +kernel
theorem dL_law_242 : decode cL_law 242 = .ok (.iconst 0, 1) := by decide +kernel
theorem dL_law_243 : decode cL_law 243 = .ok (.ireturn, 1) := by decide +kernel
theorem dL_law_244 : decode cL_law 244 = .ok (.iload 5, 2) := by decide +kernel
theorem dL_law_246 : decode cL_law 246 = .ok (.ifCond .ne 15, 3) := by decide +kernel
theorem dL_law_249 : decode cL_law 249 = .ok (.aload_n 3, 1) := by decide +kernel
theorem dL_law_250 : decode cL_law 250 = .ok (.iconst 0, 1) := by decide +kernel
theorem dL_law_251 : decode cL_law 251 = .ok (.laload, 1) := by decide +kernel
theorem dL_law_252 : decode cL_law 252 = .ok (.iload 6, 2) := by decide +kernel
theorem dL_law_254 : decode cL_law 254 = .ok (.i2l, 1) := by decide +kernel
theorem dL_law_255 : decode cL_law 255 = .ok (.lcmp, 1) := by decide +kernel
theorem dL_law_256 : decode cL_law 256 = .ok (.ifCond .eq 5, 3) := by decide +kernel
theorem dL_law_259 : decode cL_law 259 = .ok (.iconst 0, 1) := by decide +kernel
theorem dL_law_260 : decode cL_law 260 = .ok (.ireturn, 1) := by decide +kernel
theorem dL_law_261 : decode cL_law 261 = .ok (.goto 1940, 3) := by decide +kernel
theorem dL_law_264 : decode cL_law 264 = .ok (.aload_n 1, 1) := by decide +kernel
theorem dL_law_265 : decode cL_law 265 = .ok (.aload_n 0, 1) := by decide +kernel
theorem dL_law_266 : decode cL_law 266 = .ok (.iload 4, 2) := by decide +kernel
theorem dL_law_268 : decode cL_law 268 = .ok (.iconst 1, 1) := by decide +kernel
theorem dL_law_269 : decode cL_law 269 = .ok (.iadd, 1) := by decide +kernel
theorem dL_law_270 : decode cL_law 270 = .ok (.iaload, 1) := by decide +kernel
theorem dL_law_271 : decode cL_law 271 = .ok (.aload_n 0, 1) := by decide +kernel
theorem dL_law_272 : decode cL_law 272 = .ok (.iload 4, 2) := by decide +kernel
theorem dL_law_274 : decode cL_law 274 = .ok (.iconst 2, 1) := by decide +kernel
theorem dL_law_275 : decode cL_law 275 = .ok (.iadd, 1) := by decide +kernel
theorem dL_law_276 : decode cL_law 276 = .ok (.iaload, 1) := by decide +kernel
theorem dL_law_277 : decode cL_law 277 = .ok (.aload_n 0, 1) := by decide +kernel
theorem dL_law_278 : decode cL_law 278 = .ok (.iload 4, 2) := by decide +kernel
theorem dL_law_280 : decode cL_law 280 = .ok (.iconst 3, 1) := by decide +kernel
theorem dL_law_281 : decode cL_law 281 = .ok (.iadd, 1) := by decide +kernel
theorem dL_law_282 : decode cL_law 282 = .ok (.iaload, 1) := by decide +kernel
theorem dL_law_283 : decode cL_law 283 = .ok (.aload_n 0, 1) := by decide +kernel
theorem dL_law_284 : decode cL_law 284 = .ok (.iload 4, 2) := by decide +kernel
theorem dL_law_286 : decode cL_law 286 = .ok (.iconst 4, 1) := by decide +kernel
theorem dL_law_287 : decode cL_law 287 = .ok (.iadd, 1) := by decide +kernel
theorem dL_law_288 : decode cL_law 288 = .ok (.iaload, 1) := by decide +kernel
theorem dL_law_289 : decode cL_law 289 = .ok (.aload_n 0, 1) := by decide +kernel
theorem dL_law_290 : decode cL_law 290 = .ok (.iload 4, 2) := by decide +kernel
theorem dL_law_292 : decode cL_law 292 = .ok (.iconst 5, 1) := by decide +kernel
theorem dL_law_293 : decode cL_law 293 = .ok (.iadd, 1) := by decide +kernel
theorem dL_law_294 : decode cL_law 294 = .ok (.iaload, 1) := by decide +kernel
theorem dL_law_295 : decode cL_law 295 = .ok (.aload_n 0, 1) := by decide +kernel
theorem dL_law_296 : decode cL_law 296 = .ok (.iload 4, 2) := by decide +kernel
theorem dL_law_298 : decode cL_law 298 = .ok (.bipush 6, 2) := by decide +kernel
theorem dL_law_300 : decode cL_law 300 = .ok (.iadd, 1) := by decide +kernel
theorem dL_law_301 : decode cL_law 301 = .ok (.iaload, 1) := by decide +kernel
theorem dL_law_302 : decode cL_law 302 = .ok (.ifCond .eq 7, 3) := by decide +kernel
theorem dL_law_305 : decode cL_law 305 = .ok (.iconst 1, 1) := by decide +kernel
theorem dL_law_306 : decode cL_law 306 = .ok (.goto 4, 3) := by decide +kernel
theorem dL_law_309 : decode cL_law 309 = .ok (.iconst 0, 1) := by decide +kernel
theorem dL_law_310 : decode cL_law 310 = .ok (.aload_n 3, 1) := by decide +kernel
theorem dL_law_311 : decode cL_law 311 = .ok (.invokestatic 119, 3) := by decide +kernel
theorem dL_law_314 : decode cL_law 314 = .ok (.istore 5, 2) := by decide +kernel
theorem dL_law_316 : decode cL_law 316 = .ok (.aload_n 2, 1) := by decide +kernel
theorem dL_law_317 : decode cL_law 317 = .ok (.aload_n 0, 1) := by decide +kernel
theorem dL_law_318 : decode cL_law 318 = .ok (.iload 4, 2) := by decide +kernel
theorem dL_law_320 : decode cL_law 320 = .ok (.iconst 1, 1) := by decide +kernel
theorem dL_law_321 : decode cL_law 321 = .ok (.iadd, 1) := by decide +kernel
theorem dL_law_322 : decode cL_law 322 = .ok (.iaload, 1) := by decide +kernel
theorem dL_law_323 : decode cL_law 323 = .ok (.aload_n 0, 1) := by decide +kernel
theorem dL_law_324 : decode cL_law 324 = .ok (.iload 4, 2) := by decide +kernel
theorem dL_law_326 : decode cL_law 326 = .ok (.iconst 2, 1) := by decide +kernel
theorem dL_law_327 : decode cL_law 327 = .ok (.iadd, 1) := by decide +kernel
theorem dL_law_328 : decode cL_law 328 = .ok (.iaload, 1) := by decide +kernel
theorem dL_law_329 : decode cL_law 329 = .ok (.aload_n 0, 1) := by decide +kernel
theorem dL_law_330 : decode cL_law 330 = .ok (.iload 4, 2) := by decide +kernel
theorem dL_law_332 : decode cL_law 332 = .ok (.iconst 3, 1) := by decide +kernel
theorem dL_law_333 : decode cL_law 333 = .ok (.iadd, 1) := by decide +kernel
theorem dL_law_334 : decode cL_law 334 = .ok (.iaload, 1) := by decide +kernel
theorem dL_law_335 : decode cL_law 335 = .ok (.aload_n 0, 1) := by decide +kernel
theorem dL_law_336 : decode cL_law 336 = .ok (.iload 4, 2) := by decide +kernel
theorem dL_law_338 : decode cL_law 338 = .ok (.iconst 4, 1) := by decide +kernel
theorem dL_law_339 : decode cL_law 339 = .ok (.iadd, 1) := by decide +kernel
theorem dL_law_340 : decode cL_law 340 = .ok (.iaload, 1) := by decide +kernel
theorem dL_law_341 : decode cL_law 341 = .ok (.aload_n 0, 1) := by decide +kernel
theorem dL_law_342 : decode cL_law 342 = .ok (.iload 4, 2) := by decide +kernel
theorem dL_law_344 : decode cL_law 344 = .ok (.iconst 5, 1) := by decide +kernel
theorem dL_law_345 : decode cL_law 345 = .ok (.iadd, 1) := by decide +kernel
theorem dL_law_346 : decode cL_law 346 = .ok (.iaload, 1) := by decide +kernel
theorem dL_law_347 : decode cL_law 347 = .ok (.aload_n 0, 1) := by decide +kernel
theorem dL_law_348 : decode cL_law 348 = .ok (.iload 4, 2) := by decide +kernel
theorem dL_law_350 : decode cL_law 350 = .ok (.bipush 6, 2) := by decide +kernel
theorem dL_law_352 : decode cL_law 352 = .ok (.iadd, 1) := by decide +kernel
theorem dL_law_353 : decode cL_law 353 = .ok (.iaload, 1) := by decide +kernel
theorem dL_law_354 : decode cL_law 354 = .ok (.ifCond .eq 7, 3) := by decide +kernel
theorem dL_law_357 : decode cL_law 357 = .ok (.iconst 1, 1) := by decide +kernel
theorem dL_law_358 : decode cL_law 358 = .ok (.goto 4, 3) := by decide +kernel
theorem dL_law_361 : decode cL_law 361 = .ok (.iconst 0, 1) := by decide +kernel
theorem dL_law_362 : decode cL_law 362 = .ok (.invokevirtual 122, 3) := by decide +kernel
theorem dL_law_365 : decode cL_law 365 = .ok (.istore 6, 2) := by decide +kernel
theorem dL_law_367 : decode cL_law 367 = .ok (.aload_n 2, 1) := by decide +kernel
theorem dL_law_368 : decode cL_law 368 = .ok (.invokevirtual 115, 3) := by decide +kernel
theorem dL_law_371 : decode cL_law 371 = .ok (.iload 5, 2) := by decide +kernel
theorem dL_law_373 : decode cL_law 373 = .ok (.if_icmp .eq 5, 3) := by decide +kernel
theorem dL_law_376 : decode cL_law 376 = .ok (.iconst 0, 1) := by decide +kernel
theorem dL_law_377 : decode cL_law 377 = .ok (.ireturn, 1) := by decide +kernel
theorem dL_law_378 : decode cL_law 378 = .ok (.iload 5, 2) := by decide +kernel
theorem dL_law_380 : decode cL_law 380 = .ok (.ifCond .ne 15, 3) := by decide +kernel
theorem dL_law_383 : decode cL_law 383 = .ok (.aload_n 3, 1) := by decide +kernel
theorem dL_law_384 : decode cL_law 384 = .ok (.iconst 0, 1) := by decide +kernel
theorem dL_law_385 : decode cL_law 385 = .ok (.laload, 1) := by decide +kernel
theorem dL_law_386 : decode cL_law 386 = .ok (.iload 6, 2) := by decide +kernel
theorem dL_law_388 : decode cL_law 388 = .ok (.i2l, 1) := by decide +kernel
theorem dL_law_389 : decode cL_law 389 = .ok (.lcmp, 1) := by decide +kernel
theorem dL_law_390 : decode cL_law 390 = .ok (.ifCond .eq 5, 3) := by decide +kernel
theorem dL_law_393 : decode cL_law 393 = .ok (.iconst 0, 1) := by decide +kernel
theorem dL_law_394 : decode cL_law 394 = .ok (.ireturn, 1) := by decide +kernel
theorem dL_law_395 : decode cL_law 395 = .ok (.goto 1806, 3) := by decide +kernel
theorem dL_law_398 : decode cL_law 398 = .ok (.aload_n 1, 1) := by decide +kernel
theorem dL_law_399 : decode cL_law 399 = .ok (.aload_n 0, 1) := by decide +kernel
theorem dL_law_400 : decode cL_law 400 = .ok (.iload 4, 2) := by decide +kernel
theorem dL_law_402 : decode cL_law 402 = .ok (.iconst 1, 1) := by decide +kernel
theorem dL_law_403 : decode cL_law 403 = .ok (.iadd, 1) := by decide +kernel
theorem dL_law_404 : decode cL_law 404 = .ok (.iaload, 1) := by decide +kernel
theorem dL_law_405 : decode cL_law 405 = .ok (.aload_n 0, 1) := by decide +kernel
theorem dL_law_406 : decode cL_law 406 = .ok (.iload 4, 2) := by decide +kernel
theorem dL_law_408 : decode cL_law 408 = .ok (.iconst 2, 1) := by decide +kernel
theorem dL_law_409 : decode cL_law 409 = .ok (.iadd, 1) := by decide +kernel
theorem dL_law_410 : decode cL_law 410 = .ok (.iaload, 1) := by decide +kernel
theorem dL_law_411 : decode cL_law 411 = .ok (.aload_n 3, 1) := by decide +kernel
theorem dL_law_412 : decode cL_law 412 = .ok (.invokestatic 123, 3) := by decide +kernel
theorem dL_law_415 : decode cL_law 415 = .ok (.istore 5, 2) := by decide +kernel
theorem dL_law_417 : decode cL_law 417 = .ok (.aload_n 2, 1) := by decide +kernel
theorem dL_law_418 : decode cL_law 418 = .ok (.aload_n 0, 1) := by decide +kernel
theorem dL_law_419 : decode cL_law 419 = .ok (.iload 4, 2) := by decide +kernel
theorem dL_law_421 : decode cL_law 421 = .ok (.iconst 1, 1) := by decide +kernel
theorem dL_law_422 : decode cL_law 422 = .ok (.iadd, 1) := by decide +kernel
theorem dL_law_423 : decode cL_law 423 = .ok (.iaload, 1) := by decide +kernel
theorem dL_law_424 : decode cL_law 424 = .ok (.aload_n 0, 1) := by decide +kernel
theorem dL_law_425 : decode cL_law 425 = .ok (.iload 4, 2) := by decide +kernel
theorem dL_law_427 : decode cL_law 427 = .ok (.iconst 2, 1) := by decide +kernel
theorem dL_law_428 : decode cL_law 428 = .ok (.iadd, 1) := by decide +kernel
theorem dL_law_429 : decode cL_law 429 = .ok (.iaload, 1) := by decide +kernel
theorem dL_law_430 : decode cL_law 430 = .ok (.invokevirtual 126, 3) := by decide +kernel
theorem dL_law_433 : decode cL_law 433 = .ok (.istore 6, 2) := by decide +kernel
theorem dL_law_435 : decode cL_law 435 = .ok (.aload_n 2, 1) := by decide +kernel
theorem dL_law_436 : decode cL_law 436 = .ok (.invokevirtual 115, 3) := by decide +kernel
theorem dL_law_439 : decode cL_law 439 = .ok (.iload 5, 2) := by decide +kernel
theorem dL_law_441 : decode cL_law 441 = .ok (.if_icmp .eq 5, 3) := by decide +kernel
theorem dL_law_444 : decode cL_law 444 = .ok (.iconst 0, 1) := by decide +kernel
theorem dL_law_445 : decode cL_law 445 = .ok (.ireturn, 1) := by decide +kernel
theorem dL_law_446 : decode cL_law 446 = .ok (.iload 5, 2) := by decide +kernel
theorem dL_law_448 : decode cL_law 448 = .ok (.ifCond .ne 15, 3) := by decide +kernel
theorem dL_law_451 : decode cL_law 451 = .ok (.aload_n 3, 1) := by decide +kernel
theorem dL_law_452 : decode cL_law 452 = .ok (.iconst 0, 1) := by decide +kernel
theorem dL_law_453 : decode cL_law 453 = .ok (.laload, 1) := by decide +kernel
theorem dL_law_454 : decode cL_law 454 = .ok (.iload 6, 2) := by decide +kernel
theorem dL_law_456 : decode cL_law 456 = .ok (.i2l, 1) := by decide +kernel
theorem dL_law_457 : decode cL_law 457 = .ok (.lcmp, 1) := by decide +kernel
theorem dL_law_458 : decode cL_law 458 = .ok (.ifCond .eq 5, 3) := by decide +kernel
theorem dL_law_461 : decode cL_law 461 = .ok (.iconst 0, 1) := by decide +kernel
theorem dL_law_462 : decode cL_law 462 = .ok (.ireturn, 1) := by decide +kernel
theorem dL_law_463 : decode cL_law 463 = .ok (.goto 1738, 3) := by decide +kernel
theorem dL_law_466 : decode cL_law 466 = .ok (.aload_n 1, 1) := by decide +kernel
theorem dL_law_467 : decode cL_law 467 = .ok (.aload_n 0, 1) := by decide +kernel
theorem dL_law_468 : decode cL_law 468 = .ok (.iload 4, 2) := by decide +kernel
theorem dL_law_470 : decode cL_law 470 = .ok (.iconst 1, 1) := by decide +kernel
theorem dL_law_471 : decode cL_law 471 = .ok (.iadd, 1) := by decide +kernel
theorem dL_law_472 : decode cL_law 472 = .ok (.iaload, 1) := by decide +kernel
theorem dL_law_473 : decode cL_law 473 = .ok (.aload_n 0, 1) := by decide +kernel
theorem dL_law_474 : decode cL_law 474 = .ok (.iload 4, 2) := by decide +kernel
theorem dL_law_476 : decode cL_law 476 = .ok (.iconst 2, 1) := by decide +kernel
theorem dL_law_477 : decode cL_law 477 = .ok (.iadd, 1) := by decide +kernel
theorem dL_law_478 : decode cL_law 478 = .ok (.iaload, 1) := by decide +kernel
theorem dL_law_479 : decode cL_law 479 = .ok (.aload_n 0, 1) := by decide +kernel
theorem dL_law_480 : decode cL_law 480 = .ok (.iload 4, 2) := by decide +kernel
theorem dL_law_482 : decode cL_law 482 = .ok (.iconst 3, 1) := by decide +kernel
theorem dL_law_483 : decode cL_law 483 = .ok (.iadd, 1) := by decide +kernel
theorem dL_law_484 : decode cL_law 484 = .ok (.iaload, 1) := by decide +kernel
theorem dL_law_485 : decode cL_law 485 = .ok (.aload_n 3, 1) := by decide +kernel
theorem dL_law_486 : decode cL_law 486 = .ok (.invokestatic 127, 3) := by decide +kernel
theorem dL_law_489 : decode cL_law 489 = .ok (.istore 5, 2) := by decide +kernel
theorem dL_law_491 : decode cL_law 491 = .ok (.aload_n 2, 1) := by decide +kernel
theorem dL_law_492 : decode cL_law 492 = .ok (.aload_n 0, 1) := by decide +kernel
theorem dL_law_493 : decode cL_law 493 = .ok (.iload 4, 2) := by decide +kernel
theorem dL_law_495 : decode cL_law 495 = .ok (.iconst 1, 1) := by decide +kernel
theorem dL_law_496 : decode cL_law 496 = .ok (.iadd, 1) := by decide +kernel
theorem dL_law_497 : decode cL_law 497 = .ok (.iaload, 1) := by decide +kernel
theorem dL_law_498 : decode cL_law 498 = .ok (.aload_n 0, 1) := by decide +kernel
theorem dL_law_499 : decode cL_law 499 = .ok (.iload 4, 2) := by decide +kernel
theorem dL_law_501 : decode cL_law 501 = .ok (.iconst 2, 1) := by decide +kernel
theorem dL_law_502 : decode cL_law 502 = .ok (.iadd, 1) := by decide +kernel
theorem dL_law_503 : decode cL_law 503 = .ok (.iaload, 1) := by decide +kernel
theorem dL_law_504 : decode cL_law 504 = .ok (.aload_n 0, 1) := by decide +kernel
theorem dL_law_505 : decode cL_law 505 = .ok (.iload 4, 2) := by decide +kernel
theorem dL_law_507 : decode cL_law 507 = .ok (.iconst 3, 1) := by decide +kernel
theorem dL_law_508 : decode cL_law 508 = .ok (.iadd, 1) := by decide +kernel
theorem dL_law_509 : decode cL_law 509 = .ok (.iaload, 1) := by decide +kernel
theorem dL_law_510 : decode cL_law 510 = .ok (.invokevirtual 130, 3) := by decide +kernel
theorem dL_law_513 : decode cL_law 513 = .ok (.istore 6, 2) := by decide +kernel
theorem dL_law_515 : decode cL_law 515 = .ok (.aload_n 2, 1) := by decide +kernel
theorem dL_law_516 : decode cL_law 516 = .ok (.invokevirtual 115, 3) := by decide +kernel
theorem dL_law_519 : decode cL_law 519 = .ok (.iload 5, 2) := by decide +kernel
theorem dL_law_521 : decode cL_law 521 = .ok (.if_icmp .eq 5, 3) := by decide +kernel
theorem dL_law_524 : decode cL_law 524 = .ok (.iconst 0, 1) := by decide +kernel
theorem dL_law_525 : decode cL_law 525 = .ok (.ireturn, 1) := by decide +kernel
theorem dL_law_526 : decode cL_law 526 = .ok (.iload 5, 2) := by decide +kernel
theorem dL_law_528 : decode cL_law 528 = .ok (.ifCond .ne 22, 3) := by decide +kernel
theorem dL_law_531 : decode cL_law 531 = .ok (.aload_n 3, 1) := by decide +kernel
theorem dL_law_532 : decode cL_law 532 = .ok (.iconst 0, 1) := by decide +kernel
theorem dL_law_533 : decode cL_law 533 = .ok (.laload, 1) := by decide +kernel
theorem dL_law_534 : decode cL_law 534 = .ok (.iload 6, 2) := by decide +kernel
theorem dL_law_536 : decode cL_law 536 = .ok (.ifCond .eq 7, 3) := by decide +kernel
theorem dL_law_539 : decode cL_law 539 = .ok (.lconst 1, 1) := by decide +kernel
theorem dL_law_540 : decode cL_law 540 = .ok (.goto 4, 3) := by decide +kernel
theorem dL_law_543 : decode cL_law 543 = .ok (.lconst 0, 1) := by decide +kernel
theorem dL_law_544 : decode cL_law 544 = .ok (.lcmp, 1) := by decide +kernel
theorem dL_law_545 : decode cL_law 545 = .ok (.ifCond .eq 5, 3) := by decide +kernel
theorem dL_law_548 : decode cL_law 548 = .ok (.iconst 0, 1) := by decide +kernel
theorem dL_law_549 : decode cL_law 549 = .ok (.ireturn, 1) := by decide +kernel
theorem dL_law_550 : decode cL_law 550 = .ok (.goto 1651, 3) := by decide +kernel
theorem dL_law_553 : decode cL_law 553 = .ok (.aload_n 1, 1) := by decide +kernel
theorem dL_law_554 : decode cL_law 554 = .ok (.aload_n 0, 1) := by decide +kernel
theorem dL_law_555 : decode cL_law 555 = .ok (.iload 4, 2) := by decide +kernel
theorem dL_law_557 : decode cL_law 557 = .ok (.iconst 1, 1) := by decide +kernel
theorem dL_law_558 : decode cL_law 558 = .ok (.iadd, 1) := by decide +kernel
theorem dL_law_559 : decode cL_law 559 = .ok (.iaload, 1) := by decide +kernel
theorem dL_law_560 : decode cL_law 560 = .ok (.aload_n 0, 1) := by decide +kernel
theorem dL_law_561 : decode cL_law 561 = .ok (.iload 4, 2) := by decide +kernel
theorem dL_law_563 : decode cL_law 563 = .ok (.iconst 2, 1) := by decide +kernel
theorem dL_law_564 : decode cL_law 564 = .ok (.iadd, 1) := by decide +kernel
theorem dL_law_565 : decode cL_law 565 = .ok (.iaload, 1) := by decide +kernel
theorem dL_law_566 : decode cL_law 566 = .ok (.aload_n 0, 1) := by decide +kernel
theorem dL_law_567 : decode cL_law 567 = .ok (.iload 4, 2) := by decide +kernel
theorem dL_law_569 : decode cL_law 569 = .ok (.iconst 3, 1) := by decide +kernel
theorem dL_law_570 : decode cL_law 570 = .ok (.iadd, 1) := by decide +kernel
theorem dL_law_571 : decode cL_law 571 = .ok (.iaload, 1) := by decide +kernel
theorem dL_law_572 : decode cL_law 572 = .ok (.aload_n 3, 1) := by decide +kernel
theorem dL_law_573 : decode cL_law 573 = .ok (.invokestatic 131, 3) := by decide +kernel
theorem dL_law_576 : decode cL_law 576 = .ok (.istore 5, 2) := by decide +kernel
theorem dL_law_578 : decode cL_law 578 = .ok (.aload_n 2, 1) := by decide +kernel
theorem dL_law_579 : decode cL_law 579 = .ok (.aload_n 0, 1) := by decide +kernel
theorem dL_law_580 : decode cL_law 580 = .ok (.iload 4, 2) := by decide +kernel
theorem dL_law_582 : decode cL_law 582 = .ok (.iconst 1, 1) := by decide +kernel
theorem dL_law_583 : decode cL_law 583 = .ok (.iadd, 1) := by decide +kernel
theorem dL_law_584 : decode cL_law 584 = .ok (.iaload, 1) := by decide +kernel
theorem dL_law_585 : decode cL_law 585 = .ok (.aload_n 0, 1) := by decide +kernel
theorem dL_law_586 : decode cL_law 586 = .ok (.iload 4, 2) := by decide +kernel
theorem dL_law_588 : decode cL_law 588 = .ok (.iconst 2, 1) := by decide +kernel
theorem dL_law_589 : decode cL_law 589 = .ok (.iadd, 1) := by decide +kernel
theorem dL_law_590 : decode cL_law 590 = .ok (.iaload, 1) := by decide +kernel
theorem dL_law_591 : decode cL_law 591 = .ok (.aload_n 0, 1) := by decide +kernel
theorem dL_law_592 : decode cL_law 592 = .ok (.iload 4, 2) := by decide +kernel
theorem dL_law_594 : decode cL_law 594 = .ok (.iconst 3, 1) := by decide +kernel
theorem dL_law_595 : decode cL_law 595 = .ok (.iadd, 1) := by decide +kernel
theorem dL_law_596 : decode cL_law 596 = .ok (.iaload, 1) := by decide +kernel
theorem dL_law_597 : decode cL_law 597 = .ok (.invokevirtual 133, 3) := by decide +kernel
theorem dL_law_600 : decode cL_law 600 = .ok (.istore 6, 2) := by decide +kernel
theorem dL_law_602 : decode cL_law 602 = .ok (.aload_n 2, 1) := by decide +kernel
theorem dL_law_603 : decode cL_law 603 = .ok (.invokevirtual 115, 3) := by decide +kernel
theorem dL_law_606 : decode cL_law 606 = .ok (.iload 5, 2) := by decide +kernel
theorem dL_law_608 : decode cL_law 608 = .ok (.if_icmp .eq 5, 3) := by decide +kernel
theorem dL_law_611 : decode cL_law 611 = .ok (.iconst 0, 1) := by decide +kernel
theorem dL_law_612 : decode cL_law 612 = .ok (.ireturn, 1) := by decide +kernel
theorem dL_law_613 : decode cL_law 613 = .ok (.iload 5, 2) := by decide +kernel
theorem dL_law_615 : decode cL_law 615 = .ok (.ifCond .ne 15, 3) := by decide +kernel
theorem dL_law_618 : decode cL_law 618 = .ok (.aload_n 3, 1) := by decide +kernel
theorem dL_law_619 : decode cL_law 619 = .ok (.iconst 0, 1) := by decide +kernel
theorem dL_law_620 : decode cL_law 620 = .ok (.laload, 1) := by decide +kernel
theorem dL_law_621 : decode cL_law 621 = .ok (.iload 6, 2) := by decide +kernel
theorem dL_law_623 : decode cL_law 623 = .ok (.i2l, 1) := by decide +kernel
theorem dL_law_624 : decode cL_law 624 = .ok (.lcmp, 1) := by decide +kernel
theorem dL_law_625 : decode cL_law 625 = .ok (.ifCond .eq 5, 3) := by decide +kernel
theorem dL_law_628 : decode cL_law 628 = .ok (.iconst 0, 1) := by decide +kernel
theorem dL_law_629 : decode cL_law 629 = .ok (.ireturn, 1) := by decide +kernel
theorem dL_law_630 : decode cL_law 630 = .ok (.goto 1571, 3) := by decide +kernel
theorem dL_law_633 : decode cL_law 633 = .ok (.aload_n 1, 1) := by decide +kernel
theorem dL_law_634 : decode cL_law 634 = .ok (.invokevirtual 134, 3) := by decide +kernel
theorem dL_law_637 : decode cL_law 637 = .ok (.aload_n 2, 1) := by decide +kernel
theorem dL_law_638 : decode cL_law 638 = .ok (.invokevirtual 137, 3) := by decide +kernel
theorem dL_law_641 : decode cL_law 641 = .ok (.if_icmp .eq 1560, 3) := by decide +kernel
theorem dL_law_644 : decode cL_law 644 = .ok (.iconst 0, 1) := by decide +kernel
theorem dL_law_645 : decode cL_law 645 = .ok (.ireturn, 1) := by decide +kernel
theorem dL_law_646 : decode cL_law 646 = .ok (.aload_n 1, 1) := by decide +kernel
theorem dL_law_647 : decode cL_law 647 = .ok (.aload_n 0, 1) := by decide +kernel
theorem dL_law_648 : decode cL_law 648 = .ok (.iload 4, 2) := by decide +kernel
theorem dL_law_650 : decode cL_law 650 = .ok (.iconst 1, 1) := by decide +kernel
theorem dL_law_651 : decode cL_law 651 = .ok (.iadd, 1) := by decide +kernel
theorem dL_law_652 : decode cL_law 652 = .ok (.iaload, 1) := by decide +kernel
theorem dL_law_653 : decode cL_law 653 = .ok (.aload_n 0, 1) := by decide +kernel
theorem dL_law_654 : decode cL_law 654 = .ok (.iload 4, 2) := by decide +kernel
theorem dL_law_656 : decode cL_law 656 = .ok (.iconst 2, 1) := by decide +kernel
theorem dL_law_657 : decode cL_law 657 = .ok (.iadd, 1) := by decide +kernel
theorem dL_law_658 : decode cL_law 658 = .ok (.iaload, 1) := by decide +kernel
theorem dL_law_659 : decode cL_law 659 = .ok (.aload_n 0, 1) := by decide +kernel
theorem dL_law_660 : decode cL_law 660 = .ok (.iload 4, 2) := by decide +kernel
theorem dL_law_662 : decode cL_law 662 = .ok (.iconst 3, 1) := by decide +kernel
theorem dL_law_663 : decode cL_law 663 = .ok (.iadd, 1) := by decide +kernel
theorem dL_law_664 : decode cL_law 664 = .ok (.iaload, 1) := by decide +kernel
theorem dL_law_665 : decode cL_law 665 = .ok (.aload_n 3, 1) := by decide +kernel
theorem dL_law_666 : decode cL_law 666 = .ok (.invokestatic 138, 3) := by decide +kernel
theorem dL_law_669 : decode cL_law 669 = .ok (.istore 5, 2) := by decide +kernel
theorem dL_law_671 : decode cL_law 671 = .ok (.aload_n 2, 1) := by decide +kernel
theorem dL_law_672 : decode cL_law 672 = .ok (.aload_n 0, 1) := by decide +kernel
theorem dL_law_673 : decode cL_law 673 = .ok (.iload 4, 2) := by decide +kernel
theorem dL_law_675 : decode cL_law 675 = .ok (.iconst 1, 1) := by decide +kernel
theorem dL_law_676 : decode cL_law 676 = .ok (.iadd, 1) := by decide +kernel
theorem dL_law_677 : decode cL_law 677 = .ok (.iaload, 1) := by decide +kernel
theorem dL_law_678 : decode cL_law 678 = .ok (.aload_n 0, 1) := by decide +kernel
theorem dL_law_679 : decode cL_law 679 = .ok (.iload 4, 2) := by decide +kernel
theorem dL_law_681 : decode cL_law 681 = .ok (.iconst 2, 1) := by decide +kernel
theorem dL_law_682 : decode cL_law 682 = .ok (.iadd, 1) := by decide +kernel
theorem dL_law_683 : decode cL_law 683 = .ok (.iaload, 1) := by decide +kernel
theorem dL_law_684 : decode cL_law 684 = .ok (.aload_n 0, 1) := by decide +kernel
theorem dL_law_685 : decode cL_law 685 = .ok (.iload 4, 2) := by decide +kernel
theorem dL_law_687 : decode cL_law 687 = .ok (.iconst 3, 1) := by decide +kernel
theorem dL_law_688 : decode cL_law 688 = .ok (.iadd, 1) := by decide +kernel
theorem dL_law_689 : decode cL_law 689 = .ok (.iaload, 1) := by decide +kernel
theorem dL_law_690 : decode cL_law 690 = .ok (.invokevirtual 140, 3) := by decide +kernel
theorem dL_law_693 : decode cL_law 693 = .ok (.istore 6, 2) := by decide +kernel
theorem dL_law_695 : decode cL_law 695 = .ok (.aload_n 2, 1) := by decide +kernel
theorem dL_law_696 : decode cL_law 696 = .ok (.invokevirtual 115, 3) := by decide +kernel
theorem dL_law_699 : decode cL_law 699 = .ok (.iload 5, 2) := by decide +kernel
theorem dL_law_701 : decode cL_law 701 = .ok (.if_icmp .eq 5, 3) := by decide +kernel
theorem dL_law_704 : decode cL_law 704 = .ok (.iconst 0, 1) := by decide +kernel
theorem dL_law_705 : decode cL_law 705 = .ok (.ireturn, 1) := by decide +kernel
theorem dL_law_706 : decode cL_law 706 = .ok (.iload 5, 2) := by decide +kernel
theorem dL_law_708 : decode cL_law 708 = .ok (.ifCond .ne 15, 3) := by decide +kernel
theorem dL_law_711 : decode cL_law 711 = .ok (.aload_n 3, 1) := by decide +kernel
theorem dL_law_712 : decode cL_law 712 = .ok (.iconst 0, 1) := by decide +kernel
theorem dL_law_713 : decode cL_law 713 = .ok (.laload, 1) := by decide +kernel
theorem dL_law_714 : decode cL_law 714 = .ok (.iload 6, 2) := by decide +kernel
theorem dL_law_716 : decode cL_law 716 = .ok (.i2l, 1) := by decide +kernel
theorem dL_law_717 : decode cL_law 717 = .ok (.lcmp, 1) := by decide +kernel
theorem dL_law_718 : decode cL_law 718 = .ok (.ifCond .eq 5, 3) := by decide +kernel
theorem dL_law_721 : decode cL_law 721 = .ok (.iconst 0, 1) := by decide +kernel
theorem dL_law_722 : decode cL_law 722 = .ok (.ireturn, 1) := by decide +kernel
theorem dL_law_723 : decode cL_law 723 = .ok (.goto 1478, 3) := by decide +kernel
theorem dL_law_726 : decode cL_law 726 = .ok (.aload_n 1, 1) := by decide +kernel
theorem dL_law_727 : decode cL_law 727 = .ok (.aload_n 0, 1) := by decide +kernel
theorem dL_law_728 : decode cL_law 728 = .ok (.iload 4, 2) := by decide +kernel
theorem dL_law_730 : decode cL_law 730 = .ok (.iconst 1, 1) := by decide +kernel
theorem dL_law_731 : decode cL_law 731 = .ok (.iadd, 1) := by decide +kernel
theorem dL_law_732 : decode cL_law 732 = .ok (.iaload, 1) := by decide +kernel
theorem dL_law_733 : decode cL_law 733 = .ok (.aload_n 0, 1) := by decide +kernel
theorem dL_law_734 : decode cL_law 734 = .ok (.iload 4, 2) := by decide +kernel
theorem dL_law_736 : decode cL_law 736 = .ok (.iconst 2, 1) := by decide +kernel
theorem dL_law_737 : decode cL_law 737 = .ok (.iadd, 1) := by decide +kernel
theorem dL_law_738 : decode cL_law 738 = .ok (.iaload, 1) := by decide +kernel
theorem dL_law_739 : decode cL_law 739 = .ok (.aload_n 0, 1) := by decide +kernel
theorem dL_law_740 : decode cL_law 740 = .ok (.iload 4, 2) := by decide +kernel
theorem dL_law_742 : decode cL_law 742 = .ok (.iconst 3, 1) := by decide +kernel
theorem dL_law_743 : decode cL_law 743 = .ok (.iadd, 1) := by decide +kernel
theorem dL_law_744 : decode cL_law 744 = .ok (.iaload, 1) := by decide +kernel
theorem dL_law_745 : decode cL_law 745 = .ok (.aload_n 3, 1) := by decide +kernel
theorem dL_law_746 : decode cL_law 746 = .ok (.invokestatic 141, 3) := by decide +kernel
theorem dL_law_749 : decode cL_law 749 = .ok (.istore 5, 2) := by decide +kernel
theorem dL_law_751 : decode cL_law 751 = .ok (.aload_n 2, 1) := by decide +kernel
theorem dL_law_752 : decode cL_law 752 = .ok (.aload_n 0, 1) := by decide +kernel
theorem dL_law_753 : decode cL_law 753 = .ok (.iload 4, 2) := by decide +kernel
theorem dL_law_755 : decode cL_law 755 = .ok (.iconst 1, 1) := by decide +kernel
theorem dL_law_756 : decode cL_law 756 = .ok (.iadd, 1) := by decide +kernel
theorem dL_law_757 : decode cL_law 757 = .ok (.iaload, 1) := by decide +kernel
theorem dL_law_758 : decode cL_law 758 = .ok (.aload_n 0, 1) := by decide +kernel
theorem dL_law_759 : decode cL_law 759 = .ok (.iload 4, 2) := by decide +kernel
theorem dL_law_761 : decode cL_law 761 = .ok (.iconst 2, 1) := by decide +kernel
theorem dL_law_762 : decode cL_law 762 = .ok (.iadd, 1) := by decide +kernel
theorem dL_law_763 : decode cL_law 763 = .ok (.iaload, 1) := by decide +kernel
theorem dL_law_764 : decode cL_law 764 = .ok (.aload_n 0, 1) := by decide +kernel
theorem dL_law_765 : decode cL_law 765 = .ok (.iload 4, 2) := by decide +kernel
theorem dL_law_767 : decode cL_law 767 = .ok (.iconst 3, 1) := by decide +kernel
theorem dL_law_768 : decode cL_law 768 = .ok (.iadd, 1) := by decide +kernel
theorem dL_law_769 : decode cL_law 769 = .ok (.iaload, 1) := by decide +kernel
theorem dL_law_770 : decode cL_law 770 = .ok (.invokevirtual 143, 3) := by decide +kernel
theorem dL_law_773 : decode cL_law 773 = .ok (.istore 6, 2) := by decide +kernel
theorem dL_law_775 : decode cL_law 775 = .ok (.aload_n 2, 1) := by decide +kernel
theorem dL_law_776 : decode cL_law 776 = .ok (.invokevirtual 115, 3) := by decide +kernel
theorem dL_law_779 : decode cL_law 779 = .ok (.iload 5, 2) := by decide +kernel
theorem dL_law_781 : decode cL_law 781 = .ok (.if_icmp .eq 5, 3) := by decide +kernel
theorem dL_law_784 : decode cL_law 784 = .ok (.iconst 0, 1) := by decide +kernel
theorem dL_law_785 : decode cL_law 785 = .ok (.ireturn, 1) := by decide +kernel
theorem dL_law_786 : decode cL_law 786 = .ok (.iload 5, 2) := by decide +kernel
theorem dL_law_788 : decode cL_law 788 = .ok (.ifCond .ne 15, 3) := by decide +kernel
theorem dL_law_791 : decode cL_law 791 = .ok (.aload_n 3, 1) := by decide +kernel
theorem dL_law_792 : decode cL_law 792 = .ok (.iconst 0, 1) := by decide +kernel
theorem dL_law_793 : decode cL_law 793 = .ok (.laload, 1) := by decide +kernel
theorem dL_law_794 : decode cL_law 794 = .ok (.iload 6, 2) := by decide +kernel
theorem dL_law_796 : decode cL_law 796 = .ok (.i2l, 1) := by decide +kernel
theorem dL_law_797 : decode cL_law 797 = .ok (.lcmp, 1) := by decide +kernel
theorem dL_law_798 : decode cL_law 798 = .ok (.ifCond .eq 5, 3) := by decide +kernel
theorem dL_law_801 : decode cL_law 801 = .ok (.iconst 0, 1) := by decide +kernel
theorem dL_law_802 : decode cL_law 802 = .ok (.ireturn, 1) := by decide +kernel
theorem dL_law_803 : decode cL_law 803 = .ok (.goto 1398, 3) := by decide +kernel
theorem dL_law_806 : decode cL_law 806 = .ok (.aload_n 1, 1) := by decide +kernel
theorem dL_law_807 : decode cL_law 807 = .ok (.aload_n 0, 1) := by decide +kernel
theorem dL_law_808 : decode cL_law 808 = .ok (.iload 4, 2) := by decide +kernel
theorem dL_law_810 : decode cL_law 810 = .ok (.iconst 1, 1) := by decide +kernel
theorem dL_law_811 : decode cL_law 811 = .ok (.iadd, 1) := by decide +kernel
theorem dL_law_812 : decode cL_law 812 = .ok (.iaload, 1) := by decide +kernel
theorem dL_law_813 : decode cL_law 813 = .ok (.aload_n 0, 1) := by decide +kernel
theorem dL_law_814 : decode cL_law 814 = .ok (.iload 4, 2) := by decide +kernel
theorem dL_law_816 : decode cL_law 816 = .ok (.iconst 2, 1) := by decide +kernel
theorem dL_law_817 : decode cL_law 817 = .ok (.iadd, 1) := by decide +kernel
theorem dL_law_818 : decode cL_law 818 = .ok (.iaload, 1) := by decide +kernel
theorem dL_law_819 : decode cL_law 819 = .ok (.aload_n 3, 1) := by decide +kernel
theorem dL_law_820 : decode cL_law 820 = .ok (.invokestatic 144, 3) := by decide +kernel
theorem dL_law_823 : decode cL_law 823 = .ok (.istore 5, 2) := by decide +kernel
theorem dL_law_825 : decode cL_law 825 = .ok (.aload_n 2, 1) := by decide +kernel
theorem dL_law_826 : decode cL_law 826 = .ok (.aload_n 0, 1) := by decide +kernel
theorem dL_law_827 : decode cL_law 827 = .ok (.iload 4, 2) := by decide +kernel
theorem dL_law_829 : decode cL_law 829 = .ok (.iconst 1, 1) := by decide +kernel
theorem dL_law_830 : decode cL_law 830 = .ok (.iadd, 1) := by decide +kernel
theorem dL_law_831 : decode cL_law 831 = .ok (.iaload, 1) := by decide +kernel
theorem dL_law_832 : decode cL_law 832 = .ok (.aload_n 0, 1) := by decide +kernel
theorem dL_law_833 : decode cL_law 833 = .ok (.iload 4, 2) := by decide +kernel
theorem dL_law_835 : decode cL_law 835 = .ok (.iconst 2, 1) := by decide +kernel
theorem dL_law_836 : decode cL_law 836 = .ok (.iadd, 1) := by decide +kernel
theorem dL_law_837 : decode cL_law 837 = .ok (.iaload, 1) := by decide +kernel
theorem dL_law_838 : decode cL_law 838 = .ok (.invokevirtual 146, 3) := by decide +kernel
theorem dL_law_841 : decode cL_law 841 = .ok (.istore 6, 2) := by decide +kernel
theorem dL_law_843 : decode cL_law 843 = .ok (.aload_n 2, 1) := by decide +kernel
theorem dL_law_844 : decode cL_law 844 = .ok (.invokevirtual 115, 3) := by decide +kernel
theorem dL_law_847 : decode cL_law 847 = .ok (.iload 5, 2) := by decide +kernel
theorem dL_law_849 : decode cL_law 849 = .ok (.if_icmp .eq 5, 3) := by decide +kernel
theorem dL_law_852 : decode cL_law 852 = .ok (.iconst 0, 1) := by decide +kernel
theorem dL_law_853 : decode cL_law 853 = .ok (.ireturn, 1) := by decide +kernel
theorem dL_law_854 : decode cL_law 854 = .ok (.iload 5, 2) := by decide +kernel
theorem dL_law_856 : decode cL_law 856 = .ok (.ifCond .ne 15, 3) := by decide +kernel
theorem dL_law_859 : decode cL_law 859 = .ok (.aload_n 3, 1) := by decide +kernel
theorem dL_law_860 : decode cL_law 860 = .ok (.iconst 0, 1) := by decide +kernel
theorem dL_law_861 : decode cL_law 861 = .ok (.laload, 1) := by decide +kernel
theorem dL_law_862 : decode cL_law 862 = .ok (.iload 6, 2) := by decide +kernel
theorem dL_law_864 : decode cL_law 864 = .ok (.i2l, 1) := by decide +kernel
theorem dL_law_865 : decode cL_law 865 = .ok (.lcmp, 1) := by decide +kernel
theorem dL_law_866 : decode cL_law 866 = .ok (.ifCond .eq 5, 3) := by decide +kernel
theorem dL_law_869 : decode cL_law 869 = .ok (.iconst 0, 1) := by decide +kernel
theorem dL_law_870 : decode cL_law 870 = .ok (.ireturn, 1) := by decide +kernel
theorem dL_law_871 : decode cL_law 871 = .ok (.goto 1330, 3) := by decide +kernel
theorem dL_law_874 : decode cL_law 874 = .ok (.aload_n 1, 1) := by decide +kernel
theorem dL_law_875 : decode cL_law 875 = .ok (.aload_n 0, 1) := by decide +kernel
theorem dL_law_876 : decode cL_law 876 = .ok (.iload 4, 2) := by decide +kernel
theorem dL_law_878 : decode cL_law 878 = .ok (.iconst 1, 1) := by decide +kernel
theorem dL_law_879 : decode cL_law 879 = .ok (.iadd, 1) := by decide +kernel
theorem dL_law_880 : decode cL_law 880 = .ok (.iaload, 1) := by decide +kernel
theorem dL_law_881 : decode cL_law 881 = .ok (.aload_n 0, 1) := by decide +kernel
theorem dL_law_882 : decode cL_law 882 = .ok (.iload 4, 2) := by decide +kernel
theorem dL_law_884 : decode cL_law 884 = .ok (.iconst 2, 1) := by decide +kernel
theorem dL_law_885 : decode cL_law 885 = .ok (.iadd, 1) := by decide +kernel
theorem dL_law_886 : decode cL_law 886 = .ok (.iaload, 1) := by decide +kernel
theorem dL_law_887 : decode cL_law 887 = .ok (.aload_n 0, 1) := by decide +kernel
theorem dL_law_888 : decode cL_law 888 = .ok (.iload 4, 2) := by decide +kernel
theorem dL_law_890 : decode cL_law 890 = .ok (.iconst 3, 1) := by decide +kernel
theorem dL_law_891 : decode cL_law 891 = .ok (.iadd, 1) := by decide +kernel
theorem dL_law_892 : decode cL_law 892 = .ok (.iaload, 1) := by decide +kernel
theorem dL_law_893 : decode cL_law 893 = .ok (.aload_n 3, 1) := by decide +kernel
theorem dL_law_894 : decode cL_law 894 = .ok (.invokestatic 147, 3) := by decide +kernel
theorem dL_law_897 : decode cL_law 897 = .ok (.istore 5, 2) := by decide +kernel
theorem dL_law_899 : decode cL_law 899 = .ok (.aload_n 2, 1) := by decide +kernel
theorem dL_law_900 : decode cL_law 900 = .ok (.aload_n 0, 1) := by decide +kernel
theorem dL_law_901 : decode cL_law 901 = .ok (.iload 4, 2) := by decide +kernel
theorem dL_law_903 : decode cL_law 903 = .ok (.iconst 1, 1) := by decide +kernel
theorem dL_law_904 : decode cL_law 904 = .ok (.iadd, 1) := by decide +kernel
theorem dL_law_905 : decode cL_law 905 = .ok (.iaload, 1) := by decide +kernel
theorem dL_law_906 : decode cL_law 906 = .ok (.aload_n 0, 1) := by decide +kernel
theorem dL_law_907 : decode cL_law 907 = .ok (.iload 4, 2) := by decide +kernel
theorem dL_law_909 : decode cL_law 909 = .ok (.iconst 2, 1) := by decide +kernel
theorem dL_law_910 : decode cL_law 910 = .ok (.iadd, 1) := by decide +kernel
theorem dL_law_911 : decode cL_law 911 = .ok (.iaload, 1) := by decide +kernel
theorem dL_law_912 : decode cL_law 912 = .ok (.aload_n 0, 1) := by decide +kernel
theorem dL_law_913 : decode cL_law 913 = .ok (.iload 4, 2) := by decide +kernel
theorem dL_law_915 : decode cL_law 915 = .ok (.iconst 3, 1) := by decide +kernel
theorem dL_law_916 : decode cL_law 916 = .ok (.iadd, 1) := by decide +kernel
theorem dL_law_917 : decode cL_law 917 = .ok (.iaload, 1) := by decide +kernel
theorem dL_law_918 : decode cL_law 918 = .ok (.invokevirtual 149, 3) := by decide +kernel
theorem dL_law_921 : decode cL_law 921 = .ok (.istore 6, 2) := by decide +kernel
theorem dL_law_923 : decode cL_law 923 = .ok (.aload_n 2, 1) := by decide +kernel
theorem dL_law_924 : decode cL_law 924 = .ok (.invokevirtual 115, 3) := by decide +kernel
theorem dL_law_927 : decode cL_law 927 = .ok (.iload 5, 2) := by decide +kernel
theorem dL_law_929 : decode cL_law 929 = .ok (.if_icmp .eq 5, 3) := by decide +kernel
theorem dL_law_932 : decode cL_law 932 = .ok (.iconst 0, 1) := by decide +kernel
theorem dL_law_933 : decode cL_law 933 = .ok (.ireturn, 1) := by decide +kernel
theorem dL_law_934 : decode cL_law 934 = .ok (.iload 5, 2) := by decide +kernel
theorem dL_law_936 : decode cL_law 936 = .ok (.ifCond .ne 15, 3) := by decide +kernel
theorem dL_law_939 : decode cL_law 939 = .ok (.aload_n 3, 1) := by decide +kernel
theorem dL_law_940 : decode cL_law 940 = .ok (.iconst 0, 1) := by decide +kernel
theorem dL_law_941 : decode cL_law 941 = .ok (.laload, 1) := by decide +kernel
theorem dL_law_942 : decode cL_law 942 = .ok (.iload 6, 2) := by decide +kernel
theorem dL_law_944 : decode cL_law 944 = .ok (.i2l, 1) := by decide +kernel
theorem dL_law_945 : decode cL_law 945 = .ok (.lcmp, 1) := by decide +kernel
theorem dL_law_946 : decode cL_law 946 = .ok (.ifCond .eq 5, 3) := by decide +kernel
theorem dL_law_949 : decode cL_law 949 = .ok (.iconst 0, 1) := by decide +kernel
theorem dL_law_950 : decode cL_law 950 = .ok (.ireturn, 1) := by decide +kernel
theorem dL_law_951 : decode cL_law 951 = .ok (.goto 1250, 3) := by decide +kernel
theorem dL_law_954 : decode cL_law 954 = .ok (.aload_n 1, 1) := by decide +kernel
theorem dL_law_955 : decode cL_law 955 = .ok (.aload_n 0, 1) := by decide +kernel
theorem dL_law_956 : decode cL_law 956 = .ok (.iload 4, 2) := by decide +kernel
theorem dL_law_958 : decode cL_law 958 = .ok (.iconst 1, 1) := by decide +kernel
theorem dL_law_959 : decode cL_law 959 = .ok (.iadd, 1) := by decide +kernel
theorem dL_law_960 : decode cL_law 960 = .ok (.iaload, 1) := by decide +kernel
theorem dL_law_961 : decode cL_law 961 = .ok (.aload_n 0, 1) := by decide +kernel
theorem dL_law_962 : decode cL_law 962 = .ok (.iload 4, 2) := by decide +kernel
theorem dL_law_964 : decode cL_law 964 = .ok (.iconst 2, 1) := by decide +kernel
theorem dL_law_965 : decode cL_law 965 = .ok (.iadd, 1) := by decide +kernel
theorem dL_law_966 : decode cL_law 966 = .ok (.iaload, 1) := by decide +kernel
theorem dL_law_967 : decode cL_law 967 = .ok (.aload_n 0, 1) := by decide +kernel
theorem dL_law_968 : decode cL_law 968 = .ok (.iload 4, 2) := by decide +kernel
theorem dL_law_970 : decode cL_law 970 = .ok (.iconst 3, 1) := by decide +kernel
theorem dL_law_971 : decode cL_law 971 = .ok (.iadd, 1) := by decide +kernel
theorem dL_law_972 : decode cL_law 972 = .ok (.iaload, 1) := by decide +kernel
theorem dL_law_973 : decode cL_law 973 = .ok (.aload_n 3, 1) := by decide +kernel
theorem dL_law_974 : decode cL_law 974 = .ok (.invokestatic 150, 3) := by decide +kernel
theorem dL_law_977 : decode cL_law 977 = .ok (.istore 5, 2) := by decide +kernel
theorem dL_law_979 : decode cL_law 979 = .ok (.aload_n 2, 1) := by decide +kernel
theorem dL_law_980 : decode cL_law 980 = .ok (.aload_n 0, 1) := by decide +kernel
theorem dL_law_981 : decode cL_law 981 = .ok (.iload 4, 2) := by decide +kernel
theorem dL_law_983 : decode cL_law 983 = .ok (.iconst 1, 1) := by decide +kernel
theorem dL_law_984 : decode cL_law 984 = .ok (.iadd, 1) := by decide +kernel
theorem dL_law_985 : decode cL_law 985 = .ok (.iaload, 1) := by decide +kernel
theorem dL_law_986 : decode cL_law 986 = .ok (.aload_n 0, 1) := by decide +kernel
theorem dL_law_987 : decode cL_law 987 = .ok (.iload 4, 2) := by decide +kernel
theorem dL_law_989 : decode cL_law 989 = .ok (.iconst 2, 1) := by decide +kernel
theorem dL_law_990 : decode cL_law 990 = .ok (.iadd, 1) := by decide +kernel
theorem dL_law_991 : decode cL_law 991 = .ok (.iaload, 1) := by decide +kernel
theorem dL_law_992 : decode cL_law 992 = .ok (.aload_n 0, 1) := by decide +kernel
theorem dL_law_993 : decode cL_law 993 = .ok (.iload 4, 2) := by decide +kernel
theorem dL_law_995 : decode cL_law 995 = .ok (.iconst 3, 1) := by decide +kernel
theorem dL_law_996 : decode cL_law 996 = .ok (.iadd, 1) := by decide +kernel
theorem dL_law_997 : decode cL_law 997 = .ok (.iaload, 1) := by decide +kernel
theorem dL_law_998 : decode cL_law 998 = .ok (.invokevirtual 152, 3) := by decide +kernel
theorem dL_law_1001 : decode cL_law 1001 = .ok (.istore 6, 2) := by decide +kernel
theorem dL_law_1003 : decode cL_law 1003 = .ok (.aload_n 2, 1) := by decide +kernel
theorem dL_law_1004 : decode cL_law 1004 = .ok (.invokevirtual 115, 3) := by decide +kernel
theorem dL_law_1007 : decode cL_law 1007 = .ok (.iload 5, 2) := by decide +kernel
theorem dL_law_1009 : decode cL_law 1009 = .ok (.if_icmp .eq 5, 3) := by decide +kernel
theorem dL_law_1012 : decode cL_law 1012 = .ok (.iconst 0, 1) := by decide +kernel
theorem dL_law_1013 : decode cL_law 1013 = .ok (.ireturn, 1) := by decide +kernel
theorem dL_law_1014 : decode cL_law 1014 = .ok (.iload 5, 2) := by decide +kernel
theorem dL_law_1016 : decode cL_law 1016 = .ok (.ifCond .ne 15, 3) := by decide +kernel
theorem dL_law_1019 : decode cL_law 1019 = .ok (.aload_n 3, 1) := by decide +kernel
theorem dL_law_1020 : decode cL_law 1020 = .ok (.iconst 0, 1) := by decide +kernel
theorem dL_law_1021 : decode cL_law 1021 = .ok (.laload, 1) := by decide +kernel
theorem dL_law_1022 : decode cL_law 1022 = .ok (.iload 6, 2) := by decide +kernel
theorem dL_law_1024 : decode cL_law 1024 = .ok (.i2l, 1) := by decide +kernel
theorem dL_law_1025 : decode cL_law 1025 = .ok (.lcmp, 1) := by decide +kernel
theorem dL_law_1026 : decode cL_law 1026 = .ok (.ifCond .eq 5, 3) := by decide +kernel
theorem dL_law_1029 : decode cL_law 1029 = .ok (.iconst 0, 1) := by decide +kernel
theorem dL_law_1030 : decode cL_law 1030 = .ok (.ireturn, 1) := by decide +kernel
theorem dL_law_1031 : decode cL_law 1031 = .ok (.goto 1170, 3) := by decide +kernel
theorem dL_law_1034 : decode cL_law 1034 = .ok (.aload_n 1, 1) := by decide +kernel
theorem dL_law_1035 : decode cL_law 1035 = .ok (.aload_n 0, 1) := by decide +kernel
theorem dL_law_1036 : decode cL_law 1036 = .ok (.iload 4, 2) := by decide +kernel
theorem dL_law_1038 : decode cL_law 1038 = .ok (.iconst 1, 1) := by decide +kernel
theorem dL_law_1039 : decode cL_law 1039 = .ok (.iadd, 1) := by decide +kernel
theorem dL_law_1040 : decode cL_law 1040 = .ok (.iaload, 1) := by decide +kernel
theorem dL_law_1041 : decode cL_law 1041 = .ok (.aload_n 0, 1) := by decide +kernel
theorem dL_law_1042 : decode cL_law 1042 = .ok (.iload 4, 2) := by decide +kernel
theorem dL_law_1044 : decode cL_law 1044 = .ok (.iconst 2, 1) := by decide +kernel
theorem dL_law_1045 : decode cL_law 1045 = .ok (.iadd, 1) := by decide +kernel
theorem dL_law_1046 : decode cL_law 1046 = .ok (.iaload, 1) := by decide +kernel
theorem dL_law_1047 : decode cL_law 1047 = .ok (.aload_n 3, 1) := by decide +kernel
theorem dL_law_1048 : decode cL_law 1048 = .ok (.invokestatic 153, 3) := by decide +kernel
theorem dL_law_1051 : decode cL_law 1051 = .ok (.istore 5, 2) := by decide +kernel
theorem dL_law_1053 : decode cL_law 1053 = .ok (.aload_n 2, 1) := by decide +kernel
theorem dL_law_1054 : decode cL_law 1054 = .ok (.aload_n 0, 1) := by decide +kernel
theorem dL_law_1055 : decode cL_law 1055 = .ok (.iload 4, 2) := by decide +kernel
theorem dL_law_1057 : decode cL_law 1057 = .ok (.iconst 1, 1) := by decide +kernel
theorem dL_law_1058 : decode cL_law 1058 = .ok (.iadd, 1) := by decide +kernel
theorem dL_law_1059 : decode cL_law 1059 = .ok (.iaload, 1) := by decide +kernel
theorem dL_law_1060 : decode cL_law 1060 = .ok (.aload_n 0, 1) := by decide +kernel
theorem dL_law_1061 : decode cL_law 1061 = .ok (.iload 4, 2) := by decide +kernel
theorem dL_law_1063 : decode cL_law 1063 = .ok (.iconst 2, 1) := by decide +kernel
theorem dL_law_1064 : decode cL_law 1064 = .ok (.iadd, 1) := by decide +kernel
theorem dL_law_1065 : decode cL_law 1065 = .ok (.iaload, 1) := by decide +kernel
theorem dL_law_1066 : decode cL_law 1066 = .ok (.invokevirtual 155, 3) := by decide +kernel
theorem dL_law_1069 : decode cL_law 1069 = .ok (.istore 6, 2) := by decide +kernel
theorem dL_law_1071 : decode cL_law 1071 = .ok (.aload_n 2, 1) := by decide +kernel
theorem dL_law_1072 : decode cL_law 1072 = .ok (.invokevirtual 115, 3) := by decide +kernel
theorem dL_law_1075 : decode cL_law 1075 = .ok (.iload 5, 2) := by decide +kernel
theorem dL_law_1077 : decode cL_law 1077 = .ok (.if_icmp .eq 5, 3) := by decide +kernel
theorem dL_law_1080 : decode cL_law 1080 = .ok (.iconst 0, 1) := by decide +kernel
theorem dL_law_1081 : decode cL_law 1081 = .ok (.ireturn, 1) := by decide +kernel
theorem dL_law_1082 : decode cL_law 1082 = .ok (.iload 5, 2) := by decide +kernel
theorem dL_law_1084 : decode cL_law 1084 = .ok (.ifCond .ne 15, 3) := by decide +kernel
theorem dL_law_1087 : decode cL_law 1087 = .ok (.aload_n 3, 1) := by decide +kernel
theorem dL_law_1088 : decode cL_law 1088 = .ok (.iconst 0, 1) := by decide +kernel
theorem dL_law_1089 : decode cL_law 1089 = .ok (.laload, 1) := by decide +kernel
theorem dL_law_1090 : decode cL_law 1090 = .ok (.iload 6, 2) := by decide +kernel
theorem dL_law_1092 : decode cL_law 1092 = .ok (.i2l, 1) := by decide +kernel
theorem dL_law_1093 : decode cL_law 1093 = .ok (.lcmp, 1) := by decide +kernel
theorem dL_law_1094 : decode cL_law 1094 = .ok (.ifCond .eq 5, 3) := by decide +kernel
theorem dL_law_1097 : decode cL_law 1097 = .ok (.iconst 0, 1) := by decide +kernel
theorem dL_law_1098 : decode cL_law 1098 = .ok (.ireturn, 1) := by decide +kernel
theorem dL_law_1099 : decode cL_law 1099 = .ok (.goto 1102, 3) := by decide +kernel
theorem dL_law_1102 : decode cL_law 1102 = .ok (.aload_n 1, 1) := by decide +kernel
theorem dL_law_1103 : decode cL_law 1103 = .ok (.aload_n 0, 1) := by decide +kernel
theorem dL_law_1104 : decode cL_law 1104 = .ok (.iload 4, 2) := by decide +kernel
theorem dL_law_1106 : decode cL_law 1106 = .ok (.iconst 1, 1) := by decide +kernel
theorem dL_law_1107 : decode cL_law 1107 = .ok (.iadd, 1) := by decide +kernel
theorem dL_law_1108 : decode cL_law 1108 = .ok (.iaload, 1) := by decide +kernel
theorem dL_law_1109 : decode cL_law 1109 = .ok (.aload_n 0, 1) := by decide +kernel
theorem dL_law_1110 : decode cL_law 1110 = .ok (.iload 4, 2) := by decide +kernel
theorem dL_law_1112 : decode cL_law 1112 = .ok (.iconst 2, 1) := by decide +kernel
theorem dL_law_1113 : decode cL_law 1113 = .ok (.iadd, 1) := by decide +kernel
theorem dL_law_1114 : decode cL_law 1114 = .ok (.iaload, 1) := by decide +kernel
theorem dL_law_1115 : decode cL_law 1115 = .ok (.aload_n 0, 1) := by decide +kernel
theorem dL_law_1116 : decode cL_law 1116 = .ok (.iload 4, 2) := by decide +kernel
theorem dL_law_1118 : decode cL_law 1118 = .ok (.iconst 3, 1) := by decide +kernel
theorem dL_law_1119 : decode cL_law 1119 = .ok (.iadd, 1) := by decide +kernel
theorem dL_law_1120 : decode cL_law 1120 = .ok (.iaload, 1) := by decide +kernel
theorem dL_law_1121 : decode cL_law 1121 = .ok (.aload_n 0, 1) := by decide +kernel
theorem dL_law_1122 : decode cL_law 1122 = .ok (.iload 4, 2) := by decide +kernel
theorem dL_law_1124 : decode cL_law 1124 = .ok (.iconst 4, 1) := by decide +kernel
theorem dL_law_1125 : decode cL_law 1125 = .ok (.iadd, 1) := by decide +kernel
theorem dL_law_1126 : decode cL_law 1126 = .ok (.iaload, 1) := by decide +kernel
theorem dL_law_1127 : decode cL_law 1127 = .ok (.aload_n 3, 1) := by decide +kernel
theorem dL_law_1128 : decode cL_law 1128 = .ok (.invokestatic 156, 3) := by decide +kernel
theorem dL_law_1131 : decode cL_law 1131 = .ok (.istore 5, 2) := by decide +kernel
theorem dL_law_1133 : decode cL_law 1133 = .ok (.aload_n 2, 1) := by decide +kernel
theorem dL_law_1134 : decode cL_law 1134 = .ok (.aload_n 0, 1) := by decide +kernel
theorem dL_law_1135 : decode cL_law 1135 = .ok (.iload 4, 2) := by decide +kernel
theorem dL_law_1137 : decode cL_law 1137 = .ok (.iconst 1, 1) := by decide +kernel
theorem dL_law_1138 : decode cL_law 1138 = .ok (.iadd, 1) := by decide +kernel
theorem dL_law_1139 : decode cL_law 1139 = .ok (.iaload, 1) := by decide +kernel
theorem dL_law_1140 : decode cL_law 1140 = .ok (.aload_n 0, 1) := by decide +kernel
theorem dL_law_1141 : decode cL_law 1141 = .ok (.iload 4, 2) := by decide +kernel
theorem dL_law_1143 : decode cL_law 1143 = .ok (.iconst 2, 1) := by decide +kernel
theorem dL_law_1144 : decode cL_law 1144 = .ok (.iadd, 1) := by decide +kernel
theorem dL_law_1145 : decode cL_law 1145 = .ok (.iaload, 1) := by decide +kernel
theorem dL_law_1146 : decode cL_law 1146 = .ok (.aload_n 0, 1) := by decide +kernel
theorem dL_law_1147 : decode cL_law 1147 = .ok (.iload 4, 2) := by decide +kernel
theorem dL_law_1149 : decode cL_law 1149 = .ok (.iconst 3, 1) := by decide +kernel
theorem dL_law_1150 : decode cL_law 1150 = .ok (.iadd, 1) := by decide +kernel
theorem dL_law_1151 : decode cL_law 1151 = .ok (.iaload, 1) := by decide +kernel
theorem dL_law_1152 : decode cL_law 1152 = .ok (.aload_n 0, 1) := by decide +kernel
theorem dL_law_1153 : decode cL_law 1153 = .ok (.iload 4, 2) := by decide +kernel
theorem dL_law_1155 : decode cL_law 1155 = .ok (.iconst 4, 1) := by decide +kernel
theorem dL_law_1156 : decode cL_law 1156 = .ok (.iadd, 1) := by decide +kernel
theorem dL_law_1157 : decode cL_law 1157 = .ok (.iaload, 1) := by decide +kernel
theorem dL_law_1158 : decode cL_law 1158 = .ok (.invokevirtual 158, 3) := by decide +kernel
theorem dL_law_1161 : decode cL_law 1161 = .ok (.istore 6, 2) := by decide +kernel
theorem dL_law_1163 : decode cL_law 1163 = .ok (.aload_n 2, 1) := by decide +kernel
theorem dL_law_1164 : decode cL_law 1164 = .ok (.invokevirtual 115, 3) := by decide +kernel
theorem dL_law_1167 : decode cL_law 1167 = .ok (.iload 5, 2) := by decide +kernel
theorem dL_law_1169 : decode cL_law 1169 = .ok (.if_icmp .eq 5, 3) := by decide +kernel
theorem dL_law_1172 : decode cL_law 1172 = .ok (.iconst 0, 1) := by decide +kernel
theorem dL_law_1173 : decode cL_law 1173 = .ok (.ireturn, 1) := by decide +kernel
theorem dL_law_1174 : decode cL_law 1174 = .ok (.iload 5, 2) := by decide +kernel
theorem dL_law_1176 : decode cL_law 1176 = .ok (.ifCond .ne 15, 3) := by decide +kernel
theorem dL_law_1179 : decode cL_law 1179 = .ok (.aload_n 3, 1) := by decide +kernel
theorem dL_law_1180 : decode cL_law 1180 = .ok (.iconst 0, 1) := by decide +kernel
theorem dL_law_1181 : decode cL_law 1181 = .ok (.laload, 1) := by decide +kernel
theorem dL_law_1182 : decode cL_law 1182 = .ok (.iload 6, 2) := by decide +kernel
theorem dL_law_1184 : decode cL_law 1184 = .ok (.i2l, 1) := by decide +kernel
theorem dL_law_1185 : decode cL_law 1185 = .ok (.lcmp, 1) := by decide +kernel
theorem dL_law_1186 : decode cL_law 1186 = .ok (.ifCond .eq 5, 3) := by decide +kernel
theorem dL_law_1189 : decode cL_law 1189 = .ok (.iconst 0, 1) := by decide +kernel
theorem dL_law_1190 : decode cL_law 1190 = .ok (.ireturn, 1) := by decide +kernel
theorem dL_law_1191 : decode cL_law 1191 = .ok (.goto 1010, 3) := by decide +kernel
theorem dL_law_1194 : decode cL_law 1194 = .ok (.aload_n 1, 1) := by decide +kernel
theorem dL_law_1195 : decode cL_law 1195 = .ok (.aload_n 0, 1) := by decide +kernel
theorem dL_law_1196 : decode cL_law 1196 = .ok (.iload 4, 2) := by decide +kernel
theorem dL_law_1198 : decode cL_law 1198 = .ok (.iconst 1, 1) := by decide +kernel
theorem dL_law_1199 : decode cL_law 1199 = .ok (.iadd, 1) := by decide +kernel
theorem dL_law_1200 : decode cL_law 1200 = .ok (.iaload, 1) := by decide +kernel
theorem dL_law_1201 : decode cL_law 1201 = .ok (.aload_n 0, 1) := by decide +kernel
theorem dL_law_1202 : decode cL_law 1202 = .ok (.iload 4, 2) := by decide +kernel
theorem dL_law_1204 : decode cL_law 1204 = .ok (.iconst 2, 1) := by decide +kernel
theorem dL_law_1205 : decode cL_law 1205 = .ok (.iadd, 1) := by decide +kernel
theorem dL_law_1206 : decode cL_law 1206 = .ok (.iaload, 1) := by decide +kernel
theorem dL_law_1207 : decode cL_law 1207 = .ok (.aload_n 0, 1) := by decide +kernel
theorem dL_law_1208 : decode cL_law 1208 = .ok (.iload 4, 2) := by decide +kernel
theorem dL_law_1210 : decode cL_law 1210 = .ok (.iconst 3, 1) := by decide +kernel
theorem dL_law_1211 : decode cL_law 1211 = .ok (.iadd, 1) := by decide +kernel
theorem dL_law_1212 : decode cL_law 1212 = .ok (.iaload, 1) := by decide +kernel
theorem dL_law_1213 : decode cL_law 1213 = .ok (.ifCond .eq 7, 3) := by decide +kernel
theorem dL_law_1216 : decode cL_law 1216 = .ok (.iconst 1, 1) := by decide +kernel
theorem dL_law_1217 : decode cL_law 1217 = .ok (.goto 4, 3) := by decide +kernel
theorem dL_law_1220 : decode cL_law 1220 = .ok (.iconst 0, 1) := by decide +kernel
theorem dL_law_1221 : decode cL_law 1221 = .ok (.aload_n 0, 1) := by decide +kernel
theorem dL_law_1222 : decode cL_law 1222 = .ok (.iload 4, 2) := by decide +kernel
theorem dL_law_1224 : decode cL_law 1224 = .ok (.iconst 4, 1) := by decide +kernel
theorem dL_law_1225 : decode cL_law 1225 = .ok (.iadd, 1) := by decide +kernel
theorem dL_law_1226 : decode cL_law 1226 = .ok (.iaload, 1) := by decide +kernel
theorem dL_law_1227 : decode cL_law 1227 = .ok (.aload_n 0, 1) := by decide +kernel
theorem dL_law_1228 : decode cL_law 1228 = .ok (.iload 4, 2) := by decide +kernel
theorem dL_law_1230 : decode cL_law 1230 = .ok (.iconst 5, 1) := by decide +kernel
theorem dL_law_1231 : decode cL_law 1231 = .ok (.iadd, 1) := by decide +kernel
theorem dL_law_1232 : decode cL_law 1232 = .ok (.iaload, 1) := by decide +kernel
theorem dL_law_1233 : decode cL_law 1233 = .ok (.aload_n 3, 1) := by decide +kernel
theorem dL_law_1234 : decode cL_law 1234 = .ok (.invokestatic 159, 3) := by decide +kernel
theorem dL_law_1237 : decode cL_law 1237 = .ok (.istore 5, 2) := by decide +kernel
theorem dL_law_1239 : decode cL_law 1239 = .ok (.aload_n 2, 1) := by decide +kernel
theorem dL_law_1240 : decode cL_law 1240 = .ok (.aload_n 0, 1) := by decide +kernel
theorem dL_law_1241 : decode cL_law 1241 = .ok (.iload 4, 2) := by decide +kernel
theorem dL_law_1243 : decode cL_law 1243 = .ok (.iconst 1, 1) := by decide +kernel
theorem dL_law_1244 : decode cL_law 1244 = .ok (.iadd, 1) := by decide +kernel
theorem dL_law_1245 : decode cL_law 1245 = .ok (.iaload, 1) := by decide +kernel
theorem dL_law_1246 : decode cL_law 1246 = .ok (.aload_n 0, 1) := by decide +kernel
theorem dL_law_1247 : decode cL_law 1247 = .ok (.iload 4, 2) := by decide +kernel
theorem dL_law_1249 : decode cL_law 1249 = .ok (.iconst 2, 1) := by decide +kernel
theorem dL_law_1250 : decode cL_law 1250 = .ok (.iadd, 1) := by decide +kernel
theorem dL_law_1251 : decode cL_law 1251 = .ok (.iaload, 1) := by decide +kernel
theorem dL_law_1252 : decode cL_law 1252 = .ok (.aload_n 0, 1) := by decide +kernel
theorem dL_law_1253 : decode cL_law 1253 = .ok (.iload 4, 2) := by decide +kernel
theorem dL_law_1255 : decode cL_law 1255 = .ok (.iconst 3, 1) := by decide +kernel
theorem dL_law_1256 : decode cL_law 1256 = .ok (.iadd, 1) := by decide +kernel
theorem dL_law_1257 : decode cL_law 1257 = .ok (.iaload, 1) := by decide +kernel
theorem dL_law_1258 : decode cL_law 1258 = .ok (.ifCond .eq 7, 3) := by decide +kernel
theorem dL_law_1261 : decode cL_law 1261 = .ok (.iconst 1, 1) := by decide +kernel
theorem dL_law_1262 : decode cL_law 1262 = .ok (.goto 4, 3) := by decide +kernel
theorem dL_law_1265 : decode cL_law 1265 = .ok (.iconst 0, 1) := by decide +kernel
theorem dL_law_1266 : decode cL_law 1266 = .ok (.aload_n 0, 1) := by decide +kernel
theorem dL_law_1267 : decode cL_law 1267 = .ok (.iload 4, 2) := by decide +kernel
theorem dL_law_1269 : decode cL_law 1269 = .ok (.iconst 4, 1) := by decide +kernel
theorem dL_law_1270 : decode cL_law 1270 = .ok (.iadd, 1) := by decide +kernel
theorem dL_law_1271 : decode cL_law 1271 = .ok (.iaload, 1) := by decide +kernel
theorem dL_law_1272 : decode cL_law 1272 = .ok (.aload_n 0, 1) := by decide +kernel
theorem dL_law_1273 : decode cL_law 1273 = .ok (.iload 4, 2) := by decide +kernel
theorem dL_law_1275 : decode cL_law 1275 = .ok (.iconst 5, 1) := by decide +kernel
theorem dL_law_1276 : decode cL_law 1276 = .ok (.iadd, 1) := by decide +kernel
theorem dL_law_1277 : decode cL_law 1277 = .ok (.iaload, 1) := by decide +kernel
theorem dL_law_1278 : decode cL_law 1278 = .ok (.invokevirtual 162, 3) := by decide +kernel
theorem dL_law_1281 : decode cL_law 1281 = .ok (.istore 6, 2) := by decide +kernel
theorem dL_law_1283 : decode cL_law 1283 = .ok (.aload_n 2, 1) := by decide +kernel
theorem dL_law_1284 : decode cL_law 1284 = .ok (.invokevirtual 115, 3) := by decide +kernel
theorem dL_law_1287 : decode cL_law 1287 = .ok (.iload 5, 2) := by decide +kernel
theorem dL_law_1289 : decode cL_law 1289 = .ok (.if_icmp .eq 5, 3) := by decide +kernel
theorem dL_law_1292 : decode cL_law 1292 = .ok (.iconst 0, 1) := by decide +kernel
theorem dL_law_1293 : decode cL_law 1293 = .ok (.ireturn, 1) := by decide +kernel
theorem dL_law_1294 : decode cL_law 1294 = .ok (.iload 5, 2) := by decide +kernel
theorem dL_law_1296 : decode cL_law 1296 = .ok (.ifCond .ne 15, 3) := by decide +kernel
theorem dL_law_1299 : decode cL_law 1299 = .ok (.aload_n 3, 1) := by decide +kernel
theorem dL_law_1300 : decode cL_law 1300 = .ok (.iconst 0, 1) := by decide +kernel
theorem dL_law_1301 : decode cL_law 1301 = .ok (.laload, 1) := by decide +kernel
theorem dL_law_1302 : decode cL_law 1302 = .ok (.iload 6, 2) := by decide +kernel
theorem dL_law_1304 : decode cL_law 1304 = .ok (.i2l, 1) := by decide +kernel
theorem dL_law_1305 : decode cL_law 1305 = .ok (.lcmp, 1) := by decide +kernel
theorem dL_law_1306 : decode cL_law 1306 = .ok (.ifCond .eq 5, 3) := by decide +kernel
theorem dL_law_1309 : decode cL_law 1309 = .ok (.iconst 0, 1) := by decide +kernel
theorem dL_law_1310 : decode cL_law 1310 = .ok (.ireturn, 1) := by decide +kernel
theorem dL_law_1311 : decode cL_law 1311 = .ok (.goto 890, 3) := by decide +kernel
theorem dL_law_1314 : decode cL_law 1314 = .ok (.aload_n 1, 1) := by decide +kernel
theorem dL_law_1315 : decode cL_law 1315 = .ok (.aload_n 0, 1) := by decide +kernel
theorem dL_law_1316 : decode cL_law 1316 = .ok (.iload 4, 2) := by decide +kernel
theorem dL_law_1318 : decode cL_law 1318 = .ok (.iconst 1, 1) := by decide +kernel
theorem dL_law_1319 : decode cL_law 1319 = .ok (.iadd, 1) := by decide +kernel
theorem dL_law_1320 : decode cL_law 1320 = .ok (.iaload, 1) := by decide +kernel
theorem dL_law_1321 : decode cL_law 1321 = .ok (.aload_n 0, 1) := by decide +kernel
theorem dL_law_1322 : decode cL_law 1322 = .ok (.iload 4, 2) := by decide +kernel
theorem dL_law_1324 : decode cL_law 1324 = .ok (.iconst 2, 1) := by decide +kernel
theorem dL_law_1325 : decode cL_law 1325 = .ok (.iadd, 1) := by decide +kernel
theorem dL_law_1326 : decode cL_law 1326 = .ok (.iaload, 1) := by decide +kernel
theorem dL_law_1327 : decode cL_law 1327 = .ok (.aload_n 3, 1) := by decide +kernel
theorem dL_law_1328 : decode cL_law 1328 = .ok (.invokestatic 163, 3) := by decide +kernel
theorem dL_law_1331 : decode cL_law 1331 = .ok (.istore 5, 2) := by decide +kernel
theorem dL_law_1333 : decode cL_law 1333 = .ok (.aload_n 2, 1) := by decide +kernel
theorem dL_law_1334 : decode cL_law 1334 = .ok (.aload_n 0, 1) := by decide +kernel
theorem dL_law_1335 : decode cL_law 1335 = .ok (.iload 4, 2) := by decide +kernel
theorem dL_law_1337 : decode cL_law 1337 = .ok (.iconst 1, 1) := by decide +kernel
theorem dL_law_1338 : decode cL_law 1338 = .ok (.iadd, 1) := by decide +kernel
theorem dL_law_1339 : decode cL_law 1339 = .ok (.iaload, 1) := by decide +kernel
theorem dL_law_1340 : decode cL_law 1340 = .ok (.aload_n 0, 1) := by decide +kernel
theorem dL_law_1341 : decode cL_law 1341 = .ok (.iload 4, 2) := by decide +kernel
theorem dL_law_1343 : decode cL_law 1343 = .ok (.iconst 2, 1) := by decide +kernel
theorem dL_law_1344 : decode cL_law 1344 = .ok (.iadd, 1) := by decide +kernel
theorem dL_law_1345 : decode cL_law 1345 = .ok (.iaload, 1) := by decide +kernel
theorem dL_law_1346 : decode cL_law 1346 = .ok (.invokevirtual 165, 3) := by decide +kernel
theorem dL_law_1349 : decode cL_law 1349 = .ok (.istore 6, 2) := by decide +kernel
theorem dL_law_1351 : decode cL_law 1351 = .ok (.aload_n 2, 1) := by decide +kernel
theorem dL_law_1352 : decode cL_law 1352 = .ok (.invokevirtual 115, 3) := by decide +kernel
theorem dL_law_1355 : decode cL_law 1355 = .ok (.iload 5, 2) := by decide +kernel
theorem dL_law_1357 : decode cL_law 1357 = .ok (.if_icmp .eq 5, 3) := by decide +kernel
theorem dL_law_1360 : decode cL_law 1360 = .ok (.iconst 0, 1) := by decide +kernel
theorem dL_law_1361 : decode cL_law 1361 = .ok (.ireturn, 1) := by decide +kernel
theorem dL_law_1362 : decode cL_law 1362 = .ok (.iload 5, 2) := by decide +kernel
theorem dL_law_1364 : decode cL_law 1364 = .ok (.ifCond .ne 15, 3) := by decide +kernel
theorem dL_law_1367 : decode cL_law 1367 = .ok (.aload_n 3, 1) := by decide +kernel
theorem dL_law_1368 : decode cL_law 1368 = .ok (.iconst 0, 1) := by decide +kernel
theorem dL_law_1369 : decode cL_law 1369 = .ok (.laload, 1) := by decide +kernel
theorem dL_law_1370 : decode cL_law 1370 = .ok (.iload 6, 2) := by decide +kernel
theorem dL_law_1372 : decode cL_law 1372 = .ok (.i2l, 1) := by decide +kernel
theorem dL_law_1373 : decode cL_law 1373 = .ok (.lcmp, 1) := by decide +kernel
theorem dL_law_1374 : decode cL_law 1374 = .ok (.ifCond .eq 5, 3) := by decide +kernel
theorem dL_law_1377 : decode cL_law 1377 = .ok (.iconst 0, 1) := by decide +kernel
theorem dL_law_1378 : decode cL_law 1378 = .ok (.ireturn, 1) := by decide +kernel
theorem dL_law_1379 : decode cL_law 1379 = .ok (.goto 822, 3) := by decide +kernel
theorem dL_law_1382 : decode cL_law 1382 = .ok (.aload_n 1, 1) := by decide +kernel
theorem dL_law_1383 : decode cL_law 1383 = .ok (.aload_n 0, 1) := by decide +kernel
theorem dL_law_1384 : decode cL_law 1384 = .ok (.iload 4, 2) := by decide +kernel
theorem dL_law_1386 : decode cL_law 1386 = .ok (.iconst 1, 1) := by decide +kernel
theorem dL_law_1387 : decode cL_law 1387 = .ok (.iadd, 1) := by decide +kernel
theorem dL_law_1388 : decode cL_law 1388 = .ok (.iaload, 1) := by decide +kernel
theorem dL_law_1389 : decode cL_law 1389 = .ok (.aload_n 0, 1) := by decide +kernel
theorem dL_law_1390 : decode cL_law 1390 = .ok (.iload 4, 2) := by decide +kernel
theorem dL_law_1392 : decode cL_law 1392 = .ok (.iconst 2, 1) := by decide +kernel
theorem dL_law_1393 : decode cL_law 1393 = .ok (.iadd, 1) := by decide +kernel
theorem dL_law_1394 : decode cL_law 1394 = .ok (.iaload, 1) := by decide +kernel
theorem dL_law_1395 : decode cL_law 1395 = .ok (.ifCond .eq 7, 3) := by decide +kernel
theorem dL_law_1398 : decode cL_law 1398 = .ok (.iconst 1, 1) := by decide +kernel
theorem dL_law_1399 : decode cL_law 1399 = .ok (.goto 4, 3) := by decide +kernel
theorem dL_law_1402 : decode cL_law 1402 = .ok (.iconst 0, 1) := by decide +kernel
theorem dL_law_1403 : decode cL_law 1403 = .ok (.aload_n 3, 1) := by decide +kernel
theorem dL_law_1404 : decode cL_law 1404 = .ok (.invokestatic 166, 3) := by decide +kernel
theorem dL_law_1407 : decode cL_law 1407 = .ok (.istore 5, 2) := by decide +kernel
theorem dL_law_1409 : decode cL_law 1409 = .ok (.aload_n 2, 1) := by decide +kernel
theorem dL_law_1410 : decode cL_law 1410 = .ok (.aload_n 0, 1) := by decide +kernel
theorem dL_law_1411 : decode cL_law 1411 = .ok (.iload 4, 2) := by decide +kernel
theorem dL_law_1413 : decode cL_law 1413 = .ok (.iconst 1, 1) := by decide +kernel
theorem dL_law_1414 : decode cL_law 1414 = .ok (.iadd, 1) := by decide +kernel
theorem dL_law_1415 : decode cL_law 1415 = .ok (.iaload, 1) := by decide +kernel
theorem dL_law_1416 : decode cL_law 1416 = .ok (.aload_n 0, 1) := by decide +kernel
theorem dL_law_1417 : decode cL_law 1417 = .ok (.iload 4, 2) := by decide +kernel
theorem dL_law_1419 : decode cL_law 1419 = .ok (.iconst 2, 1) := by decide +kernel
theorem dL_law_1420 : decode cL_law 1420 = .ok (.iadd, 1) := by decide +kernel
theorem dL_law_1421 : decode cL_law 1421 = .ok (.iaload, 1) := by decide +kernel
theorem dL_law_1422 : decode cL_law 1422 = .ok (.ifCond .eq 7, 3) := by decide +kernel
theorem dL_law_1425 : decode cL_law 1425 = .ok (.iconst 1, 1) := by decide +kernel
theorem dL_law_1426 : decode cL_law 1426 = .ok (.goto 4, 3) := by decide +kernel
theorem dL_law_1429 : decode cL_law 1429 = .ok (.iconst 0, 1) := by decide +kernel
theorem dL_law_1430 : decode cL_law 1430 = .ok (.invokevirtual 169, 3) := by decide +kernel
theorem dL_law_1433 : decode cL_law 1433 = .ok (.istore 6, 2) := by decide +kernel
theorem dL_law_1435 : decode cL_law 1435 = .ok (.aload_n 2, 1) := by decide +kernel
theorem dL_law_1436 : decode cL_law 1436 = .ok (.invokevirtual 115, 3) := by decide +kernel
theorem dL_law_1439 : decode cL_law 1439 = .ok (.iload 5, 2) := by decide +kernel
theorem dL_law_1441 : decode cL_law 1441 = .ok (.if_icmp .eq 5, 3) := by decide +kernel
theorem dL_law_1444 : decode cL_law 1444 = .ok (.iconst 0, 1) := by decide +kernel
theorem dL_law_1445 : decode cL_law 1445 = .ok (.ireturn, 1) := by decide +kernel
theorem dL_law_1446 : decode cL_law 1446 = .ok (.iload 5, 2) := by decide +kernel
theorem dL_law_1448 : decode cL_law 1448 = .ok (.ifCond .ne 22, 3) := by decide +kernel
theorem dL_law_1451 : decode cL_law 1451 = .ok (.aload_n 3, 1) := by decide +kernel
theorem dL_law_1452 : decode cL_law 1452 = .ok (.iconst 0, 1) := by decide +kernel
theorem dL_law_1453 : decode cL_law 1453 = .ok (.laload, 1) := by decide +kernel
theorem dL_law_1454 : decode cL_law 1454 = .ok (.iload 6, 2) := by decide +kernel
theorem dL_law_1456 : decode cL_law 1456 = .ok (.ifCond .eq 7, 3) := by decide +kernel
theorem dL_law_1459 : decode cL_law 1459 = .ok (.lconst 1, 1) := by decide +kernel
theorem dL_law_1460 : decode cL_law 1460 = .ok (.goto 4, 3) := by decide +kernel
theorem dL_law_1463 : decode cL_law 1463 = .ok (.lconst 0, 1) := by decide +kernel
theorem dL_law_1464 : decode cL_law 1464 = .ok (.lcmp, 1) := by decide +kernel
theorem dL_law_1465 : decode cL_law 1465 = .ok (.ifCond .eq 5, 3) := by decide +kernel
theorem dL_law_1468 : decode cL_law 1468 = .ok (.iconst 0, 1) := by decide +kernel
theorem dL_law_1469 : decode cL_law 1469 = .ok (.ireturn, 1) := by decide +kernel
theorem dL_law_1470 : decode cL_law 1470 = .ok (.goto 731, 3) := by decide +kernel
theorem dL_law_1473 : decode cL_law 1473 = .ok (.aload_n 1, 1) := by decide +kernel
theorem dL_law_1474 : decode cL_law 1474 = .ok (.aload_n 0, 1) := by decide +kernel
theorem dL_law_1475 : decode cL_law 1475 = .ok (.iload 4, 2) := by decide +kernel
theorem dL_law_1477 : decode cL_law 1477 = .ok (.iconst 1, 1) := by decide +kernel
theorem dL_law_1478 : decode cL_law 1478 = .ok (.iadd, 1) := by decide +kernel
theorem dL_law_1479 : decode cL_law 1479 = .ok (.iaload, 1) := by decide +kernel
theorem dL_law_1480 : decode cL_law 1480 = .ok (.aload_n 3, 1) := by decide +kernel
theorem dL_law_1481 : decode cL_law 1481 = .ok (.invokestatic 170, 3) := by decide +kernel
theorem dL_law_1484 : decode cL_law 1484 = .ok (.istore 5, 2) := by decide +kernel
theorem dL_law_1486 : decode cL_law 1486 = .ok (.aload_n 2, 1) := by decide +kernel
theorem dL_law_1487 : decode cL_law 1487 = .ok (.aload_n 0, 1) := by decide +kernel
theorem dL_law_1488 : decode cL_law 1488 = .ok (.iload 4, 2) := by decide +kernel
theorem dL_law_1490 : decode cL_law 1490 = .ok (.iconst 1, 1) := by decide +kernel
theorem dL_law_1491 : decode cL_law 1491 = .ok (.iadd, 1) := by decide +kernel
theorem dL_law_1492 : decode cL_law 1492 = .ok (.iaload, 1) := by decide +kernel
theorem dL_law_1493 : decode cL_law 1493 = .ok (.invokevirtual 173, 3) := by decide +kernel
theorem dL_law_1496 : decode cL_law 1496 = .ok (.istore 6, 2) := by decide +kernel
theorem dL_law_1498 : decode cL_law 1498 = .ok (.aload_n 2, 1) := by decide +kernel
theorem dL_law_1499 : decode cL_law 1499 = .ok (.invokevirtual 115, 3) := by decide +kernel
theorem dL_law_1502 : decode cL_law 1502 = .ok (.iload 5, 2) := by decide +kernel
theorem dL_law_1504 : decode cL_law 1504 = .ok (.if_icmp .eq 5, 3) := by decide +kernel
theorem dL_law_1507 : decode cL_law 1507 = .ok (.iconst 0, 1) := by decide +kernel
theorem dL_law_1508 : decode cL_law 1508 = .ok (.ireturn, 1) := by decide +kernel
theorem dL_law_1509 : decode cL_law 1509 = .ok (.iload 5, 2) := by decide +kernel
theorem dL_law_1511 : decode cL_law 1511 = .ok (.ifCond .ne 15, 3) := by decide +kernel
theorem dL_law_1514 : decode cL_law 1514 = .ok (.aload_n 3, 1) := by decide +kernel
theorem dL_law_1515 : decode cL_law 1515 = .ok (.iconst 0, 1) := by decide +kernel
theorem dL_law_1516 : decode cL_law 1516 = .ok (.laload, 1) := by decide +kernel
theorem dL_law_1517 : decode cL_law 1517 = .ok (.iload 6, 2) := by decide +kernel
theorem dL_law_1519 : decode cL_law 1519 = .ok (.i2l, 1) := by decide +kernel
theorem dL_law_1520 : decode cL_law 1520 = .ok (.lcmp, 1) := by decide +kernel
theorem dL_law_1521 : decode cL_law 1521 = .ok (.ifCond .eq 5, 3) := by decide +kernel
theorem dL_law_1524 : decode cL_law 1524 = .ok (.iconst 0, 1) := by decide +kernel
theorem dL_law_1525 : decode cL_law 1525 = .ok (.ireturn, 1) := by decide +kernel
theorem dL_law_1526 : decode cL_law 1526 = .ok (.goto 675, 3) := by decide +kernel
theorem dL_law_1529 : decode cL_law 1529 = .ok (.aload_n 1, 1) := by decide +kernel
theorem dL_law_1530 : decode cL_law 1530 = .ok (.aload_n 0, 1) := by decide +kernel
theorem dL_law_1531 : decode cL_law 1531 = .ok (.iload 4, 2) := by decide +kernel
theorem dL_law_1533 : decode cL_law 1533 = .ok (.iconst 1, 1) := by decide +kernel
theorem dL_law_1534 : decode cL_law 1534 = .ok (.iadd, 1) := by decide +kernel
theorem dL_law_1535 : decode cL_law 1535 = .ok (.iaload, 1) := by decide +kernel
theorem dL_law_1536 : decode cL_law 1536 = .ok (.aload_n 3, 1) := by decide +kernel
theorem dL_law_1537 : decode cL_law 1537 = .ok (.invokestatic 174, 3) := by decide +kernel
theorem dL_law_1540 : decode cL_law 1540 = .ok (.istore 5, 2) := by decide +kernel
theorem dL_law_1542 : decode cL_law 1542 = .ok (.aload_n 2, 1) := by decide +kernel
theorem dL_law_1543 : decode cL_law 1543 = .ok (.aload_n 0, 1) := by decide +kernel
theorem dL_law_1544 : decode cL_law 1544 = .ok (.iload 4, 2) := by decide +kernel
theorem dL_law_1546 : decode cL_law 1546 = .ok (.iconst 1, 1) := by decide +kernel
theorem dL_law_1547 : decode cL_law 1547 = .ok (.iadd, 1) := by decide +kernel
theorem dL_law_1548 : decode cL_law 1548 = .ok (.iaload, 1) := by decide +kernel
theorem dL_law_1549 : decode cL_law 1549 = .ok (.invokevirtual 176, 3) := by decide +kernel
theorem dL_law_1552 : decode cL_law 1552 = .ok (.istore 6, 2) := by decide +kernel
theorem dL_law_1554 : decode cL_law 1554 = .ok (.aload_n 2, 1) := by decide +kernel
theorem dL_law_1555 : decode cL_law 1555 = .ok (.invokevirtual 115, 3) := by decide +kernel
theorem dL_law_1558 : decode cL_law 1558 = .ok (.iload 5, 2) := by decide +kernel
theorem dL_law_1560 : decode cL_law 1560 = .ok (.if_icmp .eq 5, 3) := by decide +kernel
theorem dL_law_1563 : decode cL_law 1563 = .ok (.iconst 0, 1) := by decide +kernel
theorem dL_law_1564 : decode cL_law 1564 = .ok (.ireturn, 1) := by decide +kernel
theorem dL_law_1565 : decode cL_law 1565 = .ok (.iload 5, 2) := by decide +kernel
theorem dL_law_1567 : decode cL_law 1567 = .ok (.ifCond .ne 22, 3) := by decide +kernel
theorem dL_law_1570 : decode cL_law 1570 = .ok (.aload_n 3, 1) := by decide +kernel
theorem dL_law_1571 : decode cL_law 1571 = .ok (.iconst 0, 1) := by decide +kernel
theorem dL_law_1572 : decode cL_law 1572 = .ok (.laload, 1) := by decide +kernel
theorem dL_law_1573 : decode cL_law 1573 = .ok (.iload 6, 2) := by decide +kernel
theorem dL_law_1575 : decode cL_law 1575 = .ok (.ifCond .eq 7, 3) := by decide +kernel
theorem dL_law_1578 : decode cL_law 1578 = .ok (.lconst 1, 1) := by decide +kernel
theorem dL_law_1579 : decode cL_law 1579 = .ok (.goto 4, 3) := by decide +kernel
theorem dL_law_1582 : decode cL_law 1582 = .ok (.lconst 0, 1) := by decide +kernel
theorem dL_law_1583 : decode cL_law 1583 = .ok (.lcmp, 1) := by decide +kernel
theorem dL_law_1584 : decode cL_law 1584 = .ok (.ifCond .eq 5, 3) := by decide +kernel
theorem dL_law_1587 : decode cL_law 1587 = .ok (.iconst 0, 1) := by decide +kernel
theorem dL_law_1588 : decode cL_law 1588 = .ok (.ireturn, 1) := by decide +kernel
theorem dL_law_1589 : decode cL_law 1589 = .ok (.goto 612, 3) := by decide +kernel
theorem dL_law_1592 : decode cL_law 1592 = .ok (.aload_n 1, 1) := by decide +kernel
theorem dL_law_1593 : decode cL_law 1593 = .ok (.aload_n 0, 1) := by decide +kernel
theorem dL_law_1594 : decode cL_law 1594 = .ok (.iload 4, 2) := by decide +kernel
theorem dL_law_1596 : decode cL_law 1596 = .ok (.iconst 1, 1) := by decide +kernel
theorem dL_law_1597 : decode cL_law 1597 = .ok (.iadd, 1) := by decide +kernel
theorem dL_law_1598 : decode cL_law 1598 = .ok (.iaload, 1) := by decide +kernel
theorem dL_law_1599 : decode cL_law 1599 = .ok (.aload_n 0, 1) := by decide +kernel
theorem dL_law_1600 : decode cL_law 1600 = .ok (.iload 4, 2) := by decide +kernel
theorem dL_law_1602 : decode cL_law 1602 = .ok (.iconst 2, 1) := by decide +kernel
theorem dL_law_1603 : decode cL_law 1603 = .ok (.iadd, 1) := by decide +kernel
theorem dL_law_1604 : decode cL_law 1604 = .ok (.iaload, 1) := by decide +kernel
theorem dL_law_1605 : decode cL_law 1605 = .ok (.aload_n 3, 1) := by decide +kernel
theorem dL_law_1606 : decode cL_law 1606 = .ok (.invokestatic 177, 3) := by decide +kernel
theorem dL_law_1609 : decode cL_law 1609 = .ok (.istore 5, 2) := by decide +kernel
theorem dL_law_1611 : decode cL_law 1611 = .ok (.aload_n 2, 1) := by decide +kernel
theorem dL_law_1612 : decode cL_law 1612 = .ok (.aload_n 0, 1) := by decide +kernel
theorem dL_law_1613 : decode cL_law 1613 = .ok (.iload 4, 2) := by decide +kernel
theorem dL_law_1615 : decode cL_law 1615 = .ok (.iconst 1, 1) := by decide +kernel
theorem dL_law_1616 : decode cL_law 1616 = .ok (.iadd, 1) := by decide +kernel
theorem dL_law_1617 : decode cL_law 1617 = .ok (.iaload, 1) := by decide +kernel
theorem dL_law_1618 : decode cL_law 1618 = .ok (.aload_n 0, 1) := by decide +kernel
theorem dL_law_1619 : decode cL_law 1619 = .ok (.iload 4, 2) := by decide +kernel
theorem dL_law_1621 : decode cL_law 1621 = .ok (.iconst 2, 1) := by decide +kernel
theorem dL_law_1622 : decode cL_law 1622 = .ok (.iadd, 1) := by decide +kernel
theorem dL_law_1623 : decode cL_law 1623 = .ok (.iaload, 1) := by decide +kernel
theorem dL_law_1624 : decode cL_law 1624 = .ok (.invokevirtual 179, 3) := by decide +kernel
theorem dL_law_1627 : decode cL_law 1627 = .ok (.istore 6, 2) := by decide +kernel
theorem dL_law_1629 : decode cL_law 1629 = .ok (.aload_n 2, 1) := by decide +kernel
theorem dL_law_1630 : decode cL_law 1630 = .ok (.invokevirtual 115, 3) := by decide +kernel
theorem dL_law_1633 : decode cL_law 1633 = .ok (.iload 5, 2) := by decide +kernel
theorem dL_law_1635 : decode cL_law 1635 = .ok (.if_icmp .eq 5, 3) := by decide +kernel
theorem dL_law_1638 : decode cL_law 1638 = .ok (.iconst 0, 1) := by decide +kernel
theorem dL_law_1639 : decode cL_law 1639 = .ok (.ireturn, 1) := by decide +kernel
theorem dL_law_1640 : decode cL_law 1640 = .ok (.iload 5, 2) := by decide +kernel
theorem dL_law_1642 : decode cL_law 1642 = .ok (.ifCond .ne 15, 3) := by decide +kernel
theorem dL_law_1645 : decode cL_law 1645 = .ok (.aload_n 3, 1) := by decide +kernel
theorem dL_law_1646 : decode cL_law 1646 = .ok (.iconst 0, 1) := by decide +kernel
theorem dL_law_1647 : decode cL_law 1647 = .ok (.laload, 1) := by decide +kernel
theorem dL_law_1648 : decode cL_law 1648 = .ok (.iload 6, 2) := by decide +kernel
theorem dL_law_1650 : decode cL_law 1650 = .ok (.i2l, 1) := by decide +kernel
theorem dL_law_1651 : decode cL_law 1651 = .ok (.lcmp, 1) := by decide +kernel
theorem dL_law_1652 : decode cL_law 1652 = .ok (.ifCond .eq 5, 3) := by decide +kernel
theorem dL_law_1655 : decode cL_law 1655 = .ok (.iconst 0, 1) := by decide +kernel
theorem dL_law_1656 : decode cL_law 1656 = .ok (.ireturn, 1) := by decide +kernel
theorem dL_law_1657 : decode cL_law 1657 = .ok (.goto 544, 3) := by decide +kernel
theorem dL_law_1660 : decode cL_law 1660 = .ok (.aload_n 1, 1) := by decide +kernel
theorem dL_law_1661 : decode cL_law 1661 = .ok (.aload_n 0, 1) := by decide +kernel
theorem dL_law_1662 : decode cL_law 1662 = .ok (.iload 4, 2) := by decide +kernel
theorem dL_law_1664 : decode cL_law 1664 = .ok (.iconst 1, 1) := by decide +kernel
theorem dL_law_1665 : decode cL_law 1665 = .ok (.iadd, 1) := by decide +kernel
theorem dL_law_1666 : decode cL_law 1666 = .ok (.iaload, 1) := by decide +kernel
theorem dL_law_1667 : decode cL_law 1667 = .ok (.aload_n 3, 1) := by decide +kernel
theorem dL_law_1668 : decode cL_law 1668 = .ok (.invokestatic 180, 3) := by decide +kernel
theorem dL_law_1671 : decode cL_law 1671 = .ok (.istore 5, 2) := by decide +kernel
theorem dL_law_1673 : decode cL_law 1673 = .ok (.aload_n 2, 1) := by decide +kernel
theorem dL_law_1674 : decode cL_law 1674 = .ok (.aload_n 0, 1) := by decide +kernel
theorem dL_law_1675 : decode cL_law 1675 = .ok (.iload 4, 2) := by decide +kernel
theorem dL_law_1677 : decode cL_law 1677 = .ok (.iconst 1, 1) := by decide +kernel
theorem dL_law_1678 : decode cL_law 1678 = .ok (.iadd, 1) := by decide +kernel
theorem dL_law_1679 : decode cL_law 1679 = .ok (.iaload, 1) := by decide +kernel
theorem dL_law_1680 : decode cL_law 1680 = .ok (.invokevirtual 182, 3) := by decide +kernel
theorem dL_law_1683 : decode cL_law 1683 = .ok (.istore 6, 2) := by decide +kernel
theorem dL_law_1685 : decode cL_law 1685 = .ok (.aload_n 2, 1) := by decide +kernel
theorem dL_law_1686 : decode cL_law 1686 = .ok (.invokevirtual 115, 3) := by decide +kernel
theorem dL_law_1689 : decode cL_law 1689 = .ok (.iload 5, 2) := by decide +kernel
theorem dL_law_1691 : decode cL_law 1691 = .ok (.if_icmp .eq 5, 3) := by decide +kernel
theorem dL_law_1694 : decode cL_law 1694 = .ok (.iconst 0, 1) := by decide +kernel
theorem dL_law_1695 : decode cL_law 1695 = .ok (.ireturn, 1) := by decide +kernel
theorem dL_law_1696 : decode cL_law 1696 = .ok (.iload 5, 2) := by decide +kernel
theorem dL_law_1698 : decode cL_law 1698 = .ok (.ifCond .ne 15, 3) := by decide +kernel
theorem dL_law_1701 : decode cL_law 1701 = .ok (.aload_n 3, 1) := by decide +kernel
theorem dL_law_1702 : decode cL_law 1702 = .ok (.iconst 0, 1) := by decide +kernel
theorem dL_law_1703 : decode cL_law 1703 = .ok (.laload, 1) := by decide +kernel
theorem dL_law_1704 : decode cL_law 1704 = .ok (.iload 6, 2) := by decide +kernel
theorem dL_law_1706 : decode cL_law 1706 = .ok (.i2l, 1) := by decide +kernel
theorem dL_law_1707 : decode cL_law 1707 = .ok (.lcmp, 1) := by decide +kernel
theorem dL_law_1708 : decode cL_law 1708 = .ok (.ifCond .eq 5, 3) := by decide +kernel
theorem dL_law_1711 : decode cL_law 1711 = .ok (.iconst 0, 1) := by decide +kernel
theorem dL_law_1712 : decode cL_law 1712 = .ok (.ireturn, 1) := by decide +kernel
theorem dL_law_1713 : decode cL_law 1713 = .ok (.goto 488, 3) := by decide +kernel
theorem dL_law_1716 : decode cL_law 1716 = .ok (.aload_n 1, 1) := by decide +kernel
theorem dL_law_1717 : decode cL_law 1717 = .ok (.aload_n 0, 1) := by decide +kernel
theorem dL_law_1718 : decode cL_law 1718 = .ok (.iload 4, 2) := by decide +kernel
theorem dL_law_1720 : decode cL_law 1720 = .ok (.iconst 1, 1) := by decide +kernel
theorem dL_law_1721 : decode cL_law 1721 = .ok (.iadd, 1) := by decide +kernel
theorem dL_law_1722 : decode cL_law 1722 = .ok (.iaload, 1) := by decide +kernel
theorem dL_law_1723 : decode cL_law 1723 = .ok (.aload_n 3, 1) := by decide +kernel
theorem dL_law_1724 : decode cL_law 1724 = .ok (.invokestatic 183, 3) := by decide +kernel
theorem dL_law_1727 : decode cL_law 1727 = .ok (.istore 5, 2) := by decide +kernel
theorem dL_law_1729 : decode cL_law 1729 = .ok (.aload_n 2, 1) := by decide +kernel
theorem dL_law_1730 : decode cL_law 1730 = .ok (.aload_n 0, 1) := by decide +kernel
theorem dL_law_1731 : decode cL_law 1731 = .ok (.iload 4, 2) := by decide +kernel
theorem dL_law_1733 : decode cL_law 1733 = .ok (.iconst 1, 1) := by decide +kernel
theorem dL_law_1734 : decode cL_law 1734 = .ok (.iadd, 1) := by decide +kernel
theorem dL_law_1735 : decode cL_law 1735 = .ok (.iaload, 1) := by decide +kernel
theorem dL_law_1736 : decode cL_law 1736 = .ok (.invokevirtual 185, 3) := by decide +kernel
theorem dL_law_1739 : decode cL_law 1739 = .ok (.istore 6, 2) := by decide +kernel
theorem dL_law_1741 : decode cL_law 1741 = .ok (.aload_n 2, 1) := by decide +kernel
theorem dL_law_1742 : decode cL_law 1742 = .ok (.invokevirtual 115, 3) := by decide +kernel
theorem dL_law_1745 : decode cL_law 1745 = .ok (.iload 5, 2) := by decide +kernel
theorem dL_law_1747 : decode cL_law 1747 = .ok (.if_icmp .eq 5, 3) := by decide +kernel
theorem dL_law_1750 : decode cL_law 1750 = .ok (.iconst 0, 1) := by decide +kernel
theorem dL_law_1751 : decode cL_law 1751 = .ok (.ireturn, 1) := by decide +kernel
theorem dL_law_1752 : decode cL_law 1752 = .ok (.iload 5, 2) := by decide +kernel
theorem dL_law_1754 : decode cL_law 1754 = .ok (.ifCond .ne 15, 3) := by decide +kernel
theorem dL_law_1757 : decode cL_law 1757 = .ok (.aload_n 3, 1) := by decide +kernel
theorem dL_law_1758 : decode cL_law 1758 = .ok (.iconst 0, 1) := by decide +kernel
theorem dL_law_1759 : decode cL_law 1759 = .ok (.laload, 1) := by decide +kernel
theorem dL_law_1760 : decode cL_law 1760 = .ok (.iload 6, 2) := by decide +kernel
theorem dL_law_1762 : decode cL_law 1762 = .ok (.i2l, 1) := by decide +kernel
theorem dL_law_1763 : decode cL_law 1763 = .ok (.lcmp, 1) := by decide +kernel
theorem dL_law_1764 : decode cL_law 1764 = .ok (.ifCond .eq 5, 3) := by decide +kernel
theorem dL_law_1767 : decode cL_law 1767 = .ok (.iconst 0, 1) := by decide +kernel
theorem dL_law_1768 : decode cL_law 1768 = .ok (.ireturn, 1) := by decide +kernel
theorem dL_law_1769 : decode cL_law 1769 = .ok (.goto 432, 3) := by decide +kernel
theorem dL_law_1772 : decode cL_law 1772 = .ok (.aload_n 1, 1) := by decide +kernel
theorem dL_law_1773 : decode cL_law 1773 = .ok (.aload_n 0, 1) := by decide +kernel
theorem dL_law_1774 : decode cL_law 1774 = .ok (.iload 4, 2) := by decide +kernel
theorem dL_law_1776 : decode cL_law 1776 = .ok (.iconst 1, 1) := by decide +kernel
theorem dL_law_1777 : decode cL_law 1777 = .ok (.iadd, 1) := by decide +kernel
theorem dL_law_1778 : decode cL_law 1778 = .ok (.iaload, 1) := by decide +kernel
theorem dL_law_1779 : decode cL_law 1779 = .ok (.aload_n 0, 1) := by decide +kernel
theorem dL_law_1780 : decode cL_law 1780 = .ok (.iload 4, 2) := by decide +kernel
theorem dL_law_1782 : decode cL_law 1782 = .ok (.iconst 2, 1) := by decide +kernel
theorem dL_law_1783 : decode cL_law 1783 = .ok (.iadd, 1) := by decide +kernel
theorem dL_law_1784 : decode cL_law 1784 = .ok (.iaload, 1) := by decide +kernel
theorem dL_law_1785 : decode cL_law 1785 = .ok (.aload_n 3, 1) := by decide +kernel
theorem dL_law_1786 : decode cL_law 1786 = .ok (.invokestatic 186, 3) := by decide +kernel
theorem dL_law_1789 : decode cL_law 1789 = .ok (.istore 5, 2) := by decide +kernel
theorem dL_law_1791 : decode cL_law 1791 = .ok (.aload_n 2, 1) := by decide +kernel
theorem dL_law_1792 : decode cL_law 1792 = .ok (.aload_n 0, 1) := by decide +kernel
theorem dL_law_1793 : decode cL_law 1793 = .ok (.iload 4, 2) := by decide +kernel
theorem dL_law_1795 : decode cL_law 1795 = .ok (.iconst 1, 1) := by decide +kernel
theorem dL_law_1796 : decode cL_law 1796 = .ok (.iadd, 1) := by decide +kernel
theorem dL_law_1797 : decode cL_law 1797 = .ok (.iaload, 1) := by decide +kernel
theorem dL_law_1798 : decode cL_law 1798 = .ok (.aload_n 0, 1) := by decide +kernel
theorem dL_law_1799 : decode cL_law 1799 = .ok (.iload 4, 2) := by decide +kernel
theorem dL_law_1801 : decode cL_law 1801 = .ok (.iconst 2, 1) := by decide +kernel
theorem dL_law_1802 : decode cL_law 1802 = .ok (.iadd, 1) := by decide +kernel
theorem dL_law_1803 : decode cL_law 1803 = .ok (.iaload, 1) := by decide +kernel
theorem dL_law_1804 : decode cL_law 1804 = .ok (.invokevirtual 188, 3) := by decide +kernel
theorem dL_law_1807 : decode cL_law 1807 = .ok (.istore 6, 2) := by decide +kernel
theorem dL_law_1809 : decode cL_law 1809 = .ok (.aload_n 2, 1) := by decide +kernel
theorem dL_law_1810 : decode cL_law 1810 = .ok (.invokevirtual 115, 3) := by decide +kernel
theorem dL_law_1813 : decode cL_law 1813 = .ok (.iload 5, 2) := by decide +kernel
theorem dL_law_1815 : decode cL_law 1815 = .ok (.if_icmp .eq 5, 3) := by decide +kernel
theorem dL_law_1818 : decode cL_law 1818 = .ok (.iconst 0, 1) := by decide +kernel
theorem dL_law_1819 : decode cL_law 1819 = .ok (.ireturn, 1) := by decide +kernel
theorem dL_law_1820 : decode cL_law 1820 = .ok (.iload 5, 2) := by decide +kernel
theorem dL_law_1822 : decode cL_law 1822 = .ok (.ifCond .ne 15, 3) := by decide +kernel
theorem dL_law_1825 : decode cL_law 1825 = .ok (.aload_n 3, 1) := by decide +kernel
theorem dL_law_1826 : decode cL_law 1826 = .ok (.iconst 0, 1) := by decide +kernel
theorem dL_law_1827 : decode cL_law 1827 = .ok (.laload, 1) := by decide +kernel
theorem dL_law_1828 : decode cL_law 1828 = .ok (.iload 6, 2) := by decide +kernel
theorem dL_law_1830 : decode cL_law 1830 = .ok (.i2l, 1) := by decide +kernel
theorem dL_law_1831 : decode cL_law 1831 = .ok (.lcmp, 1) := by decide +kernel
theorem dL_law_1832 : decode cL_law 1832 = .ok (.ifCond .eq 5, 3) := by decide +kernel
theorem dL_law_1835 : decode cL_law 1835 = .ok (.iconst 0, 1) := by decide +kernel
theorem dL_law_1836 : decode cL_law 1836 = .ok (.ireturn, 1) := by decide +kernel
theorem dL_law_1837 : decode cL_law 1837 = .ok (.goto 364, 3) := by decide +kernel
theorem dL_law_1840 : decode cL_law 1840 = .ok (.aload_n 1, 1) := by decide +kernel
theorem dL_law_1841 : decode cL_law 1841 = .ok (.aload_n 0, 1) := by decide +kernel
theorem dL_law_1842 : decode cL_law 1842 = .ok (.iload 4, 2) := by decide +kernel
theorem dL_law_1844 : decode cL_law 1844 = .ok (.iconst 1, 1) := by decide +kernel
theorem dL_law_1845 : decode cL_law 1845 = .ok (.iadd, 1) := by decide +kernel
theorem dL_law_1846 : decode cL_law 1846 = .ok (.iaload, 1) := by decide +kernel
theorem dL_law_1847 : decode cL_law 1847 = .ok (.aload_n 3, 1) := by decide +kernel
theorem dL_law_1848 : decode cL_law 1848 = .ok (.invokestatic 189, 3) := by decide +kernel
theorem dL_law_1851 : decode cL_law 1851 = .ok (.istore 5, 2) := by decide +kernel
theorem dL_law_1853 : decode cL_law 1853 = .ok (.aload_n 2, 1) := by decide +kernel
theorem dL_law_1854 : decode cL_law 1854 = .ok (.aload_n 0, 1) := by decide +kernel
theorem dL_law_1855 : decode cL_law 1855 = .ok (.iload 4, 2) := by decide +kernel
theorem dL_law_1857 : decode cL_law 1857 = .ok (.iconst 1, 1) := by decide +kernel
theorem dL_law_1858 : decode cL_law 1858 = .ok (.iadd, 1) := by decide +kernel
theorem dL_law_1859 : decode cL_law 1859 = .ok (.iaload, 1) := by decide +kernel
theorem dL_law_1860 : decode cL_law 1860 = .ok (.invokevirtual 191, 3) := by decide +kernel
theorem dL_law_1863 : decode cL_law 1863 = .ok (.istore 6, 2) := by decide +kernel
theorem dL_law_1865 : decode cL_law 1865 = .ok (.aload_n 2, 1) := by decide +kernel
theorem dL_law_1866 : decode cL_law 1866 = .ok (.invokevirtual 115, 3) := by decide +kernel
theorem dL_law_1869 : decode cL_law 1869 = .ok (.iload 5, 2) := by decide +kernel
theorem dL_law_1871 : decode cL_law 1871 = .ok (.if_icmp .eq 5, 3) := by decide +kernel
theorem dL_law_1874 : decode cL_law 1874 = .ok (.iconst 0, 1) := by decide +kernel
theorem dL_law_1875 : decode cL_law 1875 = .ok (.ireturn, 1) := by decide +kernel
theorem dL_law_1876 : decode cL_law 1876 = .ok (.iload 5, 2) := by decide +kernel
theorem dL_law_1878 : decode cL_law 1878 = .ok (.ifCond .ne 15, 3) := by decide +kernel
theorem dL_law_1881 : decode cL_law 1881 = .ok (.aload_n 3, 1) := by decide +kernel
theorem dL_law_1882 : decode cL_law 1882 = .ok (.iconst 0, 1) := by decide +kernel
theorem dL_law_1883 : decode cL_law 1883 = .ok (.laload, 1) := by decide +kernel
theorem dL_law_1884 : decode cL_law 1884 = .ok (.iload 6, 2) := by decide +kernel
theorem dL_law_1886 : decode cL_law 1886 = .ok (.i2l, 1) := by decide +kernel
theorem dL_law_1887 : decode cL_law 1887 = .ok (.lcmp, 1) := by decide +kernel
theorem dL_law_1888 : decode cL_law 1888 = .ok (.ifCond .eq 5, 3) := by decide +kernel
theorem dL_law_1891 : decode cL_law 1891 = .ok (.iconst 0, 1) := by decide +kernel
theorem dL_law_1892 : decode cL_law 1892 = .ok (.ireturn, 1) := by decide +kernel
theorem dL_law_1893 : decode cL_law 1893 = .ok (.goto 308, 3) := by decide +kernel
theorem dL_law_1896 : decode cL_law 1896 = .ok (.aload_n 1, 1) := by decide +kernel
theorem dL_law_1897 : decode cL_law 1897 = .ok (.aload_n 0, 1) := by decide +kernel
theorem dL_law_1898 : decode cL_law 1898 = .ok (.iload 4, 2) := by decide +kernel
theorem dL_law_1900 : decode cL_law 1900 = .ok (.iconst 1, 1) := by decide +kernel
theorem dL_law_1901 : decode cL_law 1901 = .ok (.iadd, 1) := by decide +kernel
theorem dL_law_1902 : decode cL_law 1902 = .ok (.iaload, 1) := by decide +kernel
theorem dL_law_1903 : decode cL_law 1903 = .ok (.aload_n 3, 1) := by decide +kernel
theorem dL_law_1904 : decode cL_law 1904 = .ok (.invokestatic 192, 3) := by decide +kernel
theorem dL_law_1907 : decode cL_law 1907 = .ok (.istore 5, 2) := by decide +kernel
theorem dL_law_1909 : decode cL_law 1909 = .ok (.aload_n 2, 1) := by decide +kernel
theorem dL_law_1910 : decode cL_law 1910 = .ok (.aload_n 0, 1) := by decide +kernel
theorem dL_law_1911 : decode cL_law 1911 = .ok (.iload 4, 2) := by decide +kernel
theorem dL_law_1913 : decode cL_law 1913 = .ok (.iconst 1, 1) := by decide +kernel
theorem dL_law_1914 : decode cL_law 1914 = .ok (.iadd, 1) := by decide +kernel
theorem dL_law_1915 : decode cL_law 1915 = .ok (.iaload, 1) := by decide +kernel
theorem dL_law_1916 : decode cL_law 1916 = .ok (.invokevirtual 194, 3) := by decide +kernel
theorem dL_law_1919 : decode cL_law 1919 = .ok (.istore 6, 2) := by decide +kernel
theorem dL_law_1921 : decode cL_law 1921 = .ok (.aload_n 2, 1) := by decide +kernel
theorem dL_law_1922 : decode cL_law 1922 = .ok (.invokevirtual 115, 3) := by decide +kernel
theorem dL_law_1925 : decode cL_law 1925 = .ok (.iload 5, 2) := by decide +kernel
theorem dL_law_1927 : decode cL_law 1927 = .ok (.if_icmp .eq 5, 3) := by decide +kernel
theorem dL_law_1930 : decode cL_law 1930 = .ok (.iconst 0, 1) := by decide +kernel
theorem dL_law_1931 : decode cL_law 1931 = .ok (.ireturn, 1) := by decide +kernel
theorem dL_law_1932 : decode cL_law 1932 = .ok (.iload 5, 2) := by decide +kernel
theorem dL_law_1934 : decode cL_law 1934 = .ok (.ifCond .ne 15, 3) := by decide +kernel
theorem dL_law_1937 : decode cL_law 1937 = .ok (.aload_n 3, 1) := by decide +kernel
theorem dL_law_1938 : decode cL_law 1938 = .ok (.iconst 0, 1) := by decide +kernel
theorem dL_law_1939 : decode cL_law 1939 = .ok (.laload, 1) := by decide +kernel
theorem dL_law_1940 : decode cL_law 1940 = .ok (.iload 6, 2) := by decide +kernel
theorem dL_law_1942 : decode cL_law 1942 = .ok (.i2l, 1) := by decide +kernel
theorem dL_law_1943 : decode cL_law 1943 = .ok (.lcmp, 1) := by decide +kernel
theorem dL_law_1944 : decode cL_law 1944 = .ok (.ifCond .eq 5, 3) := by decide +kernel
theorem dL_law_1947 : decode cL_law 1947 = .ok (.iconst 0, 1) := by decide +kernel
theorem dL_law_1948 : decode cL_law 1948 = .ok (.ireturn, 1) := by decide +kernel
theorem dL_law_1949 : decode cL_law 1949 = .ok (.goto 252, 3) := by decide +kernel
theorem dL_law_1952 : decode cL_law 1952 = .ok (.aload_n 1, 1) := by decide +kernel
theorem dL_law_1953 : decode cL_law 1953 = .ok (.aload_n 0, 1) := by decide +kernel
theorem dL_law_1954 : decode cL_law 1954 = .ok (.iload 4, 2) := by decide +kernel
theorem dL_law_1956 : decode cL_law 1956 = .ok (.iconst 1, 1) := by decide +kernel
theorem dL_law_1957 : decode cL_law 1957 = .ok (.iadd, 1) := by decide +kernel
theorem dL_law_1958 : decode cL_law 1958 = .ok (.iaload, 1) := by decide +kernel
theorem dL_law_1959 : decode cL_law 1959 = .ok (.aload_n 0, 1) := by decide +kernel
theorem dL_law_1960 : decode cL_law 1960 = .ok (.iload 4, 2) := by decide +kernel
theorem dL_law_1962 : decode cL_law 1962 = .ok (.iconst 2, 1) := by decide +kernel
theorem dL_law_1963 : decode cL_law 1963 = .ok (.iadd, 1) := by decide +kernel
theorem dL_law_1964 : decode cL_law 1964 = .ok (.iaload, 1) := by decide +kernel
theorem dL_law_1965 : decode cL_law 1965 = .ok (.aload_n 3, 1) := by decide +kernel
theorem dL_law_1966 : decode cL_law 1966 = .ok (.invokestatic 195, 3) := by decide +kernel
theorem dL_law_1969 : decode cL_law 1969 = .ok (.istore 5, 2) := by decide +kernel
theorem dL_law_1971 : decode cL_law 1971 = .ok (.aload_n 2, 1) := by decide +kernel
theorem dL_law_1972 : decode cL_law 1972 = .ok (.aload_n 0, 1) := by decide +kernel
theorem dL_law_1973 : decode cL_law 1973 = .ok (.iload 4, 2) := by decide +kernel
theorem dL_law_1975 : decode cL_law 1975 = .ok (.iconst 1, 1) := by decide +kernel
theorem dL_law_1976 : decode cL_law 1976 = .ok (.iadd, 1) := by decide +kernel
theorem dL_law_1977 : decode cL_law 1977 = .ok (.iaload, 1) := by decide +kernel
theorem dL_law_1978 : decode cL_law 1978 = .ok (.aload_n 0, 1) := by decide +kernel
theorem dL_law_1979 : decode cL_law 1979 = .ok (.iload 4, 2) := by decide +kernel
theorem dL_law_1981 : decode cL_law 1981 = .ok (.iconst 2, 1) := by decide +kernel
theorem dL_law_1982 : decode cL_law 1982 = .ok (.iadd, 1) := by decide +kernel
theorem dL_law_1983 : decode cL_law 1983 = .ok (.iaload, 1) := by decide +kernel
theorem dL_law_1984 : decode cL_law 1984 = .ok (.invokevirtual 197, 3) := by decide +kernel
theorem dL_law_1987 : decode cL_law 1987 = .ok (.istore 6, 2) := by decide +kernel
theorem dL_law_1989 : decode cL_law 1989 = .ok (.aload_n 2, 1) := by decide +kernel
theorem dL_law_1990 : decode cL_law 1990 = .ok (.invokevirtual 115, 3) := by decide +kernel
theorem dL_law_1993 : decode cL_law 1993 = .ok (.iload 5, 2) := by decide +kernel
theorem dL_law_1995 : decode cL_law 1995 = .ok (.if_icmp .eq 5, 3) := by decide +kernel
theorem dL_law_1998 : decode cL_law 1998 = .ok (.iconst 0, 1) := by decide +kernel
theorem dL_law_1999 : decode cL_law 1999 = .ok (.ireturn, 1) := by decide +kernel
theorem dL_law_2000 : decode cL_law 2000 = .ok (.iload 5, 2) := by decide +kernel
theorem dL_law_2002 : decode cL_law 2002 = .ok (.ifCond .ne 15, 3) := by decide +kernel
theorem dL_law_2005 : decode cL_law 2005 = .ok (.aload_n 3, 1) := by decide +kernel
theorem dL_law_2006 : decode cL_law 2006 = .ok (.iconst 0, 1) := by decide +kernel
theorem dL_law_2007 : decode cL_law 2007 = .ok (.laload, 1) := by decide +kernel
theorem dL_law_2008 : decode cL_law 2008 = .ok (.iload 6, 2) := by decide +kernel
theorem dL_law_2010 : decode cL_law 2010 = .ok (.i2l, 1) := by decide +kernel
theorem dL_law_2011 : decode cL_law 2011 = .ok (.lcmp, 1) := by decide +kernel
theorem dL_law_2012 : decode cL_law 2012 = .ok (.ifCond .eq 5, 3) := by decide +kernel
theorem dL_law_2015 : decode cL_law 2015 = .ok (.iconst 0, 1) := by decide +kernel
theorem dL_law_2016 : decode cL_law 2016 = .ok (.ireturn, 1) := by decide +kernel
theorem dL_law_2017 : decode cL_law 2017 = .ok (.goto 184, 3) := by decide +kernel
theorem dL_law_2020 : decode cL_law 2020 = .ok (.aload_n 1, 1) := by decide +kernel
theorem dL_law_2021 : decode cL_law 2021 = .ok (.aload_n 0, 1) := by decide +kernel
theorem dL_law_2022 : decode cL_law 2022 = .ok (.iload 4, 2) := by decide +kernel
theorem dL_law_2024 : decode cL_law 2024 = .ok (.iconst 1, 1) := by decide +kernel
theorem dL_law_2025 : decode cL_law 2025 = .ok (.iadd, 1) := by decide +kernel
theorem dL_law_2026 : decode cL_law 2026 = .ok (.iaload, 1) := by decide +kernel
theorem dL_law_2027 : decode cL_law 2027 = .ok (.aload_n 3, 1) := by decide +kernel
theorem dL_law_2028 : decode cL_law 2028 = .ok (.invokestatic 198, 3) := by decide +kernel
theorem dL_law_2031 : decode cL_law 2031 = .ok (.istore 5, 2) := by decide +kernel
theorem dL_law_2033 : decode cL_law 2033 = .ok (.aload_n 2, 1) := by decide +kernel
theorem dL_law_2034 : decode cL_law 2034 = .ok (.aload_n 0, 1) := by decide +kernel
theorem dL_law_2035 : decode cL_law 2035 = .ok (.iload 4, 2) := by decide +kernel
theorem dL_law_2037 : decode cL_law 2037 = .ok (.iconst 1, 1) := by decide +kernel
theorem dL_law_2038 : decode cL_law 2038 = .ok (.iadd, 1) := by decide +kernel
theorem dL_law_2039 : decode cL_law 2039 = .ok (.iaload, 1) := by decide +kernel
theorem dL_law_2040 : decode cL_law 2040 = .ok (.invokevirtual 200, 3) := by decide +kernel
theorem dL_law_2043 : decode cL_law 2043 = .ok (.istore 6, 2) := by decide +kernel
theorem dL_law_2045 : decode cL_law 2045 = .ok (.aload_n 2, 1) := by decide +kernel
theorem dL_law_2046 : decode cL_law 2046 = .ok (.invokevirtual 115, 3) := by decide +kernel
theorem dL_law_2049 : decode cL_law 2049 = .ok (.iload 5, 2) := by decide +kernel
theorem dL_law_2051 : decode cL_law 2051 = .ok (.if_icmp .eq 5, 3) := by decide +kernel
theorem dL_law_2054 : decode cL_law 2054 = .ok (.iconst 0, 1) := by decide +kernel
theorem dL_law_2055 : decode cL_law 2055 = .ok (.ireturn, 1) := by decide +kernel
theorem dL_law_2056 : decode cL_law 2056 = .ok (.iload 5, 2) := by decide +kernel
theorem dL_law_2058 : decode cL_law 2058 = .ok (.ifCond .ne 15, 3) := by decide +kernel
theorem dL_law_2061 : decode cL_law 2061 = .ok (.aload_n 3, 1) := by decide +kernel
theorem dL_law_2062 : decode cL_law 2062 = .ok (.iconst 0, 1) := by decide +kernel
theorem dL_law_2063 : decode cL_law 2063 = .ok (.laload, 1) := by decide +kernel
theorem dL_law_2064 : decode cL_law 2064 = .ok (.iload 6, 2) := by decide +kernel
theorem dL_law_2066 : decode cL_law 2066 = .ok (.i2l, 1) := by decide +kernel
theorem dL_law_2067 : decode cL_law 2067 = .ok (.lcmp, 1) := by decide +kernel
theorem dL_law_2068 : decode cL_law 2068 = .ok (.ifCond .eq 5, 3) := by decide +kernel
theorem dL_law_2071 : decode cL_law 2071 = .ok (.iconst 0, 1) := by decide +kernel
theorem dL_law_2072 : decode cL_law 2072 = .ok (.ireturn, 1) := by decide +kernel
theorem dL_law_2073 : decode cL_law 2073 = .ok (.goto 128, 3) := by decide +kernel
theorem dL_law_2076 : decode cL_law 2076 = .ok (.aload_n 1, 1) := by decide +kernel
theorem dL_law_2077 : decode cL_law 2077 = .ok (.aload_n 0, 1) := by decide +kernel
theorem dL_law_2078 : decode cL_law 2078 = .ok (.iload 4, 2) := by decide +kernel
theorem dL_law_2080 : decode cL_law 2080 = .ok (.iconst 1, 1) := by decide +kernel
theorem dL_law_2081 : decode cL_law 2081 = .ok (.iadd, 1) := by decide +kernel
theorem dL_law_2082 : decode cL_law 2082 = .ok (.iaload, 1) := by decide +kernel
theorem dL_law_2083 : decode cL_law 2083 = .ok (.aload_n 3, 1) := by decide +kernel
theorem dL_law_2084 : decode cL_law 2084 = .ok (.invokestatic 201, 3) := by decide +kernel
theorem dL_law_2087 : decode cL_law 2087 = .ok (.istore 5, 2) := by decide +kernel
theorem dL_law_2089 : decode cL_law 2089 = .ok (.aload_n 2, 1) := by decide +kernel
theorem dL_law_2090 : decode cL_law 2090 = .ok (.aload_n 0, 1) := by decide +kernel
theorem dL_law_2091 : decode cL_law 2091 = .ok (.iload 4, 2) := by decide +kernel
theorem dL_law_2093 : decode cL_law 2093 = .ok (.iconst 1, 1) := by decide +kernel
theorem dL_law_2094 : decode cL_law 2094 = .ok (.iadd, 1) := by decide +kernel
theorem dL_law_2095 : decode cL_law 2095 = .ok (.iaload, 1) := by decide +kernel
theorem dL_law_2096 : decode cL_law 2096 = .ok (.invokevirtual 203, 3) := by decide +kernel
theorem dL_law_2099 : decode cL_law 2099 = .ok (.istore 6, 2) := by decide +kernel
theorem dL_law_2101 : decode cL_law 2101 = .ok (.aload_n 2, 1) := by decide +kernel
theorem dL_law_2102 : decode cL_law 2102 = .ok (.invokevirtual 115, 3) := by decide +kernel
theorem dL_law_2105 : decode cL_law 2105 = .ok (.iload 5, 2) := by decide +kernel
theorem dL_law_2107 : decode cL_law 2107 = .ok (.if_icmp .eq 5, 3) := by decide +kernel
theorem dL_law_2110 : decode cL_law 2110 = .ok (.iconst 0, 1) := by decide +kernel
theorem dL_law_2111 : decode cL_law 2111 = .ok (.ireturn, 1) := by decide +kernel
theorem dL_law_2112 : decode cL_law 2112 = .ok (.iload 5, 2) := by decide +kernel
theorem dL_law_2114 : decode cL_law 2114 = .ok (.ifCond .ne 15, 3) := by decide +kernel
theorem dL_law_2117 : decode cL_law 2117 = .ok (.aload_n 3, 1) := by decide +kernel
theorem dL_law_2118 : decode cL_law 2118 = .ok (.iconst 0, 1) := by decide +kernel
theorem dL_law_2119 : decode cL_law 2119 = .ok (.laload, 1) := by decide +kernel
theorem dL_law_2120 : decode cL_law 2120 = .ok (.iload 6, 2) := by decide +kernel
theorem dL_law_2122 : decode cL_law 2122 = .ok (.i2l, 1) := by decide +kernel
theorem dL_law_2123 : decode cL_law 2123 = .ok (.lcmp, 1) := by decide +kernel
theorem dL_law_2124 : decode cL_law 2124 = .ok (.ifCond .eq 5, 3) := by decide +kernel
theorem dL_law_2127 : decode cL_law 2127 = .ok (.iconst 0, 1) := by decide +kernel
theorem dL_law_2128 : decode cL_law 2128 = .ok (.ireturn, 1) := by decide +kernel
theorem dL_law_2129 : decode cL_law 2129 = .ok (.goto 72, 3) := by decide +kernel
theorem dL_law_2132 : decode cL_law 2132 = .ok (.aload_n 1, 1) := by decide +kernel
theorem dL_law_2133 : decode cL_law 2133 = .ok (.aload_n 0, 1) := by decide +kernel
theorem dL_law_2134 : decode cL_law 2134 = .ok (.iload 4, 2) := by decide +kernel
theorem dL_law_2136 : decode cL_law 2136 = .ok (.iconst 1, 1) := by decide +kernel
theorem dL_law_2137 : decode cL_law 2137 = .ok (.iadd, 1) := by decide +kernel
theorem dL_law_2138 : decode cL_law 2138 = .ok (.iaload, 1) := by decide +kernel
theorem dL_law_2139 : decode cL_law 2139 = .ok (.aload_n 3, 1) := by decide +kernel
theorem dL_law_2140 : decode cL_law 2140 = .ok (.invokestatic 204, 3) := by decide +kernel
theorem dL_law_2143 : decode cL_law 2143 = .ok (.istore 5, 2) := by decide +kernel
theorem dL_law_2145 : decode cL_law 2145 = .ok (.aload_n 2, 1) := by decide +kernel
theorem dL_law_2146 : decode cL_law 2146 = .ok (.aload_n 0, 1) := by decide +kernel
theorem dL_law_2147 : decode cL_law 2147 = .ok (.iload 4, 2) := by decide +kernel
theorem dL_law_2149 : decode cL_law 2149 = .ok (.iconst 1, 1) := by decide +kernel
theorem dL_law_2150 : decode cL_law 2150 = .ok (.iadd, 1) := by decide +kernel
theorem dL_law_2151 : decode cL_law 2151 = .ok (.iaload, 1) := by decide +kernel
theorem dL_law_2152 : decode cL_law 2152 = .ok (.invokevirtual 206, 3) := by decide +kernel
theorem dL_law_2155 : decode cL_law 2155 = .ok (.istore 6, 2) := by decide +kernel
theorem dL_law_2157 : decode cL_law 2157 = .ok (.aload_n 2, 1) := by decide +kernel
theorem dL_law_2158 : decode cL_law 2158 = .ok (.invokevirtual 115, 3) := by decide +kernel
theorem dL_law_2161 : decode cL_law 2161 = .ok (.iload 5, 2) := by decide +kernel
theorem dL_law_2163 : decode cL_law 2163 = .ok (.if_icmp .eq 5, 3) := by decide +kernel
theorem dL_law_2166 : decode cL_law 2166 = .ok (.iconst 0, 1) := by decide +kernel
theorem dL_law_2167 : decode cL_law 2167 = .ok (.ireturn, 1) := by decide +kernel
theorem dL_law_2168 : decode cL_law 2168 = .ok (.iload 5, 2) := by decide +kernel
theorem dL_law_2170 : decode cL_law 2170 = .ok (.ifCond .ne 15, 3) := by decide +kernel
theorem dL_law_2173 : decode cL_law 2173 = .ok (.aload_n 3, 1) := by decide +kernel
theorem dL_law_2174 : decode cL_law 2174 = .ok (.iconst 0, 1) := by decide +kernel
theorem dL_law_2175 : decode cL_law 2175 = .ok (.laload, 1) := by decide +kernel
theorem dL_law_2176 : decode cL_law 2176 = .ok (.iload 6, 2) := by decide +kernel
theorem dL_law_2178 : decode cL_law 2178 = .ok (.i2l, 1) := by decide +kernel
theorem dL_law_2179 : decode cL_law 2179 = .ok (.lcmp, 1) := by decide +kernel
theorem dL_law_2180 : decode cL_law 2180 = .ok (.ifCond .eq 5, 3) := by decide +kernel
theorem dL_law_2183 : decode cL_law 2183 = .ok (.iconst 0, 1) := by decide +kernel
theorem dL_law_2184 : decode cL_law 2184 = .ok (.ireturn, 1) := by decide +kernel
theorem dL_law_2185 : decode cL_law 2185 = .ok (.goto 16, 3) := by decide +kernel
theorem dL_law_2188 : decode cL_law 2188 = .ok (.aload_n 1, 1) := by decide +kernel
theorem dL_law_2189 : decode cL_law 2189 = .ok (.invokevirtual 207, 3) := by decide +kernel
theorem dL_law_2192 : decode cL_law 2192 = .ok (.aload_n 2, 1) := by decide +kernel
theorem dL_law_2193 : decode cL_law 2193 = .ok (.invokevirtual 210, 3) := by decide +kernel
theorem dL_law_2196 : decode cL_law 2196 = .ok (.if_icmp .eq 5, 3) := by decide +kernel
theorem dL_law_2199 : decode cL_law 2199 = .ok (.iconst 0, 1) := by decide +kernel
theorem dL_law_2200 : decode cL_law 2200 = .ok (.ireturn, 1) := by decide +kernel
theorem dL_law_2201 : decode cL_law 2201 = .ok (.iinc 4 7, 3) := by decide +kernel
theorem dL_law_2204 : decode cL_law 2204 = .ok (.goto (-2181), 3) := by decide +kernel
theorem dL_law_2207 : decode cL_law 2207 = .ok (.iconst 1, 1) := by decide +kernel
theorem dL_law_2208 : decode cL_law 2208 = .ok (.ireturn, 1) := by decide +kernel
