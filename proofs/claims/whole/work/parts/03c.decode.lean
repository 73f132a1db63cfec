theorem dX7_init_0 : decode cX7_init 0 = .ok (.aload_n 0, 1) := by decide +kernel
theorem dX7_init_1 : decode cX7_init 1 = .ok (.invokespecial 1, 3) := by decide +kernel
theorem dX7_init_4 : decode cX7_init 4 = .ok (.aload_n 0, 1) := by decide +kernel
theorem dX7_init_5 : decode cX7_init 5 = .ok (.sipush 128, 3) := by decide +kernel
theorem dX7_init_8 : decode cX7_init 8 = .ok (.newarray .int, 2) := by decide +kernel
theorem dX7_init_10 : decode cX7_init 10 = .ok (.putfield 7, 3) := by decide +kernel
theorem dX7_init_13 : decode cX7_init 13 = .ok (.aload_n 0, 1) := by decide +kernel
theorem dX7_init_14 : decode cX7_init 14 = .ok (.sipush 128, 3) := by decide +kernel
theorem dX7_init_17 : decode cX7_init 17 = .ok (.newarray .int, 2) := by decide +kernel
theorem dX7_init_19 : decode cX7_init 19 = .ok (.putfield 13, 3) := by decide +kernel
theorem dX7_init_22 : decode cX7_init 22 = .ok (.aload_n 0, 1) := by decide +kernel
theorem dX7_init_23 : decode cX7_init 23 = .ok (.sipush 128, 3) := by decide +kernel
theorem dX7_init_26 : decode cX7_init 26 = .ok (.newarray .int, 2) := by decide +kernel
theorem dX7_init_28 : decode cX7_init 28 = .ok (.putfield 16, 3) := by decide +kernel
theorem dX7_init_31 : decode cX7_init 31 = .ok (.aload_n 0, 1) := by decide +kernel
theorem dX7_init_32 : decode cX7_init 32 = .ok (.sipush 128, 3) := by decide +kernel
theorem dX7_init_35 : decode cX7_init 35 = .ok (.newarray .int, 2) := by decide +kernel
theorem dX7_init_37 : decode cX7_init 37 = .ok (.putfield 19, 3) := by decide +kernel
theorem dX7_init_40 : decode cX7_init 40 = .ok (.aload_n 0, 1) := by decide +kernel
theorem dX7_init_41 : decode cX7_init 41 = .ok (.sipush 128, 3) := by decide +kernel
theorem dX7_init_44 : decode cX7_init 44 = .ok (.newarray .int, 2) := by decide +kernel
theorem dX7_init_46 : decode cX7_init 46 = .ok (.putfield 22, 3) := by decide +kernel
theorem dX7_init_49 : decode cX7_init 49 = .ok (.aload_n 0, 1) := by decide +kernel
theorem dX7_init_50 : decode cX7_init 50 = .ok (.sipush 128, 3) := by decide +kernel
theorem dX7_init_53 : decode cX7_init 53 = .ok (.newarray .long, 2) := by decide +kernel
theorem dX7_init_55 : decode cX7_init 55 = .ok (.putfield 25, 3) := by decide +kernel
theorem dX7_init_58 : decode cX7_init 58 = .ok (.aload_n 0, 1) := by decide +kernel
theorem dX7_init_59 : decode cX7_init 59 = .ok (.sipush 128, 3) := by decide +kernel
theorem dX7_init_62 : decode cX7_init 62 = .ok (.newarray .int, 2) := by decide +kernel
theorem dX7_init_64 : decode cX7_init 64 = .ok (.putfield 29, 3) := by decide +kernel
theorem dX7_init_67 : decode cX7_init 67 = .ok (.aload_n 0, 1) := by decide +kernel
theorem dX7_init_68 : decode cX7_init 68 = .ok (.sipush 128, 3) := by decide +kernel
theorem dX7_init_71 : decode cX7_init 71 = .ok (.newarray .int, 2) := by decide +kernel
theorem dX7_init_73 : decode cX7_init 73 = .ok (.putfield 32, 3) := by decide +kernel
theorem dX7_init_76 : decode cX7_init 76 = .ok (.aload_n 0, 1) := by decide +kernel
theorem dX7_init_77 : decode cX7_init 77 = .ok (.sipush 128, 3) := by decide +kernel
theorem dX7_init_80 : decode cX7_init 80 = .ok (.newarray .int, 2) := by decide +kernel
theorem dX7_init_82 : decode cX7_init 82 = .ok (.putfield 35, 3) := by decide +kernel
theorem dX7_init_85 : decode cX7_init 85 = .ok (.aload_n 0, 1) := by decide +kernel
theorem dX7_init_86 : decode cX7_init 86 = .ok (.sipush 128, 3) := by decide +kernel
theorem dX7_init_89 : decode cX7_init 89 = .ok (.newarray .boolean, 2) := by decide +kernel
theorem dX7_init_91 : decode cX7_init 91 = .ok (.putfield 38, 3) := by decide +kernel
theorem dX7_init_94 : decode cX7_init 94 = .ok (.aload_n 0, 1) := by decide +kernel
theorem dX7_init_95 : decode cX7_init 95 = .ok (.sipush 128, 3) := by decide +kernel
theorem dX7_init_98 : decode cX7_init 98 = .ok (.newarray .int, 2) := by decide +kernel
theorem dX7_init_100 : decode cX7_init 100 = .ok (.putfield 42, 3) := by decide +kernel
theorem dX7_init_103 : decode cX7_init 103 = .ok (.aload_n 0, 1) := by decide +kernel
theorem dX7_init_104 : decode cX7_init 104 = .ok (.sipush 128, 3) := by decide +kernel
theorem dX7_init_107 : decode cX7_init 107 = .ok (.newarray .int, 2) := by decide +kernel
theorem dX7_init_109 : decode cX7_init 109 = .ok (.putfield 45, 3) := by decide +kernel
theorem dX7_init_112 : decode cX7_init 112 = .ok (.aload_n 0, 1) := by decide +kernel
theorem dX7_init_113 : decode cX7_init 113 = .ok (.bipush 8, 2) := by decide +kernel
theorem dX7_init_115 : decode cX7_init 115 = .ok (.newarray .int, 2) := by decide +kernel
theorem dX7_init_117 : decode cX7_init 117 = .ok (.putfield 48, 3) := by decide +kernel
theorem dX7_init_120 : decode cX7_init 120 = .ok (.aload_n 0, 1) := by decide +kernel
theorem dX7_init_121 : decode cX7_init 121 = .ok (.bipush 8, 2) := by decide +kernel
theorem dX7_init_123 : decode cX7_init 123 = .ok (.newarray .int, 2) := by decide +kernel
theorem dX7_init_125 : decode cX7_init 125 = .ok (.putfield 51, 3) := by decide +kernel
theorem dX7_init_128 : decode cX7_init 128 = .ok (.aload_n 0, 1) := by decide +kernel
theorem dX7_init_129 : decode cX7_init 129 = .ok (.bipush 8, 2) := by decide +kernel
theorem dX7_init_131 : decode cX7_init 131 = .ok (.newarray .int, 2) := by decide +kernel
theorem dX7_init_133 : decode cX7_init 133 = .ok (.putfield 54, 3) := by decide +kernel
theorem dX7_init_136 : decode cX7_init 136 = .ok (.aload_n 0, 1) := by decide +kernel
theorem dX7_init_137 : decode cX7_init 137 = .ok (.bipush 8, 2) := by decide +kernel
theorem dX7_init_139 : decode cX7_init 139 = .ok (.newarray .int, 2) := by decide +kernel
theorem dX7_init_141 : decode cX7_init 141 = .ok (.putfield 57, 3) := by decide +kernel
theorem dX7_init_144 : decode cX7_init 144 = .ok (.aload_n 0, 1) := by decide +kernel
theorem dX7_init_145 : decode cX7_init 145 = .ok (.bipush 8, 2) := by decide +kernel
theorem dX7_init_147 : decode cX7_init 147 = .ok (.newarray .int, 2) := by decide +kernel
theorem dX7_init_149 : decode cX7_init 149 = .ok (.putfield 60, 3) := by decide +kernel
theorem dX7_init_152 : decode cX7_init 152 = .ok (.aload_n 0, 1) := by decide +kernel
theorem dX7_init_153 : decode cX7_init 153 = .ok (.sipush 2048, 3) := by decide +kernel
theorem dX7_init_156 : decode cX7_init 156 = .ok (.newarray .int, 2) := by decide +kernel
theorem dX7_init_158 : decode cX7_init 158 = .ok (.putfield 63, 3) := by decide +kernel
theorem dX7_init_161 : decode cX7_init 161 = .ok (.aload_n 0, 1) := by decide +kernel
theorem dX7_init_162 : decode cX7_init 162 = .ok (.sipush 2048, 3) := by decide +kernel
theorem dX7_init_165 : decode cX7_init 165 = .ok (.newarray .int, 2) := by decide +kernel
theorem dX7_init_167 : decode cX7_init 167 = .ok (.putfield 66, 3) := by decide +kernel
theorem dX7_init_170 : decode cX7_init 170 = .ok (.aload_n 0, 1) := by decide +kernel
theorem dX7_init_171 : decode cX7_init 171 = .ok (.sipush 128, 3) := by decide +kernel
theorem dX7_init_174 : decode cX7_init 174 = .ok (.newarray .boolean, 2) := by decide +kernel
theorem dX7_init_176 : decode cX7_init 176 = .ok (.putfield 69, 3) := by decide +kernel
theorem dX7_init_179 : decode cX7_init 179 = .ok (.aload_n 0, 1) := by decide +kernel
theorem dX7_init_180 : decode cX7_init 180 = .ok (.sipush 2048, 3) := by decide +kernel
theorem dX7_init_183 : decode cX7_init 183 = .ok (.newarray .boolean, 2) := by decide +kernel
theorem dX7_init_185 : decode cX7_init 185 = .ok (.putfield 72, 3) := by decide +kernel
theorem dX7_init_188 : decode cX7_init 188 = .ok (.aload_n 0, 1) := by decide +kernel
theorem dX7_init_189 : decode cX7_init 189 = .ok (.sipush 256, 3) := by decide +kernel
theorem dX7_init_192 : decode cX7_init 192 = .ok (.newarray .int, 2) := by decide +kernel
theorem dX7_init_194 : decode cX7_init 194 = .ok (.putfield 75, 3) := by decide +kernel
theorem dX7_init_197 : decode cX7_init 197 = .ok (.aload_n 0, 1) := by decide +kernel
theorem dX7_init_198 : decode cX7_init 198 = .ok (.sipush 256, 3) := by decide +kernel
theorem dX7_init_201 : decode cX7_init 201 = .ok (.newarray .int, 2) := by decide +kernel
theorem dX7_init_203 : decode cX7_init 203 = .ok (.putfield 78, 3) := by decide +kernel
theorem dX7_init_206 : decode cX7_init 206 = .ok (.aload_n 0, 1) := by decide +kernel
theorem dX7_init_207 : decode cX7_init 207 = .ok (.iconst 2, 1) := by decide +kernel
theorem dX7_init_208 : decode cX7_init 208 = .ok (.newarray .int, 2) := by decide +kernel
theorem dX7_init_210 : decode cX7_init 210 = .ok (.putfield 81, 3) := by decide +kernel
theorem dX7_init_213 : decode cX7_init 213 = .ok (.aload_n 0, 1) := by decide +kernel
theorem dX7_init_214 : decode cX7_init 214 = .ok (.sipush 256, 3) := by decide +kernel
theorem dX7_init_217 : decode cX7_init 217 = .ok (.newarray .int, 2) := by decide +kernel
theorem dX7_init_219 : decode cX7_init 219 = .ok (.putfield 84, 3) := by decide +kernel
theorem dX7_init_222 : decode cX7_init 222 = .ok (.aload_n 0, 1) := by decide +kernel
theorem dX7_init_223 : decode cX7_init 223 = .ok (.sipush 256, 3) := by decide +kernel
theorem dX7_init_226 : decode cX7_init 226 = .ok (.newarray .int, 2) := by decide +kernel
theorem dX7_init_228 : decode cX7_init 228 = .ok (.putfield 87, 3) := by decide +kernel
theorem dX7_init_231 : decode cX7_init 231 = .ok (.aload_n 0, 1) := by decide +kernel
theorem dX7_init_232 : decode cX7_init 232 = .ok (.iconst 2, 1) := by decide +kernel
theorem dX7_init_233 : decode cX7_init 233 = .ok (.newarray .int, 2) := by decide +kernel
theorem dX7_init_235 : decode cX7_init 235 = .ok (.putfield 90, 3) := by decide +kernel
theorem dX7_init_238 : decode cX7_init 238 = .ok (.aload_n 0, 1) := by decide +kernel
theorem dX7_init_239 : decode cX7_init 239 = .ok (.sipush 16384, 3) := by decide +kernel
theorem dX7_init_242 : decode cX7_init 242 = .ok (.newarray .int, 2) := by decide +kernel
theorem dX7_init_244 : decode cX7_init 244 = .ok (.putfield 93, 3) := by decide +kernel
theorem dX7_init_247 : decode cX7_init 247 = .ok (.aload_n 0, 1) := by decide +kernel
theorem dX7_init_248 : decode cX7_init 248 = .ok (.sipush 16384, 3) := by decide +kernel
theorem dX7_init_251 : decode cX7_init 251 = .ok (.newarray .int, 2) := by decide +kernel
theorem dX7_init_253 : decode cX7_init 253 = .ok (.putfield 96, 3) := by decide +kernel
theorem dX7_init_256 : decode cX7_init 256 = .ok (.aload_n 0, 1) := by decide +kernel
theorem dX7_init_257 : decode cX7_init 257 = .ok (.sipush 128, 3) := by decide +kernel
theorem dX7_init_260 : decode cX7_init 260 = .ok (.newarray .boolean, 2) := by decide +kernel
theorem dX7_init_262 : decode cX7_init 262 = .ok (.putfield 99, 3) := by decide +kernel
theorem dX7_init_265 : decode cX7_init 265 = .ok (.aload_n 0, 1) := by decide +kernel
theorem dX7_init_266 : decode cX7_init 266 = .ok (.bipush 16, 2) := by decide +kernel
theorem dX7_init_268 : decode cX7_init 268 = .ok (.newarray .int, 2) := by decide +kernel
theorem dX7_init_270 : decode cX7_init 270 = .ok (.putfield 102, 3) := by decide +kernel
theorem dX7_init_273 : decode cX7_init 273 = .ok (.aload_n 0, 1) := by decide +kernel
theorem dX7_init_274 : decode cX7_init 274 = .ok (.sipush 2048, 3) := by decide +kernel
theorem dX7_init_277 : decode cX7_init 277 = .ok (.newarray .boolean, 2) := by decide +kernel
theorem dX7_init_279 : decode cX7_init 279 = .ok (.putfield 105, 3) := by decide +kernel
theorem dX7_init_282 : decode cX7_init 282 = .ok (.aload_n 0, 1) := by decide +kernel
theorem dX7_init_283 : decode cX7_init 283 = .ok (.bipush 16, 2) := by decide +kernel
theorem dX7_init_285 : decode cX7_init 285 = .ok (.newarray .int, 2) := by decide +kernel
theorem dX7_init_287 : decode cX7_init 287 = .ok (.putfield 108, 3) := by decide +kernel
theorem dX7_init_290 : decode cX7_init 290 = .ok (.aload_n 0, 1) := by decide +kernel
theorem dX7_init_291 : decode cX7_init 291 = .ok (.bipush 16, 2) := by decide +kernel
theorem dX7_init_293 : decode cX7_init 293 = .ok (.newarray .boolean, 2) := by decide +kernel
theorem dX7_init_295 : decode cX7_init 295 = .ok (.putfield 111, 3) := by decide +kernel
theorem dX7_init_298 : decode cX7_init 298 = .ok (.iconst 0, 1) := by decide +kernel
theorem dX7_init_299 : decode cX7_init 299 = .ok (.istore_n 1, 1) := by decide +kernel
theorem dX7_init_300 : decode cX7_init 300 = .ok (.iload_n 1, 1) := by decide +kernel
theorem dX7_init_301 : decode cX7_init 301 = .ok (.bipush 8, 2) := by decide +kernel
theorem dX7_init_303 : decode cX7_init 303 = .ok (.if_icmp .ge 23, 3) := by decide +kernel
theorem dX7_init_306 : decode cX7_init 306 = .ok (.aload_n 0, 1) := by decide +kernel
theorem dX7_init_307 : decode cX7_init 307 = .ok (.getfield 51, 3) := by decide +kernel
theorem dX7_init_310 : decode cX7_init 310 = .ok (.iload_n 1, 1) := by decide +kernel
theorem dX7_init_311 : decode cX7_init 311 = .ok (.iconst 1, 1) := by decide +kernel
theorem dX7_init_312 : decode cX7_init 312 = .ok (.iastore, 1) := by decide +kernel
theorem dX7_init_313 : decode cX7_init 313 = .ok (.aload_n 0, 1) := by decide +kernel
theorem dX7_init_314 : decode cX7_init 314 = .ok (.getfield 57, 3) := by decide +kernel
theorem dX7_init_317 : decode cX7_init 317 = .ok (.iload_n 1, 1) := by decide +kernel
theorem dX7_init_318 : decode cX7_init 318 = .ok (.iload_n 1, 1) := by decide +kernel
theorem dX7_init_319 : decode cX7_init 319 = .ok (.iastore, 1) := by decide +kernel
theorem dX7_init_320 : decode cX7_init 320 = .ok (.iinc 1 1, 3) := by decide +kernel
theorem dX7_init_323 : decode cX7_init 323 = .ok (.goto (-23), 3) := by decide +kernel
theorem dX7_init_326 : decode cX7_init 326 = .ok (.aload_n 0, 1) := by decide +kernel
theorem dX7_init_327 : decode cX7_init 327 = .ok (.bipush 8, 2) := by decide +kernel
theorem dX7_init_329 : decode cX7_init 329 = .ok (.putfield 114, 3) := by decide +kernel
theorem dX7_init_332 : decode cX7_init 332 = .ok (.aload_n 0, 1) := by decide +kernel
theorem dX7_init_333 : decode cX7_init 333 = .ok (.iconst (-1), 1) := by decide +kernel
theorem dX7_init_334 : decode cX7_init 334 = .ok (.putfield 118, 3) := by decide +kernel
theorem dX7_init_337 : decode cX7_init 337 = .ok (.aload_n 0, 1) := by decide +kernel
theorem dX7_init_338 : decode cX7_init 338 = .ok (.iconst (-1), 1) := by decide +kernel
theorem dX7_init_339 : decode cX7_init 339 = .ok (.putfield 121, 3) := by decide +kernel
theorem dX7_init_342 : decode cX7_init 342 = .ok (.aload_n 0, 1) := by decide +kernel
theorem dX7_init_343 : decode cX7_init 343 = .ok (.iconst 2, 1) := by decide +kernel
theorem dX7_init_344 : decode cX7_init 344 = .ok (.putfield 124, 3) := by decide +kernel
theorem dX7_init_347 : decode cX7_init 347 = .ok (.return_, 1) := by decide +kernel
theorem dX7_thrown_0 : decode cX7_thrown 0 = .ok (.aload_n 0, 1) := by decide +kernel
theorem dX7_thrown_1 : decode cX7_thrown 1 = .ok (.getfield 127, 3) := by decide +kernel
theorem dX7_thrown_4 : decode cX7_thrown 4 = .ok (.ireturn, 1) := by decide +kernel
theorem dX7_in_0 : decode cX7_in 0 = .ok (.iload_n 0, 1) := by decide +kernel
theorem dX7_in_1 : decode cX7_in 1 = .ok (.iload_n 1, 1) := by decide +kernel
theorem dX7_in_2 : decode cX7_in 2 = .ok (.if_icmp .lt 12, 3) := by decide +kernel
theorem dX7_in_5 : decode cX7_in 5 = .ok (.iload_n 0, 1) := by decide +kernel
theorem dX7_in_6 : decode cX7_in 6 = .ok (.iload_n 2, 1) := by decide +kernel
theorem dX7_in_7 : decode cX7_in 7 = .ok (.if_icmp .gt 7, 3) := by decide +kernel
theorem dX7_in_10 : decode cX7_in 10 = .ok (.iconst 1, 1) := by decide +kernel
theorem dX7_in_11 : decode cX7_in 11 = .ok (.goto 4, 3) := by decide +kernel
theorem dX7_in_14 : decode cX7_in 14 = .ok (.iconst 0, 1) := by decide +kernel
theorem dX7_in_15 : decode cX7_in 15 = .ok (.ireturn, 1) := by decide +kernel
theorem dX7_isWhole_0 : decode cX7_isWhole 0 = .ok (.iload_n 1, 1) := by decide +kernel
theorem dX7_isWhole_1 : decode cX7_isWhole 1 = .ok (.bipush 16, 2) := by decide +kernel
theorem dX7_isWhole_3 : decode cX7_isWhole 3 = .ok (.irem, 1) := by decide +kernel
theorem dX7_isWhole_4 : decode cX7_isWhole 4 = .ok (.aload_n 0, 1) := by decide +kernel
theorem dX7_isWhole_5 : decode cX7_isWhole 5 = .ok (.getfield 48, 3) := by decide +kernel
theorem dX7_isWhole_8 : decode cX7_isWhole 8 = .ok (.iload_n 1, 1) := by decide +kernel
theorem dX7_isWhole_9 : decode cX7_isWhole 9 = .ok (.bipush 16, 2) := by decide +kernel
theorem dX7_isWhole_11 : decode cX7_isWhole 11 = .ok (.idiv, 1) := by decide +kernel
theorem dX7_isWhole_12 : decode cX7_isWhole 12 = .ok (.iaload, 1) := by decide +kernel
theorem dX7_isWhole_13 : decode cX7_isWhole 13 = .ok (.if_icmp .ge 22, 3) := by decide +kernel
theorem dX7_isWhole_16 : decode cX7_isWhole 16 = .ok (.aload_n 0, 1) := by decide +kernel
theorem dX7_isWhole_17 : decode cX7_isWhole 17 = .ok (.getfield 45, 3) := by decide +kernel
theorem dX7_isWhole_20 : decode cX7_isWhole 20 = .ok (.iload_n 1, 1) := by decide +kernel
theorem dX7_isWhole_21 : decode cX7_isWhole 21 = .ok (.iaload, 1) := by decide +kernel
theorem dX7_isWhole_22 : decode cX7_isWhole 22 = .ok (.aload_n 0, 1) := by decide +kernel
theorem dX7_isWhole_23 : decode cX7_isWhole 23 = .ok (.getfield 42, 3) := by decide +kernel
theorem dX7_isWhole_26 : decode cX7_isWhole 26 = .ok (.iload_n 1, 1) := by decide +kernel
theorem dX7_isWhole_27 : decode cX7_isWhole 27 = .ok (.iaload, 1) := by decide +kernel
theorem dX7_isWhole_28 : decode cX7_isWhole 28 = .ok (.if_icmp .ne 7, 3) := by decide +kernel
theorem dX7_isWhole_31 : decode cX7_isWhole 31 = .ok (.iconst 1, 1) := by decide +kernel
theorem dX7_isWhole_32 : decode cX7_isWhole 32 = .ok (.goto 4, 3) := by decide +kernel
theorem dX7_isWhole_35 : decode cX7_isWhole 35 = .ok (.iconst 0, 1) := by decide +kernel
theorem dX7_isWhole_36 : decode cX7_isWhole 36 = .ok (.ireturn, 1) := by decide +kernel
theorem dX7_areCopies_0 : decode cX7_areCopies 0 = .ok (.aload_n 0, 1) := by decide +kernel
theorem dX7_areCopies_1 : decode cX7_areCopies 1 = .ok (.getfield 7, 3) := by decide +kernel
theorem dX7_areCopies_4 : decode cX7_areCopies 4 = .ok (.iload_n 1, 1) := by decide +kernel
theorem dX7_areCopies_5 : decode cX7_areCopies 5 = .ok (.iaload, 1) := by decide +kernel
theorem dX7_areCopies_6 : decode cX7_areCopies 6 = .ok (.aload_n 0, 1) := by decide +kernel
theorem dX7_areCopies_7 : decode cX7_areCopies 7 = .ok (.getfield 7, 3) := by decide +kernel
theorem dX7_areCopies_10 : decode cX7_areCopies 10 = .ok (.iload_n 2, 1) := by decide +kernel
theorem dX7_areCopies_11 : decode cX7_areCopies 11 = .ok (.iaload, 1) := by decide +kernel
theorem dX7_areCopies_12 : decode cX7_areCopies 12 = .ok (.if_icmp .ne 37, 3) := by decide +kernel
theorem dX7_areCopies_15 : decode cX7_areCopies 15 = .ok (.aload_n 0, 1) := by decide +kernel
theorem dX7_areCopies_16 : decode cX7_areCopies 16 = .ok (.getfield 13, 3) := by decide +kernel
theorem dX7_areCopies_19 : decode cX7_areCopies 19 = .ok (.iload_n 1, 1) := by decide +kernel
theorem dX7_areCopies_20 : decode cX7_areCopies 20 = .ok (.iaload, 1) := by decide +kernel
theorem dX7_areCopies_21 : decode cX7_areCopies 21 = .ok (.aload_n 0, 1) := by decide +kernel
theorem dX7_areCopies_22 : decode cX7_areCopies 22 = .ok (.getfield 13, 3) := by decide +kernel
theorem dX7_areCopies_25 : decode cX7_areCopies 25 = .ok (.iload_n 2, 1) := by decide +kernel
theorem dX7_areCopies_26 : decode cX7_areCopies 26 = .ok (.iaload, 1) := by decide +kernel
theorem dX7_areCopies_27 : decode cX7_areCopies 27 = .ok (.if_icmp .ne 22, 3) := by decide +kernel
theorem dX7_areCopies_30 : decode cX7_areCopies 30 = .ok (.aload_n 0, 1) := by decide +kernel
theorem dX7_areCopies_31 : decode cX7_areCopies 31 = .ok (.getfield 16, 3) := by decide +kernel
theorem dX7_areCopies_34 : decode cX7_areCopies 34 = .ok (.iload_n 1, 1) := by decide +kernel
theorem dX7_areCopies_35 : decode cX7_areCopies 35 = .ok (.iaload, 1) := by decide +kernel
theorem dX7_areCopies_36 : decode cX7_areCopies 36 = .ok (.aload_n 0, 1) := by decide +kernel
theorem dX7_areCopies_37 : decode cX7_areCopies 37 = .ok (.getfield 16, 3) := by decide +kernel
theorem dX7_areCopies_40 : decode cX7_areCopies 40 = .ok (.iload_n 2, 1) := by decide +kernel
theorem dX7_areCopies_41 : decode cX7_areCopies 41 = .ok (.iaload, 1) := by decide +kernel
theorem dX7_areCopies_42 : decode cX7_areCopies 42 = .ok (.if_icmp .ne 7, 3) := by decide +kernel
theorem dX7_areCopies_45 : decode cX7_areCopies 45 = .ok (.iconst 1, 1) := by decide +kernel
theorem dX7_areCopies_46 : decode cX7_areCopies 46 = .ok (.goto 4, 3) := by decide +kernel
theorem dX7_areCopies_49 : decode cX7_areCopies 49 = .ok (.iconst 0, 1) := by decide +kernel
theorem dX7_areCopies_50 : decode cX7_areCopies 50 = .ok (.ireturn, 1) := by decide +kernel
theorem dX7_counts_0 : decode cX7_counts 0 = .ok (.aload_n 0, 1) := by decide +kernel
theorem dX7_counts_1 : decode cX7_counts 1 = .ok (.getfield 69, 3) := by decide +kernel
theorem dX7_counts_4 : decode cX7_counts 4 = .ok (.iload_n 1, 1) := by decide +kernel
theorem dX7_counts_5 : decode cX7_counts 5 = .ok (.baload, 1) := by decide +kernel
theorem dX7_counts_6 : decode cX7_counts 6 = .ok (.ifCond .eq 17, 3) := by decide +kernel
theorem dX7_counts_9 : decode cX7_counts 9 = .ok (.aload_n 0, 1) := by decide +kernel
theorem dX7_counts_10 : decode cX7_counts 10 = .ok (.getfield 7, 3) := by decide +kernel
theorem dX7_counts_13 : decode cX7_counts 13 = .ok (.iload_n 1, 1) := by decide +kernel
theorem dX7_counts_14 : decode cX7_counts 14 = .ok (.iaload, 1) := by decide +kernel
theorem dX7_counts_15 : decode cX7_counts 15 = .ok (.iconst 2, 1) := by decide +kernel
theorem dX7_counts_16 : decode cX7_counts 16 = .ok (.if_icmp .ne 7, 3) := by decide +kernel
theorem dX7_counts_19 : decode cX7_counts 19 = .ok (.iconst 1, 1) := by decide +kernel
theorem dX7_counts_20 : decode cX7_counts 20 = .ok (.goto 4, 3) := by decide +kernel
theorem dX7_counts_23 : decode cX7_counts 23 = .ok (.iconst 0, 1) := by decide +kernel
theorem dX7_counts_24 : decode cX7_counts 24 = .ok (.istore_n 2, 1) := by decide +kernel
theorem dX7_counts_25 : decode cX7_counts 25 = .ok (.iconst 0, 1) := by decide +kernel
theorem dX7_counts_26 : decode cX7_counts 26 = .ok (.istore_n 3, 1) := by decide +kernel
theorem dX7_counts_27 : decode cX7_counts 27 = .ok (.iload_n 3, 1) := by decide +kernel
theorem dX7_counts_28 : decode cX7_counts 28 = .ok (.sipush 128, 3) := by decide +kernel
theorem dX7_counts_31 : decode cX7_counts 31 = .ok (.if_icmp .ge 103, 3) := by decide +kernel
theorem dX7_counts_34 : decode cX7_counts 34 = .ok (.iload_n 2, 1) := by decide +kernel
theorem dX7_counts_35 : decode cX7_counts 35 = .ok (.ifCond .eq 99, 3) := by decide +kernel
theorem dX7_counts_38 : decode cX7_counts 38 = .ok (.aload_n 0, 1) := by decide +kernel
theorem dX7_counts_39 : decode cX7_counts 39 = .ok (.getfield 69, 3) := by decide +kernel
theorem dX7_counts_42 : decode cX7_counts 42 = .ok (.iload_n 3, 1) := by decide +kernel
theorem dX7_counts_43 : decode cX7_counts 43 = .ok (.baload, 1) := by decide +kernel
theorem dX7_counts_44 : decode cX7_counts 44 = .ok (.ifCond .eq 84, 3) := by decide +kernel
theorem dX7_counts_47 : decode cX7_counts 47 = .ok (.aload_n 0, 1) := by decide +kernel
theorem dX7_counts_48 : decode cX7_counts 48 = .ok (.getfield 7, 3) := by decide +kernel
theorem dX7_counts_51 : decode cX7_counts 51 = .ok (.iload_n 3, 1) := by decide +kernel
theorem dX7_counts_52 : decode cX7_counts 52 = .ok (.iaload, 1) := by decide +kernel
theorem dX7_counts_53 : decode cX7_counts 53 = .ok (.iconst 2, 1) := by decide +kernel
theorem dX7_counts_54 : decode cX7_counts 54 = .ok (.if_icmp .ne 74, 3) := by decide +kernel
theorem dX7_counts_57 : decode cX7_counts 57 = .ok (.aload_n 0, 1) := by decide +kernel
theorem dX7_counts_58 : decode cX7_counts 58 = .ok (.getfield 13, 3) := by decide +kernel
theorem dX7_counts_61 : decode cX7_counts 61 = .ok (.iload_n 3, 1) := by decide +kernel
theorem dX7_counts_62 : decode cX7_counts 62 = .ok (.iaload, 1) := by decide +kernel
theorem dX7_counts_63 : decode cX7_counts 63 = .ok (.aload_n 0, 1) := by decide +kernel
theorem dX7_counts_64 : decode cX7_counts 64 = .ok (.getfield 13, 3) := by decide +kernel
theorem dX7_counts_67 : decode cX7_counts 67 = .ok (.iload_n 1, 1) := by decide +kernel
theorem dX7_counts_68 : decode cX7_counts 68 = .ok (.iaload, 1) := by decide +kernel
theorem dX7_counts_69 : decode cX7_counts 69 = .ok (.if_icmp .ne 59, 3) := by decide +kernel
theorem dX7_counts_72 : decode cX7_counts 72 = .ok (.aload_n 0, 1) := by decide +kernel
theorem dX7_counts_73 : decode cX7_counts 73 = .ok (.getfield 32, 3) := by decide +kernel
theorem dX7_counts_76 : decode cX7_counts 76 = .ok (.iload_n 3, 1) := by decide +kernel
theorem dX7_counts_77 : decode cX7_counts 77 = .ok (.iaload, 1) := by decide +kernel
theorem dX7_counts_78 : decode cX7_counts 78 = .ok (.aload_n 0, 1) := by decide +kernel
theorem dX7_counts_79 : decode cX7_counts 79 = .ok (.getfield 32, 3) := by decide +kernel
theorem dX7_counts_82 : decode cX7_counts 82 = .ok (.iload_n 1, 1) := by decide +kernel
theorem dX7_counts_83 : decode cX7_counts 83 = .ok (.iaload, 1) := by decide +kernel
theorem dX7_counts_84 : decode cX7_counts 84 = .ok (.if_icmp .ne 44, 3) := by decide +kernel
theorem dX7_counts_87 : decode cX7_counts 87 = .ok (.aload_n 0, 1) := by decide +kernel
theorem dX7_counts_88 : decode cX7_counts 88 = .ok (.getfield 16, 3) := by decide +kernel
theorem dX7_counts_91 : decode cX7_counts 91 = .ok (.iload_n 3, 1) := by decide +kernel
theorem dX7_counts_92 : decode cX7_counts 92 = .ok (.iaload, 1) := by decide +kernel
theorem dX7_counts_93 : decode cX7_counts 93 = .ok (.aload_n 0, 1) := by decide +kernel
theorem dX7_counts_94 : decode cX7_counts 94 = .ok (.getfield 16, 3) := by decide +kernel
theorem dX7_counts_97 : decode cX7_counts 97 = .ok (.iload_n 1, 1) := by decide +kernel
theorem dX7_counts_98 : decode cX7_counts 98 = .ok (.iaload, 1) := by decide +kernel
theorem dX7_counts_99 : decode cX7_counts 99 = .ok (.if_icmp .lt 23, 3) := by decide +kernel
theorem dX7_counts_102 : decode cX7_counts 102 = .ok (.aload_n 0, 1) := by decide +kernel
theorem dX7_counts_103 : decode cX7_counts 103 = .ok (.getfield 16, 3) := by decide +kernel
theorem dX7_counts_106 : decode cX7_counts 106 = .ok (.iload_n 3, 1) := by decide +kernel
theorem dX7_counts_107 : decode cX7_counts 107 = .ok (.iaload, 1) := by decide +kernel
theorem dX7_counts_108 : decode cX7_counts 108 = .ok (.aload_n 0, 1) := by decide +kernel
theorem dX7_counts_109 : decode cX7_counts 109 = .ok (.getfield 16, 3) := by decide +kernel
theorem dX7_counts_112 : decode cX7_counts 112 = .ok (.iload_n 1, 1) := by decide +kernel
theorem dX7_counts_113 : decode cX7_counts 113 = .ok (.iaload, 1) := by decide +kernel
theorem dX7_counts_114 : decode cX7_counts 114 = .ok (.if_icmp .ne 12, 3) := by decide +kernel
theorem dX7_counts_117 : decode cX7_counts 117 = .ok (.iload_n 3, 1) := by decide +kernel
theorem dX7_counts_118 : decode cX7_counts 118 = .ok (.iload_n 1, 1) := by decide +kernel
theorem dX7_counts_119 : decode cX7_counts 119 = .ok (.if_icmp .lt 7, 3) := by decide +kernel
theorem dX7_counts_122 : decode cX7_counts 122 = .ok (.iconst 1, 1) := by decide +kernel
theorem dX7_counts_123 : decode cX7_counts 123 = .ok (.goto 4, 3) := by decide +kernel
theorem dX7_counts_126 : decode cX7_counts 126 = .ok (.iconst 0, 1) := by decide +kernel
theorem dX7_counts_127 : decode cX7_counts 127 = .ok (.istore_n 2, 1) := by decide +kernel
theorem dX7_counts_128 : decode cX7_counts 128 = .ok (.iinc 3 1, 3) := by decide +kernel
theorem dX7_counts_131 : decode cX7_counts 131 = .ok (.goto (-104), 3) := by decide +kernel
theorem dX7_counts_134 : decode cX7_counts 134 = .ok (.iload_n 2, 1) := by decide +kernel
theorem dX7_counts_135 : decode cX7_counts 135 = .ok (.ireturn, 1) := by decide +kernel
theorem dX7_layThere_0 : decode cX7_layThere 0 = .ok (.iconst 0, 1) := by decide +kernel
theorem dX7_layThere_1 : decode cX7_layThere 1 = .ok (.istore_n 1, 1) := by decide +kernel
theorem dX7_layThere_2 : decode cX7_layThere 2 = .ok (.iload_n 1, 1) := by decide +kernel
theorem dX7_layThere_3 : decode cX7_layThere 3 = .ok (.sipush 2048, 3) := by decide +kernel
theorem dX7_layThere_6 : decode cX7_layThere 6 = .ok (.if_icmp .ge 25, 3) := by decide +kernel
theorem dX7_layThere_9 : decode cX7_layThere 9 = .ok (.aload_n 0, 1) := by decide +kernel
theorem dX7_layThere_10 : decode cX7_layThere 10 = .ok (.getfield 72, 3) := by decide +kernel
theorem dX7_layThere_13 : decode cX7_layThere 13 = .ok (.iload_n 1, 1) := by decide +kernel
theorem dX7_layThere_14 : decode cX7_layThere 14 = .ok (.iload_n 1, 1) := by decide +kernel
theorem dX7_layThere_15 : decode cX7_layThere 15 = .ok (.iconst 1, 1) := by decide +kernel
theorem dX7_layThere_16 : decode cX7_layThere 16 = .ok (.if_icmp .ne 7, 3) := by decide +kernel
theorem dX7_layThere_19 : decode cX7_layThere 19 = .ok (.iconst 1, 1) := by decide +kernel
theorem dX7_layThere_20 : decode cX7_layThere 20 = .ok (.goto 4, 3) := by decide +kernel
theorem dX7_layThere_23 : decode cX7_layThere 23 = .ok (.iconst 0, 1) := by decide +kernel
theorem dX7_layThere_24 : decode cX7_layThere 24 = .ok (.bastore, 1) := by decide +kernel
theorem dX7_layThere_25 : decode cX7_layThere 25 = .ok (.iinc 1 1, 3) := by decide +kernel
theorem dX7_layThere_28 : decode cX7_layThere 28 = .ok (.goto (-26), 3) := by decide +kernel
theorem dX7_layThere_31 : decode cX7_layThere 31 = .ok (.iconst 0, 1) := by decide +kernel
theorem dX7_layThere_32 : decode cX7_layThere 32 = .ok (.istore_n 1, 1) := by decide +kernel
theorem dX7_layThere_33 : decode cX7_layThere 33 = .ok (.iload_n 1, 1) := by decide +kernel
theorem dX7_layThere_34 : decode cX7_layThere 34 = .ok (.sipush 128, 3) := by decide +kernel
theorem dX7_layThere_37 : decode cX7_layThere 37 = .ok (.if_icmp .ge 37, 3) := by decide +kernel
theorem dX7_layThere_40 : decode cX7_layThere 40 = .ok (.aload_n 0, 1) := by decide +kernel
theorem dX7_layThere_41 : decode cX7_layThere 41 = .ok (.getfield 99, 3) := by decide +kernel
theorem dX7_layThere_44 : decode cX7_layThere 44 = .ok (.iload_n 1, 1) := by decide +kernel
theorem dX7_layThere_45 : decode cX7_layThere 45 = .ok (.aload_n 0, 1) := by decide +kernel
theorem dX7_layThere_46 : decode cX7_layThere 46 = .ok (.iload_n 1, 1) := by decide +kernel
theorem dX7_layThere_47 : decode cX7_layThere 47 = .ok (.invokevirtual 130, 3) := by decide +kernel
theorem dX7_layThere_50 : decode cX7_layThere 50 = .ok (.ifCond .eq 16, 3) := by decide +kernel
theorem dX7_layThere_53 : decode cX7_layThere 53 = .ok (.aload_n 0, 1) := by decide +kernel
theorem dX7_layThere_54 : decode cX7_layThere 54 = .ok (.getfield 35, 3) := by decide +kernel
theorem dX7_layThere_57 : decode cX7_layThere 57 = .ok (.iload_n 1, 1) := by decide +kernel
theorem dX7_layThere_58 : decode cX7_layThere 58 = .ok (.iaload, 1) := by decide +kernel
theorem dX7_layThere_59 : decode cX7_layThere 59 = .ok (.ifCond .le 7, 3) := by decide +kernel
theorem dX7_layThere_62 : decode cX7_layThere 62 = .ok (.iconst 1, 1) := by decide +kernel
theorem dX7_layThere_63 : decode cX7_layThere 63 = .ok (.goto 4, 3) := by decide +kernel
theorem dX7_layThere_66 : decode cX7_layThere 66 = .ok (.iconst 0, 1) := by decide +kernel
theorem dX7_layThere_67 : decode cX7_layThere 67 = .ok (.bastore, 1) := by decide +kernel
theorem dX7_layThere_68 : decode cX7_layThere 68 = .ok (.iinc 1 1, 3) := by decide +kernel
theorem dX7_layThere_71 : decode cX7_layThere 71 = .ok (.goto (-38), 3) := by decide +kernel
theorem dX7_layThere_74 : decode cX7_layThere 74 = .ok (.iconst 1, 1) := by decide +kernel
theorem dX7_layThere_75 : decode cX7_layThere 75 = .ok (.istore_n 1, 1) := by decide +kernel
theorem dX7_layThere_76 : decode cX7_layThere 76 = .ok (.iload_n 1, 1) := by decide +kernel
theorem dX7_layThere_77 : decode cX7_layThere 77 = .ok (.ifCond .eq 83, 3) := by decide +kernel
theorem dX7_layThere_80 : decode cX7_layThere 80 = .ok (.iconst 0, 1) := by decide +kernel
theorem dX7_layThere_81 : decode cX7_layThere 81 = .ok (.istore_n 1, 1) := by decide +kernel
theorem dX7_layThere_82 : decode cX7_layThere 82 = .ok (.iconst 0, 1) := by decide +kernel
theorem dX7_layThere_83 : decode cX7_layThere 83 = .ok (.istore_n 2, 1) := by decide +kernel
theorem dX7_layThere_84 : decode cX7_layThere 84 = .ok (.iload_n 2, 1) := by decide +kernel
theorem dX7_layThere_85 : decode cX7_layThere 85 = .ok (.sipush 128, 3) := by decide +kernel
theorem dX7_layThere_88 : decode cX7_layThere 88 = .ok (.if_icmp .ge 69, 3) := by decide +kernel
theorem dX7_layThere_91 : decode cX7_layThere 91 = .ok (.aload_n 0, 1) := by decide +kernel
theorem dX7_layThere_92 : decode cX7_layThere 92 = .ok (.getfield 99, 3) := by decide +kernel
theorem dX7_layThere_95 : decode cX7_layThere 95 = .ok (.iload_n 2, 1) := by decide +kernel
theorem dX7_layThere_96 : decode cX7_layThere 96 = .ok (.baload, 1) := by decide +kernel
theorem dX7_layThere_97 : decode cX7_layThere 97 = .ok (.ifCond .eq 54, 3) := by decide +kernel
theorem dX7_layThere_100 : decode cX7_layThere 100 = .ok (.aload_n 0, 1) := by decide +kernel
theorem dX7_layThere_101 : decode cX7_layThere 101 = .ok (.getfield 38, 3) := by decide +kernel
theorem dX7_layThere_104 : decode cX7_layThere 104 = .ok (.iload_n 2, 1) := by decide +kernel
theorem dX7_layThere_105 : decode cX7_layThere 105 = .ok (.baload, 1) := by decide +kernel
theorem dX7_layThere_106 : decode cX7_layThere 106 = .ok (.ifCond .eq 45, 3) := by decide +kernel
theorem dX7_layThere_109 : decode cX7_layThere 109 = .ok (.aload_n 0, 1) := by decide +kernel
theorem dX7_layThere_110 : decode cX7_layThere 110 = .ok (.getfield 72, 3) := by decide +kernel
theorem dX7_layThere_113 : decode cX7_layThere 113 = .ok (.aload_n 0, 1) := by decide +kernel
theorem dX7_layThere_114 : decode cX7_layThere 114 = .ok (.getfield 13, 3) := by decide +kernel
theorem dX7_layThere_117 : decode cX7_layThere 117 = .ok (.iload_n 2, 1) := by decide +kernel
theorem dX7_layThere_118 : decode cX7_layThere 118 = .ok (.iaload, 1) := by decide +kernel
theorem dX7_layThere_119 : decode cX7_layThere 119 = .ok (.baload, 1) := by decide +kernel
theorem dX7_layThere_120 : decode cX7_layThere 120 = .ok (.ifCond .eq 31, 3) := by decide +kernel
theorem dX7_layThere_123 : decode cX7_layThere 123 = .ok (.aload_n 0, 1) := by decide +kernel
theorem dX7_layThere_124 : decode cX7_layThere 124 = .ok (.getfield 72, 3) := by decide +kernel
theorem dX7_layThere_127 : decode cX7_layThere 127 = .ok (.aload_n 0, 1) := by decide +kernel
theorem dX7_layThere_128 : decode cX7_layThere 128 = .ok (.getfield 35, 3) := by decide +kernel
theorem dX7_layThere_131 : decode cX7_layThere 131 = .ok (.iload_n 2, 1) := by decide +kernel
theorem dX7_layThere_132 : decode cX7_layThere 132 = .ok (.iaload, 1) := by decide +kernel
theorem dX7_layThere_133 : decode cX7_layThere 133 = .ok (.baload, 1) := by decide +kernel
theorem dX7_layThere_134 : decode cX7_layThere 134 = .ok (.ifCond .ne 17, 3) := by decide +kernel
theorem dX7_layThere_137 : decode cX7_layThere 137 = .ok (.aload_n 0, 1) := by decide +kernel
theorem dX7_layThere_138 : decode cX7_layThere 138 = .ok (.getfield 72, 3) := by decide +kernel
theorem dX7_layThere_141 : decode cX7_layThere 141 = .ok (.aload_n 0, 1) := by decide +kernel
theorem dX7_layThere_142 : decode cX7_layThere 142 = .ok (.getfield 35, 3) := by decide +kernel
theorem dX7_layThere_145 : decode cX7_layThere 145 = .ok (.iload_n 2, 1) := by decide +kernel
theorem dX7_layThere_146 : decode cX7_layThere 146 = .ok (.iaload, 1) := by decide +kernel
theorem dX7_layThere_147 : decode cX7_layThere 147 = .ok (.iconst 1, 1) := by decide +kernel
theorem dX7_layThere_148 : decode cX7_layThere 148 = .ok (.bastore, 1) := by decide +kernel
theorem dX7_layThere_149 : decode cX7_layThere 149 = .ok (.iconst 1, 1) := by decide +kernel
theorem dX7_layThere_150 : decode cX7_layThere 150 = .ok (.istore_n 1, 1) := by decide +kernel
theorem dX7_layThere_151 : decode cX7_layThere 151 = .ok (.iinc 2 1, 3) := by decide +kernel
theorem dX7_layThere_154 : decode cX7_layThere 154 = .ok (.goto (-70), 3) := by decide +kernel
theorem dX7_layThere_157 : decode cX7_layThere 157 = .ok (.goto (-81), 3) := by decide +kernel
theorem dX7_layThere_160 : decode cX7_layThere 160 = .ok (.return_, 1) := by decide +kernel
theorem dX7_addEntry_0 : decode cX7_addEntry 0 = .ok (.iload_n 1, 1) := by decide +kernel
theorem dX7_addEntry_1 : decode cX7_addEntry 1 = .ok (.aload_n 0, 1) := by decide +kernel
theorem dX7_addEntry_2 : decode cX7_addEntry 2 = .ok (.getfield 81, 3) := by decide +kernel
theorem dX7_addEntry_5 : decode cX7_addEntry 5 = .ok (.iload_n 1, 1) := by decide +kernel
theorem dX7_addEntry_6 : decode cX7_addEntry 6 = .ok (.sipush 128, 3) := by decide +kernel
theorem dX7_addEntry_9 : decode cX7_addEntry 9 = .ok (.idiv, 1) := by decide +kernel
theorem dX7_addEntry_10 : decode cX7_addEntry 10 = .ok (.iaload, 1) := by decide +kernel
theorem dX7_addEntry_11 : decode cX7_addEntry 11 = .ok (.iadd, 1) := by decide +kernel
theorem dX7_addEntry_12 : decode cX7_addEntry 12 = .ok (.istore 4, 2) := by decide +kernel
theorem dX7_addEntry_14 : decode cX7_addEntry 14 = .ok (.iload 4, 2) := by decide +kernel
theorem dX7_addEntry_16 : decode cX7_addEntry 16 = .ok (.iload_n 1, 1) := by decide +kernel
theorem dX7_addEntry_17 : decode cX7_addEntry 17 = .ok (.if_icmp .le 54, 3) := by decide +kernel
theorem dX7_addEntry_20 : decode cX7_addEntry 20 = .ok (.aload_n 0, 1) := by decide +kernel
theorem dX7_addEntry_21 : decode cX7_addEntry 21 = .ok (.getfield 75, 3) := by decide +kernel
theorem dX7_addEntry_24 : decode cX7_addEntry 24 = .ok (.iload 4, 2) := by decide +kernel
theorem dX7_addEntry_26 : decode cX7_addEntry 26 = .ok (.iconst 1, 1) := by decide +kernel
theorem dX7_addEntry_27 : decode cX7_addEntry 27 = .ok (.isub, 1) := by decide +kernel
theorem dX7_addEntry_28 : decode cX7_addEntry 28 = .ok (.iaload, 1) := by decide +kernel
theorem dX7_addEntry_29 : decode cX7_addEntry 29 = .ok (.iload_n 2, 1) := by decide +kernel
theorem dX7_addEntry_30 : decode cX7_addEntry 30 = .ok (.if_icmp .le 41, 3) := by decide +kernel
theorem dX7_addEntry_33 : decode cX7_addEntry 33 = .ok (.aload_n 0, 1) := by decide +kernel
theorem dX7_addEntry_34 : decode cX7_addEntry 34 = .ok (.getfield 75, 3) := by decide +kernel
theorem dX7_addEntry_37 : decode cX7_addEntry 37 = .ok (.iload 4, 2) := by decide +kernel
theorem dX7_addEntry_39 : decode cX7_addEntry 39 = .ok (.aload_n 0, 1) := by decide +kernel
theorem dX7_addEntry_40 : decode cX7_addEntry 40 = .ok (.getfield 75, 3) := by decide +kernel
theorem dX7_addEntry_43 : decode cX7_addEntry 43 = .ok (.iload 4, 2) := by decide +kernel
theorem dX7_addEntry_45 : decode cX7_addEntry 45 = .ok (.iconst 1, 1) := by decide +kernel
theorem dX7_addEntry_46 : decode cX7_addEntry 46 = .ok (.isub, 1) := by decide +kernel
theorem dX7_addEntry_47 : decode cX7_addEntry 47 = .ok (.iaload, 1) := by decide +kernel
theorem dX7_addEntry_48 : decode cX7_addEntry 48 = .ok (.iastore, 1) := by decide +kernel
theorem dX7_addEntry_49 : decode cX7_addEntry 49 = .ok (.aload_n 0, 1) := by decide +kernel
theorem dX7_addEntry_50 : decode cX7_addEntry 50 = .ok (.getfield 78, 3) := by decide +kernel
theorem dX7_addEntry_53 : decode cX7_addEntry 53 = .ok (.iload 4, 2) := by decide +kernel
theorem dX7_addEntry_55 : decode cX7_addEntry 55 = .ok (.aload_n 0, 1) := by decide +kernel
theorem dX7_addEntry_56 : decode cX7_addEntry 56 = .ok (.getfield 78, 3) := by decide +kernel
theorem dX7_addEntry_59 : decode cX7_addEntry 59 = .ok (.iload 4, 2) := by decide +kernel
theorem dX7_addEntry_61 : decode cX7_addEntry 61 = .ok (.iconst 1, 1) := by decide +kernel
theorem dX7_addEntry_62 : decode cX7_addEntry 62 = .ok (.isub, 1) := by decide +kernel
theorem dX7_addEntry_63 : decode cX7_addEntry 63 = .ok (.iaload, 1) := by decide +kernel
theorem dX7_addEntry_64 : decode cX7_addEntry 64 = .ok (.iastore, 1) := by decide +kernel
theorem dX7_addEntry_65 : decode cX7_addEntry 65 = .ok (.iinc 4 (-1), 3) := by decide +kernel
theorem dX7_addEntry_68 : decode cX7_addEntry 68 = .ok (.goto (-54), 3) := by decide +kernel
theorem dX7_addEntry_71 : decode cX7_addEntry 71 = .ok (.aload_n 0, 1) := by decide +kernel
theorem dX7_addEntry_72 : decode cX7_addEntry 72 = .ok (.getfield 75, 3) := by decide +kernel
theorem dX7_addEntry_75 : decode cX7_addEntry 75 = .ok (.iload 4, 2) := by decide +kernel
theorem dX7_addEntry_77 : decode cX7_addEntry 77 = .ok (.iload_n 2, 1) := by decide +kernel
theorem dX7_addEntry_78 : decode cX7_addEntry 78 = .ok (.iastore, 1) := by decide +kernel
theorem dX7_addEntry_79 : decode cX7_addEntry 79 = .ok (.aload_n 0, 1) := by decide +kernel
theorem dX7_addEntry_80 : decode cX7_addEntry 80 = .ok (.getfield 78, 3) := by decide +kernel
theorem dX7_addEntry_83 : decode cX7_addEntry 83 = .ok (.iload 4, 2) := by decide +kernel
theorem dX7_addEntry_85 : decode cX7_addEntry 85 = .ok (.iload_n 3, 1) := by decide +kernel
theorem dX7_addEntry_86 : decode cX7_addEntry 86 = .ok (.iastore, 1) := by decide +kernel
theorem dX7_addEntry_87 : decode cX7_addEntry 87 = .ok (.aload_n 0, 1) := by decide +kernel
theorem dX7_addEntry_88 : decode cX7_addEntry 88 = .ok (.getfield 81, 3) := by decide +kernel
theorem dX7_addEntry_91 : decode cX7_addEntry 91 = .ok (.iload_n 1, 1) := by decide +kernel
theorem dX7_addEntry_92 : decode cX7_addEntry 92 = .ok (.sipush 128, 3) := by decide +kernel
theorem dX7_addEntry_95 : decode cX7_addEntry 95 = .ok (.idiv, 1) := by decide +kernel
theorem dX7_addEntry_96 : decode cX7_addEntry 96 = .ok (.dup2, 1) := by decide +kernel
theorem dX7_addEntry_97 : decode cX7_addEntry 97 = .ok (.iaload, 1) := by decide +kernel
theorem dX7_addEntry_98 : decode cX7_addEntry 98 = .ok (.iconst 1, 1) := by decide +kernel
theorem dX7_addEntry_99 : decode cX7_addEntry 99 = .ok (.iadd, 1) := by decide +kernel
theorem dX7_addEntry_100 : decode cX7_addEntry 100 = .ok (.iastore, 1) := by decide +kernel
theorem dX7_addEntry_101 : decode cX7_addEntry 101 = .ok (.return_, 1) := by decide +kernel
theorem dX7_addFile_0 : decode cX7_addFile 0 = .ok (.iload_n 1, 1) := by decide +kernel
theorem dX7_addFile_1 : decode cX7_addFile 1 = .ok (.aload_n 0, 1) := by decide +kernel
theorem dX7_addFile_2 : decode cX7_addFile 2 = .ok (.getfield 90, 3) := by decide +kernel
theorem dX7_addFile_5 : decode cX7_addFile 5 = .ok (.iload_n 1, 1) := by decide +kernel
theorem dX7_addFile_6 : decode cX7_addFile 6 = .ok (.sipush 128, 3) := by decide +kernel
theorem dX7_addFile_9 : decode cX7_addFile 9 = .ok (.idiv, 1) := by decide +kernel
theorem dX7_addFile_10 : decode cX7_addFile 10 = .ok (.iaload, 1) := by decide +kernel
theorem dX7_addFile_11 : decode cX7_addFile 11 = .ok (.iadd, 1) := by decide +kernel
theorem dX7_addFile_12 : decode cX7_addFile 12 = .ok (.istore_n 3, 1) := by decide +kernel
theorem dX7_addFile_13 : decode cX7_addFile 13 = .ok (.iload_n 1, 1) := by decide +kernel
theorem dX7_addFile_14 : decode cX7_addFile 14 = .ok (.istore 4, 2) := by decide +kernel
theorem dX7_addFile_16 : decode cX7_addFile 16 = .ok (.iload 4, 2) := by decide +kernel
theorem dX7_addFile_18 : decode cX7_addFile 18 = .ok (.iload_n 3, 1) := by decide +kernel
theorem dX7_addFile_19 : decode cX7_addFile 19 = .ok (.if_icmp .ge 21, 3) := by decide +kernel
theorem dX7_addFile_22 : decode cX7_addFile 22 = .ok (.aload_n 0, 1) := by decide +kernel
theorem dX7_addFile_23 : decode cX7_addFile 23 = .ok (.getfield 84, 3) := by decide +kernel
theorem dX7_addFile_26 : decode cX7_addFile 26 = .ok (.iload 4, 2) := by decide +kernel
theorem dX7_addFile_28 : decode cX7_addFile 28 = .ok (.iaload, 1) := by decide +kernel
theorem dX7_addFile_29 : decode cX7_addFile 29 = .ok (.iload_n 2, 1) := by decide +kernel
theorem dX7_addFile_30 : decode cX7_addFile 30 = .ok (.if_icmp .ne 4, 3) := by decide +kernel
theorem dX7_addFile_33 : decode cX7_addFile 33 = .ok (.return_, 1) := by decide +kernel
theorem dX7_addFile_34 : decode cX7_addFile 34 = .ok (.iinc 4 1, 3) := by decide +kernel
theorem dX7_addFile_37 : decode cX7_addFile 37 = .ok (.goto (-21), 3) := by decide +kernel
theorem dX7_addFile_40 : decode cX7_addFile 40 = .ok (.iload_n 3, 1) := by decide +kernel
theorem dX7_addFile_41 : decode cX7_addFile 41 = .ok (.istore 4, 2) := by decide +kernel
theorem dX7_addFile_43 : decode cX7_addFile 43 = .ok (.iload 4, 2) := by decide +kernel
theorem dX7_addFile_45 : decode cX7_addFile 45 = .ok (.iload_n 1, 1) := by decide +kernel
theorem dX7_addFile_46 : decode cX7_addFile 46 = .ok (.if_icmp .le 38, 3) := by decide +kernel
theorem dX7_addFile_49 : decode cX7_addFile 49 = .ok (.aload_n 0, 1) := by decide +kernel
theorem dX7_addFile_50 : decode cX7_addFile 50 = .ok (.getfield 84, 3) := by decide +kernel
theorem dX7_addFile_53 : decode cX7_addFile 53 = .ok (.iload 4, 2) := by decide +kernel
theorem dX7_addFile_55 : decode cX7_addFile 55 = .ok (.iconst 1, 1) := by decide +kernel
theorem dX7_addFile_56 : decode cX7_addFile 56 = .ok (.isub, 1) := by decide +kernel
theorem dX7_addFile_57 : decode cX7_addFile 57 = .ok (.iaload, 1) := by decide +kernel
theorem dX7_addFile_58 : decode cX7_addFile 58 = .ok (.iload_n 2, 1) := by decide +kernel
theorem dX7_addFile_59 : decode cX7_addFile 59 = .ok (.if_icmp .le 25, 3) := by decide +kernel
theorem dX7_addFile_62 : decode cX7_addFile 62 = .ok (.aload_n 0, 1) := by decide +kernel
theorem dX7_addFile_63 : decode cX7_addFile 63 = .ok (.getfield 84, 3) := by decide +kernel
theorem dX7_addFile_66 : decode cX7_addFile 66 = .ok (.iload 4, 2) := by decide +kernel
theorem dX7_addFile_68 : decode cX7_addFile 68 = .ok (.aload_n 0, 1) := by decide +kernel
theorem dX7_addFile_69 : decode cX7_addFile 69 = .ok (.getfield 84, 3) := by decide +kernel
theorem dX7_addFile_72 : decode cX7_addFile 72 = .ok (.iload 4, 2) := by decide +kernel
theorem dX7_addFile_74 : decode cX7_addFile 74 = .ok (.iconst 1, 1) := by decide +kernel
theorem dX7_addFile_75 : decode cX7_addFile 75 = .ok (.isub, 1) := by decide +kernel
theorem dX7_addFile_76 : decode cX7_addFile 76 = .ok (.iaload, 1) := by decide +kernel
theorem dX7_addFile_77 : decode cX7_addFile 77 = .ok (.iastore, 1) := by decide +kernel
theorem dX7_addFile_78 : decode cX7_addFile 78 = .ok (.iinc 4 (-1), 3) := by decide +kernel
theorem dX7_addFile_81 : decode cX7_addFile 81 = .ok (.goto (-38), 3) := by decide +kernel
theorem dX7_addFile_84 : decode cX7_addFile 84 = .ok (.aload_n 0, 1) := by decide +kernel
theorem dX7_addFile_85 : decode cX7_addFile 85 = .ok (.getfield 84, 3) := by decide +kernel
theorem dX7_addFile_88 : decode cX7_addFile 88 = .ok (.iload 4, 2) := by decide +kernel
theorem dX7_addFile_90 : decode cX7_addFile 90 = .ok (.iload_n 2, 1) := by decide +kernel
theorem dX7_addFile_91 : decode cX7_addFile 91 = .ok (.iastore, 1) := by decide +kernel
theorem dX7_addFile_92 : decode cX7_addFile 92 = .ok (.aload_n 0, 1) := by decide +kernel
theorem dX7_addFile_93 : decode cX7_addFile 93 = .ok (.getfield 90, 3) := by decide +kernel
theorem dX7_addFile_96 : decode cX7_addFile 96 = .ok (.iload_n 1, 1) := by decide +kernel
theorem dX7_addFile_97 : decode cX7_addFile 97 = .ok (.sipush 128, 3) := by decide +kernel
theorem dX7_addFile_100 : decode cX7_addFile 100 = .ok (.idiv, 1) := by decide +kernel
theorem dX7_addFile_101 : decode cX7_addFile 101 = .ok (.dup2, 1) := by decide +kernel
theorem dX7_addFile_102 : decode cX7_addFile 102 = .ok (.iaload, 1) := by decide +kernel
theorem dX7_addFile_103 : decode cX7_addFile 103 = .ok (.iconst 1, 1) := by decide +kernel
theorem dX7_addFile_104 : decode cX7_addFile 104 = .ok (.iadd, 1) := by decide +kernel
theorem dX7_addFile_105 : decode cX7_addFile 105 = .ok (.iastore, 1) := by decide +kernel
theorem dX7_addFile_106 : decode cX7_addFile 106 = .ok (.return_, 1) := by decide +kernel
theorem dX7_nextData_0 : decode cX7_nextData 0 = .ok (.iconst (-1), 1) := by decide +kernel
theorem dX7_nextData_1 : decode cX7_nextData 1 = .ok (.istore_n 3, 1) := by decide +kernel
theorem dX7_nextData_2 : decode cX7_nextData 2 = .ok (.iconst 0, 1) := by decide +kernel
theorem dX7_nextData_3 : decode cX7_nextData 3 = .ok (.istore 4, 2) := by decide +kernel
theorem dX7_nextData_5 : decode cX7_nextData 5 = .ok (.iload 4, 2) := by decide +kernel
theorem dX7_nextData_7 : decode cX7_nextData 7 = .ok (.sipush 128, 3) := by decide +kernel
theorem dX7_nextData_10 : decode cX7_nextData 10 = .ok (.if_icmp .ge 92, 3) := by decide +kernel
theorem dX7_nextData_13 : decode cX7_nextData 13 = .ok (.aload_n 0, 1) := by decide +kernel
theorem dX7_nextData_14 : decode cX7_nextData 14 = .ok (.getfield 69, 3) := by decide +kernel
theorem dX7_nextData_17 : decode cX7_nextData 17 = .ok (.iload 4, 2) := by decide +kernel
theorem dX7_nextData_19 : decode cX7_nextData 19 = .ok (.baload, 1) := by decide +kernel
theorem dX7_nextData_20 : decode cX7_nextData 20 = .ok (.ifCond .eq 40, 3) := by decide +kernel
theorem dX7_nextData_23 : decode cX7_nextData 23 = .ok (.aload_n 0, 1) := by decide +kernel
theorem dX7_nextData_24 : decode cX7_nextData 24 = .ok (.getfield 7, 3) := by decide +kernel
theorem dX7_nextData_27 : decode cX7_nextData 27 = .ok (.iload 4, 2) := by decide +kernel
theorem dX7_nextData_29 : decode cX7_nextData 29 = .ok (.iaload, 1) := by decide +kernel
theorem dX7_nextData_30 : decode cX7_nextData 30 = .ok (.iconst 1, 1) := by decide +kernel
theorem dX7_nextData_31 : decode cX7_nextData 31 = .ok (.if_icmp .ne 29, 3) := by decide +kernel
theorem dX7_nextData_34 : decode cX7_nextData 34 = .ok (.aload_n 0, 1) := by decide +kernel
theorem dX7_nextData_35 : decode cX7_nextData 35 = .ok (.getfield 13, 3) := by decide +kernel
theorem dX7_nextData_38 : decode cX7_nextData 38 = .ok (.iload 4, 2) := by decide +kernel
theorem dX7_nextData_40 : decode cX7_nextData 40 = .ok (.iaload, 1) := by decide +kernel
theorem dX7_nextData_41 : decode cX7_nextData 41 = .ok (.iload_n 1, 1) := by decide +kernel
theorem dX7_nextData_42 : decode cX7_nextData 42 = .ok (.if_icmp .ne 18, 3) := by decide +kernel
theorem dX7_nextData_45 : decode cX7_nextData 45 = .ok (.aload_n 0, 1) := by decide +kernel
theorem dX7_nextData_46 : decode cX7_nextData 46 = .ok (.getfield 16, 3) := by decide +kernel
theorem dX7_nextData_49 : decode cX7_nextData 49 = .ok (.iload 4, 2) := by decide +kernel
theorem dX7_nextData_51 : decode cX7_nextData 51 = .ok (.iaload, 1) := by decide +kernel
theorem dX7_nextData_52 : decode cX7_nextData 52 = .ok (.iload_n 2, 1) := by decide +kernel
theorem dX7_nextData_53 : decode cX7_nextData 53 = .ok (.if_icmp .le 7, 3) := by decide +kernel
theorem dX7_nextData_56 : decode cX7_nextData 56 = .ok (.iconst 1, 1) := by decide +kernel
theorem dX7_nextData_57 : decode cX7_nextData 57 = .ok (.goto 4, 3) := by decide +kernel
theorem dX7_nextData_60 : decode cX7_nextData 60 = .ok (.iconst 0, 1) := by decide +kernel
theorem dX7_nextData_61 : decode cX7_nextData 61 = .ok (.istore 5, 2) := by decide +kernel
theorem dX7_nextData_63 : decode cX7_nextData 63 = .ok (.iload 5, 2) := by decide +kernel
theorem dX7_nextData_65 : decode cX7_nextData 65 = .ok (.ifCond .eq 29, 3) := by decide +kernel
theorem dX7_nextData_68 : decode cX7_nextData 68 = .ok (.iload_n 3, 1) := by decide +kernel
theorem dX7_nextData_69 : decode cX7_nextData 69 = .ok (.iconst (-1), 1) := by decide +kernel
theorem dX7_nextData_70 : decode cX7_nextData 70 = .ok (.if_icmp .eq 19, 3) := by decide +kernel
theorem dX7_nextData_73 : decode cX7_nextData 73 = .ok (.aload_n 0, 1) := by decide +kernel
theorem dX7_nextData_74 : decode cX7_nextData 74 = .ok (.getfield 16, 3) := by decide +kernel
theorem dX7_nextData_77 : decode cX7_nextData 77 = .ok (.iload 4, 2) := by decide +kernel
theorem dX7_nextData_79 : decode cX7_nextData 79 = .ok (.iaload, 1) := by decide +kernel
theorem dX7_nextData_80 : decode cX7_nextData 80 = .ok (.aload_n 0, 1) := by decide +kernel
theorem dX7_nextData_81 : decode cX7_nextData 81 = .ok (.getfield 16, 3) := by decide +kernel
theorem dX7_nextData_84 : decode cX7_nextData 84 = .ok (.iload_n 3, 1) := by decide +kernel
theorem dX7_nextData_85 : decode cX7_nextData 85 = .ok (.iaload, 1) := by decide +kernel
theorem dX7_nextData_86 : decode cX7_nextData 86 = .ok (.if_icmp .ge 8, 3) := by decide +kernel
theorem dX7_nextData_89 : decode cX7_nextData 89 = .ok (.iload 4, 2) := by decide +kernel
theorem dX7_nextData_91 : decode cX7_nextData 91 = .ok (.goto 4, 3) := by decide +kernel
theorem dX7_nextData_94 : decode cX7_nextData 94 = .ok (.iload_n 3, 1) := by decide +kernel
theorem dX7_nextData_95 : decode cX7_nextData 95 = .ok (.istore_n 3, 1) := by decide +kernel
theorem dX7_nextData_96 : decode cX7_nextData 96 = .ok (.iinc 4 1, 3) := by decide +kernel
theorem dX7_nextData_99 : decode cX7_nextData 99 = .ok (.goto (-94), 3) := by decide +kernel
theorem dX7_nextData_102 : decode cX7_nextData 102 = .ok (.iload_n 3, 1) := by decide +kernel
theorem dX7_nextData_103 : decode cX7_nextData 103 = .ok (.ireturn, 1) := by decide +kernel
theorem dX7_layContent_0 : decode cX7_layContent 0 = .ok (.bipush 64, 2) := by decide +kernel
theorem dX7_layContent_2 : decode cX7_layContent 2 = .ok (.iload_n 1, 1) := by decide +kernel
theorem dX7_layContent_3 : decode cX7_layContent 3 = .ok (.imul, 1) := by decide +kernel
theorem dX7_layContent_4 : decode cX7_layContent 4 = .ok (.istore_n 2, 1) := by decide +kernel
theorem dX7_layContent_5 : decode cX7_layContent 5 = .ok (.iconst 0, 1) := by decide +kernel
theorem dX7_layContent_6 : decode cX7_layContent 6 = .ok (.istore_n 3, 1) := by decide +kernel
theorem dX7_layContent_7 : decode cX7_layContent 7 = .ok (.iload_n 2, 1) := by decide +kernel
theorem dX7_layContent_8 : decode cX7_layContent 8 = .ok (.istore 4, 2) := by decide +kernel
theorem dX7_layContent_10 : decode cX7_layContent 10 = .ok (.iload 4, 2) := by decide +kernel
theorem dX7_layContent_12 : decode cX7_layContent 12 = .ok (.iload_n 2, 1) := by decide +kernel
theorem dX7_layContent_13 : decode cX7_layContent 13 = .ok (.bipush 64, 2) := by decide +kernel
theorem dX7_layContent_15 : decode cX7_layContent 15 = .ok (.iadd, 1) := by decide +kernel
theorem dX7_layContent_16 : decode cX7_layContent 16 = .ok (.if_icmp .ge 25, 3) := by decide +kernel
theorem dX7_layContent_19 : decode cX7_layContent 19 = .ok (.aload_n 0, 1) := by decide +kernel
theorem dX7_layContent_20 : decode cX7_layContent 20 = .ok (.getfield 93, 3) := by decide +kernel
theorem dX7_layContent_23 : decode cX7_layContent 23 = .ok (.iload 4, 2) := by decide +kernel
theorem dX7_layContent_25 : decode cX7_layContent 25 = .ok (.iconst 0, 1) := by decide +kernel
theorem dX7_layContent_26 : decode cX7_layContent 26 = .ok (.iastore, 1) := by decide +kernel
theorem dX7_layContent_27 : decode cX7_layContent 27 = .ok (.aload_n 0, 1) := by decide +kernel
theorem dX7_layContent_28 : decode cX7_layContent 28 = .ok (.getfield 96, 3) := by decide +kernel
theorem dX7_layContent_31 : decode cX7_layContent 31 = .ok (.iload 4, 2) := by decide +kernel
theorem dX7_layContent_33 : decode cX7_layContent 33 = .ok (.iconst 0, 1) := by decide +kernel
theorem dX7_layContent_34 : decode cX7_layContent 34 = .ok (.iastore, 1) := by decide +kernel
theorem dX7_layContent_35 : decode cX7_layContent 35 = .ok (.iinc 4 1, 3) := by decide +kernel
theorem dX7_layContent_38 : decode cX7_layContent 38 = .ok (.goto (-28), 3) := by decide +kernel
theorem dX7_layContent_41 : decode cX7_layContent 41 = .ok (.aload_n 0, 1) := by decide +kernel
theorem dX7_layContent_42 : decode cX7_layContent 42 = .ok (.aload_n 0, 1) := by decide +kernel
theorem dX7_layContent_43 : decode cX7_layContent 43 = .ok (.getfield 84, 3) := by decide +kernel
theorem dX7_layContent_46 : decode cX7_layContent 46 = .ok (.iload_n 1, 1) := by decide +kernel
theorem dX7_layContent_47 : decode cX7_layContent 47 = .ok (.iaload, 1) := by decide +kernel
theorem dX7_layContent_48 : decode cX7_layContent 48 = .ok (.iconst 0, 1) := by decide +kernel
theorem dX7_layContent_49 : decode cX7_layContent 49 = .ok (.invokevirtual 134, 3) := by decide +kernel
theorem dX7_layContent_52 : decode cX7_layContent 52 = .ok (.istore 4, 2) := by decide +kernel
theorem dX7_layContent_54 : decode cX7_layContent 54 = .ok (.iload 4, 2) := by decide +kernel
theorem dX7_layContent_56 : decode cX7_layContent 56 = .ok (.iconst (-1), 1) := by decide +kernel
theorem dX7_layContent_57 : decode cX7_layContent 57 = .ok (.if_icmp .eq 149, 3) := by decide +kernel
theorem dX7_layContent_60 : decode cX7_layContent 60 = .ok (.aload_n 0, 1) := by decide +kernel
theorem dX7_layContent_61 : decode cX7_layContent 61 = .ok (.getfield 29, 3) := by decide +kernel
theorem dX7_layContent_64 : decode cX7_layContent 64 = .ok (.iload 4, 2) := by decide +kernel
theorem dX7_layContent_66 : decode cX7_layContent 66 = .ok (.iaload, 1) := by decide +kernel
theorem dX7_layContent_67 : decode cX7_layContent 67 = .ok (.istore_n 3, 1) := by decide +kernel
theorem dX7_layContent_68 : decode cX7_layContent 68 = .ok (.iload_n 2, 1) := by decide +kernel
theorem dX7_layContent_69 : decode cX7_layContent 69 = .ok (.iload_n 3, 1) := by decide +kernel
theorem dX7_layContent_70 : decode cX7_layContent 70 = .ok (.iadd, 1) := by decide +kernel
theorem dX7_layContent_71 : decode cX7_layContent 71 = .ok (.istore 5, 2) := by decide +kernel
theorem dX7_layContent_73 : decode cX7_layContent 73 = .ok (.iload 5, 2) := by decide +kernel
theorem dX7_layContent_75 : decode cX7_layContent 75 = .ok (.iload_n 2, 1) := by decide +kernel
theorem dX7_layContent_76 : decode cX7_layContent 76 = .ok (.bipush 64, 2) := by decide +kernel
theorem dX7_layContent_78 : decode cX7_layContent 78 = .ok (.iadd, 1) := by decide +kernel
theorem dX7_layContent_79 : decode cX7_layContent 79 = .ok (.if_icmp .ge 25, 3) := by decide +kernel
theorem dX7_layContent_82 : decode cX7_layContent 82 = .ok (.aload_n 0, 1) := by decide +kernel
theorem dX7_layContent_83 : decode cX7_layContent 83 = .ok (.getfield 93, 3) := by decide +kernel
theorem dX7_layContent_86 : decode cX7_layContent 86 = .ok (.iload 5, 2) := by decide +kernel
theorem dX7_layContent_88 : decode cX7_layContent 88 = .ok (.iconst 0, 1) := by decide +kernel
theorem dX7_layContent_89 : decode cX7_layContent 89 = .ok (.iastore, 1) := by decide +kernel
theorem dX7_layContent_90 : decode cX7_layContent 90 = .ok (.aload_n 0, 1) := by decide +kernel
theorem dX7_layContent_91 : decode cX7_layContent 91 = .ok (.getfield 96, 3) := by decide +kernel
theorem dX7_layContent_94 : decode cX7_layContent 94 = .ok (.iload 5, 2) := by decide +kernel
theorem dX7_layContent_96 : decode cX7_layContent 96 = .ok (.iconst 0, 1) := by decide +kernel
theorem dX7_layContent_97 : decode cX7_layContent 97 = .ok (.iastore, 1) := by decide +kernel
theorem dX7_layContent_98 : decode cX7_layContent 98 = .ok (.iinc 5 1, 3) := by decide +kernel
theorem dX7_layContent_101 : decode cX7_layContent 101 = .ok (.goto (-28), 3) := by decide +kernel
theorem dX7_layContent_104 : decode cX7_layContent 104 = .ok (.iconst 0, 1) := by decide +kernel
theorem dX7_layContent_105 : decode cX7_layContent 105 = .ok (.istore 5, 2) := by decide +kernel
theorem dX7_layContent_107 : decode cX7_layContent 107 = .ok (.iload 5, 2) := by decide +kernel
theorem dX7_layContent_109 : decode cX7_layContent 109 = .ok (.aload_n 0, 1) := by decide +kernel
theorem dX7_layContent_110 : decode cX7_layContent 110 = .ok (.getfield 22, 3) := by decide +kernel
theorem dX7_layContent_113 : decode cX7_layContent 113 = .ok (.iload 4, 2) := by decide +kernel
theorem dX7_layContent_115 : decode cX7_layContent 115 = .ok (.iaload, 1) := by decide +kernel
theorem dX7_layContent_116 : decode cX7_layContent 116 = .ok (.if_icmp .ge 68, 3) := by decide +kernel
theorem dX7_layContent_119 : decode cX7_layContent 119 = .ok (.aload_n 0, 1) := by decide +kernel
theorem dX7_layContent_120 : decode cX7_layContent 120 = .ok (.getfield 93, 3) := by decide +kernel
theorem dX7_layContent_123 : decode cX7_layContent 123 = .ok (.iload_n 2, 1) := by decide +kernel
theorem dX7_layContent_124 : decode cX7_layContent 124 = .ok (.aload_n 0, 1) := by decide +kernel
theorem dX7_layContent_125 : decode cX7_layContent 125 = .ok (.getfield 19, 3) := by decide +kernel
theorem dX7_layContent_128 : decode cX7_layContent 128 = .ok (.iload 4, 2) := by decide +kernel
theorem dX7_layContent_130 : decode cX7_layContent 130 = .ok (.iaload, 1) := by decide +kernel
theorem dX7_layContent_131 : decode cX7_layContent 131 = .ok (.iadd, 1) := by decide +kernel
theorem dX7_layContent_132 : decode cX7_layContent 132 = .ok (.iload 5, 2) := by decide +kernel
theorem dX7_layContent_134 : decode cX7_layContent 134 = .ok (.iadd, 1) := by decide +kernel
theorem dX7_layContent_135 : decode cX7_layContent 135 = .ok (.aload_n 0, 1) := by decide +kernel
theorem dX7_layContent_136 : decode cX7_layContent 136 = .ok (.getfield 25, 3) := by decide +kernel
theorem dX7_layContent_139 : decode cX7_layContent 139 = .ok (.iload 4, 2) := by decide +kernel
theorem dX7_layContent_141 : decode cX7_layContent 141 = .ok (.laload, 1) := by decide +kernel
theorem dX7_layContent_142 : decode cX7_layContent 142 = .ok (.bipush 8, 2) := by decide +kernel
theorem dX7_layContent_144 : decode cX7_layContent 144 = .ok (.iload 5, 2) := by decide +kernel
theorem dX7_layContent_146 : decode cX7_layContent 146 = .ok (.imul, 1) := by decide +kernel
theorem dX7_layContent_147 : decode cX7_layContent 147 = .ok (.lshr, 1) := by decide +kernel
theorem dX7_layContent_148 : decode cX7_layContent 148 = .ok (.ldc2_w 138, 3) := by decide +kernel
theorem dX7_layContent_151 : decode cX7_layContent 151 = .ok (.land, 1) := by decide +kernel
theorem dX7_layContent_152 : decode cX7_layContent 152 = .ok (.l2i, 1) := by decide +kernel
theorem dX7_layContent_153 : decode cX7_layContent 153 = .ok (.iastore, 1) := by decide +kernel
theorem dX7_layContent_154 : decode cX7_layContent 154 = .ok (.aload_n 0, 1) := by decide +kernel
theorem dX7_layContent_155 : decode cX7_layContent 155 = .ok (.getfield 96, 3) := by decide +kernel
theorem dX7_layContent_158 : decode cX7_layContent 158 = .ok (.iload_n 2, 1) := by decide +kernel
theorem dX7_layContent_159 : decode cX7_layContent 159 = .ok (.aload_n 0, 1) := by decide +kernel
theorem dX7_layContent_160 : decode cX7_layContent 160 = .ok (.getfield 19, 3) := by decide +kernel
theorem dX7_layContent_163 : decode cX7_layContent 163 = .ok (.iload 4, 2) := by decide +kernel
theorem dX7_layContent_165 : decode cX7_layContent 165 = .ok (.iaload, 1) := by decide +kernel
theorem dX7_layContent_166 : decode cX7_layContent 166 = .ok (.iadd, 1) := by decide +kernel
theorem dX7_layContent_167 : decode cX7_layContent 167 = .ok (.iload 5, 2) := by decide +kernel
theorem dX7_layContent_169 : decode cX7_layContent 169 = .ok (.iadd, 1) := by decide +kernel
theorem dX7_layContent_170 : decode cX7_layContent 170 = .ok (.aload_n 0, 1) := by decide +kernel
theorem dX7_layContent_171 : decode cX7_layContent 171 = .ok (.getfield 16, 3) := by decide +kernel
theorem dX7_layContent_174 : decode cX7_layContent 174 = .ok (.iload 4, 2) := by decide +kernel
theorem dX7_layContent_176 : decode cX7_layContent 176 = .ok (.iaload, 1) := by decide +kernel
theorem dX7_layContent_177 : decode cX7_layContent 177 = .ok (.iastore, 1) := by decide +kernel
theorem dX7_layContent_178 : decode cX7_layContent 178 = .ok (.iinc 5 1, 3) := by decide +kernel
theorem dX7_layContent_181 : decode cX7_layContent 181 = .ok (.goto (-74), 3) := by decide +kernel
theorem dX7_layContent_184 : decode cX7_layContent 184 = .ok (.aload_n 0, 1) := by decide +kernel
theorem dX7_layContent_185 : decode cX7_layContent 185 = .ok (.aload_n 0, 1) := by decide +kernel
theorem dX7_layContent_186 : decode cX7_layContent 186 = .ok (.getfield 84, 3) := by decide +kernel
theorem dX7_layContent_189 : decode cX7_layContent 189 = .ok (.iload_n 1, 1) := by decide +kernel
theorem dX7_layContent_190 : decode cX7_layContent 190 = .ok (.iaload, 1) := by decide +kernel
theorem dX7_layContent_191 : decode cX7_layContent 191 = .ok (.aload_n 0, 1) := by decide +kernel
theorem dX7_layContent_192 : decode cX7_layContent 192 = .ok (.getfield 16, 3) := by decide +kernel
theorem dX7_layContent_195 : decode cX7_layContent 195 = .ok (.iload 4, 2) := by decide +kernel
theorem dX7_layContent_197 : decode cX7_layContent 197 = .ok (.iaload, 1) := by decide +kernel
theorem dX7_layContent_198 : decode cX7_layContent 198 = .ok (.invokevirtual 134, 3) := by decide +kernel
theorem dX7_layContent_201 : decode cX7_layContent 201 = .ok (.istore 4, 2) := by decide +kernel
theorem dX7_layContent_203 : decode cX7_layContent 203 = .ok (.goto (-149), 3) := by decide +kernel
theorem dX7_layContent_206 : decode cX7_layContent 206 = .ok (.aload_n 0, 1) := by decide +kernel
theorem dX7_layContent_207 : decode cX7_layContent 207 = .ok (.getfield 87, 3) := by decide +kernel
theorem dX7_layContent_210 : decode cX7_layContent 210 = .ok (.iload_n 1, 1) := by decide +kernel
theorem dX7_layContent_211 : decode cX7_layContent 211 = .ok (.iload_n 3, 1) := by decide +kernel
theorem dX7_layContent_212 : decode cX7_layContent 212 = .ok (.iastore, 1) := by decide +kernel
theorem dX7_layContent_213 : decode cX7_layContent 213 = .ok (.return_, 1) := by decide +kernel
theorem dX7_lay_0 : decode cX7_lay 0 = .ok (.aload_n 0, 1) := by decide +kernel
theorem dX7_lay_1 : decode cX7_lay 1 = .ok (.invokevirtual 140, 3) := by decide +kernel
theorem dX7_lay_4 : decode cX7_lay 4 = .ok (.aload_n 0, 1) := by decide +kernel
theorem dX7_lay_5 : decode cX7_lay 5 = .ok (.getfield 81, 3) := by decide +kernel
theorem dX7_lay_8 : decode cX7_lay 8 = .ok (.iload_n 1, 1) := by decide +kernel
theorem dX7_lay_9 : decode cX7_lay 9 = .ok (.sipush 128, 3) := by decide +kernel
theorem dX7_lay_12 : decode cX7_lay 12 = .ok (.idiv, 1) := by decide +kernel
theorem dX7_lay_13 : decode cX7_lay 13 = .ok (.iconst 0, 1) := by decide +kernel
theorem dX7_lay_14 : decode cX7_lay 14 = .ok (.iastore, 1) := by decide +kernel
theorem dX7_lay_15 : decode cX7_lay 15 = .ok (.aload_n 0, 1) := by decide +kernel
theorem dX7_lay_16 : decode cX7_lay 16 = .ok (.getfield 90, 3) := by decide +kernel
theorem dX7_lay_19 : decode cX7_lay 19 = .ok (.iload_n 1, 1) := by decide +kernel
theorem dX7_lay_20 : decode cX7_lay 20 = .ok (.sipush 128, 3) := by decide +kernel
theorem dX7_lay_23 : decode cX7_lay 23 = .ok (.idiv, 1) := by decide +kernel
theorem dX7_lay_24 : decode cX7_lay 24 = .ok (.iconst 0, 1) := by decide +kernel
theorem dX7_lay_25 : decode cX7_lay 25 = .ok (.iastore, 1) := by decide +kernel
theorem dX7_lay_26 : decode cX7_lay 26 = .ok (.iconst 0, 1) := by decide +kernel
theorem dX7_lay_27 : decode cX7_lay 27 = .ok (.istore_n 2, 1) := by decide +kernel
theorem dX7_lay_28 : decode cX7_lay 28 = .ok (.iload_n 2, 1) := by decide +kernel
theorem dX7_lay_29 : decode cX7_lay 29 = .ok (.sipush 128, 3) := by decide +kernel
theorem dX7_lay_32 : decode cX7_lay 32 = .ok (.if_icmp .ge 96, 3) := by decide +kernel
theorem dX7_lay_35 : decode cX7_lay 35 = .ok (.aload_n 0, 1) := by decide +kernel
theorem dX7_lay_36 : decode cX7_lay 36 = .ok (.getfield 99, 3) := by decide +kernel
theorem dX7_lay_39 : decode cX7_lay 39 = .ok (.iload_n 2, 1) := by decide +kernel
theorem dX7_lay_40 : decode cX7_lay 40 = .ok (.baload, 1) := by decide +kernel
theorem dX7_lay_41 : decode cX7_lay 41 = .ok (.ifCond .eq 81, 3) := by decide +kernel
theorem dX7_lay_44 : decode cX7_lay 44 = .ok (.aload_n 0, 1) := by decide +kernel
theorem dX7_lay_45 : decode cX7_lay 45 = .ok (.getfield 72, 3) := by decide +kernel
theorem dX7_lay_48 : decode cX7_lay 48 = .ok (.aload_n 0, 1) := by decide +kernel
theorem dX7_lay_49 : decode cX7_lay 49 = .ok (.getfield 13, 3) := by decide +kernel
theorem dX7_lay_52 : decode cX7_lay 52 = .ok (.iload_n 2, 1) := by decide +kernel
theorem dX7_lay_53 : decode cX7_lay 53 = .ok (.iaload, 1) := by decide +kernel
theorem dX7_lay_54 : decode cX7_lay 54 = .ok (.baload, 1) := by decide +kernel
theorem dX7_lay_55 : decode cX7_lay 55 = .ok (.ifCond .eq 67, 3) := by decide +kernel
theorem dX7_lay_58 : decode cX7_lay 58 = .ok (.aload_n 0, 1) := by decide +kernel
theorem dX7_lay_59 : decode cX7_lay 59 = .ok (.iload_n 1, 1) := by decide +kernel
theorem dX7_lay_60 : decode cX7_lay 60 = .ok (.bipush 100, 2) := by decide +kernel
theorem dX7_lay_62 : decode cX7_lay 62 = .ok (.aload_n 0, 1) := by decide +kernel
theorem dX7_lay_63 : decode cX7_lay 63 = .ok (.getfield 13, 3) := by decide +kernel
theorem dX7_lay_66 : decode cX7_lay 66 = .ok (.iload_n 2, 1) := by decide +kernel
theorem dX7_lay_67 : decode cX7_lay 67 = .ok (.iaload, 1) := by decide +kernel
theorem dX7_lay_68 : decode cX7_lay 68 = .ok (.imul, 1) := by decide +kernel
theorem dX7_lay_69 : decode cX7_lay 69 = .ok (.aload_n 0, 1) := by decide +kernel
theorem dX7_lay_70 : decode cX7_lay 70 = .ok (.getfield 32, 3) := by decide +kernel
theorem dX7_lay_73 : decode cX7_lay 73 = .ok (.iload_n 2, 1) := by decide +kernel
theorem dX7_lay_74 : decode cX7_lay 74 = .ok (.iaload, 1) := by decide +kernel
theorem dX7_lay_75 : decode cX7_lay 75 = .ok (.iadd, 1) := by decide +kernel
theorem dX7_lay_76 : decode cX7_lay 76 = .ok (.iconst 2, 1) := by decide +kernel
theorem dX7_lay_77 : decode cX7_lay 77 = .ok (.aload_n 0, 1) := by decide +kernel
theorem dX7_lay_78 : decode cX7_lay 78 = .ok (.getfield 35, 3) := by decide +kernel
theorem dX7_lay_81 : decode cX7_lay 81 = .ok (.iload_n 2, 1) := by decide +kernel
theorem dX7_lay_82 : decode cX7_lay 82 = .ok (.iaload, 1) := by decide +kernel
theorem dX7_lay_83 : decode cX7_lay 83 = .ok (.imul, 1) := by decide +kernel
theorem dX7_lay_84 : decode cX7_lay 84 = .ok (.aload_n 0, 1) := by decide +kernel
theorem dX7_lay_85 : decode cX7_lay 85 = .ok (.getfield 38, 3) := by decide +kernel
theorem dX7_lay_88 : decode cX7_lay 88 = .ok (.iload_n 2, 1) := by decide +kernel
theorem dX7_lay_89 : decode cX7_lay 89 = .ok (.baload, 1) := by decide +kernel
theorem dX7_lay_90 : decode cX7_lay 90 = .ok (.ifCond .eq 7, 3) := by decide +kernel
theorem dX7_lay_93 : decode cX7_lay 93 = .ok (.iconst 1, 1) := by decide +kernel
theorem dX7_lay_94 : decode cX7_lay 94 = .ok (.goto 4, 3) := by decide +kernel
theorem dX7_lay_97 : decode cX7_lay 97 = .ok (.iconst 0, 1) := by decide +kernel
theorem dX7_lay_98 : decode cX7_lay 98 = .ok (.iadd, 1) := by decide +kernel
theorem dX7_lay_99 : decode cX7_lay 99 = .ok (.invokevirtual 143, 3) := by decide +kernel
theorem dX7_lay_102 : decode cX7_lay 102 = .ok (.aload_n 0, 1) := by decide +kernel
theorem dX7_lay_103 : decode cX7_lay 103 = .ok (.getfield 38, 3) := by decide +kernel
theorem dX7_lay_106 : decode cX7_lay 106 = .ok (.iload_n 2, 1) := by decide +kernel
theorem dX7_lay_107 : decode cX7_lay 107 = .ok (.baload, 1) := by decide +kernel
theorem dX7_lay_108 : decode cX7_lay 108 = .ok (.ifCond .ne 14, 3) := by decide +kernel
theorem dX7_lay_111 : decode cX7_lay 111 = .ok (.aload_n 0, 1) := by decide +kernel
theorem dX7_lay_112 : decode cX7_lay 112 = .ok (.iload_n 1, 1) := by decide +kernel
theorem dX7_lay_113 : decode cX7_lay 113 = .ok (.aload_n 0, 1) := by decide +kernel
theorem dX7_lay_114 : decode cX7_lay 114 = .ok (.getfield 35, 3) := by decide +kernel
theorem dX7_lay_117 : decode cX7_lay 117 = .ok (.iload_n 2, 1) := by decide +kernel
theorem dX7_lay_118 : decode cX7_lay 118 = .ok (.iaload, 1) := by decide +kernel
theorem dX7_lay_119 : decode cX7_lay 119 = .ok (.invokevirtual 147, 3) := by decide +kernel
theorem dX7_lay_122 : decode cX7_lay 122 = .ok (.iinc 2 1, 3) := by decide +kernel
theorem dX7_lay_125 : decode cX7_lay 125 = .ok (.goto (-97), 3) := by decide +kernel
theorem dX7_lay_128 : decode cX7_lay 128 = .ok (.iconst 0, 1) := by decide +kernel
theorem dX7_lay_129 : decode cX7_lay 129 = .ok (.istore_n 2, 1) := by decide +kernel
theorem dX7_lay_130 : decode cX7_lay 130 = .ok (.iload_n 2, 1) := by decide +kernel
theorem dX7_lay_131 : decode cX7_lay 131 = .ok (.aload_n 0, 1) := by decide +kernel
theorem dX7_lay_132 : decode cX7_lay 132 = .ok (.getfield 90, 3) := by decide +kernel
theorem dX7_lay_135 : decode cX7_lay 135 = .ok (.iload_n 1, 1) := by decide +kernel
theorem dX7_lay_136 : decode cX7_lay 136 = .ok (.sipush 128, 3) := by decide +kernel
theorem dX7_lay_139 : decode cX7_lay 139 = .ok (.idiv, 1) := by decide +kernel
theorem dX7_lay_140 : decode cX7_lay 140 = .ok (.iaload, 1) := by decide +kernel
theorem dX7_lay_141 : decode cX7_lay 141 = .ok (.if_icmp .ge 16, 3) := by decide +kernel
theorem dX7_lay_144 : decode cX7_lay 144 = .ok (.aload_n 0, 1) := by decide +kernel
theorem dX7_lay_145 : decode cX7_lay 145 = .ok (.iload_n 1, 1) := by decide +kernel
theorem dX7_lay_146 : decode cX7_lay 146 = .ok (.iload_n 2, 1) := by decide +kernel
theorem dX7_lay_147 : decode cX7_lay 147 = .ok (.iadd, 1) := by decide +kernel
theorem dX7_lay_148 : decode cX7_lay 148 = .ok (.invokevirtual 151, 3) := by decide +kernel
theorem dX7_lay_151 : decode cX7_lay 151 = .ok (.iinc 2 1, 3) := by decide +kernel
theorem dX7_lay_154 : decode cX7_lay 154 = .ok (.goto (-24), 3) := by decide +kernel
theorem dX7_lay_157 : decode cX7_lay 157 = .ok (.return_, 1) := by decide +kernel
theorem dX7_areSame_0 : decode cX7_areSame 0 = .ok (.aload_n 0, 1) := by decide +kernel
theorem dX7_areSame_1 : decode cX7_areSame 1 = .ok (.getfield 81, 3) := by decide +kernel
theorem dX7_areSame_4 : decode cX7_areSame 4 = .ok (.iconst 0, 1) := by decide +kernel
theorem dX7_areSame_5 : decode cX7_areSame 5 = .ok (.iaload, 1) := by decide +kernel
theorem dX7_areSame_6 : decode cX7_areSame 6 = .ok (.aload_n 0, 1) := by decide +kernel
theorem dX7_areSame_7 : decode cX7_areSame 7 = .ok (.getfield 81, 3) := by decide +kernel
theorem dX7_areSame_10 : decode cX7_areSame 10 = .ok (.iconst 1, 1) := by decide +kernel
theorem dX7_areSame_11 : decode cX7_areSame 11 = .ok (.iaload, 1) := by decide +kernel
theorem dX7_areSame_12 : decode cX7_areSame 12 = .ok (.if_icmp .ne 22, 3) := by decide +kernel
theorem dX7_areSame_15 : decode cX7_areSame 15 = .ok (.aload_n 0, 1) := by decide +kernel
theorem dX7_areSame_16 : decode cX7_areSame 16 = .ok (.getfield 90, 3) := by decide +kernel
theorem dX7_areSame_19 : decode cX7_areSame 19 = .ok (.iconst 0, 1) := by decide +kernel
theorem dX7_areSame_20 : decode cX7_areSame 20 = .ok (.iaload, 1) := by decide +kernel
theorem dX7_areSame_21 : decode cX7_areSame 21 = .ok (.aload_n 0, 1) := by decide +kernel
theorem dX7_areSame_22 : decode cX7_areSame 22 = .ok (.getfield 90, 3) := by decide +kernel
theorem dX7_areSame_25 : decode cX7_areSame 25 = .ok (.iconst 1, 1) := by decide +kernel
theorem dX7_areSame_26 : decode cX7_areSame 26 = .ok (.iaload, 1) := by decide +kernel
theorem dX7_areSame_27 : decode cX7_areSame 27 = .ok (.if_icmp .ne 7, 3) := by decide +kernel
theorem dX7_areSame_30 : decode cX7_areSame 30 = .ok (.iconst 1, 1) := by decide +kernel
theorem dX7_areSame_31 : decode cX7_areSame 31 = .ok (.goto 4, 3) := by decide +kernel
theorem dX7_areSame_34 : decode cX7_areSame 34 = .ok (.iconst 0, 1) := by decide +kernel
theorem dX7_areSame_35 : decode cX7_areSame 35 = .ok (.istore_n 1, 1) := by decide +kernel
theorem dX7_areSame_36 : decode cX7_areSame 36 = .ok (.iconst 0, 1) := by decide +kernel
theorem dX7_areSame_37 : decode cX7_areSame 37 = .ok (.istore_n 2, 1) := by decide +kernel
theorem dX7_areSame_38 : decode cX7_areSame 38 = .ok (.iload_n 2, 1) := by decide +kernel
theorem dX7_areSame_39 : decode cX7_areSame 39 = .ok (.aload_n 0, 1) := by decide +kernel
theorem dX7_areSame_40 : decode cX7_areSame 40 = .ok (.getfield 81, 3) := by decide +kernel
theorem dX7_areSame_43 : decode cX7_areSame 43 = .ok (.iconst 0, 1) := by decide +kernel
theorem dX7_areSame_44 : decode cX7_areSame 44 = .ok (.iaload, 1) := by decide +kernel
theorem dX7_areSame_45 : decode cX7_areSame 45 = .ok (.if_icmp .ge 57, 3) := by decide +kernel
theorem dX7_areSame_48 : decode cX7_areSame 48 = .ok (.iload_n 1, 1) := by decide +kernel
theorem dX7_areSame_49 : decode cX7_areSame 49 = .ok (.ifCond .eq 53, 3) := by decide +kernel
theorem dX7_areSame_52 : decode cX7_areSame 52 = .ok (.aload_n 0, 1) := by decide +kernel
theorem dX7_areSame_53 : decode cX7_areSame 53 = .ok (.getfield 75, 3) := by decide +kernel
theorem dX7_areSame_56 : decode cX7_areSame 56 = .ok (.iload_n 2, 1) := by decide +kernel
theorem dX7_areSame_57 : decode cX7_areSame 57 = .ok (.iaload, 1) := by decide +kernel
theorem dX7_areSame_58 : decode cX7_areSame 58 = .ok (.aload_n 0, 1) := by decide +kernel
theorem dX7_areSame_59 : decode cX7_areSame 59 = .ok (.getfield 75, 3) := by decide +kernel
theorem dX7_areSame_62 : decode cX7_areSame 62 = .ok (.sipush 128, 3) := by decide +kernel
theorem dX7_areSame_65 : decode cX7_areSame 65 = .ok (.iload_n 2, 1) := by decide +kernel
theorem dX7_areSame_66 : decode cX7_areSame 66 = .ok (.iadd, 1) := by decide +kernel
theorem dX7_areSame_67 : decode cX7_areSame 67 = .ok (.iaload, 1) := by decide +kernel
theorem dX7_areSame_68 : decode cX7_areSame 68 = .ok (.if_icmp .ne 26, 3) := by decide +kernel
theorem dX7_areSame_71 : decode cX7_areSame 71 = .ok (.aload_n 0, 1) := by decide +kernel
theorem dX7_areSame_72 : decode cX7_areSame 72 = .ok (.getfield 78, 3) := by decide +kernel
theorem dX7_areSame_75 : decode cX7_areSame 75 = .ok (.iload_n 2, 1) := by decide +kernel
theorem dX7_areSame_76 : decode cX7_areSame 76 = .ok (.iaload, 1) := by decide +kernel
theorem dX7_areSame_77 : decode cX7_areSame 77 = .ok (.aload_n 0, 1) := by decide +kernel
theorem dX7_areSame_78 : decode cX7_areSame 78 = .ok (.getfield 78, 3) := by decide +kernel
theorem dX7_areSame_81 : decode cX7_areSame 81 = .ok (.sipush 128, 3) := by decide +kernel
theorem dX7_areSame_84 : decode cX7_areSame 84 = .ok (.iload_n 2, 1) := by decide +kernel
theorem dX7_areSame_85 : decode cX7_areSame 85 = .ok (.iadd, 1) := by decide +kernel
theorem dX7_areSame_86 : decode cX7_areSame 86 = .ok (.iaload, 1) := by decide +kernel
theorem dX7_areSame_87 : decode cX7_areSame 87 = .ok (.if_icmp .ne 7, 3) := by decide +kernel
theorem dX7_areSame_90 : decode cX7_areSame 90 = .ok (.iconst 1, 1) := by decide +kernel
theorem dX7_areSame_91 : decode cX7_areSame 91 = .ok (.goto 4, 3) := by decide +kernel
theorem dX7_areSame_94 : decode cX7_areSame 94 = .ok (.iconst 0, 1) := by decide +kernel
theorem dX7_areSame_95 : decode cX7_areSame 95 = .ok (.istore_n 1, 1) := by decide +kernel
theorem dX7_areSame_96 : decode cX7_areSame 96 = .ok (.iinc 2 1, 3) := by decide +kernel
theorem dX7_areSame_99 : decode cX7_areSame 99 = .ok (.goto (-61), 3) := by decide +kernel
theorem dX7_areSame_102 : decode cX7_areSame 102 = .ok (.iconst 0, 1) := by decide +kernel
theorem dX7_areSame_103 : decode cX7_areSame 103 = .ok (.istore_n 2, 1) := by decide +kernel
theorem dX7_areSame_104 : decode cX7_areSame 104 = .ok (.iload_n 2, 1) := by decide +kernel
theorem dX7_areSame_105 : decode cX7_areSame 105 = .ok (.aload_n 0, 1) := by decide +kernel
theorem dX7_areSame_106 : decode cX7_areSame 106 = .ok (.getfield 90, 3) := by decide +kernel
theorem dX7_areSame_109 : decode cX7_areSame 109 = .ok (.iconst 0, 1) := by decide +kernel
theorem dX7_areSame_110 : decode cX7_areSame 110 = .ok (.iaload, 1) := by decide +kernel
theorem dX7_areSame_111 : decode cX7_areSame 111 = .ok (.if_icmp .ge 110, 3) := by decide +kernel
theorem dX7_areSame_114 : decode cX7_areSame 114 = .ok (.iload_n 1, 1) := by decide +kernel
theorem dX7_areSame_115 : decode cX7_areSame 115 = .ok (.ifCond .eq 106, 3) := by decide +kernel
theorem dX7_areSame_118 : decode cX7_areSame 118 = .ok (.aload_n 0, 1) := by decide +kernel
theorem dX7_areSame_119 : decode cX7_areSame 119 = .ok (.getfield 84, 3) := by decide +kernel
theorem dX7_areSame_122 : decode cX7_areSame 122 = .ok (.iload_n 2, 1) := by decide +kernel
theorem dX7_areSame_123 : decode cX7_areSame 123 = .ok (.iaload, 1) := by decide +kernel
theorem dX7_areSame_124 : decode cX7_areSame 124 = .ok (.aload_n 0, 1) := by decide +kernel
theorem dX7_areSame_125 : decode cX7_areSame 125 = .ok (.getfield 84, 3) := by decide +kernel
theorem dX7_areSame_128 : decode cX7_areSame 128 = .ok (.sipush 128, 3) := by decide +kernel
theorem dX7_areSame_131 : decode cX7_areSame 131 = .ok (.iload_n 2, 1) := by decide +kernel
theorem dX7_areSame_132 : decode cX7_areSame 132 = .ok (.iadd, 1) := by decide +kernel
theorem dX7_areSame_133 : decode cX7_areSame 133 = .ok (.iaload, 1) := by decide +kernel
theorem dX7_areSame_134 : decode cX7_areSame 134 = .ok (.if_icmp .ne 26, 3) := by decide +kernel
theorem dX7_areSame_137 : decode cX7_areSame 137 = .ok (.aload_n 0, 1) := by decide +kernel
theorem dX7_areSame_138 : decode cX7_areSame 138 = .ok (.getfield 87, 3) := by decide +kernel
theorem dX7_areSame_141 : decode cX7_areSame 141 = .ok (.iload_n 2, 1) := by decide +kernel
theorem dX7_areSame_142 : decode cX7_areSame 142 = .ok (.iaload, 1) := by decide +kernel
theorem dX7_areSame_143 : decode cX7_areSame 143 = .ok (.aload_n 0, 1) := by decide +kernel
theorem dX7_areSame_144 : decode cX7_areSame 144 = .ok (.getfield 87, 3) := by decide +kernel
theorem dX7_areSame_147 : decode cX7_areSame 147 = .ok (.sipush 128, 3) := by decide +kernel
theorem dX7_areSame_150 : decode cX7_areSame 150 = .ok (.iload_n 2, 1) := by decide +kernel
theorem dX7_areSame_151 : decode cX7_areSame 151 = .ok (.iadd, 1) := by decide +kernel
theorem dX7_areSame_152 : decode cX7_areSame 152 = .ok (.iaload, 1) := by decide +kernel
theorem dX7_areSame_153 : decode cX7_areSame 153 = .ok (.if_icmp .ne 7, 3) := by decide +kernel
theorem dX7_areSame_156 : decode cX7_areSame 156 = .ok (.iconst 1, 1) := by decide +kernel
theorem dX7_areSame_157 : decode cX7_areSame 157 = .ok (.goto 4, 3) := by decide +kernel
theorem dX7_areSame_160 : decode cX7_areSame 160 = .ok (.iconst 0, 1) := by decide +kernel
theorem dX7_areSame_161 : decode cX7_areSame 161 = .ok (.istore_n 1, 1) := by decide +kernel
theorem dX7_areSame_162 : decode cX7_areSame 162 = .ok (.iconst 0, 1) := by decide +kernel
theorem dX7_areSame_163 : decode cX7_areSame 163 = .ok (.istore_n 3, 1) := by decide +kernel
theorem dX7_areSame_164 : decode cX7_areSame 164 = .ok (.iload_n 3, 1) := by decide +kernel
theorem dX7_areSame_165 : decode cX7_areSame 165 = .ok (.bipush 64, 2) := by decide +kernel
theorem dX7_areSame_167 : decode cX7_areSame 167 = .ok (.if_icmp .ge 48, 3) := by decide +kernel
theorem dX7_areSame_170 : decode cX7_areSame 170 = .ok (.iload_n 1, 1) := by decide +kernel
theorem dX7_areSame_171 : decode cX7_areSame 171 = .ok (.ifCond .eq 44, 3) := by decide +kernel
theorem dX7_areSame_174 : decode cX7_areSame 174 = .ok (.aload_n 0, 1) := by decide +kernel
theorem dX7_areSame_175 : decode cX7_areSame 175 = .ok (.getfield 93, 3) := by decide +kernel
theorem dX7_areSame_178 : decode cX7_areSame 178 = .ok (.bipush 64, 2) := by decide +kernel
theorem dX7_areSame_180 : decode cX7_areSame 180 = .ok (.iload_n 2, 1) := by decide +kernel
theorem dX7_areSame_181 : decode cX7_areSame 181 = .ok (.imul, 1) := by decide +kernel
theorem dX7_areSame_182 : decode cX7_areSame 182 = .ok (.iload_n 3, 1) := by decide +kernel
theorem dX7_areSame_183 : decode cX7_areSame 183 = .ok (.iadd, 1) := by decide +kernel
theorem dX7_areSame_184 : decode cX7_areSame 184 = .ok (.iaload, 1) := by decide +kernel
theorem dX7_areSame_185 : decode cX7_areSame 185 = .ok (.aload_n 0, 1) := by decide +kernel
theorem dX7_areSame_186 : decode cX7_areSame 186 = .ok (.getfield 93, 3) := by decide +kernel
theorem dX7_areSame_189 : decode cX7_areSame 189 = .ok (.bipush 64, 2) := by decide +kernel
theorem dX7_areSame_191 : decode cX7_areSame 191 = .ok (.sipush 128, 3) := by decide +kernel
theorem dX7_areSame_194 : decode cX7_areSame 194 = .ok (.iload_n 2, 1) := by decide +kernel
theorem dX7_areSame_195 : decode cX7_areSame 195 = .ok (.iadd, 1) := by decide +kernel
theorem dX7_areSame_196 : decode cX7_areSame 196 = .ok (.imul, 1) := by decide +kernel
theorem dX7_areSame_197 : decode cX7_areSame 197 = .ok (.iload_n 3, 1) := by decide +kernel
theorem dX7_areSame_198 : decode cX7_areSame 198 = .ok (.iadd, 1) := by decide +kernel
theorem dX7_areSame_199 : decode cX7_areSame 199 = .ok (.iaload, 1) := by decide +kernel
theorem dX7_areSame_200 : decode cX7_areSame 200 = .ok (.if_icmp .ne 7, 3) := by decide +kernel
theorem dX7_areSame_203 : decode cX7_areSame 203 = .ok (.iconst 1, 1) := by decide +kernel
theorem dX7_areSame_204 : decode cX7_areSame 204 = .ok (.goto 4, 3) := by decide +kernel
theorem dX7_areSame_207 : decode cX7_areSame 207 = .ok (.iconst 0, 1) := by decide +kernel
theorem dX7_areSame_208 : decode cX7_areSame 208 = .ok (.istore_n 1, 1) := by decide +kernel
theorem dX7_areSame_209 : decode cX7_areSame 209 = .ok (.iinc 3 1, 3) := by decide +kernel
theorem dX7_areSame_212 : decode cX7_areSame 212 = .ok (.goto (-48), 3) := by decide +kernel
theorem dX7_areSame_215 : decode cX7_areSame 215 = .ok (.iinc 2 1, 3) := by decide +kernel
theorem dX7_areSame_218 : decode cX7_areSame 218 = .ok (.goto (-114), 3) := by decide +kernel
theorem dX7_areSame_221 : decode cX7_areSame 221 = .ok (.iload_n 1, 1) := by decide +kernel
theorem dX7_areSame_222 : decode cX7_areSame 222 = .ok (.ireturn, 1) := by decide +kernel
theorem dX7_layPresent_0 : decode cX7_layPresent 0 = .ok (.iconst 0, 1) := by decide +kernel
theorem dX7_layPresent_1 : decode cX7_layPresent 1 = .ok (.istore_n 1, 1) := by decide +kernel
theorem dX7_layPresent_2 : decode cX7_layPresent 2 = .ok (.iload_n 1, 1) := by decide +kernel
theorem dX7_layPresent_3 : decode cX7_layPresent 3 = .ok (.sipush 128, 3) := by decide +kernel
theorem dX7_layPresent_6 : decode cX7_layPresent 6 = .ok (.if_icmp .ge 38, 3) := by decide +kernel
theorem dX7_layPresent_9 : decode cX7_layPresent 9 = .ok (.aload_n 0, 1) := by decide +kernel
theorem dX7_layPresent_10 : decode cX7_layPresent 10 = .ok (.getfield 69, 3) := by decide +kernel
theorem dX7_layPresent_13 : decode cX7_layPresent 13 = .ok (.iload_n 1, 1) := by decide +kernel
theorem dX7_layPresent_14 : decode cX7_layPresent 14 = .ok (.aload_n 0, 1) := by decide +kernel
theorem dX7_layPresent_15 : decode cX7_layPresent 15 = .ok (.iload_n 1, 1) := by decide +kernel
theorem dX7_layPresent_16 : decode cX7_layPresent 16 = .ok (.invokevirtual 155, 3) := by decide +kernel
theorem dX7_layPresent_19 : decode cX7_layPresent 19 = .ok (.ifCond .eq 17, 3) := by decide +kernel
theorem dX7_layPresent_22 : decode cX7_layPresent 22 = .ok (.aload_n 0, 1) := by decide +kernel
theorem dX7_layPresent_23 : decode cX7_layPresent 23 = .ok (.getfield 7, 3) := by decide +kernel
theorem dX7_layPresent_26 : decode cX7_layPresent 26 = .ok (.iload_n 1, 1) := by decide +kernel
theorem dX7_layPresent_27 : decode cX7_layPresent 27 = .ok (.iaload, 1) := by decide +kernel
theorem dX7_layPresent_28 : decode cX7_layPresent 28 = .ok (.iconst 3, 1) := by decide +kernel
theorem dX7_layPresent_29 : decode cX7_layPresent 29 = .ok (.if_icmp .eq 7, 3) := by decide +kernel
theorem dX7_layPresent_32 : decode cX7_layPresent 32 = .ok (.iconst 1, 1) := by decide +kernel
theorem dX7_layPresent_33 : decode cX7_layPresent 33 = .ok (.goto 4, 3) := by decide +kernel
theorem dX7_layPresent_36 : decode cX7_layPresent 36 = .ok (.iconst 0, 1) := by decide +kernel
theorem dX7_layPresent_37 : decode cX7_layPresent 37 = .ok (.bastore, 1) := by decide +kernel
theorem dX7_layPresent_38 : decode cX7_layPresent 38 = .ok (.iinc 1 1, 3) := by decide +kernel
theorem dX7_layPresent_41 : decode cX7_layPresent 41 = .ok (.goto (-39), 3) := by decide +kernel
theorem dX7_layPresent_44 : decode cX7_layPresent 44 = .ok (.return_, 1) := by decide +kernel
theorem dX7_layNow_0 : decode cX7_layNow 0 = .ok (.aload_n 0, 1) := by decide +kernel
theorem dX7_layNow_1 : decode cX7_layNow 1 = .ok (.getfield 158, 3) := by decide +kernel
theorem dX7_layNow_4 : decode cX7_layNow 4 = .ok (.ifCond .ne 17, 3) := by decide +kernel
theorem dX7_layNow_7 : decode cX7_layNow 7 = .ok (.aload_n 0, 1) := by decide +kernel
theorem dX7_layNow_8 : decode cX7_layNow 8 = .ok (.invokevirtual 162, 3) := by decide +kernel
theorem dX7_layNow_11 : decode cX7_layNow 11 = .ok (.aload_n 0, 1) := by decide +kernel
theorem dX7_layNow_12 : decode cX7_layNow 12 = .ok (.iconst 0, 1) := by decide +kernel
theorem dX7_layNow_13 : decode cX7_layNow 13 = .ok (.invokevirtual 165, 3) := by decide +kernel
theorem dX7_layNow_16 : decode cX7_layNow 16 = .ok (.aload_n 0, 1) := by decide +kernel
theorem dX7_layNow_17 : decode cX7_layNow 17 = .ok (.iconst 1, 1) := by decide +kernel
theorem dX7_layNow_18 : decode cX7_layNow 18 = .ok (.putfield 158, 3) := by decide +kernel
theorem dX7_layNow_21 : decode cX7_layNow 21 = .ok (.return_, 1) := by decide +kernel
theorem dX7_entry_0 : decode cX7_entry 0 = .ok (.aload_n 0, 1) := by decide +kernel
theorem dX7_entry_1 : decode cX7_entry 1 = .ok (.invokevirtual 168, 3) := by decide +kernel
theorem dX7_entry_4 : decode cX7_entry 4 = .ok (.iconst 0, 1) := by decide +kernel
theorem dX7_entry_5 : decode cX7_entry 5 = .ok (.istore_n 3, 1) := by decide +kernel
theorem dX7_entry_6 : decode cX7_entry 6 = .ok (.iload_n 3, 1) := by decide +kernel
theorem dX7_entry_7 : decode cX7_entry 7 = .ok (.aload_n 0, 1) := by decide +kernel
theorem dX7_entry_8 : decode cX7_entry 8 = .ok (.getfield 81, 3) := by decide +kernel
theorem dX7_entry_11 : decode cX7_entry 11 = .ok (.iconst 0, 1) := by decide +kernel
theorem dX7_entry_12 : decode cX7_entry 12 = .ok (.iaload, 1) := by decide +kernel
theorem dX7_entry_13 : decode cX7_entry 13 = .ok (.if_icmp .ge 31, 3) := by decide +kernel
theorem dX7_entry_16 : decode cX7_entry 16 = .ok (.aload_n 0, 1) := by decide +kernel
theorem dX7_entry_17 : decode cX7_entry 17 = .ok (.getfield 75, 3) := by decide +kernel
theorem dX7_entry_20 : decode cX7_entry 20 = .ok (.iload_n 3, 1) := by decide +kernel
theorem dX7_entry_21 : decode cX7_entry 21 = .ok (.iaload, 1) := by decide +kernel
theorem dX7_entry_22 : decode cX7_entry 22 = .ok (.bipush 100, 2) := by decide +kernel
theorem dX7_entry_24 : decode cX7_entry 24 = .ok (.iload_n 1, 1) := by decide +kernel
theorem dX7_entry_25 : decode cX7_entry 25 = .ok (.imul, 1) := by decide +kernel
theorem dX7_entry_26 : decode cX7_entry 26 = .ok (.iload_n 2, 1) := by decide +kernel
theorem dX7_entry_27 : decode cX7_entry 27 = .ok (.iadd, 1) := by decide +kernel
theorem dX7_entry_28 : decode cX7_entry 28 = .ok (.if_icmp .ne 10, 3) := by decide +kernel
theorem dX7_entry_31 : decode cX7_entry 31 = .ok (.aload_n 0, 1) := by decide +kernel
theorem dX7_entry_32 : decode cX7_entry 32 = .ok (.getfield 78, 3) := by decide +kernel
theorem dX7_entry_35 : decode cX7_entry 35 = .ok (.iload_n 3, 1) := by decide +kernel
theorem dX7_entry_36 : decode cX7_entry 36 = .ok (.iaload, 1) := by decide +kernel
theorem dX7_entry_37 : decode cX7_entry 37 = .ok (.ireturn, 1) := by decide +kernel
theorem dX7_entry_38 : decode cX7_entry 38 = .ok (.iinc 3 1, 3) := by decide +kernel
theorem dX7_entry_41 : decode cX7_entry 41 = .ok (.goto (-35), 3) := by decide +kernel
theorem dX7_entry_44 : decode cX7_entry 44 = .ok (.iconst (-1), 1) := by decide +kernel
theorem dX7_entry_45 : decode cX7_entry 45 = .ok (.ireturn, 1) := by decide +kernel
theorem dX7_targetOf_0 : decode cX7_targetOf 0 = .ok (.aload_n 0, 1) := by decide +kernel
theorem dX7_targetOf_1 : decode cX7_targetOf 1 = .ok (.iload_n 1, 1) := by decide +kernel
theorem dX7_targetOf_2 : decode cX7_targetOf 2 = .ok (.iload_n 2, 1) := by decide +kernel
theorem dX7_targetOf_3 : decode cX7_targetOf 3 = .ok (.invokevirtual 171, 3) := by decide +kernel
theorem dX7_targetOf_6 : decode cX7_targetOf 6 = .ok (.istore_n 3, 1) := by decide +kernel
theorem dX7_targetOf_7 : decode cX7_targetOf 7 = .ok (.iload_n 3, 1) := by decide +kernel
theorem dX7_targetOf_8 : decode cX7_targetOf 8 = .ok (.iconst (-1), 1) := by decide +kernel
theorem dX7_targetOf_9 : decode cX7_targetOf 9 = .ok (.if_icmp .ne 7, 3) := by decide +kernel
theorem dX7_targetOf_12 : decode cX7_targetOf 12 = .ok (.iconst (-1), 1) := by decide +kernel
theorem dX7_targetOf_13 : decode cX7_targetOf 13 = .ok (.goto 6, 3) := by decide +kernel
theorem dX7_targetOf_16 : decode cX7_targetOf 16 = .ok (.iload_n 3, 1) := by decide +kernel
theorem dX7_targetOf_17 : decode cX7_targetOf 17 = .ok (.iconst 2, 1) := by decide +kernel
theorem dX7_targetOf_18 : decode cX7_targetOf 18 = .ok (.idiv, 1) := by decide +kernel
theorem dX7_targetOf_19 : decode cX7_targetOf 19 = .ok (.ireturn, 1) := by decide +kernel
theorem dX7_hasDirectory_0 : decode cX7_hasDirectory 0 = .ok (.aload_n 0, 1) := by decide +kernel
theorem dX7_hasDirectory_1 : decode cX7_hasDirectory 1 = .ok (.invokevirtual 168, 3) := by decide +kernel
theorem dX7_hasDirectory_4 : decode cX7_hasDirectory 4 = .ok (.iload_n 1, 1) := by decide +kernel
theorem dX7_hasDirectory_5 : decode cX7_hasDirectory 5 = .ok (.iconst 1, 1) := by decide +kernel
theorem dX7_hasDirectory_6 : decode cX7_hasDirectory 6 = .ok (.if_icmp .ne 7, 3) := by decide +kernel
theorem dX7_hasDirectory_9 : decode cX7_hasDirectory 9 = .ok (.iconst 1, 1) := by decide +kernel
theorem dX7_hasDirectory_10 : decode cX7_hasDirectory 10 = .ok (.goto 4, 3) := by decide +kernel
theorem dX7_hasDirectory_13 : decode cX7_hasDirectory 13 = .ok (.iconst 0, 1) := by decide +kernel
theorem dX7_hasDirectory_14 : decode cX7_hasDirectory 14 = .ok (.istore_n 2, 1) := by decide +kernel
theorem dX7_hasDirectory_15 : decode cX7_hasDirectory 15 = .ok (.iconst 0, 1) := by decide +kernel
theorem dX7_hasDirectory_16 : decode cX7_hasDirectory 16 = .ok (.istore_n 3, 1) := by decide +kernel
theorem dX7_hasDirectory_17 : decode cX7_hasDirectory 17 = .ok (.iload_n 3, 1) := by decide +kernel
theorem dX7_hasDirectory_18 : decode cX7_hasDirectory 18 = .ok (.aload_n 0, 1) := by decide +kernel
theorem dX7_hasDirectory_19 : decode cX7_hasDirectory 19 = .ok (.getfield 81, 3) := by decide +kernel
theorem dX7_hasDirectory_22 : decode cX7_hasDirectory 22 = .ok (.iconst 0, 1) := by decide +kernel
theorem dX7_hasDirectory_23 : decode cX7_hasDirectory 23 = .ok (.iaload, 1) := by decide +kernel
theorem dX7_hasDirectory_24 : decode cX7_hasDirectory 24 = .ok (.if_icmp .ge 33, 3) := by decide +kernel
theorem dX7_hasDirectory_27 : decode cX7_hasDirectory 27 = .ok (.iload_n 2, 1) := by decide +kernel
theorem dX7_hasDirectory_28 : decode cX7_hasDirectory 28 = .ok (.ifCond .ne 17, 3) := by decide +kernel
theorem dX7_hasDirectory_31 : decode cX7_hasDirectory 31 = .ok (.aload_n 0, 1) := by decide +kernel
theorem dX7_hasDirectory_32 : decode cX7_hasDirectory 32 = .ok (.getfield 78, 3) := by decide +kernel
theorem dX7_hasDirectory_35 : decode cX7_hasDirectory 35 = .ok (.iload_n 3, 1) := by decide +kernel
theorem dX7_hasDirectory_36 : decode cX7_hasDirectory 36 = .ok (.iaload, 1) := by decide +kernel
theorem dX7_hasDirectory_37 : decode cX7_hasDirectory 37 = .ok (.iconst 2, 1) := by decide +kernel
theorem dX7_hasDirectory_38 : decode cX7_hasDirectory 38 = .ok (.iload_n 1, 1) := by decide +kernel
theorem dX7_hasDirectory_39 : decode cX7_hasDirectory 39 = .ok (.imul, 1) := by decide +kernel
theorem dX7_hasDirectory_40 : decode cX7_hasDirectory 40 = .ok (.iconst 1, 1) := by decide +kernel
theorem dX7_hasDirectory_41 : decode cX7_hasDirectory 41 = .ok (.iadd, 1) := by decide +kernel
theorem dX7_hasDirectory_42 : decode cX7_hasDirectory 42 = .ok (.if_icmp .ne 7, 3) := by decide +kernel
theorem dX7_hasDirectory_45 : decode cX7_hasDirectory 45 = .ok (.iconst 1, 1) := by decide +kernel
theorem dX7_hasDirectory_46 : decode cX7_hasDirectory 46 = .ok (.goto 4, 3) := by decide +kernel
theorem dX7_hasDirectory_49 : decode cX7_hasDirectory 49 = .ok (.iconst 0, 1) := by decide +kernel
theorem dX7_hasDirectory_50 : decode cX7_hasDirectory 50 = .ok (.istore_n 2, 1) := by decide +kernel
theorem dX7_hasDirectory_51 : decode cX7_hasDirectory 51 = .ok (.iinc 3 1, 3) := by decide +kernel
theorem dX7_hasDirectory_54 : decode cX7_hasDirectory 54 = .ok (.goto (-37), 3) := by decide +kernel
theorem dX7_hasDirectory_57 : decode cX7_hasDirectory 57 = .ok (.iload_n 2, 1) := by decide +kernel
theorem dX7_hasDirectory_58 : decode cX7_hasDirectory 58 = .ok (.ifCond .eq 11, 3) := by decide +kernel
theorem dX7_hasDirectory_61 : decode cX7_hasDirectory 61 = .ok (.iload_n 1, 1) := by decide +kernel
theorem dX7_hasDirectory_62 : decode cX7_hasDirectory 62 = .ok (.ifCond .le 7, 3) := by decide +kernel
theorem dX7_hasDirectory_65 : decode cX7_hasDirectory 65 = .ok (.iconst 1, 1) := by decide +kernel
theorem dX7_hasDirectory_66 : decode cX7_hasDirectory 66 = .ok (.goto 4, 3) := by decide +kernel
theorem dX7_hasDirectory_69 : decode cX7_hasDirectory 69 = .ok (.iconst 0, 1) := by decide +kernel
theorem dX7_hasDirectory_70 : decode cX7_hasDirectory 70 = .ok (.ireturn, 1) := by decide +kernel
theorem dX7_fileAt_0 : decode cX7_fileAt 0 = .ok (.aload_n 0, 1) := by decide +kernel
theorem dX7_fileAt_1 : decode cX7_fileAt 1 = .ok (.invokevirtual 168, 3) := by decide +kernel
theorem dX7_fileAt_4 : decode cX7_fileAt 4 = .ok (.iconst 0, 1) := by decide +kernel
theorem dX7_fileAt_5 : decode cX7_fileAt 5 = .ok (.istore_n 2, 1) := by decide +kernel
theorem dX7_fileAt_6 : decode cX7_fileAt 6 = .ok (.iload_n 2, 1) := by decide +kernel
theorem dX7_fileAt_7 : decode cX7_fileAt 7 = .ok (.aload_n 0, 1) := by decide +kernel
theorem dX7_fileAt_8 : decode cX7_fileAt 8 = .ok (.getfield 90, 3) := by decide +kernel
theorem dX7_fileAt_11 : decode cX7_fileAt 11 = .ok (.iconst 0, 1) := by decide +kernel
theorem dX7_fileAt_12 : decode cX7_fileAt 12 = .ok (.iaload, 1) := by decide +kernel
theorem dX7_fileAt_13 : decode cX7_fileAt 13 = .ok (.if_icmp .ge 21, 3) := by decide +kernel
theorem dX7_fileAt_16 : decode cX7_fileAt 16 = .ok (.aload_n 0, 1) := by decide +kernel
theorem dX7_fileAt_17 : decode cX7_fileAt 17 = .ok (.getfield 84, 3) := by decide +kernel
theorem dX7_fileAt_20 : decode cX7_fileAt 20 = .ok (.iload_n 2, 1) := by decide +kernel
theorem dX7_fileAt_21 : decode cX7_fileAt 21 = .ok (.iaload, 1) := by decide +kernel
theorem dX7_fileAt_22 : decode cX7_fileAt 22 = .ok (.iload_n 1, 1) := by decide +kernel
theorem dX7_fileAt_23 : decode cX7_fileAt 23 = .ok (.if_icmp .ne 5, 3) := by decide +kernel
theorem dX7_fileAt_26 : decode cX7_fileAt 26 = .ok (.iload_n 2, 1) := by decide +kernel
theorem dX7_fileAt_27 : decode cX7_fileAt 27 = .ok (.ireturn, 1) := by decide +kernel
theorem dX7_fileAt_28 : decode cX7_fileAt 28 = .ok (.iinc 2 1, 3) := by decide +kernel
theorem dX7_fileAt_31 : decode cX7_fileAt 31 = .ok (.goto (-25), 3) := by decide +kernel
theorem dX7_fileAt_34 : decode cX7_fileAt 34 = .ok (.iconst (-1), 1) := by decide +kernel
theorem dX7_fileAt_35 : decode cX7_fileAt 35 = .ok (.ireturn, 1) := by decide +kernel
theorem dX7_namesIn_0 : decode cX7_namesIn 0 = .ok (.aload_n 0, 1) := by decide +kernel
theorem dX7_namesIn_1 : decode cX7_namesIn 1 = .ok (.invokevirtual 168, 3) := by decide +kernel
theorem dX7_namesIn_4 : decode cX7_namesIn 4 = .ok (.iconst 0, 1) := by decide +kernel
theorem dX7_namesIn_5 : decode cX7_namesIn 5 = .ok (.istore_n 2, 1) := by decide +kernel
theorem dX7_namesIn_6 : decode cX7_namesIn 6 = .ok (.iconst 0, 1) := by decide +kernel
theorem dX7_namesIn_7 : decode cX7_namesIn 7 = .ok (.istore_n 3, 1) := by decide +kernel
theorem dX7_namesIn_8 : decode cX7_namesIn 8 = .ok (.iload_n 3, 1) := by decide +kernel
theorem dX7_namesIn_9 : decode cX7_namesIn 9 = .ok (.aload_n 0, 1) := by decide +kernel
theorem dX7_namesIn_10 : decode cX7_namesIn 10 = .ok (.getfield 81, 3) := by decide +kernel
theorem dX7_namesIn_13 : decode cX7_namesIn 13 = .ok (.iconst 0, 1) := by decide +kernel
theorem dX7_namesIn_14 : decode cX7_namesIn 14 = .ok (.iaload, 1) := by decide +kernel
theorem dX7_namesIn_15 : decode cX7_namesIn 15 = .ok (.if_icmp .ge 30, 3) := by decide +kernel
theorem dX7_namesIn_18 : decode cX7_namesIn 18 = .ok (.iload_n 2, 1) := by decide +kernel
theorem dX7_namesIn_19 : decode cX7_namesIn 19 = .ok (.aload_n 0, 1) := by decide +kernel
theorem dX7_namesIn_20 : decode cX7_namesIn 20 = .ok (.getfield 75, 3) := by decide +kernel
theorem dX7_namesIn_23 : decode cX7_namesIn 23 = .ok (.iload_n 3, 1) := by decide +kernel
theorem dX7_namesIn_24 : decode cX7_namesIn 24 = .ok (.iaload, 1) := by decide +kernel
theorem dX7_namesIn_25 : decode cX7_namesIn 25 = .ok (.bipush 100, 2) := by decide +kernel
theorem dX7_namesIn_27 : decode cX7_namesIn 27 = .ok (.idiv, 1) := by decide +kernel
theorem dX7_namesIn_28 : decode cX7_namesIn 28 = .ok (.iload_n 1, 1) := by decide +kernel
theorem dX7_namesIn_29 : decode cX7_namesIn 29 = .ok (.if_icmp .ne 7, 3) := by decide +kernel
theorem dX7_namesIn_32 : decode cX7_namesIn 32 = .ok (.iconst 1, 1) := by decide +kernel
theorem dX7_namesIn_33 : decode cX7_namesIn 33 = .ok (.goto 4, 3) := by decide +kernel
theorem dX7_namesIn_36 : decode cX7_namesIn 36 = .ok (.iconst 0, 1) := by decide +kernel
theorem dX7_namesIn_37 : decode cX7_namesIn 37 = .ok (.iadd, 1) := by decide +kernel
theorem dX7_namesIn_38 : decode cX7_namesIn 38 = .ok (.istore_n 2, 1) := by decide +kernel
theorem dX7_namesIn_39 : decode cX7_namesIn 39 = .ok (.iinc 3 1, 3) := by decide +kernel
theorem dX7_namesIn_42 : decode cX7_namesIn 42 = .ok (.goto (-34), 3) := by decide +kernel
theorem dX7_namesIn_45 : decode cX7_namesIn 45 = .ok (.iload_n 2, 1) := by decide +kernel
theorem dX7_namesIn_46 : decode cX7_namesIn 46 = .ok (.ireturn, 1) := by decide +kernel
theorem dX7_linksOf_0 : decode cX7_linksOf 0 = .ok (.aload_n 0, 1) := by decide +kernel
theorem dX7_linksOf_1 : decode cX7_linksOf 1 = .ok (.invokevirtual 168, 3) := by decide +kernel
theorem dX7_linksOf_4 : decode cX7_linksOf 4 = .ok (.iconst 0, 1) := by decide +kernel
theorem dX7_linksOf_5 : decode cX7_linksOf 5 = .ok (.istore_n 2, 1) := by decide +kernel
theorem dX7_linksOf_6 : decode cX7_linksOf 6 = .ok (.iconst 0, 1) := by decide +kernel
theorem dX7_linksOf_7 : decode cX7_linksOf 7 = .ok (.istore_n 3, 1) := by decide +kernel
theorem dX7_linksOf_8 : decode cX7_linksOf 8 = .ok (.iload_n 3, 1) := by decide +kernel
theorem dX7_linksOf_9 : decode cX7_linksOf 9 = .ok (.aload_n 0, 1) := by decide +kernel
theorem dX7_linksOf_10 : decode cX7_linksOf 10 = .ok (.getfield 81, 3) := by decide +kernel
theorem dX7_linksOf_13 : decode cX7_linksOf 13 = .ok (.iconst 0, 1) := by decide +kernel
theorem dX7_linksOf_14 : decode cX7_linksOf 14 = .ok (.iaload, 1) := by decide +kernel
theorem dX7_linksOf_15 : decode cX7_linksOf 15 = .ok (.if_icmp .ge 29, 3) := by decide +kernel
theorem dX7_linksOf_18 : decode cX7_linksOf 18 = .ok (.iload_n 2, 1) := by decide +kernel
theorem dX7_linksOf_19 : decode cX7_linksOf 19 = .ok (.aload_n 0, 1) := by decide +kernel
theorem dX7_linksOf_20 : decode cX7_linksOf 20 = .ok (.getfield 78, 3) := by decide +kernel
theorem dX7_linksOf_23 : decode cX7_linksOf 23 = .ok (.iload_n 3, 1) := by decide +kernel
theorem dX7_linksOf_24 : decode cX7_linksOf 24 = .ok (.iaload, 1) := by decide +kernel
theorem dX7_linksOf_25 : decode cX7_linksOf 25 = .ok (.iconst 2, 1) := by decide +kernel
theorem dX7_linksOf_26 : decode cX7_linksOf 26 = .ok (.idiv, 1) := by decide +kernel
theorem dX7_linksOf_27 : decode cX7_linksOf 27 = .ok (.iload_n 1, 1) := by decide +kernel
theorem dX7_linksOf_28 : decode cX7_linksOf 28 = .ok (.if_icmp .ne 7, 3) := by decide +kernel
theorem dX7_linksOf_31 : decode cX7_linksOf 31 = .ok (.iconst 1, 1) := by decide +kernel
theorem dX7_linksOf_32 : decode cX7_linksOf 32 = .ok (.goto 4, 3) := by decide +kernel
theorem dX7_linksOf_35 : decode cX7_linksOf 35 = .ok (.iconst 0, 1) := by decide +kernel
theorem dX7_linksOf_36 : decode cX7_linksOf 36 = .ok (.iadd, 1) := by decide +kernel
theorem dX7_linksOf_37 : decode cX7_linksOf 37 = .ok (.istore_n 2, 1) := by decide +kernel
theorem dX7_linksOf_38 : decode cX7_linksOf 38 = .ok (.iinc 3 1, 3) := by decide +kernel
theorem dX7_linksOf_41 : decode cX7_linksOf 41 = .ok (.goto (-33), 3) := by decide +kernel
theorem dX7_linksOf_44 : decode cX7_linksOf 44 = .ok (.iload_n 2, 1) := by decide +kernel
theorem dX7_linksOf_45 : decode cX7_linksOf 45 = .ok (.ireturn, 1) := by decide +kernel
theorem dX7_spends_0 : decode cX7_spends 0 = .ok (.aload_n 0, 1) := by decide +kernel
theorem dX7_spends_1 : decode cX7_spends 1 = .ok (.getfield 121, 3) := by decide +kernel
theorem dX7_spends_4 : decode cX7_spends 4 = .ok (.ifCond .ne 15, 3) := by decide +kernel
theorem dX7_spends_7 : decode cX7_spends 7 = .ok (.aload_n 0, 1) := by decide +kernel
theorem dX7_spends_8 : decode cX7_spends 8 = .ok (.iconst 1, 1) := by decide +kernel
theorem dX7_spends_9 : decode cX7_spends 9 = .ok (.putfield 174, 3) := by decide +kernel
theorem dX7_spends_12 : decode cX7_spends 12 = .ok (.aload_n 0, 1) := by decide +kernel
theorem dX7_spends_13 : decode cX7_spends 13 = .ok (.iconst (-1), 1) := by decide +kernel
theorem dX7_spends_14 : decode cX7_spends 14 = .ok (.putfield 121, 3) := by decide +kernel
theorem dX7_spends_17 : decode cX7_spends 17 = .ok (.iconst 0, 1) := by decide +kernel
theorem dX7_spends_18 : decode cX7_spends 18 = .ok (.ireturn, 1) := by decide +kernel
theorem dX7_spends_19 : decode cX7_spends 19 = .ok (.aload_n 0, 1) := by decide +kernel
theorem dX7_spends_20 : decode cX7_spends 20 = .ok (.dup, 1) := by decide +kernel
theorem dX7_spends_21 : decode cX7_spends 21 = .ok (.getfield 121, 3) := by decide +kernel
theorem dX7_spends_24 : decode cX7_spends 24 = .ok (.aload_n 0, 1) := by decide +kernel
theorem dX7_spends_25 : decode cX7_spends 25 = .ok (.getfield 121, 3) := by decide +kernel
theorem dX7_spends_28 : decode cX7_spends 28 = .ok (.ifCond .le 7, 3) := by decide +kernel
theorem dX7_spends_31 : decode cX7_spends 31 = .ok (.iconst 1, 1) := by decide +kernel
theorem dX7_spends_32 : decode cX7_spends 32 = .ok (.goto 4, 3) := by decide +kernel
theorem dX7_spends_35 : decode cX7_spends 35 = .ok (.iconst 0, 1) := by decide +kernel
theorem dX7_spends_36 : decode cX7_spends 36 = .ok (.isub, 1) := by decide +kernel
theorem dX7_spends_37 : decode cX7_spends 37 = .ok (.putfield 121, 3) := by decide +kernel
theorem dX7_spends_40 : decode cX7_spends 40 = .ok (.iconst 1, 1) := by decide +kernel
theorem dX7_spends_41 : decode cX7_spends 41 = .ok (.ireturn, 1) := by decide +kernel
theorem dX7_writeOut_0 : decode cX7_writeOut 0 = .ok (.iload_n 1, 1) := by decide +kernel
theorem dX7_writeOut_1 : decode cX7_writeOut 1 = .ok (.bipush 16, 2) := by decide +kernel
theorem dX7_writeOut_3 : decode cX7_writeOut 3 = .ok (.idiv, 1) := by decide +kernel
theorem dX7_writeOut_4 : decode cX7_writeOut 4 = .ok (.istore_n 2, 1) := by decide +kernel
theorem dX7_writeOut_5 : decode cX7_writeOut 5 = .ok (.aload_n 0, 1) := by decide +kernel
theorem dX7_writeOut_6 : decode cX7_writeOut 6 = .ok (.getfield 45, 3) := by decide +kernel
theorem dX7_writeOut_9 : decode cX7_writeOut 9 = .ok (.iload_n 1, 1) := by decide +kernel
theorem dX7_writeOut_10 : decode cX7_writeOut 10 = .ok (.iconst 0, 1) := by decide +kernel
theorem dX7_writeOut_11 : decode cX7_writeOut 11 = .ok (.iastore, 1) := by decide +kernel
theorem dX7_writeOut_12 : decode cX7_writeOut 12 = .ok (.iconst 0, 1) := by decide +kernel
theorem dX7_writeOut_13 : decode cX7_writeOut 13 = .ok (.istore_n 3, 1) := by decide +kernel
theorem dX7_writeOut_14 : decode cX7_writeOut 14 = .ok (.iload_n 3, 1) := by decide +kernel
theorem dX7_writeOut_15 : decode cX7_writeOut 15 = .ok (.aload_n 0, 1) := by decide +kernel
theorem dX7_writeOut_16 : decode cX7_writeOut 16 = .ok (.getfield 42, 3) := by decide +kernel
theorem dX7_writeOut_19 : decode cX7_writeOut 19 = .ok (.iload_n 1, 1) := by decide +kernel
theorem dX7_writeOut_20 : decode cX7_writeOut 20 = .ok (.iaload, 1) := by decide +kernel
theorem dX7_writeOut_21 : decode cX7_writeOut 21 = .ok (.if_icmp .ge 52, 3) := by decide +kernel
theorem dX7_writeOut_24 : decode cX7_writeOut 24 = .ok (.aload_n 0, 1) := by decide +kernel
theorem dX7_writeOut_25 : decode cX7_writeOut 25 = .ok (.invokevirtual 177, 3) := by decide +kernel
theorem dX7_writeOut_28 : decode cX7_writeOut 28 = .ok (.ifCond .ne 5, 3) := by decide +kernel
theorem dX7_writeOut_31 : decode cX7_writeOut 31 = .ok (.iconst 0, 1) := by decide +kernel
theorem dX7_writeOut_32 : decode cX7_writeOut 32 = .ok (.ireturn, 1) := by decide +kernel
theorem dX7_writeOut_33 : decode cX7_writeOut 33 = .ok (.iload_n 3, 1) := by decide +kernel
theorem dX7_writeOut_34 : decode cX7_writeOut 34 = .ok (.ifCond .ne 13, 3) := by decide +kernel
theorem dX7_writeOut_37 : decode cX7_writeOut 37 = .ok (.aload_n 0, 1) := by decide +kernel
theorem dX7_writeOut_38 : decode cX7_writeOut 38 = .ok (.getfield 48, 3) := by decide +kernel
theorem dX7_writeOut_41 : decode cX7_writeOut 41 = .ok (.iload_n 2, 1) := by decide +kernel
theorem dX7_writeOut_42 : decode cX7_writeOut 42 = .ok (.dup2, 1) := by decide +kernel
theorem dX7_writeOut_43 : decode cX7_writeOut 43 = .ok (.iaload, 1) := by decide +kernel
theorem dX7_writeOut_44 : decode cX7_writeOut 44 = .ok (.iconst 1, 1) := by decide +kernel
theorem dX7_writeOut_45 : decode cX7_writeOut 45 = .ok (.iadd, 1) := by decide +kernel
theorem dX7_writeOut_46 : decode cX7_writeOut 46 = .ok (.iastore, 1) := by decide +kernel
theorem dX7_writeOut_47 : decode cX7_writeOut 47 = .ok (.aload_n 0, 1) := by decide +kernel
theorem dX7_writeOut_48 : decode cX7_writeOut 48 = .ok (.getfield 45, 3) := by decide +kernel
theorem dX7_writeOut_51 : decode cX7_writeOut 51 = .ok (.iload_n 1, 1) := by decide +kernel
theorem dX7_writeOut_52 : decode cX7_writeOut 52 = .ok (.dup2, 1) := by decide +kernel
theorem dX7_writeOut_53 : decode cX7_writeOut 53 = .ok (.iaload, 1) := by decide +kernel
theorem dX7_writeOut_54 : decode cX7_writeOut 54 = .ok (.iconst 1, 1) := by decide +kernel
theorem dX7_writeOut_55 : decode cX7_writeOut 55 = .ok (.iadd, 1) := by decide +kernel
theorem dX7_writeOut_56 : decode cX7_writeOut 56 = .ok (.iastore, 1) := by decide +kernel
theorem dX7_writeOut_57 : decode cX7_writeOut 57 = .ok (.aload_n 0, 1) := by decide +kernel
theorem dX7_writeOut_58 : decode cX7_writeOut 58 = .ok (.getfield 51, 3) := by decide +kernel
theorem dX7_writeOut_61 : decode cX7_writeOut 61 = .ok (.iload_n 2, 1) := by decide +kernel
theorem dX7_writeOut_62 : decode cX7_writeOut 62 = .ok (.dup2, 1) := by decide +kernel
theorem dX7_writeOut_63 : decode cX7_writeOut 63 = .ok (.iaload, 1) := by decide +kernel
theorem dX7_writeOut_64 : decode cX7_writeOut 64 = .ok (.iconst 1, 1) := by decide +kernel
theorem dX7_writeOut_65 : decode cX7_writeOut 65 = .ok (.iadd, 1) := by decide +kernel
theorem dX7_writeOut_66 : decode cX7_writeOut 66 = .ok (.iastore, 1) := by decide +kernel
theorem dX7_writeOut_67 : decode cX7_writeOut 67 = .ok (.iinc 3 1, 3) := by decide +kernel
theorem dX7_writeOut_70 : decode cX7_writeOut 70 = .ok (.goto (-56), 3) := by decide +kernel
theorem dX7_writeOut_73 : decode cX7_writeOut 73 = .ok (.iconst 1, 1) := by decide +kernel
theorem dX7_writeOut_74 : decode cX7_writeOut 74 = .ok (.ireturn, 1) := by decide +kernel
theorem dX7_freshNode_0 : decode cX7_freshNode 0 = .ok (.bipush 16, 2) := by decide +kernel
theorem dX7_freshNode_2 : decode cX7_freshNode 2 = .ok (.aload_n 0, 1) := by decide +kernel
theorem dX7_freshNode_3 : decode cX7_freshNode 3 = .ok (.getfield 118, 3) := by decide +kernel
theorem dX7_freshNode_6 : decode cX7_freshNode 6 = .ok (.imul, 1) := by decide +kernel
theorem dX7_freshNode_7 : decode cX7_freshNode 7 = .ok (.aload_n 0, 1) := by decide +kernel
theorem dX7_freshNode_8 : decode cX7_freshNode 8 = .ok (.getfield 48, 3) := by decide +kernel
theorem dX7_freshNode_11 : decode cX7_freshNode 11 = .ok (.aload_n 0, 1) := by decide +kernel
theorem dX7_freshNode_12 : decode cX7_freshNode 12 = .ok (.getfield 118, 3) := by decide +kernel
theorem dX7_freshNode_15 : decode cX7_freshNode 15 = .ok (.iaload, 1) := by decide +kernel
theorem dX7_freshNode_16 : decode cX7_freshNode 16 = .ok (.iadd, 1) := by decide +kernel
theorem dX7_freshNode_17 : decode cX7_freshNode 17 = .ok (.ireturn, 1) := by decide +kernel
theorem dX7_fits_0 : decode cX7_fits 0 = .ok (.iload_n 0, 1) := by decide +kernel
theorem dX7_fits_1 : decode cX7_fits 1 = .ok (.iload_n 2, 1) := by decide +kernel
theorem dX7_fits_2 : decode cX7_fits 2 = .ok (.iadd, 1) := by decide +kernel
theorem dX7_fits_3 : decode cX7_fits 3 = .ok (.iload_n 1, 1) := by decide +kernel
theorem dX7_fits_4 : decode cX7_fits 4 = .ok (.iadd, 1) := by decide +kernel
theorem dX7_fits_5 : decode cX7_fits 5 = .ok (.iconst 2, 1) := by decide +kernel
theorem dX7_fits_6 : decode cX7_fits 6 = .ok (.iadd, 1) := by decide +kernel
theorem dX7_fits_7 : decode cX7_fits 7 = .ok (.bipush 40, 2) := by decide +kernel
theorem dX7_fits_9 : decode cX7_fits 9 = .ok (.if_icmp .gt 7, 3) := by decide +kernel
theorem dX7_fits_12 : decode cX7_fits 12 = .ok (.iconst 1, 1) := by decide +kernel
theorem dX7_fits_13 : decode cX7_fits 13 = .ok (.goto 4, 3) := by decide +kernel
theorem dX7_fits_16 : decode cX7_fits 16 = .ok (.iconst 0, 1) := by decide +kernel
theorem dX7_fits_17 : decode cX7_fits 17 = .ok (.ireturn, 1) := by decide +kernel
theorem dX7_makesRoom_0 : decode cX7_makesRoom 0 = .ok (.aload_n 0, 1) := by decide +kernel
theorem dX7_makesRoom_1 : decode cX7_makesRoom 1 = .ok (.getfield 118, 3) := by decide +kernel
theorem dX7_makesRoom_4 : decode cX7_makesRoom 4 = .ok (.iconst (-1), 1) := by decide +kernel
theorem dX7_makesRoom_5 : decode cX7_makesRoom 5 = .ok (.if_icmp .eq 30, 3) := by decide +kernel
theorem dX7_makesRoom_8 : decode cX7_makesRoom 8 = .ok (.aload_n 0, 1) := by decide +kernel
theorem dX7_makesRoom_9 : decode cX7_makesRoom 9 = .ok (.getfield 51, 3) := by decide +kernel
theorem dX7_makesRoom_12 : decode cX7_makesRoom 12 = .ok (.aload_n 0, 1) := by decide +kernel
theorem dX7_makesRoom_13 : decode cX7_makesRoom 13 = .ok (.getfield 118, 3) := by decide +kernel
theorem dX7_makesRoom_16 : decode cX7_makesRoom 16 = .ok (.iaload, 1) := by decide +kernel
theorem dX7_makesRoom_17 : decode cX7_makesRoom 17 = .ok (.aload_n 0, 1) := by decide +kernel
theorem dX7_makesRoom_18 : decode cX7_makesRoom 18 = .ok (.getfield 48, 3) := by decide +kernel
theorem dX7_makesRoom_21 : decode cX7_makesRoom 21 = .ok (.aload_n 0, 1) := by decide +kernel
theorem dX7_makesRoom_22 : decode cX7_makesRoom 22 = .ok (.getfield 118, 3) := by decide +kernel
theorem dX7_makesRoom_25 : decode cX7_makesRoom 25 = .ok (.iaload, 1) := by decide +kernel
theorem dX7_makesRoom_26 : decode cX7_makesRoom 26 = .ok (.iload_n 1, 1) := by decide +kernel
theorem dX7_makesRoom_27 : decode cX7_makesRoom 27 = .ok (.invokestatic 181, 3) := by decide +kernel
theorem dX7_makesRoom_30 : decode cX7_makesRoom 30 = .ok (.ifCond .eq 5, 3) := by decide +kernel
theorem dX7_makesRoom_33 : decode cX7_makesRoom 33 = .ok (.iconst 1, 1) := by decide +kernel
theorem dX7_makesRoom_34 : decode cX7_makesRoom 34 = .ok (.ireturn, 1) := by decide +kernel
theorem dX7_makesRoom_35 : decode cX7_makesRoom 35 = .ok (.aload_n 0, 1) := by decide +kernel
theorem dX7_makesRoom_36 : decode cX7_makesRoom 36 = .ok (.getfield 118, 3) := by decide +kernel
theorem dX7_makesRoom_39 : decode cX7_makesRoom 39 = .ok (.iconst (-1), 1) := by decide +kernel
theorem dX7_makesRoom_40 : decode cX7_makesRoom 40 = .ok (.if_icmp .eq 79, 3) := by decide +kernel
theorem dX7_makesRoom_43 : decode cX7_makesRoom 43 = .ok (.aload_n 0, 1) := by decide +kernel
theorem dX7_makesRoom_44 : decode cX7_makesRoom 44 = .ok (.invokevirtual 185, 3) := by decide +kernel
theorem dX7_makesRoom_47 : decode cX7_makesRoom 47 = .ok (.istore_n 2, 1) := by decide +kernel
theorem dX7_makesRoom_48 : decode cX7_makesRoom 48 = .ok (.aload_n 0, 1) := by decide +kernel
theorem dX7_makesRoom_49 : decode cX7_makesRoom 49 = .ok (.getfield 7, 3) := by decide +kernel
theorem dX7_makesRoom_52 : decode cX7_makesRoom 52 = .ok (.iload_n 2, 1) := by decide +kernel
theorem dX7_makesRoom_53 : decode cX7_makesRoom 53 = .ok (.iconst 3, 1) := by decide +kernel
theorem dX7_makesRoom_54 : decode cX7_makesRoom 54 = .ok (.iastore, 1) := by decide +kernel
theorem dX7_makesRoom_55 : decode cX7_makesRoom 55 = .ok (.aload_n 0, 1) := by decide +kernel
theorem dX7_makesRoom_56 : decode cX7_makesRoom 56 = .ok (.getfield 13, 3) := by decide +kernel
theorem dX7_makesRoom_59 : decode cX7_makesRoom 59 = .ok (.iload_n 2, 1) := by decide +kernel
theorem dX7_makesRoom_60 : decode cX7_makesRoom 60 = .ok (.iconst 0, 1) := by decide +kernel
theorem dX7_makesRoom_61 : decode cX7_makesRoom 61 = .ok (.iastore, 1) := by decide +kernel
theorem dX7_makesRoom_62 : decode cX7_makesRoom 62 = .ok (.aload_n 0, 1) := by decide +kernel
theorem dX7_makesRoom_63 : decode cX7_makesRoom 63 = .ok (.getfield 16, 3) := by decide +kernel
theorem dX7_makesRoom_66 : decode cX7_makesRoom 66 = .ok (.iload_n 2, 1) := by decide +kernel
theorem dX7_makesRoom_67 : decode cX7_makesRoom 67 = .ok (.iconst 0, 1) := by decide +kernel
theorem dX7_makesRoom_68 : decode cX7_makesRoom 68 = .ok (.iastore, 1) := by decide +kernel
theorem dX7_makesRoom_69 : decode cX7_makesRoom 69 = .ok (.aload_n 0, 1) := by decide +kernel
theorem dX7_makesRoom_70 : decode cX7_makesRoom 70 = .ok (.getfield 42, 3) := by decide +kernel
theorem dX7_makesRoom_73 : decode cX7_makesRoom 73 = .ok (.iload_n 2, 1) := by decide +kernel
theorem dX7_makesRoom_74 : decode cX7_makesRoom 74 = .ok (.iconst 1, 1) := by decide +kernel
theorem dX7_makesRoom_75 : decode cX7_makesRoom 75 = .ok (.aload_n 0, 1) := by decide +kernel
theorem dX7_makesRoom_76 : decode cX7_makesRoom 76 = .ok (.getfield 48, 3) := by decide +kernel
theorem dX7_makesRoom_79 : decode cX7_makesRoom 79 = .ok (.aload_n 0, 1) := by decide +kernel
theorem dX7_makesRoom_80 : decode cX7_makesRoom 80 = .ok (.getfield 118, 3) := by decide +kernel
theorem dX7_makesRoom_83 : decode cX7_makesRoom 83 = .ok (.iaload, 1) := by decide +kernel
theorem dX7_makesRoom_84 : decode cX7_makesRoom 84 = .ok (.iadd, 1) := by decide +kernel
theorem dX7_makesRoom_85 : decode cX7_makesRoom 85 = .ok (.iastore, 1) := by decide +kernel
theorem dX7_makesRoom_86 : decode cX7_makesRoom 86 = .ok (.aload_n 0, 1) := by decide +kernel
theorem dX7_makesRoom_87 : decode cX7_makesRoom 87 = .ok (.iload_n 2, 1) := by decide +kernel
theorem dX7_makesRoom_88 : decode cX7_makesRoom 88 = .ok (.invokevirtual 189, 3) := by decide +kernel
theorem dX7_makesRoom_91 : decode cX7_makesRoom 91 = .ok (.ifCond .ne 5, 3) := by decide +kernel
theorem dX7_makesRoom_94 : decode cX7_makesRoom 94 = .ok (.iconst 0, 1) := by decide +kernel
theorem dX7_makesRoom_95 : decode cX7_makesRoom 95 = .ok (.ireturn, 1) := by decide +kernel
theorem dX7_makesRoom_96 : decode cX7_makesRoom 96 = .ok (.aload_n 0, 1) := by decide +kernel
theorem dX7_makesRoom_97 : decode cX7_makesRoom 97 = .ok (.getfield 60, 3) := by decide +kernel
theorem dX7_makesRoom_100 : decode cX7_makesRoom 100 = .ok (.aload_n 0, 1) := by decide +kernel
theorem dX7_makesRoom_101 : decode cX7_makesRoom 101 = .ok (.getfield 192, 3) := by decide +kernel
theorem dX7_makesRoom_104 : decode cX7_makesRoom 104 = .ok (.aload_n 0, 1) := by decide +kernel
theorem dX7_makesRoom_105 : decode cX7_makesRoom 105 = .ok (.getfield 118, 3) := by decide +kernel
theorem dX7_makesRoom_108 : decode cX7_makesRoom 108 = .ok (.iastore, 1) := by decide +kernel
theorem dX7_makesRoom_109 : decode cX7_makesRoom 109 = .ok (.aload_n 0, 1) := by decide +kernel
theorem dX7_makesRoom_110 : decode cX7_makesRoom 110 = .ok (.dup, 1) := by decide +kernel
theorem dX7_makesRoom_111 : decode cX7_makesRoom 111 = .ok (.getfield 192, 3) := by decide +kernel
theorem dX7_makesRoom_114 : decode cX7_makesRoom 114 = .ok (.iconst 1, 1) := by decide +kernel
theorem dX7_makesRoom_115 : decode cX7_makesRoom 115 = .ok (.iadd, 1) := by decide +kernel
theorem dX7_makesRoom_116 : decode cX7_makesRoom 116 = .ok (.putfield 192, 3) := by decide +kernel
theorem dX7_makesRoom_119 : decode cX7_makesRoom 119 = .ok (.aload_n 0, 1) := by decide +kernel
theorem dX7_makesRoom_120 : decode cX7_makesRoom 120 = .ok (.aload_n 0, 1) := by decide +kernel
theorem dX7_makesRoom_121 : decode cX7_makesRoom 121 = .ok (.getfield 57, 3) := by decide +kernel
theorem dX7_makesRoom_124 : decode cX7_makesRoom 124 = .ok (.iconst 0, 1) := by decide +kernel
theorem dX7_makesRoom_125 : decode cX7_makesRoom 125 = .ok (.iaload, 1) := by decide +kernel
theorem dX7_makesRoom_126 : decode cX7_makesRoom 126 = .ok (.putfield 118, 3) := by decide +kernel
theorem dX7_makesRoom_129 : decode cX7_makesRoom 129 = .ok (.aload_n 0, 1) := by decide +kernel
theorem dX7_makesRoom_130 : decode cX7_makesRoom 130 = .ok (.dup, 1) := by decide +kernel
theorem dX7_makesRoom_131 : decode cX7_makesRoom 131 = .ok (.getfield 114, 3) := by decide +kernel
theorem dX7_makesRoom_134 : decode cX7_makesRoom 134 = .ok (.iconst 1, 1) := by decide +kernel
theorem dX7_makesRoom_135 : decode cX7_makesRoom 135 = .ok (.isub, 1) := by decide +kernel
theorem dX7_makesRoom_136 : decode cX7_makesRoom 136 = .ok (.putfield 114, 3) := by decide +kernel
theorem dX7_makesRoom_139 : decode cX7_makesRoom 139 = .ok (.iconst 0, 1) := by decide +kernel
theorem dX7_makesRoom_140 : decode cX7_makesRoom 140 = .ok (.istore_n 2, 1) := by decide +kernel
theorem dX7_makesRoom_141 : decode cX7_makesRoom 141 = .ok (.iload_n 2, 1) := by decide +kernel
theorem dX7_makesRoom_142 : decode cX7_makesRoom 142 = .ok (.aload_n 0, 1) := by decide +kernel
theorem dX7_makesRoom_143 : decode cX7_makesRoom 143 = .ok (.getfield 114, 3) := by decide +kernel
theorem dX7_makesRoom_146 : decode cX7_makesRoom 146 = .ok (.if_icmp .ge 23, 3) := by decide +kernel
theorem dX7_makesRoom_149 : decode cX7_makesRoom 149 = .ok (.aload_n 0, 1) := by decide +kernel
theorem dX7_makesRoom_150 : decode cX7_makesRoom 150 = .ok (.getfield 57, 3) := by decide +kernel
theorem dX7_makesRoom_153 : decode cX7_makesRoom 153 = .ok (.iload_n 2, 1) := by decide +kernel
theorem dX7_makesRoom_154 : decode cX7_makesRoom 154 = .ok (.aload_n 0, 1) := by decide +kernel
theorem dX7_makesRoom_155 : decode cX7_makesRoom 155 = .ok (.getfield 57, 3) := by decide +kernel
theorem dX7_makesRoom_158 : decode cX7_makesRoom 158 = .ok (.iload_n 2, 1) := by decide +kernel
theorem dX7_makesRoom_159 : decode cX7_makesRoom 159 = .ok (.iconst 1, 1) := by decide +kernel
theorem dX7_makesRoom_160 : decode cX7_makesRoom 160 = .ok (.iadd, 1) := by decide +kernel
theorem dX7_makesRoom_161 : decode cX7_makesRoom 161 = .ok (.iaload, 1) := by decide +kernel
theorem dX7_makesRoom_162 : decode cX7_makesRoom 162 = .ok (.iastore, 1) := by decide +kernel
theorem dX7_makesRoom_163 : decode cX7_makesRoom 163 = .ok (.iinc 2 1, 3) := by decide +kernel
theorem dX7_makesRoom_166 : decode cX7_makesRoom 166 = .ok (.goto (-25), 3) := by decide +kernel
theorem dX7_makesRoom_169 : decode cX7_makesRoom 169 = .ok (.iconst 1, 1) := by decide +kernel
theorem dX7_makesRoom_170 : decode cX7_makesRoom 170 = .ok (.ireturn, 1) := by decide +kernel
theorem dX7_putData_0 : decode cX7_putData 0 = .ok (.aload_n 0, 1) := by decide +kernel
theorem dX7_putData_1 : decode cX7_putData 1 = .ok (.iconst 0, 1) := by decide +kernel
theorem dX7_putData_2 : decode cX7_putData 2 = .ok (.putfield 158, 3) := by decide +kernel
theorem dX7_putData_5 : decode cX7_putData 5 = .ok (.aload_n 0, 1) := by decide +kernel
theorem dX7_putData_6 : decode cX7_putData 6 = .ok (.iconst 2, 1) := by decide +kernel
theorem dX7_putData_7 : decode cX7_putData 7 = .ok (.iload 6, 2) := by decide +kernel
theorem dX7_putData_9 : decode cX7_putData 9 = .ok (.iadd, 1) := by decide +kernel
theorem dX7_putData_10 : decode cX7_putData 10 = .ok (.invokevirtual 195, 3) := by decide +kernel
theorem dX7_putData_13 : decode cX7_putData 13 = .ok (.ifCond .ne 5, 3) := by decide +kernel
theorem dX7_putData_16 : decode cX7_putData 16 = .ok (.iconst 0, 1) := by decide +kernel
theorem dX7_putData_17 : decode cX7_putData 17 = .ok (.ireturn, 1) := by decide +kernel
theorem dX7_putData_18 : decode cX7_putData 18 = .ok (.aload_n 0, 1) := by decide +kernel
theorem dX7_putData_19 : decode cX7_putData 19 = .ok (.invokevirtual 185, 3) := by decide +kernel
theorem dX7_putData_22 : decode cX7_putData 22 = .ok (.istore 8, 2) := by decide +kernel
theorem dX7_putData_24 : decode cX7_putData 24 = .ok (.aload_n 0, 1) := by decide +kernel
theorem dX7_putData_25 : decode cX7_putData 25 = .ok (.getfield 7, 3) := by decide +kernel
theorem dX7_putData_28 : decode cX7_putData 28 = .ok (.iload 8, 2) := by decide +kernel
theorem dX7_putData_30 : decode cX7_putData 30 = .ok (.iconst 1, 1) := by decide +kernel
theorem dX7_putData_31 : decode cX7_putData 31 = .ok (.iastore, 1) := by decide +kernel
theorem dX7_putData_32 : decode cX7_putData 32 = .ok (.aload_n 0, 1) := by decide +kernel
theorem dX7_putData_33 : decode cX7_putData 33 = .ok (.getfield 13, 3) := by decide +kernel
theorem dX7_putData_36 : decode cX7_putData 36 = .ok (.iload 8, 2) := by decide +kernel
theorem dX7_putData_38 : decode cX7_putData 38 = .ok (.iload_n 1, 1) := by decide +kernel
theorem dX7_putData_39 : decode cX7_putData 39 = .ok (.iastore, 1) := by decide +kernel
theorem dX7_putData_40 : decode cX7_putData 40 = .ok (.aload_n 0, 1) := by decide +kernel
theorem dX7_putData_41 : decode cX7_putData 41 = .ok (.getfield 16, 3) := by decide +kernel
theorem dX7_putData_44 : decode cX7_putData 44 = .ok (.iload 8, 2) := by decide +kernel
theorem dX7_putData_46 : decode cX7_putData 46 = .ok (.iload_n 2, 1) := by decide +kernel
theorem dX7_putData_47 : decode cX7_putData 47 = .ok (.iastore, 1) := by decide +kernel
theorem dX7_putData_48 : decode cX7_putData 48 = .ok (.aload_n 0, 1) := by decide +kernel
theorem dX7_putData_49 : decode cX7_putData 49 = .ok (.getfield 19, 3) := by decide +kernel
theorem dX7_putData_52 : decode cX7_putData 52 = .ok (.iload 8, 2) := by decide +kernel
theorem dX7_putData_54 : decode cX7_putData 54 = .ok (.iload_n 3, 1) := by decide +kernel
theorem dX7_putData_55 : decode cX7_putData 55 = .ok (.iastore, 1) := by decide +kernel
theorem dX7_putData_56 : decode cX7_putData 56 = .ok (.aload_n 0, 1) := by decide +kernel
theorem dX7_putData_57 : decode cX7_putData 57 = .ok (.getfield 25, 3) := by decide +kernel
theorem dX7_putData_60 : decode cX7_putData 60 = .ok (.iload 8, 2) := by decide +kernel
theorem dX7_putData_62 : decode cX7_putData 62 = .ok (.lload 4, 2) := by decide +kernel
theorem dX7_putData_64 : decode cX7_putData 64 = .ok (.lastore, 1) := by decide +kernel
theorem dX7_putData_65 : decode cX7_putData 65 = .ok (.aload_n 0, 1) := by decide +kernel
theorem dX7_putData_66 : decode cX7_putData 66 = .ok (.getfield 22, 3) := by decide +kernel
theorem dX7_putData_69 : decode cX7_putData 69 = .ok (.iload 8, 2) := by decide +kernel
theorem dX7_putData_71 : decode cX7_putData 71 = .ok (.iload 6, 2) := by decide +kernel
theorem dX7_putData_73 : decode cX7_putData 73 = .ok (.iastore, 1) := by decide +kernel
theorem dX7_putData_74 : decode cX7_putData 74 = .ok (.aload_n 0, 1) := by decide +kernel
theorem dX7_putData_75 : decode cX7_putData 75 = .ok (.getfield 29, 3) := by decide +kernel
theorem dX7_putData_78 : decode cX7_putData 78 = .ok (.iload 8, 2) := by decide +kernel
theorem dX7_putData_80 : decode cX7_putData 80 = .ok (.iload 7, 2) := by decide +kernel
theorem dX7_putData_82 : decode cX7_putData 82 = .ok (.iastore, 1) := by decide +kernel
theorem dX7_putData_83 : decode cX7_putData 83 = .ok (.aload_n 0, 1) := by decide +kernel
theorem dX7_putData_84 : decode cX7_putData 84 = .ok (.getfield 42, 3) := by decide +kernel
theorem dX7_putData_87 : decode cX7_putData 87 = .ok (.iload 8, 2) := by decide +kernel
theorem dX7_putData_89 : decode cX7_putData 89 = .ok (.iconst 2, 1) := by decide +kernel
theorem dX7_putData_90 : decode cX7_putData 90 = .ok (.iload 6, 2) := by decide +kernel
theorem dX7_putData_92 : decode cX7_putData 92 = .ok (.iadd, 1) := by decide +kernel
theorem dX7_putData_93 : decode cX7_putData 93 = .ok (.iastore, 1) := by decide +kernel
theorem dX7_putData_94 : decode cX7_putData 94 = .ok (.aload_n 0, 1) := by decide +kernel
theorem dX7_putData_95 : decode cX7_putData 95 = .ok (.iload 8, 2) := by decide +kernel
theorem dX7_putData_97 : decode cX7_putData 97 = .ok (.invokevirtual 189, 3) := by decide +kernel
theorem dX7_putData_100 : decode cX7_putData 100 = .ok (.ireturn, 1) := by decide +kernel
theorem dX7_putName_0 : decode cX7_putName 0 = .ok (.aload_n 0, 1) := by decide +kernel
theorem dX7_putName_1 : decode cX7_putName 1 = .ok (.iconst 0, 1) := by decide +kernel
theorem dX7_putName_2 : decode cX7_putName 2 = .ok (.putfield 158, 3) := by decide +kernel
theorem dX7_putName_5 : decode cX7_putName 5 = .ok (.aload_n 0, 1) := by decide +kernel
theorem dX7_putName_6 : decode cX7_putName 6 = .ok (.iconst 3, 1) := by decide +kernel
theorem dX7_putName_7 : decode cX7_putName 7 = .ok (.invokevirtual 195, 3) := by decide +kernel
theorem dX7_putName_10 : decode cX7_putName 10 = .ok (.ifCond .ne 5, 3) := by decide +kernel
theorem dX7_putName_13 : decode cX7_putName 13 = .ok (.iconst 0, 1) := by decide +kernel
theorem dX7_putName_14 : decode cX7_putName 14 = .ok (.ireturn, 1) := by decide +kernel
theorem dX7_putName_15 : decode cX7_putName 15 = .ok (.aload_n 0, 1) := by decide +kernel
theorem dX7_putName_16 : decode cX7_putName 16 = .ok (.invokevirtual 185, 3) := by decide +kernel
theorem dX7_putName_19 : decode cX7_putName 19 = .ok (.istore 6, 2) := by decide +kernel
theorem dX7_putName_21 : decode cX7_putName 21 = .ok (.aload_n 0, 1) := by decide +kernel
theorem dX7_putName_22 : decode cX7_putName 22 = .ok (.getfield 7, 3) := by decide +kernel
theorem dX7_putName_25 : decode cX7_putName 25 = .ok (.iload 6, 2) := by decide +kernel
theorem dX7_putName_27 : decode cX7_putName 27 = .ok (.iconst 2, 1) := by decide +kernel
theorem dX7_putName_28 : decode cX7_putName 28 = .ok (.iastore, 1) := by decide +kernel
theorem dX7_putName_29 : decode cX7_putName 29 = .ok (.aload_n 0, 1) := by decide +kernel
theorem dX7_putName_30 : decode cX7_putName 30 = .ok (.getfield 13, 3) := by decide +kernel
theorem dX7_putName_33 : decode cX7_putName 33 = .ok (.iload 6, 2) := by decide +kernel
theorem dX7_putName_35 : decode cX7_putName 35 = .ok (.iload_n 1, 1) := by decide +kernel
theorem dX7_putName_36 : decode cX7_putName 36 = .ok (.iastore, 1) := by decide +kernel
theorem dX7_putName_37 : decode cX7_putName 37 = .ok (.aload_n 0, 1) := by decide +kernel
theorem dX7_putName_38 : decode cX7_putName 38 = .ok (.getfield 16, 3) := by decide +kernel
theorem dX7_putName_41 : decode cX7_putName 41 = .ok (.iload 6, 2) := by decide +kernel
theorem dX7_putName_43 : decode cX7_putName 43 = .ok (.iload_n 2, 1) := by decide +kernel
theorem dX7_putName_44 : decode cX7_putName 44 = .ok (.iastore, 1) := by decide +kernel
theorem dX7_putName_45 : decode cX7_putName 45 = .ok (.aload_n 0, 1) := by decide +kernel
theorem dX7_putName_46 : decode cX7_putName 46 = .ok (.getfield 32, 3) := by decide +kernel
theorem dX7_putName_49 : decode cX7_putName 49 = .ok (.iload 6, 2) := by decide +kernel
theorem dX7_putName_51 : decode cX7_putName 51 = .ok (.iload_n 3, 1) := by decide +kernel
theorem dX7_putName_52 : decode cX7_putName 52 = .ok (.iastore, 1) := by decide +kernel
theorem dX7_putName_53 : decode cX7_putName 53 = .ok (.aload_n 0, 1) := by decide +kernel
theorem dX7_putName_54 : decode cX7_putName 54 = .ok (.getfield 35, 3) := by decide +kernel
theorem dX7_putName_57 : decode cX7_putName 57 = .ok (.iload 6, 2) := by decide +kernel
theorem dX7_putName_59 : decode cX7_putName 59 = .ok (.iload 4, 2) := by decide +kernel
theorem dX7_putName_61 : decode cX7_putName 61 = .ok (.iastore, 1) := by decide +kernel
theorem dX7_putName_62 : decode cX7_putName 62 = .ok (.aload_n 0, 1) := by decide +kernel
theorem dX7_putName_63 : decode cX7_putName 63 = .ok (.getfield 38, 3) := by decide +kernel
theorem dX7_putName_66 : decode cX7_putName 66 = .ok (.iload 6, 2) := by decide +kernel
theorem dX7_putName_68 : decode cX7_putName 68 = .ok (.iload 5, 2) := by decide +kernel
theorem dX7_putName_70 : decode cX7_putName 70 = .ok (.bastore, 1) := by decide +kernel
theorem dX7_putName_71 : decode cX7_putName 71 = .ok (.aload_n 0, 1) := by decide +kernel
theorem dX7_putName_72 : decode cX7_putName 72 = .ok (.getfield 42, 3) := by decide +kernel
theorem dX7_putName_75 : decode cX7_putName 75 = .ok (.iload 6, 2) := by decide +kernel
theorem dX7_putName_77 : decode cX7_putName 77 = .ok (.iconst 3, 1) := by decide +kernel
theorem dX7_putName_78 : decode cX7_putName 78 = .ok (.iastore, 1) := by decide +kernel
theorem dX7_putName_79 : decode cX7_putName 79 = .ok (.aload_n 0, 1) := by decide +kernel
theorem dX7_putName_80 : decode cX7_putName 80 = .ok (.iload 6, 2) := by decide +kernel
theorem dX7_putName_82 : decode cX7_putName 82 = .ok (.invokevirtual 189, 3) := by decide +kernel
theorem dX7_putName_85 : decode cX7_putName 85 = .ok (.ireturn, 1) := by decide +kernel
theorem dX7_writeData_0 : decode cX7_writeData 0 = .ok (.aload_n 0, 1) := by decide +kernel
theorem dX7_writeData_1 : decode cX7_writeData 1 = .ok (.getfield 63, 3) := by decide +kernel
theorem dX7_writeData_4 : decode cX7_writeData 4 = .ok (.iload_n 1, 1) := by decide +kernel
theorem dX7_writeData_5 : decode cX7_writeData 5 = .ok (.dup2, 1) := by decide +kernel
theorem dX7_writeData_6 : decode cX7_writeData 6 = .ok (.iaload, 1) := by decide +kernel
theorem dX7_writeData_7 : decode cX7_writeData 7 = .ok (.iconst 1, 1) := by decide +kernel
theorem dX7_writeData_8 : decode cX7_writeData 8 = .ok (.iadd, 1) := by decide +kernel
theorem dX7_writeData_9 : decode cX7_writeData 9 = .ok (.iastore, 1) := by decide +kernel
theorem dX7_writeData_10 : decode cX7_writeData 10 = .ok (.aload_n 0, 1) := by decide +kernel
theorem dX7_writeData_11 : decode cX7_writeData 11 = .ok (.iload_n 1, 1) := by decide +kernel
theorem dX7_writeData_12 : decode cX7_writeData 12 = .ok (.aload_n 0, 1) := by decide +kernel
theorem dX7_writeData_13 : decode cX7_writeData 13 = .ok (.getfield 63, 3) := by decide +kernel
theorem dX7_writeData_16 : decode cX7_writeData 16 = .ok (.iload_n 1, 1) := by decide +kernel
theorem dX7_writeData_17 : decode cX7_writeData 17 = .ok (.iaload, 1) := by decide +kernel
theorem dX7_writeData_18 : decode cX7_writeData 18 = .ok (.iload_n 2, 1) := by decide +kernel
theorem dX7_writeData_19 : decode cX7_writeData 19 = .ok (.lload_n 3, 1) := by decide +kernel
theorem dX7_writeData_20 : decode cX7_writeData 20 = .ok (.iload 5, 2) := by decide +kernel
theorem dX7_writeData_22 : decode cX7_writeData 22 = .ok (.iload 6, 2) := by decide +kernel
theorem dX7_writeData_24 : decode cX7_writeData 24 = .ok (.invokevirtual 198, 3) := by decide +kernel
theorem dX7_writeData_27 : decode cX7_writeData 27 = .ok (.ireturn, 1) := by decide +kernel
theorem dX7_writeName_0 : decode cX7_writeName 0 = .ok (.aload_n 0, 1) := by decide +kernel
theorem dX7_writeName_1 : decode cX7_writeName 1 = .ok (.getfield 66, 3) := by decide +kernel
theorem dX7_writeName_4 : decode cX7_writeName 4 = .ok (.iload_n 1, 1) := by decide +kernel
theorem dX7_writeName_5 : decode cX7_writeName 5 = .ok (.dup2, 1) := by decide +kernel
theorem dX7_writeName_6 : decode cX7_writeName 6 = .ok (.iaload, 1) := by decide +kernel
theorem dX7_writeName_7 : decode cX7_writeName 7 = .ok (.iconst 1, 1) := by decide +kernel
theorem dX7_writeName_8 : decode cX7_writeName 8 = .ok (.iadd, 1) := by decide +kernel
theorem dX7_writeName_9 : decode cX7_writeName 9 = .ok (.iastore, 1) := by decide +kernel
theorem dX7_writeName_10 : decode cX7_writeName 10 = .ok (.aload_n 0, 1) := by decide +kernel
theorem dX7_writeName_11 : decode cX7_writeName 11 = .ok (.iload_n 1, 1) := by decide +kernel
theorem dX7_writeName_12 : decode cX7_writeName 12 = .ok (.aload_n 0, 1) := by decide +kernel
theorem dX7_writeName_13 : decode cX7_writeName 13 = .ok (.getfield 66, 3) := by decide +kernel
theorem dX7_writeName_16 : decode cX7_writeName 16 = .ok (.iload_n 1, 1) := by decide +kernel
theorem dX7_writeName_17 : decode cX7_writeName 17 = .ok (.iaload, 1) := by decide +kernel
theorem dX7_writeName_18 : decode cX7_writeName 18 = .ok (.iload_n 2, 1) := by decide +kernel
theorem dX7_writeName_19 : decode cX7_writeName 19 = .ok (.iload_n 3, 1) := by decide +kernel
theorem dX7_writeName_20 : decode cX7_writeName 20 = .ok (.iload 4, 2) := by decide +kernel
theorem dX7_writeName_22 : decode cX7_writeName 22 = .ok (.invokevirtual 202, 3) := by decide +kernel
theorem dX7_writeName_25 : decode cX7_writeName 25 = .ok (.ireturn, 1) := by decide +kernel
theorem dX7_hasRoom_0 : decode cX7_hasRoom 0 = .ok (.aload_n 0, 1) := by decide +kernel
theorem dX7_hasRoom_1 : decode cX7_hasRoom 1 = .ok (.getfield 118, 3) := by decide +kernel
theorem dX7_hasRoom_4 : decode cX7_hasRoom 4 = .ok (.iconst (-1), 1) := by decide +kernel
theorem dX7_hasRoom_5 : decode cX7_hasRoom 5 = .ok (.if_icmp .ne 8, 3) := by decide +kernel
theorem dX7_hasRoom_8 : decode cX7_hasRoom 8 = .ok (.bipush 40, 2) := by decide +kernel
theorem dX7_hasRoom_10 : decode cX7_hasRoom 10 = .ok (.goto 12, 3) := by decide +kernel
theorem dX7_hasRoom_13 : decode cX7_hasRoom 13 = .ok (.aload_n 0, 1) := by decide +kernel
theorem dX7_hasRoom_14 : decode cX7_hasRoom 14 = .ok (.getfield 51, 3) := by decide +kernel
theorem dX7_hasRoom_17 : decode cX7_hasRoom 17 = .ok (.aload_n 0, 1) := by decide +kernel
theorem dX7_hasRoom_18 : decode cX7_hasRoom 18 = .ok (.getfield 118, 3) := by decide +kernel
theorem dX7_hasRoom_21 : decode cX7_hasRoom 21 = .ok (.iaload, 1) := by decide +kernel
theorem dX7_hasRoom_22 : decode cX7_hasRoom 22 = .ok (.istore_n 3, 1) := by decide +kernel
theorem dX7_hasRoom_23 : decode cX7_hasRoom 23 = .ok (.aload_n 0, 1) := by decide +kernel
theorem dX7_hasRoom_24 : decode cX7_hasRoom 24 = .ok (.getfield 118, 3) := by decide +kernel
theorem dX7_hasRoom_27 : decode cX7_hasRoom 27 = .ok (.iconst (-1), 1) := by decide +kernel
theorem dX7_hasRoom_28 : decode cX7_hasRoom 28 = .ok (.if_icmp .ne 7, 3) := by decide +kernel
theorem dX7_hasRoom_31 : decode cX7_hasRoom 31 = .ok (.iconst 0, 1) := by decide +kernel
theorem dX7_hasRoom_32 : decode cX7_hasRoom 32 = .ok (.goto 12, 3) := by decide +kernel
theorem dX7_hasRoom_35 : decode cX7_hasRoom 35 = .ok (.aload_n 0, 1) := by decide +kernel
theorem dX7_hasRoom_36 : decode cX7_hasRoom 36 = .ok (.getfield 48, 3) := by decide +kernel
theorem dX7_hasRoom_39 : decode cX7_hasRoom 39 = .ok (.aload_n 0, 1) := by decide +kernel
theorem dX7_hasRoom_40 : decode cX7_hasRoom 40 = .ok (.getfield 118, 3) := by decide +kernel
theorem dX7_hasRoom_43 : decode cX7_hasRoom 43 = .ok (.iaload, 1) := by decide +kernel
theorem dX7_hasRoom_44 : decode cX7_hasRoom 44 = .ok (.istore 4, 2) := by decide +kernel
theorem dX7_hasRoom_46 : decode cX7_hasRoom 46 = .ok (.iconst 0, 1) := by decide +kernel
theorem dX7_hasRoom_47 : decode cX7_hasRoom 47 = .ok (.istore 5, 2) := by decide +kernel
theorem dX7_hasRoom_49 : decode cX7_hasRoom 49 = .ok (.iconst 0, 1) := by decide +kernel
theorem dX7_hasRoom_50 : decode cX7_hasRoom 50 = .ok (.istore 6, 2) := by decide +kernel
theorem dX7_hasRoom_52 : decode cX7_hasRoom 52 = .ok (.iload 6, 2) := by decide +kernel
theorem dX7_hasRoom_54 : decode cX7_hasRoom 54 = .ok (.iload_n 1, 1) := by decide +kernel
theorem dX7_hasRoom_55 : decode cX7_hasRoom 55 = .ok (.if_icmp .ge 46, 3) := by decide +kernel
theorem dX7_hasRoom_58 : decode cX7_hasRoom 58 = .ok (.iload_n 3, 1) := by decide +kernel
theorem dX7_hasRoom_59 : decode cX7_hasRoom 59 = .ok (.iload 4, 2) := by decide +kernel
theorem dX7_hasRoom_61 : decode cX7_hasRoom 61 = .ok (.aload_n 0, 1) := by decide +kernel
theorem dX7_hasRoom_62 : decode cX7_hasRoom 62 = .ok (.getfield 102, 3) := by decide +kernel
theorem dX7_hasRoom_65 : decode cX7_hasRoom 65 = .ok (.iload 6, 2) := by decide +kernel
theorem dX7_hasRoom_67 : decode cX7_hasRoom 67 = .ok (.iaload, 1) := by decide +kernel
theorem dX7_hasRoom_68 : decode cX7_hasRoom 68 = .ok (.invokestatic 181, 3) := by decide +kernel
theorem dX7_hasRoom_71 : decode cX7_hasRoom 71 = .ok (.ifCond .ne 11, 3) := by decide +kernel
theorem dX7_hasRoom_74 : decode cX7_hasRoom 74 = .ok (.iinc 5 1, 3) := by decide +kernel
theorem dX7_hasRoom_77 : decode cX7_hasRoom 77 = .ok (.iconst 1, 1) := by decide +kernel
theorem dX7_hasRoom_78 : decode cX7_hasRoom 78 = .ok (.istore_n 3, 1) := by decide +kernel
theorem dX7_hasRoom_79 : decode cX7_hasRoom 79 = .ok (.iconst 0, 1) := by decide +kernel
theorem dX7_hasRoom_80 : decode cX7_hasRoom 80 = .ok (.istore 4, 2) := by decide +kernel
theorem dX7_hasRoom_82 : decode cX7_hasRoom 82 = .ok (.iload_n 3, 1) := by decide +kernel
theorem dX7_hasRoom_83 : decode cX7_hasRoom 83 = .ok (.aload_n 0, 1) := by decide +kernel
theorem dX7_hasRoom_84 : decode cX7_hasRoom 84 = .ok (.getfield 102, 3) := by decide +kernel
theorem dX7_hasRoom_87 : decode cX7_hasRoom 87 = .ok (.iload 6, 2) := by decide +kernel
theorem dX7_hasRoom_89 : decode cX7_hasRoom 89 = .ok (.iaload, 1) := by decide +kernel
theorem dX7_hasRoom_90 : decode cX7_hasRoom 90 = .ok (.iadd, 1) := by decide +kernel
theorem dX7_hasRoom_91 : decode cX7_hasRoom 91 = .ok (.istore_n 3, 1) := by decide +kernel
theorem dX7_hasRoom_92 : decode cX7_hasRoom 92 = .ok (.iinc 4 1, 3) := by decide +kernel
theorem dX7_hasRoom_95 : decode cX7_hasRoom 95 = .ok (.iinc 6 1, 3) := by decide +kernel
theorem dX7_hasRoom_98 : decode cX7_hasRoom 98 = .ok (.goto (-46), 3) := by decide +kernel
theorem dX7_hasRoom_101 : decode cX7_hasRoom 101 = .ok (.iload 5, 2) := by decide +kernel
theorem dX7_hasRoom_103 : decode cX7_hasRoom 103 = .ok (.iload_n 2, 1) := by decide +kernel
theorem dX7_hasRoom_104 : decode cX7_hasRoom 104 = .ok (.if_icmp .gt 7, 3) := by decide +kernel
theorem dX7_hasRoom_107 : decode cX7_hasRoom 107 = .ok (.iconst 1, 1) := by decide +kernel
theorem dX7_hasRoom_108 : decode cX7_hasRoom 108 = .ok (.goto 4, 3) := by decide +kernel
theorem dX7_hasRoom_111 : decode cX7_hasRoom 111 = .ok (.iconst 0, 1) := by decide +kernel
theorem dX7_hasRoom_112 : decode cX7_hasRoom 112 = .ok (.ireturn, 1) := by decide +kernel
theorem dX7_canWrite_0 : decode cX7_canWrite 0 = .ok (.aload_n 0, 1) := by decide +kernel
theorem dX7_canWrite_1 : decode cX7_canWrite 1 = .ok (.getfield 102, 3) := by decide +kernel
theorem dX7_canWrite_4 : decode cX7_canWrite 4 = .ok (.iconst 0, 1) := by decide +kernel
theorem dX7_canWrite_5 : decode cX7_canWrite 5 = .ok (.iload_n 1, 1) := by decide +kernel
theorem dX7_canWrite_6 : decode cX7_canWrite 6 = .ok (.iastore, 1) := by decide +kernel
theorem dX7_canWrite_7 : decode cX7_canWrite 7 = .ok (.aload_n 0, 1) := by decide +kernel
theorem dX7_canWrite_8 : decode cX7_canWrite 8 = .ok (.getfield 102, 3) := by decide +kernel
theorem dX7_canWrite_11 : decode cX7_canWrite 11 = .ok (.iconst 1, 1) := by decide +kernel
theorem dX7_canWrite_12 : decode cX7_canWrite 12 = .ok (.iload_n 2, 1) := by decide +kernel
theorem dX7_canWrite_13 : decode cX7_canWrite 13 = .ok (.iastore, 1) := by decide +kernel
theorem dX7_canWrite_14 : decode cX7_canWrite 14 = .ok (.aload_n 0, 1) := by decide +kernel
theorem dX7_canWrite_15 : decode cX7_canWrite 15 = .ok (.iload_n 2, 1) := by decide +kernel
theorem dX7_canWrite_16 : decode cX7_canWrite 16 = .ok (.ifCond .le 7, 3) := by decide +kernel
theorem dX7_canWrite_19 : decode cX7_canWrite 19 = .ok (.iconst 2, 1) := by decide +kernel
theorem dX7_canWrite_20 : decode cX7_canWrite 20 = .ok (.goto 4, 3) := by decide +kernel
theorem dX7_canWrite_23 : decode cX7_canWrite 23 = .ok (.iconst 1, 1) := by decide +kernel
theorem dX7_canWrite_24 : decode cX7_canWrite 24 = .ok (.aload_n 0, 1) := by decide +kernel
theorem dX7_canWrite_25 : decode cX7_canWrite 25 = .ok (.getfield 114, 3) := by decide +kernel
theorem dX7_canWrite_28 : decode cX7_canWrite 28 = .ok (.ifCond .le 12, 3) := by decide +kernel
theorem dX7_canWrite_31 : decode cX7_canWrite 31 = .ok (.aload_n 0, 1) := by decide +kernel
theorem dX7_canWrite_32 : decode cX7_canWrite 32 = .ok (.getfield 114, 3) := by decide +kernel
theorem dX7_canWrite_35 : decode cX7_canWrite 35 = .ok (.iconst 1, 1) := by decide +kernel
theorem dX7_canWrite_36 : decode cX7_canWrite 36 = .ok (.isub, 1) := by decide +kernel
theorem dX7_canWrite_37 : decode cX7_canWrite 37 = .ok (.goto 4, 3) := by decide +kernel
theorem dX7_canWrite_40 : decode cX7_canWrite 40 = .ok (.iconst 0, 1) := by decide +kernel
theorem dX7_canWrite_41 : decode cX7_canWrite 41 = .ok (.invokevirtual 206, 3) := by decide +kernel
theorem dX7_canWrite_44 : decode cX7_canWrite 44 = .ok (.ireturn, 1) := by decide +kernel
theorem dX7_isName_0 : decode cX7_isName 0 = .ok (.iload_n 0, 1) := by decide +kernel
theorem dX7_isName_1 : decode cX7_isName 1 = .ok (.iconst 1, 1) := by decide +kernel
theorem dX7_isName_2 : decode cX7_isName 2 = .ok (.bipush 99, 2) := by decide +kernel
theorem dX7_isName_4 : decode cX7_isName 4 = .ok (.invokestatic 210, 3) := by decide +kernel
theorem dX7_isName_7 : decode cX7_isName 7 = .ok (.ireturn, 1) := by decide +kernel
theorem dX7_canName_0 : decode cX7_canName 0 = .ok (.aload_n 0, 1) := by decide +kernel
theorem dX7_canName_1 : decode cX7_canName 1 = .ok (.aload_n 0, 1) := by decide +kernel
theorem dX7_canName_2 : decode cX7_canName 2 = .ok (.getfield 174, 3) := by decide +kernel
theorem dX7_canName_5 : decode cX7_canName 5 = .ok (.ifCond .eq 7, 3) := by decide +kernel
theorem dX7_canName_8 : decode cX7_canName 8 = .ok (.iconst 3, 1) := by decide +kernel
theorem dX7_canName_9 : decode cX7_canName 9 = .ok (.goto 27, 3) := by decide +kernel
theorem dX7_canName_12 : decode cX7_canName 12 = .ok (.aload_n 0, 1) := by decide +kernel
theorem dX7_canName_13 : decode cX7_canName 13 = .ok (.iload_n 1, 1) := by decide +kernel
theorem dX7_canName_14 : decode cX7_canName 14 = .ok (.invokevirtual 213, 3) := by decide +kernel
theorem dX7_canName_17 : decode cX7_canName 17 = .ok (.ifCond .ne 7, 3) := by decide +kernel
theorem dX7_canName_20 : decode cX7_canName 20 = .ok (.iconst 1, 1) := by decide +kernel
theorem dX7_canName_21 : decode cX7_canName 21 = .ok (.goto 15, 3) := by decide +kernel
theorem dX7_canName_24 : decode cX7_canName 24 = .ok (.iload_n 2, 1) := by decide +kernel
theorem dX7_canName_25 : decode cX7_canName 25 = .ok (.invokestatic 216, 3) := by decide +kernel
theorem dX7_canName_28 : decode cX7_canName 28 = .ok (.ifCond .ne 7, 3) := by decide +kernel
theorem dX7_canName_31 : decode cX7_canName 31 = .ok (.iconst 2, 1) := by decide +kernel
theorem dX7_canName_32 : decode cX7_canName 32 = .ok (.goto 4, 3) := by decide +kernel
theorem dX7_canName_35 : decode cX7_canName 35 = .ok (.iconst 0, 1) := by decide +kernel
theorem dX7_canName_36 : decode cX7_canName 36 = .ok (.putfield 127, 3) := by decide +kernel
theorem dX7_canName_39 : decode cX7_canName 39 = .ok (.aload_n 0, 1) := by decide +kernel
theorem dX7_canName_40 : decode cX7_canName 40 = .ok (.getfield 127, 3) := by decide +kernel
theorem dX7_canName_43 : decode cX7_canName 43 = .ok (.ifCond .ne 7, 3) := by decide +kernel
theorem dX7_canName_46 : decode cX7_canName 46 = .ok (.iconst 1, 1) := by decide +kernel
theorem dX7_canName_47 : decode cX7_canName 47 = .ok (.goto 4, 3) := by decide +kernel
theorem dX7_canName_50 : decode cX7_canName 50 = .ok (.iconst 0, 1) := by decide +kernel
theorem dX7_canName_51 : decode cX7_canName 51 = .ok (.ireturn, 1) := by decide +kernel
theorem dX7_create_0 : decode cX7_create 0 = .ok (.aload_n 0, 1) := by decide +kernel
theorem dX7_create_1 : decode cX7_create 1 = .ok (.iload_n 1, 1) := by decide +kernel
theorem dX7_create_2 : decode cX7_create 2 = .ok (.iload_n 2, 1) := by decide +kernel
theorem dX7_create_3 : decode cX7_create 3 = .ok (.invokevirtual 219, 3) := by decide +kernel
theorem dX7_create_6 : decode cX7_create 6 = .ok (.ifCond .eq 31, 3) := by decide +kernel
theorem dX7_create_9 : decode cX7_create 9 = .ok (.aload_n 0, 1) := by decide +kernel
theorem dX7_create_10 : decode cX7_create 10 = .ok (.aload_n 0, 1) := by decide +kernel
theorem dX7_create_11 : decode cX7_create 11 = .ok (.iload_n 1, 1) := by decide +kernel
theorem dX7_create_12 : decode cX7_create 12 = .ok (.iload_n 2, 1) := by decide +kernel
theorem dX7_create_13 : decode cX7_create 13 = .ok (.invokevirtual 171, 3) := by decide +kernel
theorem dX7_create_16 : decode cX7_create 16 = .ok (.iconst (-1), 1) := by decide +kernel
theorem dX7_create_17 : decode cX7_create 17 = .ok (.if_icmp .ne 12, 3) := by decide +kernel
theorem dX7_create_20 : decode cX7_create 20 = .ok (.aload_n 0, 1) := by decide +kernel
theorem dX7_create_21 : decode cX7_create 21 = .ok (.iconst 2, 1) := by decide +kernel
theorem dX7_create_22 : decode cX7_create 22 = .ok (.iconst 3, 1) := by decide +kernel
theorem dX7_create_23 : decode cX7_create 23 = .ok (.invokevirtual 222, 3) := by decide +kernel
theorem dX7_create_26 : decode cX7_create 26 = .ok (.ifCond .ne 7, 3) := by decide +kernel
theorem dX7_create_29 : decode cX7_create 29 = .ok (.iconst 3, 1) := by decide +kernel
theorem dX7_create_30 : decode cX7_create 30 = .ok (.goto 4, 3) := by decide +kernel
theorem dX7_create_33 : decode cX7_create 33 = .ok (.iconst 0, 1) := by decide +kernel
theorem dX7_create_34 : decode cX7_create 34 = .ok (.putfield 127, 3) := by decide +kernel
theorem dX7_create_37 : decode cX7_create 37 = .ok (.aload_n 0, 1) := by decide +kernel
theorem dX7_create_38 : decode cX7_create 38 = .ok (.getfield 127, 3) := by decide +kernel
theorem dX7_create_41 : decode cX7_create 41 = .ok (.ifCond .le 5, 3) := by decide +kernel
theorem dX7_create_44 : decode cX7_create 44 = .ok (.iconst 0, 1) := by decide +kernel
theorem dX7_create_45 : decode cX7_create 45 = .ok (.ireturn, 1) := by decide +kernel
theorem dX7_create_46 : decode cX7_create 46 = .ok (.aload_n 0, 1) := by decide +kernel
theorem dX7_create_47 : decode cX7_create 47 = .ok (.getfield 124, 3) := by decide +kernel
theorem dX7_create_50 : decode cX7_create 50 = .ok (.istore_n 3, 1) := by decide +kernel
theorem dX7_create_51 : decode cX7_create 51 = .ok (.aload_n 0, 1) := by decide +kernel
theorem dX7_create_52 : decode cX7_create 52 = .ok (.dup, 1) := by decide +kernel
theorem dX7_create_53 : decode cX7_create 53 = .ok (.getfield 124, 3) := by decide +kernel
theorem dX7_create_56 : decode cX7_create 56 = .ok (.iconst 1, 1) := by decide +kernel
theorem dX7_create_57 : decode cX7_create 57 = .ok (.iadd, 1) := by decide +kernel
theorem dX7_create_58 : decode cX7_create 58 = .ok (.putfield 124, 3) := by decide +kernel
theorem dX7_create_61 : decode cX7_create 61 = .ok (.aload_n 0, 1) := by decide +kernel
theorem dX7_create_62 : decode cX7_create 62 = .ok (.iload_n 3, 1) := by decide +kernel
theorem dX7_create_63 : decode cX7_create 63 = .ok (.iconst 0, 1) := by decide +kernel
theorem dX7_create_64 : decode cX7_create 64 = .ok (.lconst 0, 1) := by decide +kernel
theorem dX7_create_65 : decode cX7_create 65 = .ok (.iconst 0, 1) := by decide +kernel
theorem dX7_create_66 : decode cX7_create 66 = .ok (.iconst 0, 1) := by decide +kernel
theorem dX7_create_67 : decode cX7_create 67 = .ok (.invokevirtual 225, 3) := by decide +kernel
theorem dX7_create_70 : decode cX7_create 70 = .ok (.ifCond .eq 18, 3) := by decide +kernel
theorem dX7_create_73 : decode cX7_create 73 = .ok (.aload_n 0, 1) := by decide +kernel
theorem dX7_create_74 : decode cX7_create 74 = .ok (.iload_n 1, 1) := by decide +kernel
theorem dX7_create_75 : decode cX7_create 75 = .ok (.iload_n 2, 1) := by decide +kernel
theorem dX7_create_76 : decode cX7_create 76 = .ok (.iload_n 3, 1) := by decide +kernel
theorem dX7_create_77 : decode cX7_create 77 = .ok (.iconst 0, 1) := by decide +kernel
theorem dX7_create_78 : decode cX7_create 78 = .ok (.invokevirtual 229, 3) := by decide +kernel
theorem dX7_create_81 : decode cX7_create 81 = .ok (.ifCond .eq 7, 3) := by decide +kernel
theorem dX7_create_84 : decode cX7_create 84 = .ok (.iconst 1, 1) := by decide +kernel
theorem dX7_create_85 : decode cX7_create 85 = .ok (.goto 4, 3) := by decide +kernel
theorem dX7_create_88 : decode cX7_create 88 = .ok (.iconst 0, 1) := by decide +kernel
theorem dX7_create_89 : decode cX7_create 89 = .ok (.istore 4, 2) := by decide +kernel
theorem dX7_create_91 : decode cX7_create 91 = .ok (.iload 4, 2) := by decide +kernel
theorem dX7_create_93 : decode cX7_create 93 = .ok (.ifCond .eq 7, 3) := by decide +kernel
theorem dX7_create_96 : decode cX7_create 96 = .ok (.iload_n 3, 1) := by decide +kernel
theorem dX7_create_97 : decode cX7_create 97 = .ok (.goto 5, 3) := by decide +kernel
theorem dX7_create_100 : decode cX7_create 100 = .ok (.bipush (-9), 2) := by decide +kernel
theorem dX7_create_102 : decode cX7_create 102 = .ok (.ireturn, 1) := by decide +kernel
theorem dX7_makeDirectory_0 : decode cX7_makeDirectory 0 = .ok (.aload_n 0, 1) := by decide +kernel
theorem dX7_makeDirectory_1 : decode cX7_makeDirectory 1 = .ok (.iload_n 1, 1) := by decide +kernel
theorem dX7_makeDirectory_2 : decode cX7_makeDirectory 2 = .ok (.iload_n 2, 1) := by decide +kernel
theorem dX7_makeDirectory_3 : decode cX7_makeDirectory 3 = .ok (.invokevirtual 219, 3) := by decide +kernel
theorem dX7_makeDirectory_6 : decode cX7_makeDirectory 6 = .ok (.ifCond .eq 31, 3) := by decide +kernel
theorem dX7_makeDirectory_9 : decode cX7_makeDirectory 9 = .ok (.aload_n 0, 1) := by decide +kernel
theorem dX7_makeDirectory_10 : decode cX7_makeDirectory 10 = .ok (.aload_n 0, 1) := by decide +kernel
theorem dX7_makeDirectory_11 : decode cX7_makeDirectory 11 = .ok (.iload_n 1, 1) := by decide +kernel
theorem dX7_makeDirectory_12 : decode cX7_makeDirectory 12 = .ok (.iload_n 2, 1) := by decide +kernel
theorem dX7_makeDirectory_13 : decode cX7_makeDirectory 13 = .ok (.invokevirtual 171, 3) := by decide +kernel
theorem dX7_makeDirectory_16 : decode cX7_makeDirectory 16 = .ok (.iconst (-1), 1) := by decide +kernel
theorem dX7_makeDirectory_17 : decode cX7_makeDirectory 17 = .ok (.if_icmp .ne 12, 3) := by decide +kernel
theorem dX7_makeDirectory_20 : decode cX7_makeDirectory 20 = .ok (.aload_n 0, 1) := by decide +kernel
theorem dX7_makeDirectory_21 : decode cX7_makeDirectory 21 = .ok (.iconst 3, 1) := by decide +kernel
theorem dX7_makeDirectory_22 : decode cX7_makeDirectory 22 = .ok (.iconst 0, 1) := by decide +kernel
theorem dX7_makeDirectory_23 : decode cX7_makeDirectory 23 = .ok (.invokevirtual 222, 3) := by decide +kernel
theorem dX7_makeDirectory_26 : decode cX7_makeDirectory 26 = .ok (.ifCond .ne 7, 3) := by decide +kernel
theorem dX7_makeDirectory_29 : decode cX7_makeDirectory 29 = .ok (.iconst 3, 1) := by decide +kernel
theorem dX7_makeDirectory_30 : decode cX7_makeDirectory 30 = .ok (.goto 4, 3) := by decide +kernel
theorem dX7_makeDirectory_33 : decode cX7_makeDirectory 33 = .ok (.iconst 0, 1) := by decide +kernel
theorem dX7_makeDirectory_34 : decode cX7_makeDirectory 34 = .ok (.putfield 127, 3) := by decide +kernel
theorem dX7_makeDirectory_37 : decode cX7_makeDirectory 37 = .ok (.aload_n 0, 1) := by decide +kernel
theorem dX7_makeDirectory_38 : decode cX7_makeDirectory 38 = .ok (.getfield 127, 3) := by decide +kernel
theorem dX7_makeDirectory_41 : decode cX7_makeDirectory 41 = .ok (.ifCond .le 5, 3) := by decide +kernel
theorem dX7_makeDirectory_44 : decode cX7_makeDirectory 44 = .ok (.iconst 0, 1) := by decide +kernel
theorem dX7_makeDirectory_45 : decode cX7_makeDirectory 45 = .ok (.ireturn, 1) := by decide +kernel
theorem dX7_makeDirectory_46 : decode cX7_makeDirectory 46 = .ok (.aload_n 0, 1) := by decide +kernel
theorem dX7_makeDirectory_47 : decode cX7_makeDirectory 47 = .ok (.getfield 124, 3) := by decide +kernel
theorem dX7_makeDirectory_50 : decode cX7_makeDirectory 50 = .ok (.istore_n 3, 1) := by decide +kernel
theorem dX7_makeDirectory_51 : decode cX7_makeDirectory 51 = .ok (.aload_n 0, 1) := by decide +kernel
theorem dX7_makeDirectory_52 : decode cX7_makeDirectory 52 = .ok (.dup, 1) := by decide +kernel
theorem dX7_makeDirectory_53 : decode cX7_makeDirectory 53 = .ok (.getfield 124, 3) := by decide +kernel
theorem dX7_makeDirectory_56 : decode cX7_makeDirectory 56 = .ok (.iconst 1, 1) := by decide +kernel
theorem dX7_makeDirectory_57 : decode cX7_makeDirectory 57 = .ok (.iadd, 1) := by decide +kernel
theorem dX7_makeDirectory_58 : decode cX7_makeDirectory 58 = .ok (.putfield 124, 3) := by decide +kernel
theorem dX7_makeDirectory_61 : decode cX7_makeDirectory 61 = .ok (.aload_n 0, 1) := by decide +kernel
theorem dX7_makeDirectory_62 : decode cX7_makeDirectory 62 = .ok (.iload_n 1, 1) := by decide +kernel
theorem dX7_makeDirectory_63 : decode cX7_makeDirectory 63 = .ok (.iload_n 2, 1) := by decide +kernel
theorem dX7_makeDirectory_64 : decode cX7_makeDirectory 64 = .ok (.iload_n 3, 1) := by decide +kernel
theorem dX7_makeDirectory_65 : decode cX7_makeDirectory 65 = .ok (.iconst 1, 1) := by decide +kernel
theorem dX7_makeDirectory_66 : decode cX7_makeDirectory 66 = .ok (.invokevirtual 229, 3) := by decide +kernel
theorem dX7_makeDirectory_69 : decode cX7_makeDirectory 69 = .ok (.ifCond .eq 7, 3) := by decide +kernel
theorem dX7_makeDirectory_72 : decode cX7_makeDirectory 72 = .ok (.iload_n 3, 1) := by decide +kernel
theorem dX7_makeDirectory_73 : decode cX7_makeDirectory 73 = .ok (.goto 5, 3) := by decide +kernel
theorem dX7_makeDirectory_76 : decode cX7_makeDirectory 76 = .ok (.bipush (-9), 2) := by decide +kernel
theorem dX7_makeDirectory_78 : decode cX7_makeDirectory 78 = .ok (.ireturn, 1) := by decide +kernel
theorem dX7_link_0 : decode cX7_link 0 = .ok (.aload_n 0, 1) := by decide +kernel
theorem dX7_link_1 : decode cX7_link 1 = .ok (.aload_n 0, 1) := by decide +kernel
theorem dX7_link_2 : decode cX7_link 2 = .ok (.getfield 174, 3) := by decide +kernel
theorem dX7_link_5 : decode cX7_link 5 = .ok (.ifCond .eq 7, 3) := by decide +kernel
theorem dX7_link_8 : decode cX7_link 8 = .ok (.iconst 3, 1) := by decide +kernel
theorem dX7_link_9 : decode cX7_link 9 = .ok (.goto 36, 3) := by decide +kernel
theorem dX7_link_12 : decode cX7_link 12 = .ok (.aload_n 0, 1) := by decide +kernel
theorem dX7_link_13 : decode cX7_link 13 = .ok (.iload_n 1, 1) := by decide +kernel
theorem dX7_link_14 : decode cX7_link 14 = .ok (.invokevirtual 213, 3) := by decide +kernel
theorem dX7_link_17 : decode cX7_link 17 = .ok (.ifCond .eq 12, 3) := by decide +kernel
theorem dX7_link_20 : decode cX7_link 20 = .ok (.aload_n 0, 1) := by decide +kernel
theorem dX7_link_21 : decode cX7_link 21 = .ok (.iload_n 3, 1) := by decide +kernel
theorem dX7_link_22 : decode cX7_link 22 = .ok (.invokevirtual 233, 3) := by decide +kernel
theorem dX7_link_25 : decode cX7_link 25 = .ok (.iconst (-1), 1) := by decide +kernel
theorem dX7_link_26 : decode cX7_link 26 = .ok (.if_icmp .ne 7, 3) := by decide +kernel
theorem dX7_link_29 : decode cX7_link 29 = .ok (.iconst 1, 1) := by decide +kernel
theorem dX7_link_30 : decode cX7_link 30 = .ok (.goto 15, 3) := by decide +kernel
theorem dX7_link_33 : decode cX7_link 33 = .ok (.iload_n 2, 1) := by decide +kernel
theorem dX7_link_34 : decode cX7_link 34 = .ok (.invokestatic 216, 3) := by decide +kernel
theorem dX7_link_37 : decode cX7_link 37 = .ok (.ifCond .ne 7, 3) := by decide +kernel
theorem dX7_link_40 : decode cX7_link 40 = .ok (.iconst 2, 1) := by decide +kernel
theorem dX7_link_41 : decode cX7_link 41 = .ok (.goto 4, 3) := by decide +kernel
theorem dX7_link_44 : decode cX7_link 44 = .ok (.iconst 0, 1) := by decide +kernel
theorem dX7_link_45 : decode cX7_link 45 = .ok (.putfield 127, 3) := by decide +kernel
theorem dX7_link_48 : decode cX7_link 48 = .ok (.aload_n 0, 1) := by decide +kernel
theorem dX7_link_49 : decode cX7_link 49 = .ok (.getfield 127, 3) := by decide +kernel
theorem dX7_link_52 : decode cX7_link 52 = .ok (.ifCond .ne 31, 3) := by decide +kernel
theorem dX7_link_55 : decode cX7_link 55 = .ok (.aload_n 0, 1) := by decide +kernel
theorem dX7_link_56 : decode cX7_link 56 = .ok (.aload_n 0, 1) := by decide +kernel
theorem dX7_link_57 : decode cX7_link 57 = .ok (.iload_n 1, 1) := by decide +kernel
theorem dX7_link_58 : decode cX7_link 58 = .ok (.iload_n 2, 1) := by decide +kernel
theorem dX7_link_59 : decode cX7_link 59 = .ok (.invokevirtual 171, 3) := by decide +kernel
theorem dX7_link_62 : decode cX7_link 62 = .ok (.iconst (-1), 1) := by decide +kernel
theorem dX7_link_63 : decode cX7_link 63 = .ok (.if_icmp .ne 12, 3) := by decide +kernel
theorem dX7_link_66 : decode cX7_link 66 = .ok (.aload_n 0, 1) := by decide +kernel
theorem dX7_link_67 : decode cX7_link 67 = .ok (.iconst 3, 1) := by decide +kernel
theorem dX7_link_68 : decode cX7_link 68 = .ok (.iconst 0, 1) := by decide +kernel
theorem dX7_link_69 : decode cX7_link 69 = .ok (.invokevirtual 222, 3) := by decide +kernel
theorem dX7_link_72 : decode cX7_link 72 = .ok (.ifCond .ne 7, 3) := by decide +kernel
theorem dX7_link_75 : decode cX7_link 75 = .ok (.iconst 3, 1) := by decide +kernel
theorem dX7_link_76 : decode cX7_link 76 = .ok (.goto 4, 3) := by decide +kernel
theorem dX7_link_79 : decode cX7_link 79 = .ok (.iconst 0, 1) := by decide +kernel
theorem dX7_link_80 : decode cX7_link 80 = .ok (.putfield 127, 3) := by decide +kernel
theorem dX7_link_83 : decode cX7_link 83 = .ok (.aload_n 0, 1) := by decide +kernel
theorem dX7_link_84 : decode cX7_link 84 = .ok (.getfield 127, 3) := by decide +kernel
theorem dX7_link_87 : decode cX7_link 87 = .ok (.ifCond .le 5, 3) := by decide +kernel
theorem dX7_link_90 : decode cX7_link 90 = .ok (.iconst 0, 1) := by decide +kernel
theorem dX7_link_91 : decode cX7_link 91 = .ok (.ireturn, 1) := by decide +kernel
theorem dX7_link_92 : decode cX7_link 92 = .ok (.aload_n 0, 1) := by decide +kernel
theorem dX7_link_93 : decode cX7_link 93 = .ok (.iload_n 1, 1) := by decide +kernel
theorem dX7_link_94 : decode cX7_link 94 = .ok (.iload_n 2, 1) := by decide +kernel
theorem dX7_link_95 : decode cX7_link 95 = .ok (.iload_n 3, 1) := by decide +kernel
theorem dX7_link_96 : decode cX7_link 96 = .ok (.iconst 0, 1) := by decide +kernel
theorem dX7_link_97 : decode cX7_link 97 = .ok (.invokevirtual 229, 3) := by decide +kernel
theorem dX7_link_100 : decode cX7_link 100 = .ok (.ifCond .eq 11, 3) := by decide +kernel
theorem dX7_link_103 : decode cX7_link 103 = .ok (.aload_n 0, 1) := by decide +kernel
theorem dX7_link_104 : decode cX7_link 104 = .ok (.iload_n 3, 1) := by decide +kernel
theorem dX7_link_105 : decode cX7_link 105 = .ok (.invokevirtual 237, 3) := by decide +kernel
theorem dX7_link_108 : decode cX7_link 108 = .ok (.goto 5, 3) := by decide +kernel
theorem dX7_link_111 : decode cX7_link 111 = .ok (.bipush (-9), 2) := by decide +kernel
theorem dX7_link_113 : decode cX7_link 113 = .ok (.ireturn, 1) := by decide +kernel
theorem dX7_unlink_0 : decode cX7_unlink 0 = .ok (.iconst (-1), 1) := by decide +kernel
theorem dX7_unlink_1 : decode cX7_unlink 1 = .ok (.istore_n 3, 1) := by decide +kernel
theorem dX7_unlink_2 : decode cX7_unlink 2 = .ok (.aload_n 0, 1) := by decide +kernel
theorem dX7_unlink_3 : decode cX7_unlink 3 = .ok (.iload_n 1, 1) := by decide +kernel
theorem dX7_unlink_4 : decode cX7_unlink 4 = .ok (.iload_n 2, 1) := by decide +kernel
theorem dX7_unlink_5 : decode cX7_unlink 5 = .ok (.invokevirtual 219, 3) := by decide +kernel
theorem dX7_unlink_8 : decode cX7_unlink 8 = .ok (.ifCond .eq 50, 3) := by decide +kernel
theorem dX7_unlink_11 : decode cX7_unlink 11 = .ok (.aload_n 0, 1) := by decide +kernel
theorem dX7_unlink_12 : decode cX7_unlink 12 = .ok (.iload_n 1, 1) := by decide +kernel
theorem dX7_unlink_13 : decode cX7_unlink 13 = .ok (.iload_n 2, 1) := by decide +kernel
theorem dX7_unlink_14 : decode cX7_unlink 14 = .ok (.invokevirtual 171, 3) := by decide +kernel
theorem dX7_unlink_17 : decode cX7_unlink 17 = .ok (.istore_n 3, 1) := by decide +kernel
theorem dX7_unlink_18 : decode cX7_unlink 18 = .ok (.aload_n 0, 1) := by decide +kernel
theorem dX7_unlink_19 : decode cX7_unlink 19 = .ok (.iload_n 3, 1) := by decide +kernel
theorem dX7_unlink_20 : decode cX7_unlink 20 = .ok (.iconst (-1), 1) := by decide +kernel
theorem dX7_unlink_21 : decode cX7_unlink 21 = .ok (.if_icmp .eq 29, 3) := by decide +kernel
theorem dX7_unlink_24 : decode cX7_unlink 24 = .ok (.iload_n 3, 1) := by decide +kernel
theorem dX7_unlink_25 : decode cX7_unlink 25 = .ok (.iconst 2, 1) := by decide +kernel
theorem dX7_unlink_26 : decode cX7_unlink 26 = .ok (.irem, 1) := by decide +kernel
theorem dX7_unlink_27 : decode cX7_unlink 27 = .ok (.iconst 1, 1) := by decide +kernel
theorem dX7_unlink_28 : decode cX7_unlink 28 = .ok (.if_icmp .ne 13, 3) := by decide +kernel
theorem dX7_unlink_31 : decode cX7_unlink 31 = .ok (.aload_n 0, 1) := by decide +kernel
theorem dX7_unlink_32 : decode cX7_unlink 32 = .ok (.iload_n 3, 1) := by decide +kernel
theorem dX7_unlink_33 : decode cX7_unlink 33 = .ok (.iconst 2, 1) := by decide +kernel
theorem dX7_unlink_34 : decode cX7_unlink 34 = .ok (.idiv, 1) := by decide +kernel
theorem dX7_unlink_35 : decode cX7_unlink 35 = .ok (.invokevirtual 240, 3) := by decide +kernel
theorem dX7_unlink_38 : decode cX7_unlink 38 = .ok (.ifCond .gt 12, 3) := by decide +kernel
theorem dX7_unlink_41 : decode cX7_unlink 41 = .ok (.aload_n 0, 1) := by decide +kernel
theorem dX7_unlink_42 : decode cX7_unlink 42 = .ok (.iconst 3, 1) := by decide +kernel
theorem dX7_unlink_43 : decode cX7_unlink 43 = .ok (.iconst 0, 1) := by decide +kernel
theorem dX7_unlink_44 : decode cX7_unlink 44 = .ok (.invokevirtual 222, 3) := by decide +kernel
theorem dX7_unlink_47 : decode cX7_unlink 47 = .ok (.ifCond .ne 7, 3) := by decide +kernel
theorem dX7_unlink_50 : decode cX7_unlink 50 = .ok (.iconst 3, 1) := by decide +kernel
theorem dX7_unlink_51 : decode cX7_unlink 51 = .ok (.goto 4, 3) := by decide +kernel
theorem dX7_unlink_54 : decode cX7_unlink 54 = .ok (.iconst 0, 1) := by decide +kernel
theorem dX7_unlink_55 : decode cX7_unlink 55 = .ok (.putfield 127, 3) := by decide +kernel
theorem dX7_unlink_58 : decode cX7_unlink 58 = .ok (.aload_n 0, 1) := by decide +kernel
theorem dX7_unlink_59 : decode cX7_unlink 59 = .ok (.getfield 127, 3) := by decide +kernel
theorem dX7_unlink_62 : decode cX7_unlink 62 = .ok (.ifCond .le 5, 3) := by decide +kernel
theorem dX7_unlink_65 : decode cX7_unlink 65 = .ok (.iconst 0, 1) := by decide +kernel
theorem dX7_unlink_66 : decode cX7_unlink 66 = .ok (.ireturn, 1) := by decide +kernel
theorem dX7_unlink_67 : decode cX7_unlink 67 = .ok (.aload_n 0, 1) := by decide +kernel
theorem dX7_unlink_68 : decode cX7_unlink 68 = .ok (.iload_n 1, 1) := by decide +kernel
theorem dX7_unlink_69 : decode cX7_unlink 69 = .ok (.iload_n 2, 1) := by decide +kernel
