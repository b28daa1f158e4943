theorem dX10_init_0 : decode cX10_init 0 = .ok (.aload_n 0, 1) := by decide +kernel
theorem dX10_init_1 : decode cX10_init 1 = .ok (.invokespecial 1, 3) := by decide +kernel
theorem dX10_init_4 : decode cX10_init 4 = .ok (.aload_n 0, 1) := by decide +kernel
theorem dX10_init_5 : decode cX10_init 5 = .ok (.iconst (-1), 1) := by decide +kernel
theorem dX10_init_6 : decode cX10_init 6 = .ok (.putfield 9, 3) := by decide +kernel
theorem dX10_init_9 : decode cX10_init 9 = .ok (.aload_n 0, 1) := by decide +kernel
theorem dX10_init_10 : decode cX10_init 10 = .ok (.bipush 30, 2) := by decide +kernel
theorem dX10_init_12 : decode cX10_init 12 = .ok (.newarray .int, 2) := by decide +kernel
theorem dX10_init_14 : decode cX10_init 14 = .ok (.putfield 13, 3) := by decide +kernel
theorem dX10_init_17 : decode cX10_init 17 = .ok (.aload_n 0, 1) := by decide +kernel
theorem dX10_init_18 : decode cX10_init 18 = .ok (.bipush 120, 2) := by decide +kernel
theorem dX10_init_20 : decode cX10_init 20 = .ok (.newarray .int, 2) := by decide +kernel
theorem dX10_init_22 : decode cX10_init 22 = .ok (.putfield 17, 3) := by decide +kernel
theorem dX10_init_25 : decode cX10_init 25 = .ok (.aload_n 0, 1) := by decide +kernel
theorem dX10_init_26 : decode cX10_init 26 = .ok (.bipush 120, 2) := by decide +kernel
theorem dX10_init_28 : decode cX10_init 28 = .ok (.newarray .int, 2) := by decide +kernel
theorem dX10_init_30 : decode cX10_init 30 = .ok (.putfield 20, 3) := by decide +kernel
theorem dX10_init_33 : decode cX10_init 33 = .ok (.aload_n 0, 1) := by decide +kernel
theorem dX10_init_34 : decode cX10_init 34 = .ok (.sipush 240, 3) := by decide +kernel
theorem dX10_init_37 : decode cX10_init 37 = .ok (.newarray .int, 2) := by decide +kernel
theorem dX10_init_39 : decode cX10_init 39 = .ok (.putfield 23, 3) := by decide +kernel
theorem dX10_init_42 : decode cX10_init 42 = .ok (.aload_n 0, 1) := by decide +kernel
theorem dX10_init_43 : decode cX10_init 43 = .ok (.bipush 30, 2) := by decide +kernel
theorem dX10_init_45 : decode cX10_init 45 = .ok (.newarray .boolean, 2) := by decide +kernel
theorem dX10_init_47 : decode cX10_init 47 = .ok (.putfield 26, 3) := by decide +kernel
theorem dX10_init_50 : decode cX10_init 50 = .ok (.aload_n 0, 1) := by decide +kernel
theorem dX10_init_51 : decode cX10_init 51 = .ok (.iconst 4, 1) := by decide +kernel
theorem dX10_init_52 : decode cX10_init 52 = .ok (.newarray .int, 2) := by decide +kernel
theorem dX10_init_54 : decode cX10_init 54 = .ok (.putfield 30, 3) := by decide +kernel
theorem dX10_init_57 : decode cX10_init 57 = .ok (.aload_n 0, 1) := by decide +kernel
theorem dX10_init_58 : decode cX10_init 58 = .ok (.iconst 4, 1) := by decide +kernel
theorem dX10_init_59 : decode cX10_init 59 = .ok (.newarray .int, 2) := by decide +kernel
theorem dX10_init_61 : decode cX10_init 61 = .ok (.putfield 33, 3) := by decide +kernel
theorem dX10_init_64 : decode cX10_init 64 = .ok (.aload_n 0, 1) := by decide +kernel
theorem dX10_init_65 : decode cX10_init 65 = .ok (.bipush 40, 2) := by decide +kernel
theorem dX10_init_67 : decode cX10_init 67 = .ok (.newarray .int, 2) := by decide +kernel
theorem dX10_init_69 : decode cX10_init 69 = .ok (.putfield 36, 3) := by decide +kernel
theorem dX10_init_72 : decode cX10_init 72 = .ok (.aload_n 0, 1) := by decide +kernel
theorem dX10_init_73 : decode cX10_init 73 = .ok (.bipush 40, 2) := by decide +kernel
theorem dX10_init_75 : decode cX10_init 75 = .ok (.newarray .int, 2) := by decide +kernel
theorem dX10_init_77 : decode cX10_init 77 = .ok (.putfield 39, 3) := by decide +kernel
theorem dX10_init_80 : decode cX10_init 80 = .ok (.aload_n 0, 1) := by decide +kernel
theorem dX10_init_81 : decode cX10_init 81 = .ok (.bipush 40, 2) := by decide +kernel
theorem dX10_init_83 : decode cX10_init 83 = .ok (.newarray .boolean, 2) := by decide +kernel
theorem dX10_init_85 : decode cX10_init 85 = .ok (.putfield 42, 3) := by decide +kernel
theorem dX10_init_88 : decode cX10_init 88 = .ok (.aload_n 0, 1) := by decide +kernel
theorem dX10_init_89 : decode cX10_init 89 = .ok (.sipush 400, 3) := by decide +kernel
theorem dX10_init_92 : decode cX10_init 92 = .ok (.newarray .int, 2) := by decide +kernel
theorem dX10_init_94 : decode cX10_init 94 = .ok (.putfield 45, 3) := by decide +kernel
theorem dX10_init_97 : decode cX10_init 97 = .ok (.aload_n 0, 1) := by decide +kernel
theorem dX10_init_98 : decode cX10_init 98 = .ok (.sipush 400, 3) := by decide +kernel
theorem dX10_init_101 : decode cX10_init 101 = .ok (.newarray .int, 2) := by decide +kernel
theorem dX10_init_103 : decode cX10_init 103 = .ok (.putfield 48, 3) := by decide +kernel
theorem dX10_init_106 : decode cX10_init 106 = .ok (.aload_n 0, 1) := by decide +kernel
theorem dX10_init_107 : decode cX10_init 107 = .ok (.sipush 400, 3) := by decide +kernel
theorem dX10_init_110 : decode cX10_init 110 = .ok (.newarray .int, 2) := by decide +kernel
theorem dX10_init_112 : decode cX10_init 112 = .ok (.putfield 51, 3) := by decide +kernel
theorem dX10_init_115 : decode cX10_init 115 = .ok (.aload_n 0, 1) := by decide +kernel
theorem dX10_init_116 : decode cX10_init 116 = .ok (.sipush 400, 3) := by decide +kernel
theorem dX10_init_119 : decode cX10_init 119 = .ok (.newarray .int, 2) := by decide +kernel
theorem dX10_init_121 : decode cX10_init 121 = .ok (.putfield 54, 3) := by decide +kernel
theorem dX10_init_124 : decode cX10_init 124 = .ok (.aload_n 0, 1) := by decide +kernel
theorem dX10_init_125 : decode cX10_init 125 = .ok (.sipush 400, 3) := by decide +kernel
theorem dX10_init_128 : decode cX10_init 128 = .ok (.newarray .int, 2) := by decide +kernel
theorem dX10_init_130 : decode cX10_init 130 = .ok (.putfield 57, 3) := by decide +kernel
theorem dX10_init_133 : decode cX10_init 133 = .ok (.aload_n 0, 1) := by decide +kernel
theorem dX10_init_134 : decode cX10_init 134 = .ok (.bipush 8, 2) := by decide +kernel
theorem dX10_init_136 : decode cX10_init 136 = .ok (.newarray .int, 2) := by decide +kernel
theorem dX10_init_138 : decode cX10_init 138 = .ok (.putfield 60, 3) := by decide +kernel
theorem dX10_init_141 : decode cX10_init 141 = .ok (.aload_n 0, 1) := by decide +kernel
theorem dX10_init_142 : decode cX10_init 142 = .ok (.bipush 8, 2) := by decide +kernel
theorem dX10_init_144 : decode cX10_init 144 = .ok (.newarray .int, 2) := by decide +kernel
theorem dX10_init_146 : decode cX10_init 146 = .ok (.putfield 63, 3) := by decide +kernel
theorem dX10_init_149 : decode cX10_init 149 = .ok (.aload_n 0, 1) := by decide +kernel
theorem dX10_init_150 : decode cX10_init 150 = .ok (.sipush 192, 3) := by decide +kernel
theorem dX10_init_153 : decode cX10_init 153 = .ok (.newarray .int, 2) := by decide +kernel
theorem dX10_init_155 : decode cX10_init 155 = .ok (.putfield 66, 3) := by decide +kernel
theorem dX10_init_158 : decode cX10_init 158 = .ok (.aload_n 0, 1) := by decide +kernel
theorem dX10_init_159 : decode cX10_init 159 = .ok (.sipush 192, 3) := by decide +kernel
theorem dX10_init_162 : decode cX10_init 162 = .ok (.newarray .int, 2) := by decide +kernel
theorem dX10_init_164 : decode cX10_init 164 = .ok (.putfield 69, 3) := by decide +kernel
theorem dX10_init_167 : decode cX10_init 167 = .ok (.aload_n 0, 1) := by decide +kernel
theorem dX10_init_168 : decode cX10_init 168 = .ok (.sipush 192, 3) := by decide +kernel
theorem dX10_init_171 : decode cX10_init 171 = .ok (.newarray .int, 2) := by decide +kernel
theorem dX10_init_173 : decode cX10_init 173 = .ok (.putfield 72, 3) := by decide +kernel
theorem dX10_init_176 : decode cX10_init 176 = .ok (.aload_n 0, 1) := by decide +kernel
theorem dX10_init_177 : decode cX10_init 177 = .ok (.sipush 192, 3) := by decide +kernel
theorem dX10_init_180 : decode cX10_init 180 = .ok (.newarray .int, 2) := by decide +kernel
theorem dX10_init_182 : decode cX10_init 182 = .ok (.putfield 75, 3) := by decide +kernel
theorem dX10_init_185 : decode cX10_init 185 = .ok (.aload_n 0, 1) := by decide +kernel
theorem dX10_init_186 : decode cX10_init 186 = .ok (.sipush 192, 3) := by decide +kernel
theorem dX10_init_189 : decode cX10_init 189 = .ok (.newarray .int, 2) := by decide +kernel
theorem dX10_init_191 : decode cX10_init 191 = .ok (.putfield 78, 3) := by decide +kernel
theorem dX10_init_194 : decode cX10_init 194 = .ok (.aload_n 0, 1) := by decide +kernel
theorem dX10_init_195 : decode cX10_init 195 = .ok (.sipush 192, 3) := by decide +kernel
theorem dX10_init_198 : decode cX10_init 198 = .ok (.newarray .int, 2) := by decide +kernel
theorem dX10_init_200 : decode cX10_init 200 = .ok (.putfield 81, 3) := by decide +kernel
theorem dX10_init_203 : decode cX10_init 203 = .ok (.aload_n 0, 1) := by decide +kernel
theorem dX10_init_204 : decode cX10_init 204 = .ok (.sipush 192, 3) := by decide +kernel
theorem dX10_init_207 : decode cX10_init 207 = .ok (.newarray .int, 2) := by decide +kernel
theorem dX10_init_209 : decode cX10_init 209 = .ok (.putfield 84, 3) := by decide +kernel
theorem dX10_init_212 : decode cX10_init 212 = .ok (.aload_n 0, 1) := by decide +kernel
theorem dX10_init_213 : decode cX10_init 213 = .ok (.sipush 192, 3) := by decide +kernel
theorem dX10_init_216 : decode cX10_init 216 = .ok (.newarray .int, 2) := by decide +kernel
theorem dX10_init_218 : decode cX10_init 218 = .ok (.putfield 87, 3) := by decide +kernel
theorem dX10_init_221 : decode cX10_init 221 = .ok (.aload_n 0, 1) := by decide +kernel
theorem dX10_init_222 : decode cX10_init 222 = .ok (.sipush 192, 3) := by decide +kernel
theorem dX10_init_225 : decode cX10_init 225 = .ok (.newarray .int, 2) := by decide +kernel
theorem dX10_init_227 : decode cX10_init 227 = .ok (.putfield 90, 3) := by decide +kernel
theorem dX10_init_230 : decode cX10_init 230 = .ok (.aload_n 0, 1) := by decide +kernel
theorem dX10_init_231 : decode cX10_init 231 = .ok (.sipush 768, 3) := by decide +kernel
theorem dX10_init_234 : decode cX10_init 234 = .ok (.newarray .int, 2) := by decide +kernel
theorem dX10_init_236 : decode cX10_init 236 = .ok (.putfield 93, 3) := by decide +kernel
theorem dX10_init_239 : decode cX10_init 239 = .ok (.aload_n 0, 1) := by decide +kernel
theorem dX10_init_240 : decode cX10_init 240 = .ok (.sipush 768, 3) := by decide +kernel
theorem dX10_init_243 : decode cX10_init 243 = .ok (.newarray .int, 2) := by decide +kernel
theorem dX10_init_245 : decode cX10_init 245 = .ok (.putfield 96, 3) := by decide +kernel
theorem dX10_init_248 : decode cX10_init 248 = .ok (.aload_n 0, 1) := by decide +kernel
theorem dX10_init_249 : decode cX10_init 249 = .ok (.sipush 768, 3) := by decide +kernel
theorem dX10_init_252 : decode cX10_init 252 = .ok (.newarray .boolean, 2) := by decide +kernel
theorem dX10_init_254 : decode cX10_init 254 = .ok (.putfield 99, 3) := by decide +kernel
theorem dX10_init_257 : decode cX10_init 257 = .ok (.aload_n 0, 1) := by decide +kernel
theorem dX10_init_258 : decode cX10_init 258 = .ok (.sipush 1000, 3) := by decide +kernel
theorem dX10_init_261 : decode cX10_init 261 = .ok (.newarray .int, 2) := by decide +kernel
theorem dX10_init_263 : decode cX10_init 263 = .ok (.putfield 102, 3) := by decide +kernel
theorem dX10_init_266 : decode cX10_init 266 = .ok (.aload_n 0, 1) := by decide +kernel
theorem dX10_init_267 : decode cX10_init 267 = .ok (.bipush 24, 2) := by decide +kernel
theorem dX10_init_269 : decode cX10_init 269 = .ok (.newarray .int, 2) := by decide +kernel
theorem dX10_init_271 : decode cX10_init 271 = .ok (.putfield 105, 3) := by decide +kernel
theorem dX10_init_274 : decode cX10_init 274 = .ok (.aload_n 0, 1) := by decide +kernel
theorem dX10_init_275 : decode cX10_init 275 = .ok (.bipush (-2), 2) := by decide +kernel
theorem dX10_init_277 : decode cX10_init 277 = .ok (.putfield 108, 3) := by decide +kernel
theorem dX10_init_280 : decode cX10_init 280 = .ok (.aload_n 0, 1) := by decide +kernel
theorem dX10_init_281 : decode cX10_init 281 = .ok (.bipush 30, 2) := by decide +kernel
theorem dX10_init_283 : decode cX10_init 283 = .ok (.newarray .boolean, 2) := by decide +kernel
theorem dX10_init_285 : decode cX10_init 285 = .ok (.putfield 111, 3) := by decide +kernel
theorem dX10_init_288 : decode cX10_init 288 = .ok (.aload_n 0, 1) := by decide +kernel
theorem dX10_init_289 : decode cX10_init 289 = .ok (.sipush 240, 3) := by decide +kernel
theorem dX10_init_292 : decode cX10_init 292 = .ok (.newarray .int, 2) := by decide +kernel
theorem dX10_init_294 : decode cX10_init 294 = .ok (.putfield 114, 3) := by decide +kernel
theorem dX10_init_297 : decode cX10_init 297 = .ok (.aload_n 0, 1) := by decide +kernel
theorem dX10_init_298 : decode cX10_init 298 = .ok (.sipush 240, 3) := by decide +kernel
theorem dX10_init_301 : decode cX10_init 301 = .ok (.newarray .int, 2) := by decide +kernel
theorem dX10_init_303 : decode cX10_init 303 = .ok (.putfield 117, 3) := by decide +kernel
theorem dX10_init_306 : decode cX10_init 306 = .ok (.aload_n 0, 1) := by decide +kernel
theorem dX10_init_307 : decode cX10_init 307 = .ok (.sipush 240, 3) := by decide +kernel
theorem dX10_init_310 : decode cX10_init 310 = .ok (.newarray .int, 2) := by decide +kernel
theorem dX10_init_312 : decode cX10_init 312 = .ok (.putfield 120, 3) := by decide +kernel
theorem dX10_init_315 : decode cX10_init 315 = .ok (.aload_n 0, 1) := by decide +kernel
theorem dX10_init_316 : decode cX10_init 316 = .ok (.bipush 30, 2) := by decide +kernel
theorem dX10_init_318 : decode cX10_init 318 = .ok (.newarray .int, 2) := by decide +kernel
theorem dX10_init_320 : decode cX10_init 320 = .ok (.putfield 123, 3) := by decide +kernel
theorem dX10_init_323 : decode cX10_init 323 = .ok (.iconst 0, 1) := by decide +kernel
theorem dX10_init_324 : decode cX10_init 324 = .ok (.istore_n 1, 1) := by decide +kernel
theorem dX10_init_325 : decode cX10_init 325 = .ok (.iload_n 1, 1) := by decide +kernel
theorem dX10_init_326 : decode cX10_init 326 = .ok (.iconst 4, 1) := by decide +kernel
theorem dX10_init_327 : decode cX10_init 327 = .ok (.if_icmp .ge 16, 3) := by decide +kernel
theorem dX10_init_330 : decode cX10_init 330 = .ok (.aload_n 0, 1) := by decide +kernel
theorem dX10_init_331 : decode cX10_init 331 = .ok (.getfield 30, 3) := by decide +kernel
theorem dX10_init_334 : decode cX10_init 334 = .ok (.iload_n 1, 1) := by decide +kernel
theorem dX10_init_335 : decode cX10_init 335 = .ok (.iconst 1, 1) := by decide +kernel
theorem dX10_init_336 : decode cX10_init 336 = .ok (.iastore, 1) := by decide +kernel
theorem dX10_init_337 : decode cX10_init 337 = .ok (.iinc 1 1, 3) := by decide +kernel
theorem dX10_init_340 : decode cX10_init 340 = .ok (.goto (-15), 3) := by decide +kernel
theorem dX10_init_343 : decode cX10_init 343 = .ok (.iconst 0, 1) := by decide +kernel
theorem dX10_init_344 : decode cX10_init 344 = .ok (.istore_n 1, 1) := by decide +kernel
theorem dX10_init_345 : decode cX10_init 345 = .ok (.iload_n 1, 1) := by decide +kernel
theorem dX10_init_346 : decode cX10_init 346 = .ok (.bipush 120, 2) := by decide +kernel
theorem dX10_init_348 : decode cX10_init 348 = .ok (.if_icmp .ge 16, 3) := by decide +kernel
theorem dX10_init_351 : decode cX10_init 351 = .ok (.aload_n 0, 1) := by decide +kernel
theorem dX10_init_352 : decode cX10_init 352 = .ok (.getfield 20, 3) := by decide +kernel
theorem dX10_init_355 : decode cX10_init 355 = .ok (.iload_n 1, 1) := by decide +kernel
theorem dX10_init_356 : decode cX10_init 356 = .ok (.iconst (-1), 1) := by decide +kernel
theorem dX10_init_357 : decode cX10_init 357 = .ok (.iastore, 1) := by decide +kernel
theorem dX10_init_358 : decode cX10_init 358 = .ok (.iinc 1 1, 3) := by decide +kernel
theorem dX10_init_361 : decode cX10_init 361 = .ok (.goto (-16), 3) := by decide +kernel
theorem dX10_init_364 : decode cX10_init 364 = .ok (.return_, 1) := by decide +kernel
theorem dX10_thrown_0 : decode cX10_thrown 0 = .ok (.aload_n 0, 1) := by decide +kernel
theorem dX10_thrown_1 : decode cX10_thrown 1 = .ok (.getfield 126, 3) := by decide +kernel
theorem dX10_thrown_4 : decode cX10_thrown 4 = .ok (.ireturn, 1) := by decide +kernel
theorem dX10_fail_0 : decode cX10_fail 0 = .ok (.aload_n 0, 1) := by decide +kernel
theorem dX10_fail_1 : decode cX10_fail 1 = .ok (.iload_n 1, 1) := by decide +kernel
theorem dX10_fail_2 : decode cX10_fail 2 = .ok (.putfield 126, 3) := by decide +kernel
theorem dX10_fail_5 : decode cX10_fail 5 = .ok (.iconst 0, 1) := by decide +kernel
theorem dX10_fail_6 : decode cX10_fail 6 = .ok (.ireturn, 1) := by decide +kernel
theorem dX10_isLeap_0 : decode cX10_isLeap 0 = .ok (.iload_n 0, 1) := by decide +kernel
theorem dX10_isLeap_1 : decode cX10_isLeap 1 = .ok (.iconst 4, 1) := by decide +kernel
theorem dX10_isLeap_2 : decode cX10_isLeap 2 = .ok (.irem, 1) := by decide +kernel
theorem dX10_isLeap_3 : decode cX10_isLeap 3 = .ok (.ifCond .ne 22, 3) := by decide +kernel
theorem dX10_isLeap_6 : decode cX10_isLeap 6 = .ok (.iload_n 0, 1) := by decide +kernel
theorem dX10_isLeap_7 : decode cX10_isLeap 7 = .ok (.bipush 100, 2) := by decide +kernel
theorem dX10_isLeap_9 : decode cX10_isLeap 9 = .ok (.irem, 1) := by decide +kernel
theorem dX10_isLeap_10 : decode cX10_isLeap 10 = .ok (.ifCond .ne 11, 3) := by decide +kernel
theorem dX10_isLeap_13 : decode cX10_isLeap 13 = .ok (.iload_n 0, 1) := by decide +kernel
theorem dX10_isLeap_14 : decode cX10_isLeap 14 = .ok (.sipush 400, 3) := by decide +kernel
theorem dX10_isLeap_17 : decode cX10_isLeap 17 = .ok (.irem, 1) := by decide +kernel
theorem dX10_isLeap_18 : decode cX10_isLeap 18 = .ok (.ifCond .ne 7, 3) := by decide +kernel
theorem dX10_isLeap_21 : decode cX10_isLeap 21 = .ok (.iconst 1, 1) := by decide +kernel
theorem dX10_isLeap_22 : decode cX10_isLeap 22 = .ok (.goto 4, 3) := by decide +kernel
theorem dX10_isLeap_25 : decode cX10_isLeap 25 = .ok (.iconst 0, 1) := by decide +kernel
theorem dX10_isLeap_26 : decode cX10_isLeap 26 = .ok (.ireturn, 1) := by decide +kernel
theorem dX10_leaps_0 : decode cX10_leaps 0 = .ok (.iload_n 0, 1) := by decide +kernel
theorem dX10_leaps_1 : decode cX10_leaps 1 = .ok (.iconst 4, 1) := by decide +kernel
theorem dX10_leaps_2 : decode cX10_leaps 2 = .ok (.idiv, 1) := by decide +kernel
theorem dX10_leaps_3 : decode cX10_leaps 3 = .ok (.iload_n 0, 1) := by decide +kernel
theorem dX10_leaps_4 : decode cX10_leaps 4 = .ok (.bipush 100, 2) := by decide +kernel
theorem dX10_leaps_6 : decode cX10_leaps 6 = .ok (.idiv, 1) := by decide +kernel
theorem dX10_leaps_7 : decode cX10_leaps 7 = .ok (.isub, 1) := by decide +kernel
theorem dX10_leaps_8 : decode cX10_leaps 8 = .ok (.iload_n 0, 1) := by decide +kernel
theorem dX10_leaps_9 : decode cX10_leaps 9 = .ok (.sipush 400, 3) := by decide +kernel
theorem dX10_leaps_12 : decode cX10_leaps 12 = .ok (.idiv, 1) := by decide +kernel
theorem dX10_leaps_13 : decode cX10_leaps 13 = .ok (.iadd, 1) := by decide +kernel
theorem dX10_leaps_14 : decode cX10_leaps 14 = .ok (.ireturn, 1) := by decide +kernel
theorem dX10_yearDay_0 : decode cX10_yearDay 0 = .ok (.sipush 365, 3) := by decide +kernel
theorem dX10_yearDay_3 : decode cX10_yearDay 3 = .ok (.iload_n 0, 1) := by decide +kernel
theorem dX10_yearDay_4 : decode cX10_yearDay 4 = .ok (.sipush 2000, 3) := by decide +kernel
theorem dX10_yearDay_7 : decode cX10_yearDay 7 = .ok (.isub, 1) := by decide +kernel
theorem dX10_yearDay_8 : decode cX10_yearDay 8 = .ok (.imul, 1) := by decide +kernel
theorem dX10_yearDay_9 : decode cX10_yearDay 9 = .ok (.iload_n 0, 1) := by decide +kernel
theorem dX10_yearDay_10 : decode cX10_yearDay 10 = .ok (.iconst 1, 1) := by decide +kernel
theorem dX10_yearDay_11 : decode cX10_yearDay 11 = .ok (.isub, 1) := by decide +kernel
theorem dX10_yearDay_12 : decode cX10_yearDay 12 = .ok (.invokestatic 129, 3) := by decide +kernel
theorem dX10_yearDay_15 : decode cX10_yearDay 15 = .ok (.iadd, 1) := by decide +kernel
theorem dX10_yearDay_16 : decode cX10_yearDay 16 = .ok (.sipush 1999, 3) := by decide +kernel
theorem dX10_yearDay_19 : decode cX10_yearDay 19 = .ok (.invokestatic 129, 3) := by decide +kernel
theorem dX10_yearDay_22 : decode cX10_yearDay 22 = .ok (.isub, 1) := by decide +kernel
theorem dX10_yearDay_23 : decode cX10_yearDay 23 = .ok (.ireturn, 1) := by decide +kernel
theorem dX10_monthDays_0 : decode cX10_monthDays 0 = .ok (.iload_n 1, 1) := by decide +kernel
theorem dX10_monthDays_1 : decode cX10_monthDays 1 = .ok (.iconst 2, 1) := by decide +kernel
theorem dX10_monthDays_2 : decode cX10_monthDays 2 = .ok (.if_icmp .ne 20, 3) := by decide +kernel
theorem dX10_monthDays_5 : decode cX10_monthDays 5 = .ok (.iload_n 0, 1) := by decide +kernel
theorem dX10_monthDays_6 : decode cX10_monthDays 6 = .ok (.invokestatic 133, 3) := by decide +kernel
theorem dX10_monthDays_9 : decode cX10_monthDays 9 = .ok (.ifCond .eq 8, 3) := by decide +kernel
theorem dX10_monthDays_12 : decode cX10_monthDays 12 = .ok (.bipush 29, 2) := by decide +kernel
theorem dX10_monthDays_14 : decode cX10_monthDays 14 = .ok (.goto 38, 3) := by decide +kernel
theorem dX10_monthDays_17 : decode cX10_monthDays 17 = .ok (.bipush 28, 2) := by decide +kernel
theorem dX10_monthDays_19 : decode cX10_monthDays 19 = .ok (.goto 33, 3) := by decide +kernel
theorem dX10_monthDays_22 : decode cX10_monthDays 22 = .ok (.iload_n 1, 1) := by decide +kernel
theorem dX10_monthDays_23 : decode cX10_monthDays 23 = .ok (.iconst 4, 1) := by decide +kernel
theorem dX10_monthDays_24 : decode cX10_monthDays 24 = .ok (.if_icmp .eq 21, 3) := by decide +kernel
theorem dX10_monthDays_27 : decode cX10_monthDays 27 = .ok (.iload_n 1, 1) := by decide +kernel
theorem dX10_monthDays_28 : decode cX10_monthDays 28 = .ok (.bipush 6, 2) := by decide +kernel
theorem dX10_monthDays_30 : decode cX10_monthDays 30 = .ok (.if_icmp .eq 15, 3) := by decide +kernel
theorem dX10_monthDays_33 : decode cX10_monthDays 33 = .ok (.iload_n 1, 1) := by decide +kernel
theorem dX10_monthDays_34 : decode cX10_monthDays 34 = .ok (.bipush 9, 2) := by decide +kernel
theorem dX10_monthDays_36 : decode cX10_monthDays 36 = .ok (.if_icmp .eq 9, 3) := by decide +kernel
theorem dX10_monthDays_39 : decode cX10_monthDays 39 = .ok (.iload_n 1, 1) := by decide +kernel
theorem dX10_monthDays_40 : decode cX10_monthDays 40 = .ok (.bipush 11, 2) := by decide +kernel
theorem dX10_monthDays_42 : decode cX10_monthDays 42 = .ok (.if_icmp .ne 8, 3) := by decide +kernel
theorem dX10_monthDays_45 : decode cX10_monthDays 45 = .ok (.bipush 30, 2) := by decide +kernel
theorem dX10_monthDays_47 : decode cX10_monthDays 47 = .ok (.goto 5, 3) := by decide +kernel
theorem dX10_monthDays_50 : decode cX10_monthDays 50 = .ok (.bipush 31, 2) := by decide +kernel
theorem dX10_monthDays_52 : decode cX10_monthDays 52 = .ok (.ireturn, 1) := by decide +kernel
theorem dX10_dayOf_0 : decode cX10_dayOf 0 = .ok (.iload_n 0, 1) := by decide +kernel
theorem dX10_dayOf_1 : decode cX10_dayOf 1 = .ok (.invokestatic 137, 3) := by decide +kernel
theorem dX10_dayOf_4 : decode cX10_dayOf 4 = .ok (.iload_n 2, 1) := by decide +kernel
theorem dX10_dayOf_5 : decode cX10_dayOf 5 = .ok (.iadd, 1) := by decide +kernel
theorem dX10_dayOf_6 : decode cX10_dayOf 6 = .ok (.iconst 1, 1) := by decide +kernel
theorem dX10_dayOf_7 : decode cX10_dayOf 7 = .ok (.isub, 1) := by decide +kernel
theorem dX10_dayOf_8 : decode cX10_dayOf 8 = .ok (.istore_n 3, 1) := by decide +kernel
theorem dX10_dayOf_9 : decode cX10_dayOf 9 = .ok (.iconst 1, 1) := by decide +kernel
theorem dX10_dayOf_10 : decode cX10_dayOf 10 = .ok (.istore 4, 2) := by decide +kernel
theorem dX10_dayOf_12 : decode cX10_dayOf 12 = .ok (.iload 4, 2) := by decide +kernel
theorem dX10_dayOf_14 : decode cX10_dayOf 14 = .ok (.iload_n 1, 1) := by decide +kernel
theorem dX10_dayOf_15 : decode cX10_dayOf 15 = .ok (.if_icmp .ge 18, 3) := by decide +kernel
theorem dX10_dayOf_18 : decode cX10_dayOf 18 = .ok (.iload_n 3, 1) := by decide +kernel
theorem dX10_dayOf_19 : decode cX10_dayOf 19 = .ok (.iload_n 0, 1) := by decide +kernel
theorem dX10_dayOf_20 : decode cX10_dayOf 20 = .ok (.iload 4, 2) := by decide +kernel
theorem dX10_dayOf_22 : decode cX10_dayOf 22 = .ok (.invokestatic 140, 3) := by decide +kernel
theorem dX10_dayOf_25 : decode cX10_dayOf 25 = .ok (.iadd, 1) := by decide +kernel
theorem dX10_dayOf_26 : decode cX10_dayOf 26 = .ok (.istore_n 3, 1) := by decide +kernel
theorem dX10_dayOf_27 : decode cX10_dayOf 27 = .ok (.iinc 4 1, 3) := by decide +kernel
theorem dX10_dayOf_30 : decode cX10_dayOf 30 = .ok (.goto (-18), 3) := by decide +kernel
theorem dX10_dayOf_33 : decode cX10_dayOf 33 = .ok (.iload_n 3, 1) := by decide +kernel
theorem dX10_dayOf_34 : decode cX10_dayOf 34 = .ok (.ireturn, 1) := by decide +kernel
theorem dX10_isDay_0 : decode cX10_isDay 0 = .ok (.iload_n 0, 1) := by decide +kernel
theorem dX10_isDay_1 : decode cX10_isDay 1 = .ok (.ifCond .lt 13, 3) := by decide +kernel
theorem dX10_isDay_4 : decode cX10_isDay 4 = .ok (.iload_n 0, 1) := by decide +kernel
theorem dX10_isDay_5 : decode cX10_isDay 5 = .ok (.ldc 144, 2) := by decide +kernel
theorem dX10_isDay_7 : decode cX10_isDay 7 = .ok (.if_icmp .gt 7, 3) := by decide +kernel
theorem dX10_isDay_10 : decode cX10_isDay 10 = .ok (.iconst 1, 1) := by decide +kernel
theorem dX10_isDay_11 : decode cX10_isDay 11 = .ok (.goto 4, 3) := by decide +kernel
theorem dX10_isDay_14 : decode cX10_isDay 14 = .ok (.iconst 0, 1) := by decide +kernel
theorem dX10_isDay_15 : decode cX10_isDay 15 = .ok (.ireturn, 1) := by decide +kernel
theorem dX10_yearOf_0 : decode cX10_yearOf 0 = .ok (.sipush 2000, 3) := by decide +kernel
theorem dX10_yearOf_3 : decode cX10_yearOf 3 = .ok (.iload_n 0, 1) := by decide +kernel
theorem dX10_yearOf_4 : decode cX10_yearOf 4 = .ok (.sipush 366, 3) := by decide +kernel
theorem dX10_yearOf_7 : decode cX10_yearOf 7 = .ok (.idiv, 1) := by decide +kernel
theorem dX10_yearOf_8 : decode cX10_yearOf 8 = .ok (.iadd, 1) := by decide +kernel
theorem dX10_yearOf_9 : decode cX10_yearOf 9 = .ok (.istore_n 1, 1) := by decide +kernel
theorem dX10_yearOf_10 : decode cX10_yearOf 10 = .ok (.iload_n 1, 1) := by decide +kernel
theorem dX10_yearOf_11 : decode cX10_yearOf 11 = .ok (.iconst 1, 1) := by decide +kernel
theorem dX10_yearOf_12 : decode cX10_yearOf 12 = .ok (.iadd, 1) := by decide +kernel
theorem dX10_yearOf_13 : decode cX10_yearOf 13 = .ok (.invokestatic 137, 3) := by decide +kernel
theorem dX10_yearOf_16 : decode cX10_yearOf 16 = .ok (.iload_n 0, 1) := by decide +kernel
theorem dX10_yearOf_17 : decode cX10_yearOf 17 = .ok (.if_icmp .gt 9, 3) := by decide +kernel
theorem dX10_yearOf_20 : decode cX10_yearOf 20 = .ok (.iinc 1 1, 3) := by decide +kernel
theorem dX10_yearOf_23 : decode cX10_yearOf 23 = .ok (.goto (-13), 3) := by decide +kernel
theorem dX10_yearOf_26 : decode cX10_yearOf 26 = .ok (.iload_n 1, 1) := by decide +kernel
theorem dX10_yearOf_27 : decode cX10_yearOf 27 = .ok (.ireturn, 1) := by decide +kernel
theorem dX10_monthOf_0 : decode cX10_monthOf 0 = .ok (.iload_n 0, 1) := by decide +kernel
theorem dX10_monthOf_1 : decode cX10_monthOf 1 = .ok (.invokestatic 145, 3) := by decide +kernel
theorem dX10_monthOf_4 : decode cX10_monthOf 4 = .ok (.istore_n 1, 1) := by decide +kernel
theorem dX10_monthOf_5 : decode cX10_monthOf 5 = .ok (.iconst 1, 1) := by decide +kernel
theorem dX10_monthOf_6 : decode cX10_monthOf 6 = .ok (.istore_n 2, 1) := by decide +kernel
theorem dX10_monthOf_7 : decode cX10_monthOf 7 = .ok (.iload_n 2, 1) := by decide +kernel
theorem dX10_monthOf_8 : decode cX10_monthOf 8 = .ok (.bipush 12, 2) := by decide +kernel
theorem dX10_monthOf_10 : decode cX10_monthOf 10 = .ok (.if_icmp .ge 21, 3) := by decide +kernel
theorem dX10_monthOf_13 : decode cX10_monthOf 13 = .ok (.iload_n 1, 1) := by decide +kernel
theorem dX10_monthOf_14 : decode cX10_monthOf 14 = .ok (.iload_n 2, 1) := by decide +kernel
theorem dX10_monthOf_15 : decode cX10_monthOf 15 = .ok (.iconst 1, 1) := by decide +kernel
theorem dX10_monthOf_16 : decode cX10_monthOf 16 = .ok (.iadd, 1) := by decide +kernel
theorem dX10_monthOf_17 : decode cX10_monthOf 17 = .ok (.iconst 1, 1) := by decide +kernel
theorem dX10_monthOf_18 : decode cX10_monthOf 18 = .ok (.invokestatic 148, 3) := by decide +kernel
theorem dX10_monthOf_21 : decode cX10_monthOf 21 = .ok (.iload_n 0, 1) := by decide +kernel
theorem dX10_monthOf_22 : decode cX10_monthOf 22 = .ok (.if_icmp .gt 9, 3) := by decide +kernel
theorem dX10_monthOf_25 : decode cX10_monthOf 25 = .ok (.iinc 2 1, 3) := by decide +kernel
theorem dX10_monthOf_28 : decode cX10_monthOf 28 = .ok (.goto (-21), 3) := by decide +kernel
theorem dX10_monthOf_31 : decode cX10_monthOf 31 = .ok (.iload_n 2, 1) := by decide +kernel
theorem dX10_monthOf_32 : decode cX10_monthOf 32 = .ok (.ireturn, 1) := by decide +kernel
theorem dX10_day_0 : decode cX10_day 0 = .ok (.aload_n 0, 1) := by decide +kernel
theorem dX10_day_1 : decode cX10_day 1 = .ok (.iconst 0, 1) := by decide +kernel
theorem dX10_day_2 : decode cX10_day 2 = .ok (.putfield 126, 3) := by decide +kernel
theorem dX10_day_5 : decode cX10_day 5 = .ok (.iload_n 1, 1) := by decide +kernel
theorem dX10_day_6 : decode cX10_day 6 = .ok (.sipush 2000, 3) := by decide +kernel
theorem dX10_day_9 : decode cX10_day 9 = .ok (.if_icmp .lt 46, 3) := by decide +kernel
theorem dX10_day_12 : decode cX10_day 12 = .ok (.iload_n 1, 1) := by decide +kernel
theorem dX10_day_13 : decode cX10_day 13 = .ok (.sipush 2600, 3) := by decide +kernel
theorem dX10_day_16 : decode cX10_day 16 = .ok (.if_icmp .gt 39, 3) := by decide +kernel
theorem dX10_day_19 : decode cX10_day 19 = .ok (.iload_n 2, 1) := by decide +kernel
theorem dX10_day_20 : decode cX10_day 20 = .ok (.iconst 1, 1) := by decide +kernel
theorem dX10_day_21 : decode cX10_day 21 = .ok (.if_icmp .lt 34, 3) := by decide +kernel
theorem dX10_day_24 : decode cX10_day 24 = .ok (.iload_n 2, 1) := by decide +kernel
theorem dX10_day_25 : decode cX10_day 25 = .ok (.bipush 12, 2) := by decide +kernel
theorem dX10_day_27 : decode cX10_day 27 = .ok (.if_icmp .gt 28, 3) := by decide +kernel
theorem dX10_day_30 : decode cX10_day 30 = .ok (.iload_n 3, 1) := by decide +kernel
theorem dX10_day_31 : decode cX10_day 31 = .ok (.iconst 1, 1) := by decide +kernel
theorem dX10_day_32 : decode cX10_day 32 = .ok (.if_icmp .lt 23, 3) := by decide +kernel
theorem dX10_day_35 : decode cX10_day 35 = .ok (.iload_n 3, 1) := by decide +kernel
theorem dX10_day_36 : decode cX10_day 36 = .ok (.iload_n 1, 1) := by decide +kernel
theorem dX10_day_37 : decode cX10_day 37 = .ok (.iload_n 2, 1) := by decide +kernel
theorem dX10_day_38 : decode cX10_day 38 = .ok (.invokestatic 140, 3) := by decide +kernel
theorem dX10_day_41 : decode cX10_day 41 = .ok (.if_icmp .gt 14, 3) := by decide +kernel
theorem dX10_day_44 : decode cX10_day 44 = .ok (.iload_n 1, 1) := by decide +kernel
theorem dX10_day_45 : decode cX10_day 45 = .ok (.iload_n 2, 1) := by decide +kernel
theorem dX10_day_46 : decode cX10_day 46 = .ok (.iload_n 3, 1) := by decide +kernel
theorem dX10_day_47 : decode cX10_day 47 = .ok (.invokestatic 148, 3) := by decide +kernel
theorem dX10_day_50 : decode cX10_day 50 = .ok (.ldc 144, 2) := by decide +kernel
theorem dX10_day_52 : decode cX10_day 52 = .ok (.if_icmp .le 9, 3) := by decide +kernel
theorem dX10_day_55 : decode cX10_day 55 = .ok (.aload_n 0, 1) := by decide +kernel
theorem dX10_day_56 : decode cX10_day 56 = .ok (.iconst 1, 1) := by decide +kernel
theorem dX10_day_57 : decode cX10_day 57 = .ok (.invokevirtual 152, 3) := by decide +kernel
theorem dX10_day_60 : decode cX10_day 60 = .ok (.ireturn, 1) := by decide +kernel
theorem dX10_day_61 : decode cX10_day 61 = .ok (.iload_n 1, 1) := by decide +kernel
theorem dX10_day_62 : decode cX10_day 62 = .ok (.iload_n 2, 1) := by decide +kernel
theorem dX10_day_63 : decode cX10_day 63 = .ok (.iload_n 3, 1) := by decide +kernel
theorem dX10_day_64 : decode cX10_day 64 = .ok (.invokestatic 148, 3) := by decide +kernel
theorem dX10_day_67 : decode cX10_day 67 = .ok (.ireturn, 1) := by decide +kernel
theorem dX10_date_0 : decode cX10_date 0 = .ok (.aload_n 0, 1) := by decide +kernel
theorem dX10_date_1 : decode cX10_date 1 = .ok (.iconst 0, 1) := by decide +kernel
theorem dX10_date_2 : decode cX10_date 2 = .ok (.putfield 126, 3) := by decide +kernel
theorem dX10_date_5 : decode cX10_date 5 = .ok (.iload_n 1, 1) := by decide +kernel
theorem dX10_date_6 : decode cX10_date 6 = .ok (.invokestatic 155, 3) := by decide +kernel
theorem dX10_date_9 : decode cX10_date 9 = .ok (.ifCond .eq 12, 3) := by decide +kernel
theorem dX10_date_12 : decode cX10_date 12 = .ok (.iload_n 2, 1) := by decide +kernel
theorem dX10_date_13 : decode cX10_date 13 = .ok (.ifCond .lt 8, 3) := by decide +kernel
theorem dX10_date_16 : decode cX10_date 16 = .ok (.iload_n 2, 1) := by decide +kernel
theorem dX10_date_17 : decode cX10_date 17 = .ok (.iconst 2, 1) := by decide +kernel
theorem dX10_date_18 : decode cX10_date 18 = .ok (.if_icmp .le 9, 3) := by decide +kernel
theorem dX10_date_21 : decode cX10_date 21 = .ok (.aload_n 0, 1) := by decide +kernel
theorem dX10_date_22 : decode cX10_date 22 = .ok (.iconst 1, 1) := by decide +kernel
theorem dX10_date_23 : decode cX10_date 23 = .ok (.invokevirtual 152, 3) := by decide +kernel
theorem dX10_date_26 : decode cX10_date 26 = .ok (.ireturn, 1) := by decide +kernel
theorem dX10_date_27 : decode cX10_date 27 = .ok (.iload_n 1, 1) := by decide +kernel
theorem dX10_date_28 : decode cX10_date 28 = .ok (.invokestatic 145, 3) := by decide +kernel
theorem dX10_date_31 : decode cX10_date 31 = .ok (.istore_n 3, 1) := by decide +kernel
theorem dX10_date_32 : decode cX10_date 32 = .ok (.iload_n 1, 1) := by decide +kernel
theorem dX10_date_33 : decode cX10_date 33 = .ok (.invokestatic 158, 3) := by decide +kernel
theorem dX10_date_36 : decode cX10_date 36 = .ok (.istore 4, 2) := by decide +kernel
theorem dX10_date_38 : decode cX10_date 38 = .ok (.iload_n 2, 1) := by decide +kernel
theorem dX10_date_39 : decode cX10_date 39 = .ok (.ifCond .ne 7, 3) := by decide +kernel
theorem dX10_date_42 : decode cX10_date 42 = .ok (.iload_n 3, 1) := by decide +kernel
theorem dX10_date_43 : decode cX10_date 43 = .ok (.goto 24, 3) := by decide +kernel
theorem dX10_date_46 : decode cX10_date 46 = .ok (.iload_n 2, 1) := by decide +kernel
theorem dX10_date_47 : decode cX10_date 47 = .ok (.iconst 1, 1) := by decide +kernel
theorem dX10_date_48 : decode cX10_date 48 = .ok (.if_icmp .ne 8, 3) := by decide +kernel
theorem dX10_date_51 : decode cX10_date 51 = .ok (.iload 4, 2) := by decide +kernel
theorem dX10_date_53 : decode cX10_date 53 = .ok (.goto 14, 3) := by decide +kernel
theorem dX10_date_56 : decode cX10_date 56 = .ok (.iconst 1, 1) := by decide +kernel
theorem dX10_date_57 : decode cX10_date 57 = .ok (.iload_n 1, 1) := by decide +kernel
theorem dX10_date_58 : decode cX10_date 58 = .ok (.iadd, 1) := by decide +kernel
theorem dX10_date_59 : decode cX10_date 59 = .ok (.iload_n 3, 1) := by decide +kernel
theorem dX10_date_60 : decode cX10_date 60 = .ok (.iload 4, 2) := by decide +kernel
theorem dX10_date_62 : decode cX10_date 62 = .ok (.iconst 1, 1) := by decide +kernel
theorem dX10_date_63 : decode cX10_date 63 = .ok (.invokestatic 148, 3) := by decide +kernel
theorem dX10_date_66 : decode cX10_date 66 = .ok (.isub, 1) := by decide +kernel
theorem dX10_date_67 : decode cX10_date 67 = .ok (.ireturn, 1) := by decide +kernel
theorem dX10_behind_0 : decode cX10_behind 0 = .ok (.iload_n 0, 1) := by decide +kernel
theorem dX10_behind_1 : decode cX10_behind 1 = .ok (.invokestatic 145, 3) := by decide +kernel
theorem dX10_behind_4 : decode cX10_behind 4 = .ok (.istore_n 2, 1) := by decide +kernel
theorem dX10_behind_5 : decode cX10_behind 5 = .ok (.iload_n 0, 1) := by decide +kernel
theorem dX10_behind_6 : decode cX10_behind 6 = .ok (.invokestatic 158, 3) := by decide +kernel
theorem dX10_behind_9 : decode cX10_behind 9 = .ok (.istore_n 3, 1) := by decide +kernel
theorem dX10_behind_10 : decode cX10_behind 10 = .ok (.iconst 1, 1) := by decide +kernel
theorem dX10_behind_11 : decode cX10_behind 11 = .ok (.iload_n 0, 1) := by decide +kernel
theorem dX10_behind_12 : decode cX10_behind 12 = .ok (.iadd, 1) := by decide +kernel
theorem dX10_behind_13 : decode cX10_behind 13 = .ok (.iload_n 2, 1) := by decide +kernel
theorem dX10_behind_14 : decode cX10_behind 14 = .ok (.iload_n 3, 1) := by decide +kernel
theorem dX10_behind_15 : decode cX10_behind 15 = .ok (.iconst 1, 1) := by decide +kernel
theorem dX10_behind_16 : decode cX10_behind 16 = .ok (.invokestatic 148, 3) := by decide +kernel
theorem dX10_behind_19 : decode cX10_behind 19 = .ok (.isub, 1) := by decide +kernel
theorem dX10_behind_20 : decode cX10_behind 20 = .ok (.istore 4, 2) := by decide +kernel
theorem dX10_behind_22 : decode cX10_behind 22 = .ok (.bipush 12, 2) := by decide +kernel
theorem dX10_behind_24 : decode cX10_behind 24 = .ok (.iload_n 2, 1) := by decide +kernel
theorem dX10_behind_25 : decode cX10_behind 25 = .ok (.imul, 1) := by decide +kernel
theorem dX10_behind_26 : decode cX10_behind 26 = .ok (.iload_n 3, 1) := by decide +kernel
theorem dX10_behind_27 : decode cX10_behind 27 = .ok (.iadd, 1) := by decide +kernel
theorem dX10_behind_28 : decode cX10_behind 28 = .ok (.iconst 1, 1) := by decide +kernel
theorem dX10_behind_29 : decode cX10_behind 29 = .ok (.isub, 1) := by decide +kernel
theorem dX10_behind_30 : decode cX10_behind 30 = .ok (.iload_n 1, 1) := by decide +kernel
theorem dX10_behind_31 : decode cX10_behind 31 = .ok (.iadd, 1) := by decide +kernel
theorem dX10_behind_32 : decode cX10_behind 32 = .ok (.istore 5, 2) := by decide +kernel
theorem dX10_behind_34 : decode cX10_behind 34 = .ok (.iload 5, 2) := by decide +kernel
theorem dX10_behind_36 : decode cX10_behind 36 = .ok (.bipush 12, 2) := by decide +kernel
theorem dX10_behind_38 : decode cX10_behind 38 = .ok (.idiv, 1) := by decide +kernel
theorem dX10_behind_39 : decode cX10_behind 39 = .ok (.istore 6, 2) := by decide +kernel
theorem dX10_behind_41 : decode cX10_behind 41 = .ok (.iconst 1, 1) := by decide +kernel
theorem dX10_behind_42 : decode cX10_behind 42 = .ok (.iload 5, 2) := by decide +kernel
theorem dX10_behind_44 : decode cX10_behind 44 = .ok (.bipush 12, 2) := by decide +kernel
theorem dX10_behind_46 : decode cX10_behind 46 = .ok (.irem, 1) := by decide +kernel
theorem dX10_behind_47 : decode cX10_behind 47 = .ok (.iadd, 1) := by decide +kernel
theorem dX10_behind_48 : decode cX10_behind 48 = .ok (.istore 7, 2) := by decide +kernel
theorem dX10_behind_50 : decode cX10_behind 50 = .ok (.iload 6, 2) := by decide +kernel
theorem dX10_behind_52 : decode cX10_behind 52 = .ok (.sipush 2600, 3) := by decide +kernel
theorem dX10_behind_55 : decode cX10_behind 55 = .ok (.if_icmp .le 6, 3) := by decide +kernel
theorem dX10_behind_58 : decode cX10_behind 58 = .ok (.ldc 161, 2) := by decide +kernel
theorem dX10_behind_60 : decode cX10_behind 60 = .ok (.ireturn, 1) := by decide +kernel
theorem dX10_behind_61 : decode cX10_behind 61 = .ok (.iload 6, 2) := by decide +kernel
theorem dX10_behind_63 : decode cX10_behind 63 = .ok (.iload 7, 2) := by decide +kernel
theorem dX10_behind_65 : decode cX10_behind 65 = .ok (.iload 4, 2) := by decide +kernel
theorem dX10_behind_67 : decode cX10_behind 67 = .ok (.iload 6, 2) := by decide +kernel
theorem dX10_behind_69 : decode cX10_behind 69 = .ok (.iload 7, 2) := by decide +kernel
theorem dX10_behind_71 : decode cX10_behind 71 = .ok (.invokestatic 140, 3) := by decide +kernel
theorem dX10_behind_74 : decode cX10_behind 74 = .ok (.invokestatic 162, 3) := by decide +kernel
theorem dX10_behind_77 : decode cX10_behind 77 = .ok (.invokestatic 148, 3) := by decide +kernel
theorem dX10_behind_80 : decode cX10_behind 80 = .ok (.istore 8, 2) := by decide +kernel
theorem dX10_behind_82 : decode cX10_behind 82 = .ok (.iload 8, 2) := by decide +kernel
theorem dX10_behind_84 : decode cX10_behind 84 = .ok (.ldc 144, 2) := by decide +kernel
theorem dX10_behind_86 : decode cX10_behind 86 = .ok (.if_icmp .le 8, 3) := by decide +kernel
theorem dX10_behind_89 : decode cX10_behind 89 = .ok (.ldc 161, 2) := by decide +kernel
theorem dX10_behind_91 : decode cX10_behind 91 = .ok (.goto 5, 3) := by decide +kernel
theorem dX10_behind_94 : decode cX10_behind 94 = .ok (.iload 8, 2) := by decide +kernel
theorem dX10_behind_96 : decode cX10_behind 96 = .ok (.ireturn, 1) := by decide +kernel
theorem dX10_later_0 : decode cX10_later 0 = .ok (.aload_n 0, 1) := by decide +kernel
theorem dX10_later_1 : decode cX10_later 1 = .ok (.iconst 0, 1) := by decide +kernel
theorem dX10_later_2 : decode cX10_later 2 = .ok (.putfield 126, 3) := by decide +kernel
theorem dX10_later_5 : decode cX10_later 5 = .ok (.iload_n 1, 1) := by decide +kernel
theorem dX10_later_6 : decode cX10_later 6 = .ok (.invokestatic 155, 3) := by decide +kernel
theorem dX10_later_9 : decode cX10_later 9 = .ok (.ifCond .eq 13, 3) := by decide +kernel
theorem dX10_later_12 : decode cX10_later 12 = .ok (.iload_n 2, 1) := by decide +kernel
theorem dX10_later_13 : decode cX10_later 13 = .ok (.ifCond .lt 9, 3) := by decide +kernel
theorem dX10_later_16 : decode cX10_later 16 = .ok (.iload_n 2, 1) := by decide +kernel
theorem dX10_later_17 : decode cX10_later 17 = .ok (.ldc 167, 2) := by decide +kernel
theorem dX10_later_19 : decode cX10_later 19 = .ok (.if_icmp .le 9, 3) := by decide +kernel
theorem dX10_later_22 : decode cX10_later 22 = .ok (.aload_n 0, 1) := by decide +kernel
theorem dX10_later_23 : decode cX10_later 23 = .ok (.iconst 1, 1) := by decide +kernel
theorem dX10_later_24 : decode cX10_later 24 = .ok (.invokevirtual 152, 3) := by decide +kernel
theorem dX10_later_27 : decode cX10_later 27 = .ok (.ireturn, 1) := by decide +kernel
theorem dX10_later_28 : decode cX10_later 28 = .ok (.iload_n 1, 1) := by decide +kernel
theorem dX10_later_29 : decode cX10_later 29 = .ok (.iload_n 2, 1) := by decide +kernel
theorem dX10_later_30 : decode cX10_later 30 = .ok (.invokestatic 168, 3) := by decide +kernel
theorem dX10_later_33 : decode cX10_later 33 = .ok (.ireturn, 1) := by decide +kernel
theorem dX10_feed_0 : decode cX10_feed 0 = .ok (.aload_n 0, 1) := by decide +kernel
theorem dX10_feed_1 : decode cX10_feed 1 = .ok (.iconst 0, 1) := by decide +kernel
theorem dX10_feed_2 : decode cX10_feed 2 = .ok (.putfield 126, 3) := by decide +kernel
theorem dX10_feed_5 : decode cX10_feed 5 = .ok (.aload_n 0, 1) := by decide +kernel
theorem dX10_feed_6 : decode cX10_feed 6 = .ok (.getfield 171, 3) := by decide +kernel
theorem dX10_feed_9 : decode cX10_feed 9 = .ok (.bipush 20, 2) := by decide +kernel
theorem dX10_feed_11 : decode cX10_feed 11 = .ok (.iadd, 1) := by decide +kernel
theorem dX10_feed_12 : decode cX10_feed 12 = .ok (.sipush 1000, 3) := by decide +kernel
theorem dX10_feed_15 : decode cX10_feed 15 = .ok (.if_icmp .le 5, 3) := by decide +kernel
theorem dX10_feed_18 : decode cX10_feed 18 = .ok (.iconst (-1), 1) := by decide +kernel
theorem dX10_feed_19 : decode cX10_feed 19 = .ok (.ireturn, 1) := by decide +kernel
theorem dX10_feed_20 : decode cX10_feed 20 = .ok (.iconst 0, 1) := by decide +kernel
theorem dX10_feed_21 : decode cX10_feed 21 = .ok (.istore 6, 2) := by decide +kernel
theorem dX10_feed_23 : decode cX10_feed 23 = .ok (.iload 6, 2) := by decide +kernel
theorem dX10_feed_25 : decode cX10_feed 25 = .ok (.bipush 20, 2) := by decide +kernel
theorem dX10_feed_27 : decode cX10_feed 27 = .ok (.if_icmp .ge 93, 3) := by decide +kernel
theorem dX10_feed_30 : decode cX10_feed 30 = .ok (.iload 6, 2) := by decide +kernel
theorem dX10_feed_32 : decode cX10_feed 32 = .ok (.iconst 4, 1) := by decide +kernel
theorem dX10_feed_33 : decode cX10_feed 33 = .ok (.if_icmp .ge 7, 3) := by decide +kernel
theorem dX10_feed_36 : decode cX10_feed 36 = .ok (.iload_n 1, 1) := by decide +kernel
theorem dX10_feed_37 : decode cX10_feed 37 = .ok (.goto 39, 3) := by decide +kernel
theorem dX10_feed_40 : decode cX10_feed 40 = .ok (.iload 6, 2) := by decide +kernel
theorem dX10_feed_42 : decode cX10_feed 42 = .ok (.bipush 8, 2) := by decide +kernel
theorem dX10_feed_44 : decode cX10_feed 44 = .ok (.if_icmp .ge 7, 3) := by decide +kernel
theorem dX10_feed_47 : decode cX10_feed 47 = .ok (.iload_n 2, 1) := by decide +kernel
theorem dX10_feed_48 : decode cX10_feed 48 = .ok (.goto 28, 3) := by decide +kernel
theorem dX10_feed_51 : decode cX10_feed 51 = .ok (.iload 6, 2) := by decide +kernel
theorem dX10_feed_53 : decode cX10_feed 53 = .ok (.bipush 12, 2) := by decide +kernel
theorem dX10_feed_55 : decode cX10_feed 55 = .ok (.if_icmp .ge 7, 3) := by decide +kernel
theorem dX10_feed_58 : decode cX10_feed 58 = .ok (.iload_n 3, 1) := by decide +kernel
theorem dX10_feed_59 : decode cX10_feed 59 = .ok (.goto 17, 3) := by decide +kernel
theorem dX10_feed_62 : decode cX10_feed 62 = .ok (.iload 6, 2) := by decide +kernel
theorem dX10_feed_64 : decode cX10_feed 64 = .ok (.bipush 16, 2) := by decide +kernel
theorem dX10_feed_66 : decode cX10_feed 66 = .ok (.if_icmp .ge 8, 3) := by decide +kernel
theorem dX10_feed_69 : decode cX10_feed 69 = .ok (.iload 4, 2) := by decide +kernel
theorem dX10_feed_71 : decode cX10_feed 71 = .ok (.goto 5, 3) := by decide +kernel
theorem dX10_feed_74 : decode cX10_feed 74 = .ok (.iload 5, 2) := by decide +kernel
theorem dX10_feed_76 : decode cX10_feed 76 = .ok (.istore 7, 2) := by decide +kernel
theorem dX10_feed_78 : decode cX10_feed 78 = .ok (.aload_n 0, 1) := by decide +kernel
theorem dX10_feed_79 : decode cX10_feed 79 = .ok (.getfield 102, 3) := by decide +kernel
theorem dX10_feed_82 : decode cX10_feed 82 = .ok (.aload_n 0, 1) := by decide +kernel
theorem dX10_feed_83 : decode cX10_feed 83 = .ok (.getfield 171, 3) := by decide +kernel
theorem dX10_feed_86 : decode cX10_feed 86 = .ok (.iload 7, 2) := by decide +kernel
theorem dX10_feed_88 : decode cX10_feed 88 = .ok (.bipush 24, 2) := by decide +kernel
theorem dX10_feed_90 : decode cX10_feed 90 = .ok (.bipush 8, 2) := by decide +kernel
theorem dX10_feed_92 : decode cX10_feed 92 = .ok (.iload 6, 2) := by decide +kernel
theorem dX10_feed_94 : decode cX10_feed 94 = .ok (.iconst 4, 1) := by decide +kernel
theorem dX10_feed_95 : decode cX10_feed 95 = .ok (.irem, 1) := by decide +kernel
theorem dX10_feed_96 : decode cX10_feed 96 = .ok (.imul, 1) := by decide +kernel
theorem dX10_feed_97 : decode cX10_feed 97 = .ok (.isub, 1) := by decide +kernel
theorem dX10_feed_98 : decode cX10_feed 98 = .ok (.ishr, 1) := by decide +kernel
theorem dX10_feed_99 : decode cX10_feed 99 = .ok (.sipush 255, 3) := by decide +kernel
theorem dX10_feed_102 : decode cX10_feed 102 = .ok (.iand, 1) := by decide +kernel
theorem dX10_feed_103 : decode cX10_feed 103 = .ok (.iastore, 1) := by decide +kernel
theorem dX10_feed_104 : decode cX10_feed 104 = .ok (.aload_n 0, 1) := by decide +kernel
theorem dX10_feed_105 : decode cX10_feed 105 = .ok (.dup, 1) := by decide +kernel
theorem dX10_feed_106 : decode cX10_feed 106 = .ok (.getfield 171, 3) := by decide +kernel
theorem dX10_feed_109 : decode cX10_feed 109 = .ok (.iconst 1, 1) := by decide +kernel
theorem dX10_feed_110 : decode cX10_feed 110 = .ok (.iadd, 1) := by decide +kernel
theorem dX10_feed_111 : decode cX10_feed 111 = .ok (.putfield 171, 3) := by decide +kernel
theorem dX10_feed_114 : decode cX10_feed 114 = .ok (.iinc 6 1, 3) := by decide +kernel
theorem dX10_feed_117 : decode cX10_feed 117 = .ok (.goto (-94), 3) := by decide +kernel
theorem dX10_feed_120 : decode cX10_feed 120 = .ok (.aload_n 0, 1) := by decide +kernel
theorem dX10_feed_121 : decode cX10_feed 121 = .ok (.getfield 171, 3) := by decide +kernel
theorem dX10_feed_124 : decode cX10_feed 124 = .ok (.ireturn, 1) := by decide +kernel
theorem dX10_byteAt_0 : decode cX10_byteAt 0 = .ok (.iload_n 1, 1) := by decide +kernel
theorem dX10_byteAt_1 : decode cX10_byteAt 1 = .ok (.aload_n 0, 1) := by decide +kernel
theorem dX10_byteAt_2 : decode cX10_byteAt 2 = .ok (.getfield 174, 3) := by decide +kernel
theorem dX10_byteAt_5 : decode cX10_byteAt 5 = .ok (.if_icmp .ge 12, 3) := by decide +kernel
theorem dX10_byteAt_8 : decode cX10_byteAt 8 = .ok (.aload_n 0, 1) := by decide +kernel
theorem dX10_byteAt_9 : decode cX10_byteAt 9 = .ok (.getfield 102, 3) := by decide +kernel
theorem dX10_byteAt_12 : decode cX10_byteAt 12 = .ok (.iload_n 1, 1) := by decide +kernel
theorem dX10_byteAt_13 : decode cX10_byteAt 13 = .ok (.iaload, 1) := by decide +kernel
theorem dX10_byteAt_14 : decode cX10_byteAt 14 = .ok (.goto 4, 3) := by decide +kernel
theorem dX10_byteAt_17 : decode cX10_byteAt 17 = .ok (.iconst (-1), 1) := by decide +kernel
theorem dX10_byteAt_18 : decode cX10_byteAt 18 = .ok (.ireturn, 1) := by decide +kernel
theorem dX10_isLetter_0 : decode cX10_isLetter 0 = .ok (.iload_n 0, 1) := by decide +kernel
theorem dX10_isLetter_1 : decode cX10_isLetter 1 = .ok (.bipush 97, 2) := by decide +kernel
theorem dX10_isLetter_3 : decode cX10_isLetter 3 = .ok (.if_icmp .lt 13, 3) := by decide +kernel
theorem dX10_isLetter_6 : decode cX10_isLetter 6 = .ok (.iload_n 0, 1) := by decide +kernel
theorem dX10_isLetter_7 : decode cX10_isLetter 7 = .ok (.bipush 122, 2) := by decide +kernel
theorem dX10_isLetter_9 : decode cX10_isLetter 9 = .ok (.if_icmp .gt 7, 3) := by decide +kernel
theorem dX10_isLetter_12 : decode cX10_isLetter 12 = .ok (.iconst 1, 1) := by decide +kernel
theorem dX10_isLetter_13 : decode cX10_isLetter 13 = .ok (.goto 4, 3) := by decide +kernel
theorem dX10_isLetter_16 : decode cX10_isLetter 16 = .ok (.iconst 0, 1) := by decide +kernel
theorem dX10_isLetter_17 : decode cX10_isLetter 17 = .ok (.ireturn, 1) := by decide +kernel
theorem dX10_isDigit_0 : decode cX10_isDigit 0 = .ok (.iload_n 0, 1) := by decide +kernel
theorem dX10_isDigit_1 : decode cX10_isDigit 1 = .ok (.bipush 48, 2) := by decide +kernel
theorem dX10_isDigit_3 : decode cX10_isDigit 3 = .ok (.if_icmp .lt 13, 3) := by decide +kernel
theorem dX10_isDigit_6 : decode cX10_isDigit 6 = .ok (.iload_n 0, 1) := by decide +kernel
theorem dX10_isDigit_7 : decode cX10_isDigit 7 = .ok (.bipush 57, 2) := by decide +kernel
theorem dX10_isDigit_9 : decode cX10_isDigit 9 = .ok (.if_icmp .gt 7, 3) := by decide +kernel
theorem dX10_isDigit_12 : decode cX10_isDigit 12 = .ok (.iconst 1, 1) := by decide +kernel
theorem dX10_isDigit_13 : decode cX10_isDigit 13 = .ok (.goto 4, 3) := by decide +kernel
theorem dX10_isDigit_16 : decode cX10_isDigit 16 = .ok (.iconst 0, 1) := by decide +kernel
theorem dX10_isDigit_17 : decode cX10_isDigit 17 = .ok (.ireturn, 1) := by decide +kernel
theorem dX10_step_0 : decode cX10_step 0 = .ok (.aload_n 0, 1) := by decide +kernel
theorem dX10_step_1 : decode cX10_step 1 = .ok (.aload_n 0, 1) := by decide +kernel
theorem dX10_step_2 : decode cX10_step 2 = .ok (.getfield 177, 3) := by decide +kernel
theorem dX10_step_5 : decode cX10_step 5 = .ok (.invokevirtual 180, 3) := by decide +kernel
theorem dX10_step_8 : decode cX10_step 8 = .ok (.bipush 32, 2) := by decide +kernel
theorem dX10_step_10 : decode cX10_step 10 = .ok (.if_icmp .eq 16, 3) := by decide +kernel
theorem dX10_step_13 : decode cX10_step 13 = .ok (.aload_n 0, 1) := by decide +kernel
theorem dX10_step_14 : decode cX10_step 14 = .ok (.aload_n 0, 1) := by decide +kernel
theorem dX10_step_15 : decode cX10_step 15 = .ok (.getfield 177, 3) := by decide +kernel
theorem dX10_step_18 : decode cX10_step 18 = .ok (.invokevirtual 180, 3) := by decide +kernel
theorem dX10_step_21 : decode cX10_step 21 = .ok (.bipush 10, 2) := by decide +kernel
theorem dX10_step_23 : decode cX10_step 23 = .ok (.if_icmp .ne 16, 3) := by decide +kernel
theorem dX10_step_26 : decode cX10_step 26 = .ok (.aload_n 0, 1) := by decide +kernel
theorem dX10_step_27 : decode cX10_step 27 = .ok (.dup, 1) := by decide +kernel
theorem dX10_step_28 : decode cX10_step 28 = .ok (.getfield 177, 3) := by decide +kernel
theorem dX10_step_31 : decode cX10_step 31 = .ok (.iconst 1, 1) := by decide +kernel
theorem dX10_step_32 : decode cX10_step 32 = .ok (.iadd, 1) := by decide +kernel
theorem dX10_step_33 : decode cX10_step 33 = .ok (.putfield 177, 3) := by decide +kernel
theorem dX10_step_36 : decode cX10_step 36 = .ok (.goto (-36), 3) := by decide +kernel
theorem dX10_step_39 : decode cX10_step 39 = .ok (.aload_n 0, 1) := by decide +kernel
theorem dX10_step_40 : decode cX10_step 40 = .ok (.aload_n 0, 1) := by decide +kernel
theorem dX10_step_41 : decode cX10_step 41 = .ok (.getfield 177, 3) := by decide +kernel
theorem dX10_step_44 : decode cX10_step 44 = .ok (.putfield 183, 3) := by decide +kernel
theorem dX10_step_47 : decode cX10_step 47 = .ok (.aload_n 0, 1) := by decide +kernel
theorem dX10_step_48 : decode cX10_step 48 = .ok (.iconst 0, 1) := by decide +kernel
theorem dX10_step_49 : decode cX10_step 49 = .ok (.putfield 186, 3) := by decide +kernel
theorem dX10_step_52 : decode cX10_step 52 = .ok (.aload_n 0, 1) := by decide +kernel
theorem dX10_step_53 : decode cX10_step 53 = .ok (.aload_n 0, 1) := by decide +kernel
theorem dX10_step_54 : decode cX10_step 54 = .ok (.getfield 177, 3) := by decide +kernel
theorem dX10_step_57 : decode cX10_step 57 = .ok (.invokevirtual 180, 3) := by decide +kernel
theorem dX10_step_60 : decode cX10_step 60 = .ok (.istore_n 1, 1) := by decide +kernel
theorem dX10_step_61 : decode cX10_step 61 = .ok (.iload_n 1, 1) := by decide +kernel
theorem dX10_step_62 : decode cX10_step 62 = .ok (.iconst (-1), 1) := by decide +kernel
theorem dX10_step_63 : decode cX10_step 63 = .ok (.if_icmp .ne 11, 3) := by decide +kernel
theorem dX10_step_66 : decode cX10_step 66 = .ok (.aload_n 0, 1) := by decide +kernel
theorem dX10_step_67 : decode cX10_step 67 = .ok (.iconst 0, 1) := by decide +kernel
theorem dX10_step_68 : decode cX10_step 68 = .ok (.putfield 189, 3) := by decide +kernel
theorem dX10_step_71 : decode cX10_step 71 = .ok (.goto 143, 3) := by decide +kernel
theorem dX10_step_74 : decode cX10_step 74 = .ok (.iload_n 1, 1) := by decide +kernel
theorem dX10_step_75 : decode cX10_step 75 = .ok (.invokestatic 192, 3) := by decide +kernel
theorem dX10_step_78 : decode cX10_step 78 = .ok (.ifCond .eq 52, 3) := by decide +kernel
theorem dX10_step_81 : decode cX10_step 81 = .ok (.aload_n 0, 1) := by decide +kernel
theorem dX10_step_82 : decode cX10_step 82 = .ok (.aload_n 0, 1) := by decide +kernel
theorem dX10_step_83 : decode cX10_step 83 = .ok (.getfield 177, 3) := by decide +kernel
theorem dX10_step_86 : decode cX10_step 86 = .ok (.invokevirtual 180, 3) := by decide +kernel
theorem dX10_step_89 : decode cX10_step 89 = .ok (.invokestatic 192, 3) := by decide +kernel
theorem dX10_step_92 : decode cX10_step 92 = .ok (.ifCond .ne 17, 3) := by decide +kernel
theorem dX10_step_95 : decode cX10_step 95 = .ok (.aload_n 0, 1) := by decide +kernel
theorem dX10_step_96 : decode cX10_step 96 = .ok (.aload_n 0, 1) := by decide +kernel
theorem dX10_step_97 : decode cX10_step 97 = .ok (.getfield 177, 3) := by decide +kernel
theorem dX10_step_100 : decode cX10_step 100 = .ok (.invokevirtual 180, 3) := by decide +kernel
theorem dX10_step_103 : decode cX10_step 103 = .ok (.invokestatic 195, 3) := by decide +kernel
theorem dX10_step_106 : decode cX10_step 106 = .ok (.ifCond .eq 16, 3) := by decide +kernel
theorem dX10_step_109 : decode cX10_step 109 = .ok (.aload_n 0, 1) := by decide +kernel
theorem dX10_step_110 : decode cX10_step 110 = .ok (.dup, 1) := by decide +kernel
theorem dX10_step_111 : decode cX10_step 111 = .ok (.getfield 177, 3) := by decide +kernel
theorem dX10_step_114 : decode cX10_step 114 = .ok (.iconst 1, 1) := by decide +kernel
theorem dX10_step_115 : decode cX10_step 115 = .ok (.iadd, 1) := by decide +kernel
theorem dX10_step_116 : decode cX10_step 116 = .ok (.putfield 177, 3) := by decide +kernel
theorem dX10_step_119 : decode cX10_step 119 = .ok (.goto (-38), 3) := by decide +kernel
theorem dX10_step_122 : decode cX10_step 122 = .ok (.aload_n 0, 1) := by decide +kernel
theorem dX10_step_123 : decode cX10_step 123 = .ok (.iconst 1, 1) := by decide +kernel
theorem dX10_step_124 : decode cX10_step 124 = .ok (.putfield 189, 3) := by decide +kernel
theorem dX10_step_127 : decode cX10_step 127 = .ok (.goto 87, 3) := by decide +kernel
theorem dX10_step_130 : decode cX10_step 130 = .ok (.iload_n 1, 1) := by decide +kernel
theorem dX10_step_131 : decode cX10_step 131 = .ok (.invokestatic 195, 3) := by decide +kernel
theorem dX10_step_134 : decode cX10_step 134 = .ok (.ifCond .eq 38, 3) := by decide +kernel
theorem dX10_step_137 : decode cX10_step 137 = .ok (.aload_n 0, 1) := by decide +kernel
theorem dX10_step_138 : decode cX10_step 138 = .ok (.aload_n 0, 1) := by decide +kernel
theorem dX10_step_139 : decode cX10_step 139 = .ok (.getfield 177, 3) := by decide +kernel
theorem dX10_step_142 : decode cX10_step 142 = .ok (.invokevirtual 180, 3) := by decide +kernel
theorem dX10_step_145 : decode cX10_step 145 = .ok (.invokestatic 195, 3) := by decide +kernel
theorem dX10_step_148 : decode cX10_step 148 = .ok (.ifCond .eq 16, 3) := by decide +kernel
theorem dX10_step_151 : decode cX10_step 151 = .ok (.aload_n 0, 1) := by decide +kernel
theorem dX10_step_152 : decode cX10_step 152 = .ok (.dup, 1) := by decide +kernel
theorem dX10_step_153 : decode cX10_step 153 = .ok (.getfield 177, 3) := by decide +kernel
theorem dX10_step_156 : decode cX10_step 156 = .ok (.iconst 1, 1) := by decide +kernel
theorem dX10_step_157 : decode cX10_step 157 = .ok (.iadd, 1) := by decide +kernel
theorem dX10_step_158 : decode cX10_step 158 = .ok (.putfield 177, 3) := by decide +kernel
theorem dX10_step_161 : decode cX10_step 161 = .ok (.goto (-24), 3) := by decide +kernel
theorem dX10_step_164 : decode cX10_step 164 = .ok (.aload_n 0, 1) := by decide +kernel
theorem dX10_step_165 : decode cX10_step 165 = .ok (.iconst 2, 1) := by decide +kernel
theorem dX10_step_166 : decode cX10_step 166 = .ok (.putfield 189, 3) := by decide +kernel
theorem dX10_step_169 : decode cX10_step 169 = .ok (.goto 45, 3) := by decide +kernel
theorem dX10_step_172 : decode cX10_step 172 = .ok (.aload_n 0, 1) := by decide +kernel
theorem dX10_step_173 : decode cX10_step 173 = .ok (.dup, 1) := by decide +kernel
theorem dX10_step_174 : decode cX10_step 174 = .ok (.getfield 177, 3) := by decide +kernel
theorem dX10_step_177 : decode cX10_step 177 = .ok (.iconst 1, 1) := by decide +kernel
theorem dX10_step_178 : decode cX10_step 178 = .ok (.iadd, 1) := by decide +kernel
theorem dX10_step_179 : decode cX10_step 179 = .ok (.putfield 177, 3) := by decide +kernel
theorem dX10_step_182 : decode cX10_step 182 = .ok (.aload_n 0, 1) := by decide +kernel
theorem dX10_step_183 : decode cX10_step 183 = .ok (.iload_n 1, 1) := by decide +kernel
theorem dX10_step_184 : decode cX10_step 184 = .ok (.bipush 59, 2) := by decide +kernel
theorem dX10_step_186 : decode cX10_step 186 = .ok (.if_icmp .eq 15, 3) := by decide +kernel
theorem dX10_step_189 : decode cX10_step 189 = .ok (.iload_n 1, 1) := by decide +kernel
theorem dX10_step_190 : decode cX10_step 190 = .ok (.bipush 61, 2) := by decide +kernel
theorem dX10_step_192 : decode cX10_step 192 = .ok (.if_icmp .eq 9, 3) := by decide +kernel
theorem dX10_step_195 : decode cX10_step 195 = .ok (.iload_n 1, 1) := by decide +kernel
theorem dX10_step_196 : decode cX10_step 196 = .ok (.bipush 60, 2) := by decide +kernel
theorem dX10_step_198 : decode cX10_step 198 = .ok (.if_icmp .ne 7, 3) := by decide +kernel
theorem dX10_step_201 : decode cX10_step 201 = .ok (.iconst 3, 1) := by decide +kernel
theorem dX10_step_202 : decode cX10_step 202 = .ok (.goto 4, 3) := by decide +kernel
theorem dX10_step_205 : decode cX10_step 205 = .ok (.iconst 4, 1) := by decide +kernel
theorem dX10_step_206 : decode cX10_step 206 = .ok (.putfield 189, 3) := by decide +kernel
theorem dX10_step_209 : decode cX10_step 209 = .ok (.aload_n 0, 1) := by decide +kernel
theorem dX10_step_210 : decode cX10_step 210 = .ok (.iload_n 1, 1) := by decide +kernel
theorem dX10_step_211 : decode cX10_step 211 = .ok (.putfield 186, 3) := by decide +kernel
theorem dX10_step_214 : decode cX10_step 214 = .ok (.aload_n 0, 1) := by decide +kernel
theorem dX10_step_215 : decode cX10_step 215 = .ok (.aload_n 0, 1) := by decide +kernel
theorem dX10_step_216 : decode cX10_step 216 = .ok (.getfield 177, 3) := by decide +kernel
theorem dX10_step_219 : decode cX10_step 219 = .ok (.putfield 198, 3) := by decide +kernel
theorem dX10_step_222 : decode cX10_step 222 = .ok (.return_, 1) := by decide +kernel
theorem dX10_wrong_0 : decode cX10_wrong 0 = .ok (.aload_n 0, 1) := by decide +kernel
theorem dX10_wrong_1 : decode cX10_wrong 1 = .ok (.getfield 201, 3) := by decide +kernel
theorem dX10_wrong_4 : decode cX10_wrong 4 = .ok (.ifCond .eq 4, 3) := by decide +kernel
theorem dX10_wrong_7 : decode cX10_wrong 7 = .ok (.return_, 1) := by decide +kernel
theorem dX10_wrong_8 : decode cX10_wrong 8 = .ok (.aload_n 0, 1) := by decide +kernel
theorem dX10_wrong_9 : decode cX10_wrong 9 = .ok (.iload_n 1, 1) := by decide +kernel
theorem dX10_wrong_10 : decode cX10_wrong 10 = .ok (.putfield 201, 3) := by decide +kernel
theorem dX10_wrong_13 : decode cX10_wrong 13 = .ok (.aload_n 0, 1) := by decide +kernel
theorem dX10_wrong_14 : decode cX10_wrong 14 = .ok (.aload_n 0, 1) := by decide +kernel
theorem dX10_wrong_15 : decode cX10_wrong 15 = .ok (.getfield 183, 3) := by decide +kernel
theorem dX10_wrong_18 : decode cX10_wrong 18 = .ok (.putfield 204, 3) := by decide +kernel
theorem dX10_wrong_21 : decode cX10_wrong 21 = .ok (.return_, 1) := by decide +kernel
theorem dX10_isWord_0 : decode cX10_isWord 0 = .ok (.aload_n 0, 1) := by decide +kernel
theorem dX10_isWord_1 : decode cX10_isWord 1 = .ok (.getfield 201, 3) := by decide +kernel
theorem dX10_isWord_4 : decode cX10_isWord 4 = .ok (.ifCond .ne 31, 3) := by decide +kernel
theorem dX10_isWord_7 : decode cX10_isWord 7 = .ok (.aload_n 0, 1) := by decide +kernel
theorem dX10_isWord_8 : decode cX10_isWord 8 = .ok (.getfield 189, 3) := by decide +kernel
theorem dX10_isWord_11 : decode cX10_isWord 11 = .ok (.iconst 1, 1) := by decide +kernel
theorem dX10_isWord_12 : decode cX10_isWord 12 = .ok (.if_icmp .ne 23, 3) := by decide +kernel
theorem dX10_isWord_15 : decode cX10_isWord 15 = .ok (.aload_n 1, 1) := by decide +kernel
theorem dX10_isWord_16 : decode cX10_isWord 16 = .ok (.invokevirtual 207, 3) := by decide +kernel
theorem dX10_isWord_19 : decode cX10_isWord 19 = .ok (.aload_n 0, 1) := by decide +kernel
theorem dX10_isWord_20 : decode cX10_isWord 20 = .ok (.getfield 198, 3) := by decide +kernel
theorem dX10_isWord_23 : decode cX10_isWord 23 = .ok (.aload_n 0, 1) := by decide +kernel
theorem dX10_isWord_24 : decode cX10_isWord 24 = .ok (.getfield 183, 3) := by decide +kernel
theorem dX10_isWord_27 : decode cX10_isWord 27 = .ok (.isub, 1) := by decide +kernel
theorem dX10_isWord_28 : decode cX10_isWord 28 = .ok (.if_icmp .ne 7, 3) := by decide +kernel
theorem dX10_isWord_31 : decode cX10_isWord 31 = .ok (.iconst 1, 1) := by decide +kernel
theorem dX10_isWord_32 : decode cX10_isWord 32 = .ok (.goto 4, 3) := by decide +kernel
theorem dX10_isWord_35 : decode cX10_isWord 35 = .ok (.iconst 0, 1) := by decide +kernel
theorem dX10_isWord_36 : decode cX10_isWord 36 = .ok (.istore_n 2, 1) := by decide +kernel
theorem dX10_isWord_37 : decode cX10_isWord 37 = .ok (.iconst 0, 1) := by decide +kernel
theorem dX10_isWord_38 : decode cX10_isWord 38 = .ok (.istore_n 3, 1) := by decide +kernel
theorem dX10_isWord_39 : decode cX10_isWord 39 = .ok (.iload_n 2, 1) := by decide +kernel
theorem dX10_isWord_40 : decode cX10_isWord 40 = .ok (.ifCond .eq 42, 3) := by decide +kernel
theorem dX10_isWord_43 : decode cX10_isWord 43 = .ok (.iload_n 3, 1) := by decide +kernel
theorem dX10_isWord_44 : decode cX10_isWord 44 = .ok (.aload_n 1, 1) := by decide +kernel
theorem dX10_isWord_45 : decode cX10_isWord 45 = .ok (.invokevirtual 207, 3) := by decide +kernel
theorem dX10_isWord_48 : decode cX10_isWord 48 = .ok (.if_icmp .ge 34, 3) := by decide +kernel
theorem dX10_isWord_51 : decode cX10_isWord 51 = .ok (.aload_n 1, 1) := by decide +kernel
theorem dX10_isWord_52 : decode cX10_isWord 52 = .ok (.iload_n 3, 1) := by decide +kernel
theorem dX10_isWord_53 : decode cX10_isWord 53 = .ok (.invokevirtual 213, 3) := by decide +kernel
theorem dX10_isWord_56 : decode cX10_isWord 56 = .ok (.aload_n 0, 1) := by decide +kernel
theorem dX10_isWord_57 : decode cX10_isWord 57 = .ok (.getfield 102, 3) := by decide +kernel
theorem dX10_isWord_60 : decode cX10_isWord 60 = .ok (.aload_n 0, 1) := by decide +kernel
theorem dX10_isWord_61 : decode cX10_isWord 61 = .ok (.getfield 183, 3) := by decide +kernel
theorem dX10_isWord_64 : decode cX10_isWord 64 = .ok (.iload_n 3, 1) := by decide +kernel
theorem dX10_isWord_65 : decode cX10_isWord 65 = .ok (.iadd, 1) := by decide +kernel
theorem dX10_isWord_66 : decode cX10_isWord 66 = .ok (.iaload, 1) := by decide +kernel
theorem dX10_isWord_67 : decode cX10_isWord 67 = .ok (.if_icmp .ne 7, 3) := by decide +kernel
theorem dX10_isWord_70 : decode cX10_isWord 70 = .ok (.iconst 1, 1) := by decide +kernel
theorem dX10_isWord_71 : decode cX10_isWord 71 = .ok (.goto 4, 3) := by decide +kernel
theorem dX10_isWord_74 : decode cX10_isWord 74 = .ok (.iconst 0, 1) := by decide +kernel
theorem dX10_isWord_75 : decode cX10_isWord 75 = .ok (.istore_n 2, 1) := by decide +kernel
theorem dX10_isWord_76 : decode cX10_isWord 76 = .ok (.iinc 3 1, 3) := by decide +kernel
theorem dX10_isWord_79 : decode cX10_isWord 79 = .ok (.goto (-40), 3) := by decide +kernel
theorem dX10_isWord_82 : decode cX10_isWord 82 = .ok (.iload_n 2, 1) := by decide +kernel
theorem dX10_isWord_83 : decode cX10_isWord 83 = .ok (.ireturn, 1) := by decide +kernel
theorem dX10_numbered_0 : decode cX10_numbered 0 = .ok (.aload_n 0, 1) := by decide +kernel
theorem dX10_numbered_1 : decode cX10_numbered 1 = .ok (.getfield 201, 3) := by decide +kernel
theorem dX10_numbered_4 : decode cX10_numbered 4 = .ok (.ifCond .ne 37, 3) := by decide +kernel
theorem dX10_numbered_7 : decode cX10_numbered 7 = .ok (.aload_n 0, 1) := by decide +kernel
theorem dX10_numbered_8 : decode cX10_numbered 8 = .ok (.getfield 189, 3) := by decide +kernel
theorem dX10_numbered_11 : decode cX10_numbered 11 = .ok (.iconst 1, 1) := by decide +kernel
theorem dX10_numbered_12 : decode cX10_numbered 12 = .ok (.if_icmp .ne 29, 3) := by decide +kernel
theorem dX10_numbered_15 : decode cX10_numbered 15 = .ok (.aload_n 0, 1) := by decide +kernel
theorem dX10_numbered_16 : decode cX10_numbered 16 = .ok (.getfield 198, 3) := by decide +kernel
theorem dX10_numbered_19 : decode cX10_numbered 19 = .ok (.aload_n 0, 1) := by decide +kernel
theorem dX10_numbered_20 : decode cX10_numbered 20 = .ok (.getfield 183, 3) := by decide +kernel
theorem dX10_numbered_23 : decode cX10_numbered 23 = .ok (.iconst 2, 1) := by decide +kernel
theorem dX10_numbered_24 : decode cX10_numbered 24 = .ok (.iadd, 1) := by decide +kernel
theorem dX10_numbered_25 : decode cX10_numbered 25 = .ok (.if_icmp .ne 16, 3) := by decide +kernel
theorem dX10_numbered_28 : decode cX10_numbered 28 = .ok (.aload_n 0, 1) := by decide +kernel
theorem dX10_numbered_29 : decode cX10_numbered 29 = .ok (.getfield 102, 3) := by decide +kernel
theorem dX10_numbered_32 : decode cX10_numbered 32 = .ok (.aload_n 0, 1) := by decide +kernel
theorem dX10_numbered_33 : decode cX10_numbered 33 = .ok (.getfield 183, 3) := by decide +kernel
theorem dX10_numbered_36 : decode cX10_numbered 36 = .ok (.iaload, 1) := by decide +kernel
theorem dX10_numbered_37 : decode cX10_numbered 37 = .ok (.iload_n 1, 1) := by decide +kernel
theorem dX10_numbered_38 : decode cX10_numbered 38 = .ok (.if_icmp .eq 5, 3) := by decide +kernel
theorem dX10_numbered_41 : decode cX10_numbered 41 = .ok (.iconst (-1), 1) := by decide +kernel
theorem dX10_numbered_42 : decode cX10_numbered 42 = .ok (.ireturn, 1) := by decide +kernel
theorem dX10_numbered_43 : decode cX10_numbered 43 = .ok (.aload_n 0, 1) := by decide +kernel
theorem dX10_numbered_44 : decode cX10_numbered 44 = .ok (.getfield 102, 3) := by decide +kernel
theorem dX10_numbered_47 : decode cX10_numbered 47 = .ok (.aload_n 0, 1) := by decide +kernel
theorem dX10_numbered_48 : decode cX10_numbered 48 = .ok (.getfield 183, 3) := by decide +kernel
theorem dX10_numbered_51 : decode cX10_numbered 51 = .ok (.iconst 1, 1) := by decide +kernel
theorem dX10_numbered_52 : decode cX10_numbered 52 = .ok (.iadd, 1) := by decide +kernel
theorem dX10_numbered_53 : decode cX10_numbered 53 = .ok (.iaload, 1) := by decide +kernel
theorem dX10_numbered_54 : decode cX10_numbered 54 = .ok (.bipush 48, 2) := by decide +kernel
theorem dX10_numbered_56 : decode cX10_numbered 56 = .ok (.isub, 1) := by decide +kernel
theorem dX10_numbered_57 : decode cX10_numbered 57 = .ok (.istore_n 3, 1) := by decide +kernel
theorem dX10_numbered_58 : decode cX10_numbered 58 = .ok (.iload_n 3, 1) := by decide +kernel
theorem dX10_numbered_59 : decode cX10_numbered 59 = .ok (.ifCond .lt 12, 3) := by decide +kernel
theorem dX10_numbered_62 : decode cX10_numbered 62 = .ok (.iload_n 3, 1) := by decide +kernel
theorem dX10_numbered_63 : decode cX10_numbered 63 = .ok (.iload_n 2, 1) := by decide +kernel
theorem dX10_numbered_64 : decode cX10_numbered 64 = .ok (.if_icmp .gt 7, 3) := by decide +kernel
theorem dX10_numbered_67 : decode cX10_numbered 67 = .ok (.iload_n 3, 1) := by decide +kernel
theorem dX10_numbered_68 : decode cX10_numbered 68 = .ok (.goto 4, 3) := by decide +kernel
theorem dX10_numbered_71 : decode cX10_numbered 71 = .ok (.iconst (-1), 1) := by decide +kernel
theorem dX10_numbered_72 : decode cX10_numbered 72 = .ok (.ireturn, 1) := by decide +kernel
theorem dX10_word_0 : decode cX10_word 0 = .ok (.aload_n 0, 1) := by decide +kernel
theorem dX10_word_1 : decode cX10_word 1 = .ok (.getfield 201, 3) := by decide +kernel
theorem dX10_word_4 : decode cX10_word 4 = .ok (.ifCond .eq 4, 3) := by decide +kernel
theorem dX10_word_7 : decode cX10_word 7 = .ok (.return_, 1) := by decide +kernel
theorem dX10_word_8 : decode cX10_word 8 = .ok (.aload_n 0, 1) := by decide +kernel
theorem dX10_word_9 : decode cX10_word 9 = .ok (.aload_n 1, 1) := by decide +kernel
theorem dX10_word_10 : decode cX10_word 10 = .ok (.invokevirtual 217, 3) := by decide +kernel
theorem dX10_word_13 : decode cX10_word 13 = .ok (.ifCond .eq 10, 3) := by decide +kernel
theorem dX10_word_16 : decode cX10_word 16 = .ok (.aload_n 0, 1) := by decide +kernel
theorem dX10_word_17 : decode cX10_word 17 = .ok (.invokevirtual 221, 3) := by decide +kernel
theorem dX10_word_20 : decode cX10_word 20 = .ok (.goto 8, 3) := by decide +kernel
theorem dX10_word_23 : decode cX10_word 23 = .ok (.aload_n 0, 1) := by decide +kernel
theorem dX10_word_24 : decode cX10_word 24 = .ok (.iconst 1, 1) := by decide +kernel
theorem dX10_word_25 : decode cX10_word 25 = .ok (.invokevirtual 224, 3) := by decide +kernel
theorem dX10_word_28 : decode cX10_word 28 = .ok (.return_, 1) := by decide +kernel
theorem dX10_readNumbered_0 : decode cX10_readNumbered 0 = .ok (.aload_n 0, 1) := by decide +kernel
theorem dX10_readNumbered_1 : decode cX10_readNumbered 1 = .ok (.iload_n 1, 1) := by decide +kernel
theorem dX10_readNumbered_2 : decode cX10_readNumbered 2 = .ok (.iload_n 2, 1) := by decide +kernel
theorem dX10_readNumbered_3 : decode cX10_readNumbered 3 = .ok (.invokevirtual 228, 3) := by decide +kernel
theorem dX10_readNumbered_6 : decode cX10_readNumbered 6 = .ok (.istore_n 3, 1) := by decide +kernel
theorem dX10_readNumbered_7 : decode cX10_readNumbered 7 = .ok (.iload_n 3, 1) := by decide +kernel
theorem dX10_readNumbered_8 : decode cX10_readNumbered 8 = .ok (.iconst (-1), 1) := by decide +kernel
theorem dX10_readNumbered_9 : decode cX10_readNumbered 9 = .ok (.if_icmp .ne 8, 3) := by decide +kernel
theorem dX10_readNumbered_12 : decode cX10_readNumbered 12 = .ok (.aload_n 0, 1) := by decide +kernel
theorem dX10_readNumbered_13 : decode cX10_readNumbered 13 = .ok (.iconst 1, 1) := by decide +kernel
theorem dX10_readNumbered_14 : decode cX10_readNumbered 14 = .ok (.invokevirtual 224, 3) := by decide +kernel
theorem dX10_readNumbered_17 : decode cX10_readNumbered 17 = .ok (.aload_n 0, 1) := by decide +kernel
theorem dX10_readNumbered_18 : decode cX10_readNumbered 18 = .ok (.getfield 201, 3) := by decide +kernel
theorem dX10_readNumbered_21 : decode cX10_readNumbered 21 = .ok (.ifCond .ne 7, 3) := by decide +kernel
theorem dX10_readNumbered_24 : decode cX10_readNumbered 24 = .ok (.aload_n 0, 1) := by decide +kernel
theorem dX10_readNumbered_25 : decode cX10_readNumbered 25 = .ok (.invokevirtual 221, 3) := by decide +kernel
theorem dX10_readNumbered_28 : decode cX10_readNumbered 28 = .ok (.iload_n 3, 1) := by decide +kernel
theorem dX10_readNumbered_29 : decode cX10_readNumbered 29 = .ok (.ireturn, 1) := by decide +kernel
theorem dX10_readNumber_0 : decode cX10_readNumber 0 = .ok (.aload_n 0, 1) := by decide +kernel
theorem dX10_readNumber_1 : decode cX10_readNumber 1 = .ok (.getfield 201, 3) := by decide +kernel
theorem dX10_readNumber_4 : decode cX10_readNumber 4 = .ok (.ifCond .eq 5, 3) := by decide +kernel
theorem dX10_readNumber_7 : decode cX10_readNumber 7 = .ok (.iconst 0, 1) := by decide +kernel
theorem dX10_readNumber_8 : decode cX10_readNumber 8 = .ok (.ireturn, 1) := by decide +kernel
theorem dX10_readNumber_9 : decode cX10_readNumber 9 = .ok (.aload_n 0, 1) := by decide +kernel
theorem dX10_readNumber_10 : decode cX10_readNumber 10 = .ok (.getfield 189, 3) := by decide +kernel
theorem dX10_readNumber_13 : decode cX10_readNumber 13 = .ok (.iconst 2, 1) := by decide +kernel
theorem dX10_readNumber_14 : decode cX10_readNumber 14 = .ok (.if_icmp .eq 11, 3) := by decide +kernel
theorem dX10_readNumber_17 : decode cX10_readNumber 17 = .ok (.aload_n 0, 1) := by decide +kernel
theorem dX10_readNumber_18 : decode cX10_readNumber 18 = .ok (.iconst 1, 1) := by decide +kernel
theorem dX10_readNumber_19 : decode cX10_readNumber 19 = .ok (.invokevirtual 224, 3) := by decide +kernel
theorem dX10_readNumber_22 : decode cX10_readNumber 22 = .ok (.goto 21, 3) := by decide +kernel
theorem dX10_readNumber_25 : decode cX10_readNumber 25 = .ok (.aload_n 0, 1) := by decide +kernel
theorem dX10_readNumber_26 : decode cX10_readNumber 26 = .ok (.getfield 198, 3) := by decide +kernel
theorem dX10_readNumber_29 : decode cX10_readNumber 29 = .ok (.aload_n 0, 1) := by decide +kernel
theorem dX10_readNumber_30 : decode cX10_readNumber 30 = .ok (.getfield 183, 3) := by decide +kernel
theorem dX10_readNumber_33 : decode cX10_readNumber 33 = .ok (.isub, 1) := by decide +kernel
theorem dX10_readNumber_34 : decode cX10_readNumber 34 = .ok (.iconst 4, 1) := by decide +kernel
theorem dX10_readNumber_35 : decode cX10_readNumber 35 = .ok (.if_icmp .le 8, 3) := by decide +kernel
theorem dX10_readNumber_38 : decode cX10_readNumber 38 = .ok (.aload_n 0, 1) := by decide +kernel
theorem dX10_readNumber_39 : decode cX10_readNumber 39 = .ok (.iconst 2, 1) := by decide +kernel
theorem dX10_readNumber_40 : decode cX10_readNumber 40 = .ok (.invokevirtual 224, 3) := by decide +kernel
theorem dX10_readNumber_43 : decode cX10_readNumber 43 = .ok (.iconst 0, 1) := by decide +kernel
theorem dX10_readNumber_44 : decode cX10_readNumber 44 = .ok (.istore_n 1, 1) := by decide +kernel
theorem dX10_readNumber_45 : decode cX10_readNumber 45 = .ok (.aload_n 0, 1) := by decide +kernel
theorem dX10_readNumber_46 : decode cX10_readNumber 46 = .ok (.getfield 183, 3) := by decide +kernel
theorem dX10_readNumber_49 : decode cX10_readNumber 49 = .ok (.istore_n 2, 1) := by decide +kernel
theorem dX10_readNumber_50 : decode cX10_readNumber 50 = .ok (.iload_n 2, 1) := by decide +kernel
theorem dX10_readNumber_51 : decode cX10_readNumber 51 = .ok (.aload_n 0, 1) := by decide +kernel
theorem dX10_readNumber_52 : decode cX10_readNumber 52 = .ok (.getfield 198, 3) := by decide +kernel
theorem dX10_readNumber_55 : decode cX10_readNumber 55 = .ok (.if_icmp .ge 31, 3) := by decide +kernel
theorem dX10_readNumber_58 : decode cX10_readNumber 58 = .ok (.aload_n 0, 1) := by decide +kernel
theorem dX10_readNumber_59 : decode cX10_readNumber 59 = .ok (.getfield 201, 3) := by decide +kernel
theorem dX10_readNumber_62 : decode cX10_readNumber 62 = .ok (.ifCond .ne 24, 3) := by decide +kernel
theorem dX10_readNumber_65 : decode cX10_readNumber 65 = .ok (.bipush 10, 2) := by decide +kernel
theorem dX10_readNumber_67 : decode cX10_readNumber 67 = .ok (.iload_n 1, 1) := by decide +kernel
theorem dX10_readNumber_68 : decode cX10_readNumber 68 = .ok (.imul, 1) := by decide +kernel
theorem dX10_readNumber_69 : decode cX10_readNumber 69 = .ok (.aload_n 0, 1) := by decide +kernel
theorem dX10_readNumber_70 : decode cX10_readNumber 70 = .ok (.getfield 102, 3) := by decide +kernel
theorem dX10_readNumber_73 : decode cX10_readNumber 73 = .ok (.iload_n 2, 1) := by decide +kernel
theorem dX10_readNumber_74 : decode cX10_readNumber 74 = .ok (.iaload, 1) := by decide +kernel
theorem dX10_readNumber_75 : decode cX10_readNumber 75 = .ok (.iadd, 1) := by decide +kernel
theorem dX10_readNumber_76 : decode cX10_readNumber 76 = .ok (.bipush 48, 2) := by decide +kernel
theorem dX10_readNumber_78 : decode cX10_readNumber 78 = .ok (.isub, 1) := by decide +kernel
theorem dX10_readNumber_79 : decode cX10_readNumber 79 = .ok (.istore_n 1, 1) := by decide +kernel
theorem dX10_readNumber_80 : decode cX10_readNumber 80 = .ok (.iinc 2 1, 3) := by decide +kernel
theorem dX10_readNumber_83 : decode cX10_readNumber 83 = .ok (.goto (-33), 3) := by decide +kernel
theorem dX10_readNumber_86 : decode cX10_readNumber 86 = .ok (.aload_n 0, 1) := by decide +kernel
theorem dX10_readNumber_87 : decode cX10_readNumber 87 = .ok (.getfield 201, 3) := by decide +kernel
theorem dX10_readNumber_90 : decode cX10_readNumber 90 = .ok (.ifCond .ne 7, 3) := by decide +kernel
theorem dX10_readNumber_93 : decode cX10_readNumber 93 = .ok (.aload_n 0, 1) := by decide +kernel
theorem dX10_readNumber_94 : decode cX10_readNumber 94 = .ok (.invokevirtual 221, 3) := by decide +kernel
theorem dX10_readNumber_97 : decode cX10_readNumber 97 = .ok (.iload_n 1, 1) := by decide +kernel
theorem dX10_readNumber_98 : decode cX10_readNumber 98 = .ok (.ireturn, 1) := by decide +kernel
theorem dX10_readWhat_0 : decode cX10_readWhat 0 = .ok (.aload_n 0, 1) := by decide +kernel
theorem dX10_readWhat_1 : decode cX10_readWhat 1 = .ok (.ldc 231, 2) := by decide +kernel
theorem dX10_readWhat_3 : decode cX10_readWhat 3 = .ok (.invokevirtual 217, 3) := by decide +kernel
theorem dX10_readWhat_6 : decode cX10_readWhat 6 = .ok (.ifCond .eq 20, 3) := by decide +kernel
theorem dX10_readWhat_9 : decode cX10_readWhat 9 = .ok (.aload_n 0, 1) := by decide +kernel
theorem dX10_readWhat_10 : decode cX10_readWhat 10 = .ok (.getfield 69, 3) := by decide +kernel
theorem dX10_readWhat_13 : decode cX10_readWhat 13 = .ok (.aload_n 0, 1) := by decide +kernel
theorem dX10_readWhat_14 : decode cX10_readWhat 14 = .ok (.getfield 233, 3) := by decide +kernel
theorem dX10_readWhat_17 : decode cX10_readWhat 17 = .ok (.iconst (-1), 1) := by decide +kernel
theorem dX10_readWhat_18 : decode cX10_readWhat 18 = .ok (.iastore, 1) := by decide +kernel
theorem dX10_readWhat_19 : decode cX10_readWhat 19 = .ok (.aload_n 0, 1) := by decide +kernel
theorem dX10_readWhat_20 : decode cX10_readWhat 20 = .ok (.invokevirtual 221, 3) := by decide +kernel
theorem dX10_readWhat_23 : decode cX10_readWhat 23 = .ok (.goto 19, 3) := by decide +kernel
theorem dX10_readWhat_26 : decode cX10_readWhat 26 = .ok (.aload_n 0, 1) := by decide +kernel
theorem dX10_readWhat_27 : decode cX10_readWhat 27 = .ok (.getfield 69, 3) := by decide +kernel
theorem dX10_readWhat_30 : decode cX10_readWhat 30 = .ok (.aload_n 0, 1) := by decide +kernel
theorem dX10_readWhat_31 : decode cX10_readWhat 31 = .ok (.getfield 233, 3) := by decide +kernel
theorem dX10_readWhat_34 : decode cX10_readWhat 34 = .ok (.aload_n 0, 1) := by decide +kernel
theorem dX10_readWhat_35 : decode cX10_readWhat 35 = .ok (.bipush 107, 2) := by decide +kernel
theorem dX10_readWhat_37 : decode cX10_readWhat 37 = .ok (.iconst 3, 1) := by decide +kernel
theorem dX10_readWhat_38 : decode cX10_readWhat 38 = .ok (.invokevirtual 236, 3) := by decide +kernel
theorem dX10_readWhat_41 : decode cX10_readWhat 41 = .ok (.iastore, 1) := by decide +kernel
theorem dX10_readWhat_42 : decode cX10_readWhat 42 = .ok (.aload_n 0, 1) := by decide +kernel
theorem dX10_readWhat_43 : decode cX10_readWhat 43 = .ok (.ldc 239, 2) := by decide +kernel
theorem dX10_readWhat_45 : decode cX10_readWhat 45 = .ok (.invokevirtual 217, 3) := by decide +kernel
theorem dX10_readWhat_48 : decode cX10_readWhat 48 = .ok (.ifCond .eq 20, 3) := by decide +kernel
theorem dX10_readWhat_51 : decode cX10_readWhat 51 = .ok (.aload_n 0, 1) := by decide +kernel
theorem dX10_readWhat_52 : decode cX10_readWhat 52 = .ok (.getfield 72, 3) := by decide +kernel
theorem dX10_readWhat_55 : decode cX10_readWhat 55 = .ok (.aload_n 0, 1) := by decide +kernel
theorem dX10_readWhat_56 : decode cX10_readWhat 56 = .ok (.getfield 233, 3) := by decide +kernel
theorem dX10_readWhat_59 : decode cX10_readWhat 59 = .ok (.iconst (-1), 1) := by decide +kernel
theorem dX10_readWhat_60 : decode cX10_readWhat 60 = .ok (.iastore, 1) := by decide +kernel
theorem dX10_readWhat_61 : decode cX10_readWhat 61 = .ok (.aload_n 0, 1) := by decide +kernel
theorem dX10_readWhat_62 : decode cX10_readWhat 62 = .ok (.invokevirtual 221, 3) := by decide +kernel
theorem dX10_readWhat_65 : decode cX10_readWhat 65 = .ok (.goto 20, 3) := by decide +kernel
theorem dX10_readWhat_68 : decode cX10_readWhat 68 = .ok (.aload_n 0, 1) := by decide +kernel
theorem dX10_readWhat_69 : decode cX10_readWhat 69 = .ok (.getfield 72, 3) := by decide +kernel
theorem dX10_readWhat_72 : decode cX10_readWhat 72 = .ok (.aload_n 0, 1) := by decide +kernel
theorem dX10_readWhat_73 : decode cX10_readWhat 73 = .ok (.getfield 233, 3) := by decide +kernel
theorem dX10_readWhat_76 : decode cX10_readWhat 76 = .ok (.aload_n 0, 1) := by decide +kernel
theorem dX10_readWhat_77 : decode cX10_readWhat 77 = .ok (.bipush 102, 2) := by decide +kernel
theorem dX10_readWhat_79 : decode cX10_readWhat 79 = .ok (.bipush 7, 2) := by decide +kernel
theorem dX10_readWhat_81 : decode cX10_readWhat 81 = .ok (.invokevirtual 236, 3) := by decide +kernel
theorem dX10_readWhat_84 : decode cX10_readWhat 84 = .ok (.iastore, 1) := by decide +kernel
theorem dX10_readWhat_85 : decode cX10_readWhat 85 = .ok (.return_, 1) := by decide +kernel
theorem dX10_readTests_0 : decode cX10_readTests 0 = .ok (.aload_n 0, 1) := by decide +kernel
theorem dX10_readTests_1 : decode cX10_readTests 1 = .ok (.ldc 241, 2) := by decide +kernel
theorem dX10_readTests_3 : decode cX10_readTests 3 = .ok (.invokevirtual 217, 3) := by decide +kernel
theorem dX10_readTests_6 : decode cX10_readTests 6 = .ok (.istore_n 1, 1) := by decide +kernel
theorem dX10_readTests_7 : decode cX10_readTests 7 = .ok (.iload_n 1, 1) := by decide +kernel
theorem dX10_readTests_8 : decode cX10_readTests 8 = .ok (.ifCond .eq 7, 3) := by decide +kernel
theorem dX10_readTests_11 : decode cX10_readTests 11 = .ok (.aload_n 0, 1) := by decide +kernel
theorem dX10_readTests_12 : decode cX10_readTests 12 = .ok (.invokevirtual 221, 3) := by decide +kernel
theorem dX10_readTests_15 : decode cX10_readTests 15 = .ok (.aload_n 0, 1) := by decide +kernel
theorem dX10_readTests_16 : decode cX10_readTests 16 = .ok (.getfield 201, 3) := by decide +kernel
theorem dX10_readTests_19 : decode cX10_readTests 19 = .ok (.ifCond .ne 195, 3) := by decide +kernel
theorem dX10_readTests_22 : decode cX10_readTests 22 = .ok (.iload_n 1, 1) := by decide +kernel
theorem dX10_readTests_23 : decode cX10_readTests 23 = .ok (.ifCond .eq 191, 3) := by decide +kernel
theorem dX10_readTests_26 : decode cX10_readTests 26 = .ok (.aload_n 0, 1) := by decide +kernel
theorem dX10_readTests_27 : decode cX10_readTests 27 = .ok (.bipush 97, 2) := by decide +kernel
theorem dX10_readTests_29 : decode cX10_readTests 29 = .ok (.iconst 3, 1) := by decide +kernel
theorem dX10_readTests_30 : decode cX10_readTests 30 = .ok (.invokevirtual 228, 3) := by decide +kernel
theorem dX10_readTests_33 : decode cX10_readTests 33 = .ok (.istore_n 2, 1) := by decide +kernel
theorem dX10_readTests_34 : decode cX10_readTests 34 = .ok (.iload_n 2, 1) := by decide +kernel
theorem dX10_readTests_35 : decode cX10_readTests 35 = .ok (.iconst (-1), 1) := by decide +kernel
theorem dX10_readTests_36 : decode cX10_readTests 36 = .ok (.if_icmp .ne 11, 3) := by decide +kernel
theorem dX10_readTests_39 : decode cX10_readTests 39 = .ok (.aload_n 0, 1) := by decide +kernel
theorem dX10_readTests_40 : decode cX10_readTests 40 = .ok (.iconst 1, 1) := by decide +kernel
theorem dX10_readTests_41 : decode cX10_readTests 41 = .ok (.invokevirtual 224, 3) := by decide +kernel
theorem dX10_readTests_44 : decode cX10_readTests 44 = .ok (.goto 21, 3) := by decide +kernel
theorem dX10_readTests_47 : decode cX10_readTests 47 = .ok (.aload_n 0, 1) := by decide +kernel
theorem dX10_readTests_48 : decode cX10_readTests 48 = .ok (.getfield 90, 3) := by decide +kernel
theorem dX10_readTests_51 : decode cX10_readTests 51 = .ok (.aload_n 0, 1) := by decide +kernel
theorem dX10_readTests_52 : decode cX10_readTests 52 = .ok (.getfield 233, 3) := by decide +kernel
theorem dX10_readTests_55 : decode cX10_readTests 55 = .ok (.iaload, 1) := by decide +kernel
theorem dX10_readTests_56 : decode cX10_readTests 56 = .ok (.iconst 4, 1) := by decide +kernel
theorem dX10_readTests_57 : decode cX10_readTests 57 = .ok (.if_icmp .ne 8, 3) := by decide +kernel
theorem dX10_readTests_60 : decode cX10_readTests 60 = .ok (.aload_n 0, 1) := by decide +kernel
theorem dX10_readTests_61 : decode cX10_readTests 61 = .ok (.iconst 2, 1) := by decide +kernel
theorem dX10_readTests_62 : decode cX10_readTests 62 = .ok (.invokevirtual 224, 3) := by decide +kernel
theorem dX10_readTests_65 : decode cX10_readTests 65 = .ok (.aload_n 0, 1) := by decide +kernel
theorem dX10_readTests_66 : decode cX10_readTests 66 = .ok (.getfield 201, 3) := by decide +kernel
theorem dX10_readTests_69 : decode cX10_readTests 69 = .ok (.ifCond .eq 4, 3) := by decide +kernel
theorem dX10_readTests_72 : decode cX10_readTests 72 = .ok (.return_, 1) := by decide +kernel
theorem dX10_readTests_73 : decode cX10_readTests 73 = .ok (.aload_n 0, 1) := by decide +kernel
theorem dX10_readTests_74 : decode cX10_readTests 74 = .ok (.invokevirtual 221, 3) := by decide +kernel
theorem dX10_readTests_77 : decode cX10_readTests 77 = .ok (.aload_n 0, 1) := by decide +kernel
theorem dX10_readTests_78 : decode cX10_readTests 78 = .ok (.getfield 189, 3) := by decide +kernel
theorem dX10_readTests_81 : decode cX10_readTests 81 = .ok (.iconst 3, 1) := by decide +kernel
theorem dX10_readTests_82 : decode cX10_readTests 82 = .ok (.if_icmp .ne 16, 3) := by decide +kernel
theorem dX10_readTests_85 : decode cX10_readTests 85 = .ok (.aload_n 0, 1) := by decide +kernel
theorem dX10_readTests_86 : decode cX10_readTests 86 = .ok (.getfield 186, 3) := by decide +kernel
theorem dX10_readTests_89 : decode cX10_readTests 89 = .ok (.bipush 60, 2) := by decide +kernel
theorem dX10_readTests_91 : decode cX10_readTests 91 = .ok (.if_icmp .ne 7, 3) := by decide +kernel
theorem dX10_readTests_94 : decode cX10_readTests 94 = .ok (.iconst 1, 1) := by decide +kernel
theorem dX10_readTests_95 : decode cX10_readTests 95 = .ok (.goto 4, 3) := by decide +kernel
theorem dX10_readTests_98 : decode cX10_readTests 98 = .ok (.iconst 0, 1) := by decide +kernel
theorem dX10_readTests_99 : decode cX10_readTests 99 = .ok (.istore_n 3, 1) := by decide +kernel
theorem dX10_readTests_100 : decode cX10_readTests 100 = .ok (.iload_n 3, 1) := by decide +kernel
theorem dX10_readTests_101 : decode cX10_readTests 101 = .ok (.ifCond .ne 25, 3) := by decide +kernel
theorem dX10_readTests_104 : decode cX10_readTests 104 = .ok (.aload_n 0, 1) := by decide +kernel
theorem dX10_readTests_105 : decode cX10_readTests 105 = .ok (.getfield 189, 3) := by decide +kernel
theorem dX10_readTests_108 : decode cX10_readTests 108 = .ok (.iconst 3, 1) := by decide +kernel
theorem dX10_readTests_109 : decode cX10_readTests 109 = .ok (.if_icmp .ne 12, 3) := by decide +kernel
theorem dX10_readTests_112 : decode cX10_readTests 112 = .ok (.aload_n 0, 1) := by decide +kernel
theorem dX10_readTests_113 : decode cX10_readTests 113 = .ok (.getfield 186, 3) := by decide +kernel
theorem dX10_readTests_116 : decode cX10_readTests 116 = .ok (.bipush 61, 2) := by decide +kernel
theorem dX10_readTests_118 : decode cX10_readTests 118 = .ok (.if_icmp .eq 8, 3) := by decide +kernel
theorem dX10_readTests_121 : decode cX10_readTests 121 = .ok (.aload_n 0, 1) := by decide +kernel
theorem dX10_readTests_122 : decode cX10_readTests 122 = .ok (.iconst 1, 1) := by decide +kernel
theorem dX10_readTests_123 : decode cX10_readTests 123 = .ok (.invokevirtual 224, 3) := by decide +kernel
theorem dX10_readTests_126 : decode cX10_readTests 126 = .ok (.aload_n 0, 1) := by decide +kernel
theorem dX10_readTests_127 : decode cX10_readTests 127 = .ok (.getfield 201, 3) := by decide +kernel
theorem dX10_readTests_130 : decode cX10_readTests 130 = .ok (.ifCond .eq 4, 3) := by decide +kernel
theorem dX10_readTests_133 : decode cX10_readTests 133 = .ok (.return_, 1) := by decide +kernel
theorem dX10_readTests_134 : decode cX10_readTests 134 = .ok (.aload_n 0, 1) := by decide +kernel
theorem dX10_readTests_135 : decode cX10_readTests 135 = .ok (.invokevirtual 221, 3) := by decide +kernel
theorem dX10_readTests_138 : decode cX10_readTests 138 = .ok (.iconst 4, 1) := by decide +kernel
theorem dX10_readTests_139 : decode cX10_readTests 139 = .ok (.aload_n 0, 1) := by decide +kernel
theorem dX10_readTests_140 : decode cX10_readTests 140 = .ok (.getfield 233, 3) := by decide +kernel
theorem dX10_readTests_143 : decode cX10_readTests 143 = .ok (.imul, 1) := by decide +kernel
theorem dX10_readTests_144 : decode cX10_readTests 144 = .ok (.aload_n 0, 1) := by decide +kernel
theorem dX10_readTests_145 : decode cX10_readTests 145 = .ok (.getfield 90, 3) := by decide +kernel
theorem dX10_readTests_148 : decode cX10_readTests 148 = .ok (.aload_n 0, 1) := by decide +kernel
theorem dX10_readTests_149 : decode cX10_readTests 149 = .ok (.getfield 233, 3) := by decide +kernel
theorem dX10_readTests_152 : decode cX10_readTests 152 = .ok (.iaload, 1) := by decide +kernel
theorem dX10_readTests_153 : decode cX10_readTests 153 = .ok (.iadd, 1) := by decide +kernel
theorem dX10_readTests_154 : decode cX10_readTests 154 = .ok (.istore 4, 2) := by decide +kernel
theorem dX10_readTests_156 : decode cX10_readTests 156 = .ok (.aload_n 0, 1) := by decide +kernel
theorem dX10_readTests_157 : decode cX10_readTests 157 = .ok (.getfield 93, 3) := by decide +kernel
theorem dX10_readTests_160 : decode cX10_readTests 160 = .ok (.iload 4, 2) := by decide +kernel
theorem dX10_readTests_162 : decode cX10_readTests 162 = .ok (.iload_n 2, 1) := by decide +kernel
theorem dX10_readTests_163 : decode cX10_readTests 163 = .ok (.iastore, 1) := by decide +kernel
theorem dX10_readTests_164 : decode cX10_readTests 164 = .ok (.aload_n 0, 1) := by decide +kernel
theorem dX10_readTests_165 : decode cX10_readTests 165 = .ok (.getfield 99, 3) := by decide +kernel
theorem dX10_readTests_168 : decode cX10_readTests 168 = .ok (.iload 4, 2) := by decide +kernel
theorem dX10_readTests_170 : decode cX10_readTests 170 = .ok (.iload_n 3, 1) := by decide +kernel
theorem dX10_readTests_171 : decode cX10_readTests 171 = .ok (.bastore, 1) := by decide +kernel
theorem dX10_readTests_172 : decode cX10_readTests 172 = .ok (.aload_n 0, 1) := by decide +kernel
theorem dX10_readTests_173 : decode cX10_readTests 173 = .ok (.getfield 96, 3) := by decide +kernel
theorem dX10_readTests_176 : decode cX10_readTests 176 = .ok (.iload 4, 2) := by decide +kernel
theorem dX10_readTests_178 : decode cX10_readTests 178 = .ok (.aload_n 0, 1) := by decide +kernel
theorem dX10_readTests_179 : decode cX10_readTests 179 = .ok (.invokevirtual 243, 3) := by decide +kernel
theorem dX10_readTests_182 : decode cX10_readTests 182 = .ok (.iastore, 1) := by decide +kernel
theorem dX10_readTests_183 : decode cX10_readTests 183 = .ok (.aload_n 0, 1) := by decide +kernel
theorem dX10_readTests_184 : decode cX10_readTests 184 = .ok (.getfield 90, 3) := by decide +kernel
theorem dX10_readTests_187 : decode cX10_readTests 187 = .ok (.aload_n 0, 1) := by decide +kernel
theorem dX10_readTests_188 : decode cX10_readTests 188 = .ok (.getfield 233, 3) := by decide +kernel
theorem dX10_readTests_191 : decode cX10_readTests 191 = .ok (.dup2, 1) := by decide +kernel
theorem dX10_readTests_192 : decode cX10_readTests 192 = .ok (.iaload, 1) := by decide +kernel
theorem dX10_readTests_193 : decode cX10_readTests 193 = .ok (.iconst 1, 1) := by decide +kernel
theorem dX10_readTests_194 : decode cX10_readTests 194 = .ok (.iadd, 1) := by decide +kernel
theorem dX10_readTests_195 : decode cX10_readTests 195 = .ok (.iastore, 1) := by decide +kernel
theorem dX10_readTests_196 : decode cX10_readTests 196 = .ok (.aload_n 0, 1) := by decide +kernel
theorem dX10_readTests_197 : decode cX10_readTests 197 = .ok (.ldc 246, 2) := by decide +kernel
theorem dX10_readTests_199 : decode cX10_readTests 199 = .ok (.invokevirtual 217, 3) := by decide +kernel
theorem dX10_readTests_202 : decode cX10_readTests 202 = .ok (.istore_n 1, 1) := by decide +kernel
theorem dX10_readTests_203 : decode cX10_readTests 203 = .ok (.iload_n 1, 1) := by decide +kernel
theorem dX10_readTests_204 : decode cX10_readTests 204 = .ok (.ifCond .eq 7, 3) := by decide +kernel
theorem dX10_readTests_207 : decode cX10_readTests 207 = .ok (.aload_n 0, 1) := by decide +kernel
theorem dX10_readTests_208 : decode cX10_readTests 208 = .ok (.invokevirtual 221, 3) := by decide +kernel
theorem dX10_readTests_211 : decode cX10_readTests 211 = .ok (.goto (-196), 3) := by decide +kernel
theorem dX10_readTests_214 : decode cX10_readTests 214 = .ok (.return_, 1) := by decide +kernel
theorem dX10_readRule_0 : decode cX10_readRule 0 = .ok (.aload_n 0, 1) := by decide +kernel
theorem dX10_readRule_1 : decode cX10_readRule 1 = .ok (.ldc 248, 2) := by decide +kernel
theorem dX10_readRule_3 : decode cX10_readRule 3 = .ok (.invokevirtual 217, 3) := by decide +kernel
theorem dX10_readRule_6 : decode cX10_readRule 6 = .ok (.istore_n 1, 1) := by decide +kernel
theorem dX10_readRule_7 : decode cX10_readRule 7 = .ok (.aload_n 0, 1) := by decide +kernel
theorem dX10_readRule_8 : decode cX10_readRule 8 = .ok (.ldc 250, 2) := by decide +kernel
theorem dX10_readRule_10 : decode cX10_readRule 10 = .ok (.invokevirtual 217, 3) := by decide +kernel
theorem dX10_readRule_13 : decode cX10_readRule 13 = .ok (.istore_n 2, 1) := by decide +kernel
theorem dX10_readRule_14 : decode cX10_readRule 14 = .ok (.aload_n 0, 1) := by decide +kernel
theorem dX10_readRule_15 : decode cX10_readRule 15 = .ok (.getfield 66, 3) := by decide +kernel
theorem dX10_readRule_18 : decode cX10_readRule 18 = .ok (.aload_n 0, 1) := by decide +kernel
theorem dX10_readRule_19 : decode cX10_readRule 19 = .ok (.getfield 233, 3) := by decide +kernel
theorem dX10_readRule_22 : decode cX10_readRule 22 = .ok (.iload_n 1, 1) := by decide +kernel
theorem dX10_readRule_23 : decode cX10_readRule 23 = .ok (.ifCond .eq 7, 3) := by decide +kernel
theorem dX10_readRule_26 : decode cX10_readRule 26 = .ok (.iconst 0, 1) := by decide +kernel
theorem dX10_readRule_27 : decode cX10_readRule 27 = .ok (.goto 12, 3) := by decide +kernel
theorem dX10_readRule_30 : decode cX10_readRule 30 = .ok (.iload_n 2, 1) := by decide +kernel
theorem dX10_readRule_31 : decode cX10_readRule 31 = .ok (.ifCond .eq 7, 3) := by decide +kernel
theorem dX10_readRule_34 : decode cX10_readRule 34 = .ok (.iconst 1, 1) := by decide +kernel
theorem dX10_readRule_35 : decode cX10_readRule 35 = .ok (.goto 4, 3) := by decide +kernel
theorem dX10_readRule_38 : decode cX10_readRule 38 = .ok (.iconst 2, 1) := by decide +kernel
theorem dX10_readRule_39 : decode cX10_readRule 39 = .ok (.iastore, 1) := by decide +kernel
theorem dX10_readRule_40 : decode cX10_readRule 40 = .ok (.aload_n 0, 1) := by decide +kernel
theorem dX10_readRule_41 : decode cX10_readRule 41 = .ok (.invokevirtual 221, 3) := by decide +kernel
theorem dX10_readRule_44 : decode cX10_readRule 44 = .ok (.aload_n 0, 1) := by decide +kernel
theorem dX10_readRule_45 : decode cX10_readRule 45 = .ok (.invokevirtual 252, 3) := by decide +kernel
theorem dX10_readRule_48 : decode cX10_readRule 48 = .ok (.aload_n 0, 1) := by decide +kernel
theorem dX10_readRule_49 : decode cX10_readRule 49 = .ok (.getfield 84, 3) := by decide +kernel
theorem dX10_readRule_52 : decode cX10_readRule 52 = .ok (.aload_n 0, 1) := by decide +kernel
theorem dX10_readRule_53 : decode cX10_readRule 53 = .ok (.getfield 233, 3) := by decide +kernel
theorem dX10_readRule_56 : decode cX10_readRule 56 = .ok (.iconst 0, 1) := by decide +kernel
theorem dX10_readRule_57 : decode cX10_readRule 57 = .ok (.iastore, 1) := by decide +kernel
theorem dX10_readRule_58 : decode cX10_readRule 58 = .ok (.aload_n 0, 1) := by decide +kernel
theorem dX10_readRule_59 : decode cX10_readRule 59 = .ok (.getfield 90, 3) := by decide +kernel
theorem dX10_readRule_62 : decode cX10_readRule 62 = .ok (.aload_n 0, 1) := by decide +kernel
theorem dX10_readRule_63 : decode cX10_readRule 63 = .ok (.getfield 233, 3) := by decide +kernel
theorem dX10_readRule_66 : decode cX10_readRule 66 = .ok (.iconst 0, 1) := by decide +kernel
theorem dX10_readRule_67 : decode cX10_readRule 67 = .ok (.iastore, 1) := by decide +kernel
theorem dX10_readRule_68 : decode cX10_readRule 68 = .ok (.aload_n 0, 1) := by decide +kernel
theorem dX10_readRule_69 : decode cX10_readRule 69 = .ok (.getfield 87, 3) := by decide +kernel
theorem dX10_readRule_72 : decode cX10_readRule 72 = .ok (.aload_n 0, 1) := by decide +kernel
theorem dX10_readRule_73 : decode cX10_readRule 73 = .ok (.getfield 233, 3) := by decide +kernel
theorem dX10_readRule_76 : decode cX10_readRule 76 = .ok (.iconst 0, 1) := by decide +kernel
theorem dX10_readRule_77 : decode cX10_readRule 77 = .ok (.iastore, 1) := by decide +kernel
theorem dX10_readRule_78 : decode cX10_readRule 78 = .ok (.iload_n 1, 1) := by decide +kernel
theorem dX10_readRule_79 : decode cX10_readRule 79 = .ok (.ifCond .ne 7, 3) := by decide +kernel
theorem dX10_readRule_82 : decode cX10_readRule 82 = .ok (.iload_n 2, 1) := by decide +kernel
theorem dX10_readRule_83 : decode cX10_readRule 83 = .ok (.ifCond .eq 130, 3) := by decide +kernel
theorem dX10_readRule_86 : decode cX10_readRule 86 = .ok (.aload_n 0, 1) := by decide +kernel
theorem dX10_readRule_87 : decode cX10_readRule 87 = .ok (.getfield 75, 3) := by decide +kernel
theorem dX10_readRule_90 : decode cX10_readRule 90 = .ok (.aload_n 0, 1) := by decide +kernel
theorem dX10_readRule_91 : decode cX10_readRule 91 = .ok (.getfield 233, 3) := by decide +kernel
theorem dX10_readRule_94 : decode cX10_readRule 94 = .ok (.aload_n 0, 1) := by decide +kernel
theorem dX10_readRule_95 : decode cX10_readRule 95 = .ok (.invokevirtual 243, 3) := by decide +kernel
theorem dX10_readRule_98 : decode cX10_readRule 98 = .ok (.iastore, 1) := by decide +kernel
theorem dX10_readRule_99 : decode cX10_readRule 99 = .ok (.aload_n 0, 1) := by decide +kernel
theorem dX10_readRule_100 : decode cX10_readRule 100 = .ok (.getfield 78, 3) := by decide +kernel
theorem dX10_readRule_103 : decode cX10_readRule 103 = .ok (.aload_n 0, 1) := by decide +kernel
theorem dX10_readRule_104 : decode cX10_readRule 104 = .ok (.getfield 233, 3) := by decide +kernel
theorem dX10_readRule_107 : decode cX10_readRule 107 = .ok (.aload_n 0, 1) := by decide +kernel
theorem dX10_readRule_108 : decode cX10_readRule 108 = .ok (.ldc 255, 2) := by decide +kernel
theorem dX10_readRule_110 : decode cX10_readRule 110 = .ok (.invokevirtual 217, 3) := by decide +kernel
theorem dX10_readRule_113 : decode cX10_readRule 113 = .ok (.ifCond .eq 7, 3) := by decide +kernel
theorem dX10_readRule_116 : decode cX10_readRule 116 = .ok (.iconst 0, 1) := by decide +kernel
theorem dX10_readRule_117 : decode cX10_readRule 117 = .ok (.goto 33, 3) := by decide +kernel
theorem dX10_readRule_120 : decode cX10_readRule 120 = .ok (.aload_n 0, 1) := by decide +kernel
theorem dX10_readRule_121 : decode cX10_readRule 121 = .ok (.ldc_w 257, 3) := by decide +kernel
theorem dX10_readRule_124 : decode cX10_readRule 124 = .ok (.invokevirtual 217, 3) := by decide +kernel
theorem dX10_readRule_127 : decode cX10_readRule 127 = .ok (.ifCond .eq 7, 3) := by decide +kernel
theorem dX10_readRule_130 : decode cX10_readRule 130 = .ok (.iconst 1, 1) := by decide +kernel
theorem dX10_readRule_131 : decode cX10_readRule 131 = .ok (.goto 19, 3) := by decide +kernel
theorem dX10_readRule_134 : decode cX10_readRule 134 = .ok (.aload_n 0, 1) := by decide +kernel
theorem dX10_readRule_135 : decode cX10_readRule 135 = .ok (.ldc_w 259, 3) := by decide +kernel
theorem dX10_readRule_138 : decode cX10_readRule 138 = .ok (.invokevirtual 217, 3) := by decide +kernel
theorem dX10_readRule_141 : decode cX10_readRule 141 = .ok (.ifCond .eq 8, 3) := by decide +kernel
theorem dX10_readRule_144 : decode cX10_readRule 144 = .ok (.bipush 12, 2) := by decide +kernel
theorem dX10_readRule_146 : decode cX10_readRule 146 = .ok (.goto 4, 3) := by decide +kernel
theorem dX10_readRule_149 : decode cX10_readRule 149 = .ok (.iconst (-1), 1) := by decide +kernel
theorem dX10_readRule_150 : decode cX10_readRule 150 = .ok (.iastore, 1) := by decide +kernel
theorem dX10_readRule_151 : decode cX10_readRule 151 = .ok (.aload_n 0, 1) := by decide +kernel
theorem dX10_readRule_152 : decode cX10_readRule 152 = .ok (.getfield 201, 3) := by decide +kernel
theorem dX10_readRule_155 : decode cX10_readRule 155 = .ok (.ifCond .ne 21, 3) := by decide +kernel
theorem dX10_readRule_158 : decode cX10_readRule 158 = .ok (.aload_n 0, 1) := by decide +kernel
theorem dX10_readRule_159 : decode cX10_readRule 159 = .ok (.getfield 78, 3) := by decide +kernel
theorem dX10_readRule_162 : decode cX10_readRule 162 = .ok (.aload_n 0, 1) := by decide +kernel
theorem dX10_readRule_163 : decode cX10_readRule 163 = .ok (.getfield 233, 3) := by decide +kernel
theorem dX10_readRule_166 : decode cX10_readRule 166 = .ok (.iaload, 1) := by decide +kernel
theorem dX10_readRule_167 : decode cX10_readRule 167 = .ok (.iconst (-1), 1) := by decide +kernel
theorem dX10_readRule_168 : decode cX10_readRule 168 = .ok (.if_icmp .ne 8, 3) := by decide +kernel
theorem dX10_readRule_171 : decode cX10_readRule 171 = .ok (.aload_n 0, 1) := by decide +kernel
theorem dX10_readRule_172 : decode cX10_readRule 172 = .ok (.iconst 1, 1) := by decide +kernel
theorem dX10_readRule_173 : decode cX10_readRule 173 = .ok (.invokevirtual 224, 3) := by decide +kernel
theorem dX10_readRule_176 : decode cX10_readRule 176 = .ok (.aload_n 0, 1) := by decide +kernel
theorem dX10_readRule_177 : decode cX10_readRule 177 = .ok (.getfield 201, 3) := by decide +kernel
theorem dX10_readRule_180 : decode cX10_readRule 180 = .ok (.ifCond .ne 7, 3) := by decide +kernel
theorem dX10_readRule_183 : decode cX10_readRule 183 = .ok (.aload_n 0, 1) := by decide +kernel
theorem dX10_readRule_184 : decode cX10_readRule 184 = .ok (.invokevirtual 221, 3) := by decide +kernel
theorem dX10_readRule_187 : decode cX10_readRule 187 = .ok (.aload_n 0, 1) := by decide +kernel
theorem dX10_readRule_188 : decode cX10_readRule 188 = .ok (.ldc_w 261, 3) := by decide +kernel
theorem dX10_readRule_191 : decode cX10_readRule 191 = .ok (.invokevirtual 262, 3) := by decide +kernel
theorem dX10_readRule_194 : decode cX10_readRule 194 = .ok (.aload_n 0, 1) := by decide +kernel
theorem dX10_readRule_195 : decode cX10_readRule 195 = .ok (.getfield 81, 3) := by decide +kernel
theorem dX10_readRule_198 : decode cX10_readRule 198 = .ok (.aload_n 0, 1) := by decide +kernel
theorem dX10_readRule_199 : decode cX10_readRule 199 = .ok (.getfield 233, 3) := by decide +kernel
theorem dX10_readRule_202 : decode cX10_readRule 202 = .ok (.aload_n 0, 1) := by decide +kernel
theorem dX10_readRule_203 : decode cX10_readRule 203 = .ok (.bipush 101, 2) := by decide +kernel
theorem dX10_readRule_205 : decode cX10_readRule 205 = .ok (.iconst 3, 1) := by decide +kernel
theorem dX10_readRule_206 : decode cX10_readRule 206 = .ok (.invokevirtual 236, 3) := by decide +kernel
theorem dX10_readRule_209 : decode cX10_readRule 209 = .ok (.iastore, 1) := by decide +kernel
theorem dX10_readRule_210 : decode cX10_readRule 210 = .ok (.goto 92, 3) := by decide +kernel
theorem dX10_readRule_213 : decode cX10_readRule 213 = .ok (.aload_n 0, 1) := by decide +kernel
theorem dX10_readRule_214 : decode cX10_readRule 214 = .ok (.bipush 115, 2) := by decide +kernel
theorem dX10_readRule_216 : decode cX10_readRule 216 = .ok (.iconst 3, 1) := by decide +kernel
theorem dX10_readRule_217 : decode cX10_readRule 217 = .ok (.invokevirtual 236, 3) := by decide +kernel
theorem dX10_readRule_220 : decode cX10_readRule 220 = .ok (.istore_n 3, 1) := by decide +kernel
theorem dX10_readRule_221 : decode cX10_readRule 221 = .ok (.aload_n 0, 1) := by decide +kernel
theorem dX10_readRule_222 : decode cX10_readRule 222 = .ok (.getfield 201, 3) := by decide +kernel
theorem dX10_readRule_225 : decode cX10_readRule 225 = .ok (.ifCond .ne 77, 3) := by decide +kernel
theorem dX10_readRule_228 : decode cX10_readRule 228 = .ok (.iload_n 3, 1) := by decide +kernel
theorem dX10_readRule_229 : decode cX10_readRule 229 = .ok (.iconst (-1), 1) := by decide +kernel
theorem dX10_readRule_230 : decode cX10_readRule 230 = .ok (.if_icmp .eq 72, 3) := by decide +kernel
theorem dX10_readRule_233 : decode cX10_readRule 233 = .ok (.aload_n 0, 1) := by decide +kernel
theorem dX10_readRule_234 : decode cX10_readRule 234 = .ok (.getfield 84, 3) := by decide +kernel
theorem dX10_readRule_237 : decode cX10_readRule 237 = .ok (.aload_n 0, 1) := by decide +kernel
theorem dX10_readRule_238 : decode cX10_readRule 238 = .ok (.getfield 233, 3) := by decide +kernel
theorem dX10_readRule_241 : decode cX10_readRule 241 = .ok (.dup2, 1) := by decide +kernel
theorem dX10_readRule_242 : decode cX10_readRule 242 = .ok (.iaload, 1) := by decide +kernel
theorem dX10_readRule_243 : decode cX10_readRule 243 = .ok (.iconst 1, 1) := by decide +kernel
theorem dX10_readRule_244 : decode cX10_readRule 244 = .ok (.iload_n 3, 1) := by decide +kernel
theorem dX10_readRule_245 : decode cX10_readRule 245 = .ok (.ishl, 1) := by decide +kernel
theorem dX10_readRule_246 : decode cX10_readRule 246 = .ok (.ior, 1) := by decide +kernel
theorem dX10_readRule_247 : decode cX10_readRule 247 = .ok (.iastore, 1) := by decide +kernel
theorem dX10_readRule_248 : decode cX10_readRule 248 = .ok (.aload_n 0, 1) := by decide +kernel
theorem dX10_readRule_249 : decode cX10_readRule 249 = .ok (.bipush 115, 2) := by decide +kernel
theorem dX10_readRule_251 : decode cX10_readRule 251 = .ok (.iconst 3, 1) := by decide +kernel
theorem dX10_readRule_252 : decode cX10_readRule 252 = .ok (.invokevirtual 228, 3) := by decide +kernel
theorem dX10_readRule_255 : decode cX10_readRule 255 = .ok (.istore_n 3, 1) := by decide +kernel
theorem dX10_readRule_256 : decode cX10_readRule 256 = .ok (.iload_n 3, 1) := by decide +kernel
theorem dX10_readRule_257 : decode cX10_readRule 257 = .ok (.iconst (-1), 1) := by decide +kernel
theorem dX10_readRule_258 : decode cX10_readRule 258 = .ok (.if_icmp .eq 25, 3) := by decide +kernel
theorem dX10_readRule_261 : decode cX10_readRule 261 = .ok (.aload_n 0, 1) := by decide +kernel
theorem dX10_readRule_262 : decode cX10_readRule 262 = .ok (.getfield 84, 3) := by decide +kernel
theorem dX10_readRule_265 : decode cX10_readRule 265 = .ok (.aload_n 0, 1) := by decide +kernel
theorem dX10_readRule_266 : decode cX10_readRule 266 = .ok (.getfield 233, 3) := by decide +kernel
theorem dX10_readRule_269 : decode cX10_readRule 269 = .ok (.iaload, 1) := by decide +kernel
theorem dX10_readRule_270 : decode cX10_readRule 270 = .ok (.iload_n 3, 1) := by decide +kernel
theorem dX10_readRule_271 : decode cX10_readRule 271 = .ok (.ishr, 1) := by decide +kernel
theorem dX10_readRule_272 : decode cX10_readRule 272 = .ok (.iconst 1, 1) := by decide +kernel
theorem dX10_readRule_273 : decode cX10_readRule 273 = .ok (.iand, 1) := by decide +kernel
theorem dX10_readRule_274 : decode cX10_readRule 274 = .ok (.iconst 1, 1) := by decide +kernel
theorem dX10_readRule_275 : decode cX10_readRule 275 = .ok (.if_icmp .ne 8, 3) := by decide +kernel
theorem dX10_readRule_278 : decode cX10_readRule 278 = .ok (.aload_n 0, 1) := by decide +kernel
theorem dX10_readRule_279 : decode cX10_readRule 279 = .ok (.iconst 3, 1) := by decide +kernel
theorem dX10_readRule_280 : decode cX10_readRule 280 = .ok (.invokevirtual 224, 3) := by decide +kernel
theorem dX10_readRule_283 : decode cX10_readRule 283 = .ok (.aload_n 0, 1) := by decide +kernel
theorem dX10_readRule_284 : decode cX10_readRule 284 = .ok (.getfield 201, 3) := by decide +kernel
theorem dX10_readRule_287 : decode cX10_readRule 287 = .ok (.ifCond .ne (-66), 3) := by decide +kernel
theorem dX10_readRule_290 : decode cX10_readRule 290 = .ok (.iload_n 3, 1) := by decide +kernel
theorem dX10_readRule_291 : decode cX10_readRule 291 = .ok (.iconst (-1), 1) := by decide +kernel
theorem dX10_readRule_292 : decode cX10_readRule 292 = .ok (.if_icmp .eq (-71), 3) := by decide +kernel
theorem dX10_readRule_295 : decode cX10_readRule 295 = .ok (.aload_n 0, 1) := by decide +kernel
theorem dX10_readRule_296 : decode cX10_readRule 296 = .ok (.invokevirtual 221, 3) := by decide +kernel
theorem dX10_readRule_299 : decode cX10_readRule 299 = .ok (.goto (-78), 3) := by decide +kernel
theorem dX10_readRule_302 : decode cX10_readRule 302 = .ok (.aload_n 0, 1) := by decide +kernel
theorem dX10_readRule_303 : decode cX10_readRule 303 = .ok (.invokevirtual 266, 3) := by decide +kernel
theorem dX10_readRule_306 : decode cX10_readRule 306 = .ok (.aload_n 0, 1) := by decide +kernel
theorem dX10_readRule_307 : decode cX10_readRule 307 = .ok (.ldc_w 269, 3) := by decide +kernel
theorem dX10_readRule_310 : decode cX10_readRule 310 = .ok (.invokevirtual 217, 3) := by decide +kernel
theorem dX10_readRule_313 : decode cX10_readRule 313 = .ok (.ifCond .eq 20, 3) := by decide +kernel
theorem dX10_readRule_316 : decode cX10_readRule 316 = .ok (.aload_n 0, 1) := by decide +kernel
theorem dX10_readRule_317 : decode cX10_readRule 317 = .ok (.invokevirtual 221, 3) := by decide +kernel
theorem dX10_readRule_320 : decode cX10_readRule 320 = .ok (.aload_n 0, 1) := by decide +kernel
theorem dX10_readRule_321 : decode cX10_readRule 321 = .ok (.getfield 87, 3) := by decide +kernel
theorem dX10_readRule_324 : decode cX10_readRule 324 = .ok (.aload_n 0, 1) := by decide +kernel
theorem dX10_readRule_325 : decode cX10_readRule 325 = .ok (.getfield 233, 3) := by decide +kernel
theorem dX10_readRule_328 : decode cX10_readRule 328 = .ok (.aload_n 0, 1) := by decide +kernel
theorem dX10_readRule_329 : decode cX10_readRule 329 = .ok (.invokevirtual 243, 3) := by decide +kernel
theorem dX10_readRule_332 : decode cX10_readRule 332 = .ok (.iastore, 1) := by decide +kernel
theorem dX10_readRule_333 : decode cX10_readRule 333 = .ok (.aload_n 0, 1) := by decide +kernel
theorem dX10_readRule_334 : decode cX10_readRule 334 = .ok (.getfield 201, 3) := by decide +kernel
theorem dX10_readRule_337 : decode cX10_readRule 337 = .ok (.ifCond .ne 25, 3) := by decide +kernel
theorem dX10_readRule_340 : decode cX10_readRule 340 = .ok (.aload_n 0, 1) := by decide +kernel
theorem dX10_readRule_341 : decode cX10_readRule 341 = .ok (.getfield 189, 3) := by decide +kernel
theorem dX10_readRule_344 : decode cX10_readRule 344 = .ok (.iconst 3, 1) := by decide +kernel
theorem dX10_readRule_345 : decode cX10_readRule 345 = .ok (.if_icmp .ne 12, 3) := by decide +kernel
theorem dX10_readRule_348 : decode cX10_readRule 348 = .ok (.aload_n 0, 1) := by decide +kernel
theorem dX10_readRule_349 : decode cX10_readRule 349 = .ok (.getfield 186, 3) := by decide +kernel
theorem dX10_readRule_352 : decode cX10_readRule 352 = .ok (.bipush 59, 2) := by decide +kernel
theorem dX10_readRule_354 : decode cX10_readRule 354 = .ok (.if_icmp .eq 8, 3) := by decide +kernel
theorem dX10_readRule_357 : decode cX10_readRule 357 = .ok (.aload_n 0, 1) := by decide +kernel
theorem dX10_readRule_358 : decode cX10_readRule 358 = .ok (.iconst 1, 1) := by decide +kernel
theorem dX10_readRule_359 : decode cX10_readRule 359 = .ok (.invokevirtual 224, 3) := by decide +kernel
theorem dX10_readRule_362 : decode cX10_readRule 362 = .ok (.aload_n 0, 1) := by decide +kernel
theorem dX10_readRule_363 : decode cX10_readRule 363 = .ok (.getfield 201, 3) := by decide +kernel
theorem dX10_readRule_366 : decode cX10_readRule 366 = .ok (.ifCond .ne 7, 3) := by decide +kernel
theorem dX10_readRule_369 : decode cX10_readRule 369 = .ok (.aload_n 0, 1) := by decide +kernel
theorem dX10_readRule_370 : decode cX10_readRule 370 = .ok (.invokevirtual 221, 3) := by decide +kernel
theorem dX10_readRule_373 : decode cX10_readRule 373 = .ok (.return_, 1) := by decide +kernel
theorem dX10_rules_0 : decode cX10_rules 0 = .ok (.aload_n 0, 1) := by decide +kernel
theorem dX10_rules_1 : decode cX10_rules 1 = .ok (.iconst 0, 1) := by decide +kernel
theorem dX10_rules_2 : decode cX10_rules 2 = .ok (.putfield 126, 3) := by decide +kernel
theorem dX10_rules_5 : decode cX10_rules 5 = .ok (.iload_n 1, 1) := by decide +kernel
theorem dX10_rules_6 : decode cX10_rules 6 = .ok (.ifCond .lt 18, 3) := by decide +kernel
theorem dX10_rules_9 : decode cX10_rules 9 = .ok (.iload_n 1, 1) := by decide +kernel
theorem dX10_rules_10 : decode cX10_rules 10 = .ok (.aload_n 0, 1) := by decide +kernel
theorem dX10_rules_11 : decode cX10_rules 11 = .ok (.getfield 171, 3) := by decide +kernel
theorem dX10_rules_14 : decode cX10_rules 14 = .ok (.if_icmp .gt 10, 3) := by decide +kernel
theorem dX10_rules_17 : decode cX10_rules 17 = .ok (.iload_n 2, 1) := by decide +kernel
theorem dX10_rules_18 : decode cX10_rules 18 = .ok (.invokestatic 155, 3) := by decide +kernel
theorem dX10_rules_21 : decode cX10_rules 21 = .ok (.ifCond .ne 9, 3) := by decide +kernel
theorem dX10_rules_24 : decode cX10_rules 24 = .ok (.aload_n 0, 1) := by decide +kernel
theorem dX10_rules_25 : decode cX10_rules 25 = .ok (.iconst 1, 1) := by decide +kernel
theorem dX10_rules_26 : decode cX10_rules 26 = .ok (.invokevirtual 152, 3) := by decide +kernel
theorem dX10_rules_29 : decode cX10_rules 29 = .ok (.ireturn, 1) := by decide +kernel
theorem dX10_rules_30 : decode cX10_rules 30 = .ok (.aload_n 0, 1) := by decide +kernel
theorem dX10_rules_31 : decode cX10_rules 31 = .ok (.iconst 0, 1) := by decide +kernel
theorem dX10_rules_32 : decode cX10_rules 32 = .ok (.putfield 171, 3) := by decide +kernel
theorem dX10_rules_35 : decode cX10_rules 35 = .ok (.aload_n 0, 1) := by decide +kernel
theorem dX10_rules_36 : decode cX10_rules 36 = .ok (.iconst (-1), 1) := by decide +kernel
theorem dX10_rules_37 : decode cX10_rules 37 = .ok (.putfield 9, 3) := by decide +kernel
theorem dX10_rules_40 : decode cX10_rules 40 = .ok (.aload_n 0, 1) := by decide +kernel
theorem dX10_rules_41 : decode cX10_rules 41 = .ok (.getfield 270, 3) := by decide +kernel
theorem dX10_rules_44 : decode cX10_rules 44 = .ok (.bipush 8, 2) := by decide +kernel
theorem dX10_rules_46 : decode cX10_rules 46 = .ok (.if_icmp .ne 6, 3) := by decide +kernel
theorem dX10_rules_49 : decode cX10_rules 49 = .ok (.bipush (-9), 2) := by decide +kernel
theorem dX10_rules_51 : decode cX10_rules 51 = .ok (.ireturn, 1) := by decide +kernel
theorem dX10_rules_52 : decode cX10_rules 52 = .ok (.aload_n 0, 1) := by decide +kernel
theorem dX10_rules_53 : decode cX10_rules 53 = .ok (.iload_n 1, 1) := by decide +kernel
theorem dX10_rules_54 : decode cX10_rules 54 = .ok (.putfield 174, 3) := by decide +kernel
theorem dX10_rules_57 : decode cX10_rules 57 = .ok (.aload_n 0, 1) := by decide +kernel
theorem dX10_rules_58 : decode cX10_rules 58 = .ok (.iconst 0, 1) := by decide +kernel
theorem dX10_rules_59 : decode cX10_rules 59 = .ok (.putfield 177, 3) := by decide +kernel
theorem dX10_rules_62 : decode cX10_rules 62 = .ok (.aload_n 0, 1) := by decide +kernel
theorem dX10_rules_63 : decode cX10_rules 63 = .ok (.iconst 0, 1) := by decide +kernel
theorem dX10_rules_64 : decode cX10_rules 64 = .ok (.putfield 201, 3) := by decide +kernel
theorem dX10_rules_67 : decode cX10_rules 67 = .ok (.iconst 0, 1) := by decide +kernel
theorem dX10_rules_68 : decode cX10_rules 68 = .ok (.istore_n 3, 1) := by decide +kernel
theorem dX10_rules_69 : decode cX10_rules 69 = .ok (.aload_n 0, 1) := by decide +kernel
theorem dX10_rules_70 : decode cX10_rules 70 = .ok (.invokevirtual 221, 3) := by decide +kernel
theorem dX10_rules_73 : decode cX10_rules 73 = .ok (.aload_n 0, 1) := by decide +kernel
theorem dX10_rules_74 : decode cX10_rules 74 = .ok (.getfield 201, 3) := by decide +kernel
theorem dX10_rules_77 : decode cX10_rules 77 = .ok (.ifCond .ne 90, 3) := by decide +kernel
theorem dX10_rules_80 : decode cX10_rules 80 = .ok (.aload_n 0, 1) := by decide +kernel
theorem dX10_rules_81 : decode cX10_rules 81 = .ok (.getfield 189, 3) := by decide +kernel
theorem dX10_rules_84 : decode cX10_rules 84 = .ok (.ifCond .eq 83, 3) := by decide +kernel
theorem dX10_rules_87 : decode cX10_rules 87 = .ok (.aload_n 0, 1) := by decide +kernel
theorem dX10_rules_88 : decode cX10_rules 88 = .ok (.ldc 248, 2) := by decide +kernel
theorem dX10_rules_90 : decode cX10_rules 90 = .ok (.invokevirtual 217, 3) := by decide +kernel
theorem dX10_rules_93 : decode cX10_rules 93 = .ok (.ifCond .ne 30, 3) := by decide +kernel
theorem dX10_rules_96 : decode cX10_rules 96 = .ok (.aload_n 0, 1) := by decide +kernel
theorem dX10_rules_97 : decode cX10_rules 97 = .ok (.ldc 250, 2) := by decide +kernel
theorem dX10_rules_99 : decode cX10_rules 99 = .ok (.invokevirtual 217, 3) := by decide +kernel
theorem dX10_rules_102 : decode cX10_rules 102 = .ok (.ifCond .ne 21, 3) := by decide +kernel
theorem dX10_rules_105 : decode cX10_rules 105 = .ok (.aload_n 0, 1) := by decide +kernel
theorem dX10_rules_106 : decode cX10_rules 106 = .ok (.ldc_w 273, 3) := by decide +kernel
theorem dX10_rules_109 : decode cX10_rules 109 = .ok (.invokevirtual 217, 3) := by decide +kernel
theorem dX10_rules_112 : decode cX10_rules 112 = .ok (.ifCond .ne 11, 3) := by decide +kernel
theorem dX10_rules_115 : decode cX10_rules 115 = .ok (.aload_n 0, 1) := by decide +kernel
theorem dX10_rules_116 : decode cX10_rules 116 = .ok (.iconst 1, 1) := by decide +kernel
theorem dX10_rules_117 : decode cX10_rules 117 = .ok (.invokevirtual 224, 3) := by decide +kernel
theorem dX10_rules_120 : decode cX10_rules 120 = .ok (.goto 14, 3) := by decide +kernel
theorem dX10_rules_123 : decode cX10_rules 123 = .ok (.iload_n 3, 1) := by decide +kernel
theorem dX10_rules_124 : decode cX10_rules 124 = .ok (.bipush 24, 2) := by decide +kernel
theorem dX10_rules_126 : decode cX10_rules 126 = .ok (.if_icmp .ne 8, 3) := by decide +kernel
theorem dX10_rules_129 : decode cX10_rules 129 = .ok (.aload_n 0, 1) := by decide +kernel
theorem dX10_rules_130 : decode cX10_rules 130 = .ok (.iconst 2, 1) := by decide +kernel
theorem dX10_rules_131 : decode cX10_rules 131 = .ok (.invokevirtual 224, 3) := by decide +kernel
theorem dX10_rules_134 : decode cX10_rules 134 = .ok (.aload_n 0, 1) := by decide +kernel
theorem dX10_rules_135 : decode cX10_rules 135 = .ok (.getfield 201, 3) := by decide +kernel
theorem dX10_rules_138 : decode cX10_rules 138 = .ok (.ifCond .eq 6, 3) := by decide +kernel
theorem dX10_rules_141 : decode cX10_rules 141 = .ok (.goto 26, 3) := by decide +kernel
theorem dX10_rules_144 : decode cX10_rules 144 = .ok (.aload_n 0, 1) := by decide +kernel
theorem dX10_rules_145 : decode cX10_rules 145 = .ok (.bipush 24, 2) := by decide +kernel
theorem dX10_rules_147 : decode cX10_rules 147 = .ok (.aload_n 0, 1) := by decide +kernel
theorem dX10_rules_148 : decode cX10_rules 148 = .ok (.getfield 270, 3) := by decide +kernel
theorem dX10_rules_151 : decode cX10_rules 151 = .ok (.imul, 1) := by decide +kernel
theorem dX10_rules_152 : decode cX10_rules 152 = .ok (.iload_n 3, 1) := by decide +kernel
theorem dX10_rules_153 : decode cX10_rules 153 = .ok (.iadd, 1) := by decide +kernel
theorem dX10_rules_154 : decode cX10_rules 154 = .ok (.putfield 233, 3) := by decide +kernel
theorem dX10_rules_157 : decode cX10_rules 157 = .ok (.iinc 3 1, 3) := by decide +kernel
theorem dX10_rules_160 : decode cX10_rules 160 = .ok (.aload_n 0, 1) := by decide +kernel
theorem dX10_rules_161 : decode cX10_rules 161 = .ok (.invokevirtual 275, 3) := by decide +kernel
theorem dX10_rules_164 : decode cX10_rules 164 = .ok (.goto (-91), 3) := by decide +kernel
theorem dX10_rules_167 : decode cX10_rules 167 = .ok (.aload_n 0, 1) := by decide +kernel
theorem dX10_rules_168 : decode cX10_rules 168 = .ok (.getfield 201, 3) := by decide +kernel
theorem dX10_rules_171 : decode cX10_rules 171 = .ok (.ifCond .eq 18, 3) := by decide +kernel
theorem dX10_rules_174 : decode cX10_rules 174 = .ok (.aload_n 0, 1) := by decide +kernel
theorem dX10_rules_175 : decode cX10_rules 175 = .ok (.aload_n 0, 1) := by decide +kernel
theorem dX10_rules_176 : decode cX10_rules 176 = .ok (.getfield 204, 3) := by decide +kernel
theorem dX10_rules_179 : decode cX10_rules 179 = .ok (.putfield 9, 3) := by decide +kernel
theorem dX10_rules_182 : decode cX10_rules 182 = .ok (.iconst (-1), 1) := by decide +kernel
theorem dX10_rules_183 : decode cX10_rules 183 = .ok (.aload_n 0, 1) := by decide +kernel
theorem dX10_rules_184 : decode cX10_rules 184 = .ok (.getfield 201, 3) := by decide +kernel
theorem dX10_rules_187 : decode cX10_rules 187 = .ok (.isub, 1) := by decide +kernel
theorem dX10_rules_188 : decode cX10_rules 188 = .ok (.ireturn, 1) := by decide +kernel
theorem dX10_rules_189 : decode cX10_rules 189 = .ok (.aload_n 0, 1) := by decide +kernel
theorem dX10_rules_190 : decode cX10_rules 190 = .ok (.getfield 63, 3) := by decide +kernel
theorem dX10_rules_193 : decode cX10_rules 193 = .ok (.aload_n 0, 1) := by decide +kernel
theorem dX10_rules_194 : decode cX10_rules 194 = .ok (.getfield 270, 3) := by decide +kernel
theorem dX10_rules_197 : decode cX10_rules 197 = .ok (.iload_n 3, 1) := by decide +kernel
theorem dX10_rules_198 : decode cX10_rules 198 = .ok (.iastore, 1) := by decide +kernel
theorem dX10_rules_199 : decode cX10_rules 199 = .ok (.aload_n 0, 1) := by decide +kernel
theorem dX10_rules_200 : decode cX10_rules 200 = .ok (.getfield 60, 3) := by decide +kernel
theorem dX10_rules_203 : decode cX10_rules 203 = .ok (.aload_n 0, 1) := by decide +kernel
theorem dX10_rules_204 : decode cX10_rules 204 = .ok (.getfield 270, 3) := by decide +kernel
theorem dX10_rules_207 : decode cX10_rules 207 = .ok (.iload_n 2, 1) := by decide +kernel
theorem dX10_rules_208 : decode cX10_rules 208 = .ok (.iastore, 1) := by decide +kernel
theorem dX10_rules_209 : decode cX10_rules 209 = .ok (.aload_n 0, 1) := by decide +kernel
theorem dX10_rules_210 : decode cX10_rules 210 = .ok (.dup, 1) := by decide +kernel
theorem dX10_rules_211 : decode cX10_rules 211 = .ok (.getfield 270, 3) := by decide +kernel
theorem dX10_rules_214 : decode cX10_rules 214 = .ok (.iconst 1, 1) := by decide +kernel
theorem dX10_rules_215 : decode cX10_rules 215 = .ok (.iadd, 1) := by decide +kernel
theorem dX10_rules_216 : decode cX10_rules 216 = .ok (.putfield 270, 3) := by decide +kernel
theorem dX10_rules_219 : decode cX10_rules 219 = .ok (.aload_n 0, 1) := by decide +kernel
theorem dX10_rules_220 : decode cX10_rules 220 = .ok (.getfield 270, 3) := by decide +kernel
theorem dX10_rules_223 : decode cX10_rules 223 = .ok (.iconst 1, 1) := by decide +kernel
theorem dX10_rules_224 : decode cX10_rules 224 = .ok (.isub, 1) := by decide +kernel
theorem dX10_rules_225 : decode cX10_rules 225 = .ok (.ireturn, 1) := by decide +kernel
theorem dX10_fault_0 : decode cX10_fault 0 = .ok (.aload_n 0, 1) := by decide +kernel
theorem dX10_fault_1 : decode cX10_fault 1 = .ok (.iconst 0, 1) := by decide +kernel
theorem dX10_fault_2 : decode cX10_fault 2 = .ok (.putfield 126, 3) := by decide +kernel
theorem dX10_fault_5 : decode cX10_fault 5 = .ok (.aload_n 0, 1) := by decide +kernel
theorem dX10_fault_6 : decode cX10_fault 6 = .ok (.getfield 9, 3) := by decide +kernel
theorem dX10_fault_9 : decode cX10_fault 9 = .ok (.ireturn, 1) := by decide +kernel
theorem dX10_isThing_0 : decode cX10_isThing 0 = .ok (.iload_n 1, 1) := by decide +kernel
theorem dX10_isThing_1 : decode cX10_isThing 1 = .ok (.ifCond .lt 15, 3) := by decide +kernel
theorem dX10_isThing_4 : decode cX10_isThing 4 = .ok (.iload_n 1, 1) := by decide +kernel
theorem dX10_isThing_5 : decode cX10_isThing 5 = .ok (.aload_n 0, 1) := by decide +kernel
theorem dX10_isThing_6 : decode cX10_isThing 6 = .ok (.getfield 278, 3) := by decide +kernel
theorem dX10_isThing_9 : decode cX10_isThing 9 = .ok (.if_icmp .ge 7, 3) := by decide +kernel
theorem dX10_isThing_12 : decode cX10_isThing 12 = .ok (.iconst 1, 1) := by decide +kernel
theorem dX10_isThing_13 : decode cX10_isThing 13 = .ok (.goto 4, 3) := by decide +kernel
theorem dX10_isThing_16 : decode cX10_isThing 16 = .ok (.iconst 0, 1) := by decide +kernel
theorem dX10_isThing_17 : decode cX10_isThing 17 = .ok (.ireturn, 1) := by decide +kernel
theorem dX10_isField_0 : decode cX10_isField 0 = .ok (.iload_n 0, 1) := by decide +kernel
theorem dX10_isField_1 : decode cX10_isField 1 = .ok (.ifCond .lt 13, 3) := by decide +kernel
theorem dX10_isField_4 : decode cX10_isField 4 = .ok (.iload_n 0, 1) := by decide +kernel
theorem dX10_isField_5 : decode cX10_isField 5 = .ok (.bipush 8, 2) := by decide +kernel
theorem dX10_isField_7 : decode cX10_isField 7 = .ok (.if_icmp .ge 7, 3) := by decide +kernel
theorem dX10_isField_10 : decode cX10_isField 10 = .ok (.iconst 1, 1) := by decide +kernel
theorem dX10_isField_11 : decode cX10_isField 11 = .ok (.goto 4, 3) := by decide +kernel
theorem dX10_isField_14 : decode cX10_isField 14 = .ok (.iconst 0, 1) := by decide +kernel
theorem dX10_isField_15 : decode cX10_isField 15 = .ok (.ireturn, 1) := by decide +kernel
theorem dX10_isStore_0 : decode cX10_isStore 0 = .ok (.iload_n 0, 1) := by decide +kernel
theorem dX10_isStore_1 : decode cX10_isStore 1 = .ok (.ifCond .lt 12, 3) := by decide +kernel
theorem dX10_isStore_4 : decode cX10_isStore 4 = .ok (.iload_n 0, 1) := by decide +kernel
theorem dX10_isStore_5 : decode cX10_isStore 5 = .ok (.iconst 4, 1) := by decide +kernel
theorem dX10_isStore_6 : decode cX10_isStore 6 = .ok (.if_icmp .ge 7, 3) := by decide +kernel
theorem dX10_isStore_9 : decode cX10_isStore 9 = .ok (.iconst 1, 1) := by decide +kernel
theorem dX10_isStore_10 : decode cX10_isStore 10 = .ok (.goto 4, 3) := by decide +kernel
theorem dX10_isStore_13 : decode cX10_isStore 13 = .ok (.iconst 0, 1) := by decide +kernel
theorem dX10_isStore_14 : decode cX10_isStore 14 = .ok (.ireturn, 1) := by decide +kernel
theorem dX10_thing_0 : decode cX10_thing 0 = .ok (.aload_n 0, 1) := by decide +kernel
theorem dX10_thing_1 : decode cX10_thing 1 = .ok (.iconst 0, 1) := by decide +kernel
theorem dX10_thing_2 : decode cX10_thing 2 = .ok (.putfield 126, 3) := by decide +kernel
theorem dX10_thing_5 : decode cX10_thing 5 = .ok (.aload_n 0, 1) := by decide +kernel
theorem dX10_thing_6 : decode cX10_thing 6 = .ok (.getfield 278, 3) := by decide +kernel
theorem dX10_thing_9 : decode cX10_thing 9 = .ok (.bipush 30, 2) := by decide +kernel
theorem dX10_thing_11 : decode cX10_thing 11 = .ok (.if_icmp .eq 12, 3) := by decide +kernel
theorem dX10_thing_14 : decode cX10_thing 14 = .ok (.iload_n 1, 1) := by decide +kernel
theorem dX10_thing_15 : decode cX10_thing 15 = .ok (.ifCond .lt 8, 3) := by decide +kernel
theorem dX10_thing_18 : decode cX10_thing 18 = .ok (.iload_n 1, 1) := by decide +kernel
theorem dX10_thing_19 : decode cX10_thing 19 = .ok (.iconst 3, 1) := by decide +kernel
theorem dX10_thing_20 : decode cX10_thing 20 = .ok (.if_icmp .le 5, 3) := by decide +kernel
theorem dX10_thing_23 : decode cX10_thing 23 = .ok (.iconst (-1), 1) := by decide +kernel
theorem dX10_thing_24 : decode cX10_thing 24 = .ok (.ireturn, 1) := by decide +kernel
theorem dX10_thing_25 : decode cX10_thing 25 = .ok (.aload_n 0, 1) := by decide +kernel
theorem dX10_thing_26 : decode cX10_thing 26 = .ok (.getfield 13, 3) := by decide +kernel
theorem dX10_thing_29 : decode cX10_thing 29 = .ok (.aload_n 0, 1) := by decide +kernel
theorem dX10_thing_30 : decode cX10_thing 30 = .ok (.getfield 278, 3) := by decide +kernel
theorem dX10_thing_33 : decode cX10_thing 33 = .ok (.iload_n 1, 1) := by decide +kernel
theorem dX10_thing_34 : decode cX10_thing 34 = .ok (.iastore, 1) := by decide +kernel
theorem dX10_thing_35 : decode cX10_thing 35 = .ok (.aload_n 0, 1) := by decide +kernel
theorem dX10_thing_36 : decode cX10_thing 36 = .ok (.dup, 1) := by decide +kernel
theorem dX10_thing_37 : decode cX10_thing 37 = .ok (.getfield 278, 3) := by decide +kernel
theorem dX10_thing_40 : decode cX10_thing 40 = .ok (.iconst 1, 1) := by decide +kernel
theorem dX10_thing_41 : decode cX10_thing 41 = .ok (.iadd, 1) := by decide +kernel
theorem dX10_thing_42 : decode cX10_thing 42 = .ok (.putfield 278, 3) := by decide +kernel
theorem dX10_thing_45 : decode cX10_thing 45 = .ok (.aload_n 0, 1) := by decide +kernel
theorem dX10_thing_46 : decode cX10_thing 46 = .ok (.getfield 278, 3) := by decide +kernel
theorem dX10_thing_49 : decode cX10_thing 49 = .ok (.iconst 1, 1) := by decide +kernel
theorem dX10_thing_50 : decode cX10_thing 50 = .ok (.isub, 1) := by decide +kernel
theorem dX10_thing_51 : decode cX10_thing 51 = .ok (.ireturn, 1) := by decide +kernel
theorem dX10_fact_0 : decode cX10_fact 0 = .ok (.aload_n 0, 1) := by decide +kernel
theorem dX10_fact_1 : decode cX10_fact 1 = .ok (.iconst 0, 1) := by decide +kernel
theorem dX10_fact_2 : decode cX10_fact 2 = .ok (.putfield 126, 3) := by decide +kernel
theorem dX10_fact_5 : decode cX10_fact 5 = .ok (.aload_n 0, 1) := by decide +kernel
theorem dX10_fact_6 : decode cX10_fact 6 = .ok (.iload_n 1, 1) := by decide +kernel
theorem dX10_fact_7 : decode cX10_fact 7 = .ok (.invokevirtual 281, 3) := by decide +kernel
theorem dX10_fact_10 : decode cX10_fact 10 = .ok (.ifCond .eq 12, 3) := by decide +kernel
theorem dX10_fact_13 : decode cX10_fact 13 = .ok (.iload_n 2, 1) := by decide +kernel
theorem dX10_fact_14 : decode cX10_fact 14 = .ok (.ifCond .lt 8, 3) := by decide +kernel
theorem dX10_fact_17 : decode cX10_fact 17 = .ok (.iload_n 2, 1) := by decide +kernel
theorem dX10_fact_18 : decode cX10_fact 18 = .ok (.iconst 3, 1) := by decide +kernel
theorem dX10_fact_19 : decode cX10_fact 19 = .ok (.if_icmp .le 9, 3) := by decide +kernel
theorem dX10_fact_22 : decode cX10_fact 22 = .ok (.aload_n 0, 1) := by decide +kernel
theorem dX10_fact_23 : decode cX10_fact 23 = .ok (.iconst 1, 1) := by decide +kernel
theorem dX10_fact_24 : decode cX10_fact 24 = .ok (.invokevirtual 152, 3) := by decide +kernel
theorem dX10_fact_27 : decode cX10_fact 27 = .ok (.ireturn, 1) := by decide +kernel
theorem dX10_fact_28 : decode cX10_fact 28 = .ok (.iload_n 3, 1) := by decide +kernel
theorem dX10_fact_29 : decode cX10_fact 29 = .ok (.ifCond .lt 10, 3) := by decide +kernel
theorem dX10_fact_32 : decode cX10_fact 32 = .ok (.iload_n 3, 1) := by decide +kernel
theorem dX10_fact_33 : decode cX10_fact 33 = .ok (.sipush 9999, 3) := by decide +kernel
theorem dX10_fact_36 : decode cX10_fact 36 = .ok (.if_icmp .le 9, 3) := by decide +kernel
theorem dX10_fact_39 : decode cX10_fact 39 = .ok (.aload_n 0, 1) := by decide +kernel
theorem dX10_fact_40 : decode cX10_fact 40 = .ok (.iconst 2, 1) := by decide +kernel
theorem dX10_fact_41 : decode cX10_fact 41 = .ok (.invokevirtual 152, 3) := by decide +kernel
theorem dX10_fact_44 : decode cX10_fact 44 = .ok (.ireturn, 1) := by decide +kernel
theorem dX10_fact_45 : decode cX10_fact 45 = .ok (.aload_n 0, 1) := by decide +kernel
theorem dX10_fact_46 : decode cX10_fact 46 = .ok (.getfield 17, 3) := by decide +kernel
theorem dX10_fact_49 : decode cX10_fact 49 = .ok (.iconst 4, 1) := by decide +kernel
theorem dX10_fact_50 : decode cX10_fact 50 = .ok (.iload_n 1, 1) := by decide +kernel
theorem dX10_fact_51 : decode cX10_fact 51 = .ok (.imul, 1) := by decide +kernel
theorem dX10_fact_52 : decode cX10_fact 52 = .ok (.iload_n 2, 1) := by decide +kernel
theorem dX10_fact_53 : decode cX10_fact 53 = .ok (.iadd, 1) := by decide +kernel
theorem dX10_fact_54 : decode cX10_fact 54 = .ok (.iaload, 1) := by decide +kernel
theorem dX10_fact_55 : decode cX10_fact 55 = .ok (.istore 4, 2) := by decide +kernel
theorem dX10_fact_57 : decode cX10_fact 57 = .ok (.aload_n 0, 1) := by decide +kernel
theorem dX10_fact_58 : decode cX10_fact 58 = .ok (.getfield 111, 3) := by decide +kernel
theorem dX10_fact_61 : decode cX10_fact 61 = .ok (.iload_n 1, 1) := by decide +kernel
theorem dX10_fact_62 : decode cX10_fact 62 = .ok (.iconst 0, 1) := by decide +kernel
theorem dX10_fact_63 : decode cX10_fact 63 = .ok (.bastore, 1) := by decide +kernel
theorem dX10_fact_64 : decode cX10_fact 64 = .ok (.aload_n 0, 1) := by decide +kernel
theorem dX10_fact_65 : decode cX10_fact 65 = .ok (.getfield 17, 3) := by decide +kernel
theorem dX10_fact_68 : decode cX10_fact 68 = .ok (.iconst 4, 1) := by decide +kernel
theorem dX10_fact_69 : decode cX10_fact 69 = .ok (.iload_n 1, 1) := by decide +kernel
theorem dX10_fact_70 : decode cX10_fact 70 = .ok (.imul, 1) := by decide +kernel
theorem dX10_fact_71 : decode cX10_fact 71 = .ok (.iload_n 2, 1) := by decide +kernel
theorem dX10_fact_72 : decode cX10_fact 72 = .ok (.iadd, 1) := by decide +kernel
theorem dX10_fact_73 : decode cX10_fact 73 = .ok (.iload_n 3, 1) := by decide +kernel
theorem dX10_fact_74 : decode cX10_fact 74 = .ok (.iastore, 1) := by decide +kernel
theorem dX10_fact_75 : decode cX10_fact 75 = .ok (.iload 4, 2) := by decide +kernel
theorem dX10_fact_77 : decode cX10_fact 77 = .ok (.ireturn, 1) := by decide +kernel
theorem dX10_event_0 : decode cX10_event 0 = .ok (.aload_n 0, 1) := by decide +kernel
theorem dX10_event_1 : decode cX10_event 1 = .ok (.iconst 0, 1) := by decide +kernel
theorem dX10_event_2 : decode cX10_event 2 = .ok (.putfield 126, 3) := by decide +kernel
theorem dX10_event_5 : decode cX10_event 5 = .ok (.aload_n 0, 1) := by decide +kernel
theorem dX10_event_6 : decode cX10_event 6 = .ok (.iload_n 1, 1) := by decide +kernel
theorem dX10_event_7 : decode cX10_event 7 = .ok (.invokevirtual 281, 3) := by decide +kernel
theorem dX10_event_10 : decode cX10_event 10 = .ok (.ifCond .eq 12, 3) := by decide +kernel
theorem dX10_event_13 : decode cX10_event 13 = .ok (.iload_n 2, 1) := by decide +kernel
theorem dX10_event_14 : decode cX10_event 14 = .ok (.ifCond .lt 8, 3) := by decide +kernel
theorem dX10_event_17 : decode cX10_event 17 = .ok (.iload_n 2, 1) := by decide +kernel
theorem dX10_event_18 : decode cX10_event 18 = .ok (.iconst 3, 1) := by decide +kernel
theorem dX10_event_19 : decode cX10_event 19 = .ok (.if_icmp .le 9, 3) := by decide +kernel
theorem dX10_event_22 : decode cX10_event 22 = .ok (.aload_n 0, 1) := by decide +kernel
theorem dX10_event_23 : decode cX10_event 23 = .ok (.iconst 1, 1) := by decide +kernel
theorem dX10_event_24 : decode cX10_event 24 = .ok (.invokevirtual 152, 3) := by decide +kernel
theorem dX10_event_27 : decode cX10_event 27 = .ok (.ireturn, 1) := by decide +kernel
theorem dX10_event_28 : decode cX10_event 28 = .ok (.iload_n 3, 1) := by decide +kernel
theorem dX10_event_29 : decode cX10_event 29 = .ok (.iconst (-1), 1) := by decide +kernel
theorem dX10_event_30 : decode cX10_event 30 = .ok (.if_icmp .eq 16, 3) := by decide +kernel
theorem dX10_event_33 : decode cX10_event 33 = .ok (.iload_n 3, 1) := by decide +kernel
theorem dX10_event_34 : decode cX10_event 34 = .ok (.invokestatic 155, 3) := by decide +kernel
theorem dX10_event_37 : decode cX10_event 37 = .ok (.ifCond .ne 9, 3) := by decide +kernel
theorem dX10_event_40 : decode cX10_event 40 = .ok (.aload_n 0, 1) := by decide +kernel
theorem dX10_event_41 : decode cX10_event 41 = .ok (.iconst 2, 1) := by decide +kernel
theorem dX10_event_42 : decode cX10_event 42 = .ok (.invokevirtual 152, 3) := by decide +kernel
theorem dX10_event_45 : decode cX10_event 45 = .ok (.ireturn, 1) := by decide +kernel
theorem dX10_event_46 : decode cX10_event 46 = .ok (.aload_n 0, 1) := by decide +kernel
theorem dX10_event_47 : decode cX10_event 47 = .ok (.getfield 20, 3) := by decide +kernel
theorem dX10_event_50 : decode cX10_event 50 = .ok (.iconst 4, 1) := by decide +kernel
theorem dX10_event_51 : decode cX10_event 51 = .ok (.iload_n 1, 1) := by decide +kernel
theorem dX10_event_52 : decode cX10_event 52 = .ok (.imul, 1) := by decide +kernel
theorem dX10_event_53 : decode cX10_event 53 = .ok (.iload_n 2, 1) := by decide +kernel
theorem dX10_event_54 : decode cX10_event 54 = .ok (.iadd, 1) := by decide +kernel
theorem dX10_event_55 : decode cX10_event 55 = .ok (.iaload, 1) := by decide +kernel
theorem dX10_event_56 : decode cX10_event 56 = .ok (.istore 4, 2) := by decide +kernel
theorem dX10_event_58 : decode cX10_event 58 = .ok (.aload_n 0, 1) := by decide +kernel
theorem dX10_event_59 : decode cX10_event 59 = .ok (.getfield 111, 3) := by decide +kernel
theorem dX10_event_62 : decode cX10_event 62 = .ok (.iload_n 1, 1) := by decide +kernel
theorem dX10_event_63 : decode cX10_event 63 = .ok (.iconst 0, 1) := by decide +kernel
theorem dX10_event_64 : decode cX10_event 64 = .ok (.bastore, 1) := by decide +kernel
theorem dX10_event_65 : decode cX10_event 65 = .ok (.aload_n 0, 1) := by decide +kernel
theorem dX10_event_66 : decode cX10_event 66 = .ok (.getfield 20, 3) := by decide +kernel
theorem dX10_event_69 : decode cX10_event 69 = .ok (.iconst 4, 1) := by decide +kernel
theorem dX10_event_70 : decode cX10_event 70 = .ok (.iload_n 1, 1) := by decide +kernel
theorem dX10_event_71 : decode cX10_event 71 = .ok (.imul, 1) := by decide +kernel
theorem dX10_event_72 : decode cX10_event 72 = .ok (.iload_n 2, 1) := by decide +kernel
theorem dX10_event_73 : decode cX10_event 73 = .ok (.iadd, 1) := by decide +kernel
theorem dX10_event_74 : decode cX10_event 74 = .ok (.iload_n 3, 1) := by decide +kernel
theorem dX10_event_75 : decode cX10_event 75 = .ok (.iastore, 1) := by decide +kernel
theorem dX10_event_76 : decode cX10_event 76 = .ok (.iload 4, 2) := by decide +kernel
theorem dX10_event_78 : decode cX10_event 78 = .ok (.ireturn, 1) := by decide +kernel
theorem dX10_force_0 : decode cX10_force 0 = .ok (.iconst (-1), 1) := by decide +kernel
theorem dX10_force_1 : decode cX10_force 1 = .ok (.istore_n 2, 1) := by decide +kernel
theorem dX10_force_2 : decode cX10_force 2 = .ok (.iconst 0, 1) := by decide +kernel
theorem dX10_force_3 : decode cX10_force 3 = .ok (.istore_n 3, 1) := by decide +kernel
theorem dX10_force_4 : decode cX10_force 4 = .ok (.iload_n 3, 1) := by decide +kernel
theorem dX10_force_5 : decode cX10_force 5 = .ok (.aload_n 0, 1) := by decide +kernel
theorem dX10_force_6 : decode cX10_force 6 = .ok (.getfield 270, 3) := by decide +kernel
theorem dX10_force_9 : decode cX10_force 9 = .ok (.if_icmp .ge 41, 3) := by decide +kernel
theorem dX10_force_12 : decode cX10_force 12 = .ok (.aload_n 0, 1) := by decide +kernel
theorem dX10_force_13 : decode cX10_force 13 = .ok (.getfield 60, 3) := by decide +kernel
theorem dX10_force_16 : decode cX10_force 16 = .ok (.iload_n 3, 1) := by decide +kernel
theorem dX10_force_17 : decode cX10_force 17 = .ok (.iaload, 1) := by decide +kernel
theorem dX10_force_18 : decode cX10_force 18 = .ok (.iload_n 1, 1) := by decide +kernel
theorem dX10_force_19 : decode cX10_force 19 = .ok (.if_icmp .gt 25, 3) := by decide +kernel
theorem dX10_force_22 : decode cX10_force 22 = .ok (.iload_n 2, 1) := by decide +kernel
theorem dX10_force_23 : decode cX10_force 23 = .ok (.iconst (-1), 1) := by decide +kernel
theorem dX10_force_24 : decode cX10_force 24 = .ok (.if_icmp .eq 18, 3) := by decide +kernel
theorem dX10_force_27 : decode cX10_force 27 = .ok (.aload_n 0, 1) := by decide +kernel
theorem dX10_force_28 : decode cX10_force 28 = .ok (.getfield 60, 3) := by decide +kernel
theorem dX10_force_31 : decode cX10_force 31 = .ok (.iload_n 3, 1) := by decide +kernel
theorem dX10_force_32 : decode cX10_force 32 = .ok (.iaload, 1) := by decide +kernel
theorem dX10_force_33 : decode cX10_force 33 = .ok (.aload_n 0, 1) := by decide +kernel
theorem dX10_force_34 : decode cX10_force 34 = .ok (.getfield 60, 3) := by decide +kernel
theorem dX10_force_37 : decode cX10_force 37 = .ok (.iload_n 2, 1) := by decide +kernel
theorem dX10_force_38 : decode cX10_force 38 = .ok (.iaload, 1) := by decide +kernel
theorem dX10_force_39 : decode cX10_force 39 = .ok (.if_icmp .lt 5, 3) := by decide +kernel
theorem dX10_force_42 : decode cX10_force 42 = .ok (.iload_n 3, 1) := by decide +kernel
theorem dX10_force_43 : decode cX10_force 43 = .ok (.istore_n 2, 1) := by decide +kernel
theorem dX10_force_44 : decode cX10_force 44 = .ok (.iinc 3 1, 3) := by decide +kernel
theorem dX10_force_47 : decode cX10_force 47 = .ok (.goto (-43), 3) := by decide +kernel
theorem dX10_force_50 : decode cX10_force 50 = .ok (.iload_n 2, 1) := by decide +kernel
theorem dX10_force_51 : decode cX10_force 51 = .ok (.ireturn, 1) := by decide +kernel
theorem dX10_isFor_0 : decode cX10_isFor 0 = .ok (.aload_n 0, 1) := by decide +kernel
theorem dX10_isFor_1 : decode cX10_isFor 1 = .ok (.getfield 69, 3) := by decide +kernel
theorem dX10_isFor_4 : decode cX10_isFor 4 = .ok (.iload_n 1, 1) := by decide +kernel
theorem dX10_isFor_5 : decode cX10_isFor 5 = .ok (.iaload, 1) := by decide +kernel
theorem dX10_isFor_6 : decode cX10_isFor 6 = .ok (.iconst (-1), 1) := by decide +kernel
theorem dX10_isFor_7 : decode cX10_isFor 7 = .ok (.if_icmp .eq 18, 3) := by decide +kernel
theorem dX10_isFor_10 : decode cX10_isFor 10 = .ok (.aload_n 0, 1) := by decide +kernel
theorem dX10_isFor_11 : decode cX10_isFor 11 = .ok (.getfield 69, 3) := by decide +kernel
theorem dX10_isFor_14 : decode cX10_isFor 14 = .ok (.iload_n 1, 1) := by decide +kernel
theorem dX10_isFor_15 : decode cX10_isFor 15 = .ok (.iaload, 1) := by decide +kernel
theorem dX10_isFor_16 : decode cX10_isFor 16 = .ok (.aload_n 0, 1) := by decide +kernel
theorem dX10_isFor_17 : decode cX10_isFor 17 = .ok (.getfield 13, 3) := by decide +kernel
theorem dX10_isFor_20 : decode cX10_isFor 20 = .ok (.iload_n 2, 1) := by decide +kernel
theorem dX10_isFor_21 : decode cX10_isFor 21 = .ok (.iaload, 1) := by decide +kernel
theorem dX10_isFor_22 : decode cX10_isFor 22 = .ok (.if_icmp .ne 27, 3) := by decide +kernel
theorem dX10_isFor_25 : decode cX10_isFor 25 = .ok (.aload_n 0, 1) := by decide +kernel
theorem dX10_isFor_26 : decode cX10_isFor 26 = .ok (.getfield 72, 3) := by decide +kernel
theorem dX10_isFor_29 : decode cX10_isFor 29 = .ok (.iload_n 1, 1) := by decide +kernel
theorem dX10_isFor_30 : decode cX10_isFor 30 = .ok (.iaload, 1) := by decide +kernel
theorem dX10_isFor_31 : decode cX10_isFor 31 = .ok (.iconst (-1), 1) := by decide +kernel
theorem dX10_isFor_32 : decode cX10_isFor 32 = .ok (.if_icmp .eq 13, 3) := by decide +kernel
theorem dX10_isFor_35 : decode cX10_isFor 35 = .ok (.aload_n 0, 1) := by decide +kernel
theorem dX10_isFor_36 : decode cX10_isFor 36 = .ok (.getfield 72, 3) := by decide +kernel
theorem dX10_isFor_39 : decode cX10_isFor 39 = .ok (.iload_n 1, 1) := by decide +kernel
theorem dX10_isFor_40 : decode cX10_isFor 40 = .ok (.iaload, 1) := by decide +kernel
theorem dX10_isFor_41 : decode cX10_isFor 41 = .ok (.iload_n 3, 1) := by decide +kernel
theorem dX10_isFor_42 : decode cX10_isFor 42 = .ok (.if_icmp .ne 7, 3) := by decide +kernel
theorem dX10_isFor_45 : decode cX10_isFor 45 = .ok (.iconst 1, 1) := by decide +kernel
theorem dX10_isFor_46 : decode cX10_isFor 46 = .ok (.goto 4, 3) := by decide +kernel
theorem dX10_isFor_49 : decode cX10_isFor 49 = .ok (.iconst 0, 1) := by decide +kernel
theorem dX10_isFor_50 : decode cX10_isFor 50 = .ok (.istore 4, 2) := by decide +kernel
theorem dX10_isFor_52 : decode cX10_isFor 52 = .ok (.iconst 0, 1) := by decide +kernel
theorem dX10_isFor_53 : decode cX10_isFor 53 = .ok (.istore 5, 2) := by decide +kernel
theorem dX10_isFor_55 : decode cX10_isFor 55 = .ok (.iload 5, 2) := by decide +kernel
theorem dX10_isFor_57 : decode cX10_isFor 57 = .ok (.aload_n 0, 1) := by decide +kernel
theorem dX10_isFor_58 : decode cX10_isFor 58 = .ok (.getfield 90, 3) := by decide +kernel
theorem dX10_isFor_61 : decode cX10_isFor 61 = .ok (.iload_n 1, 1) := by decide +kernel
theorem dX10_isFor_62 : decode cX10_isFor 62 = .ok (.iaload, 1) := by decide +kernel
theorem dX10_isFor_63 : decode cX10_isFor 63 = .ok (.if_icmp .ge 92, 3) := by decide +kernel
theorem dX10_isFor_66 : decode cX10_isFor 66 = .ok (.iload 4, 2) := by decide +kernel
theorem dX10_isFor_68 : decode cX10_isFor 68 = .ok (.ifCond .eq 87, 3) := by decide +kernel
theorem dX10_isFor_71 : decode cX10_isFor 71 = .ok (.aload_n 0, 1) := by decide +kernel
theorem dX10_isFor_72 : decode cX10_isFor 72 = .ok (.getfield 17, 3) := by decide +kernel
theorem dX10_isFor_75 : decode cX10_isFor 75 = .ok (.iconst 4, 1) := by decide +kernel
theorem dX10_isFor_76 : decode cX10_isFor 76 = .ok (.iload_n 2, 1) := by decide +kernel
theorem dX10_isFor_77 : decode cX10_isFor 77 = .ok (.imul, 1) := by decide +kernel
theorem dX10_isFor_78 : decode cX10_isFor 78 = .ok (.aload_n 0, 1) := by decide +kernel
theorem dX10_isFor_79 : decode cX10_isFor 79 = .ok (.getfield 93, 3) := by decide +kernel
theorem dX10_isFor_82 : decode cX10_isFor 82 = .ok (.iconst 4, 1) := by decide +kernel
theorem dX10_isFor_83 : decode cX10_isFor 83 = .ok (.iload_n 1, 1) := by decide +kernel
theorem dX10_isFor_84 : decode cX10_isFor 84 = .ok (.imul, 1) := by decide +kernel
theorem dX10_isFor_85 : decode cX10_isFor 85 = .ok (.iload 5, 2) := by decide +kernel
theorem dX10_isFor_87 : decode cX10_isFor 87 = .ok (.iadd, 1) := by decide +kernel
theorem dX10_isFor_88 : decode cX10_isFor 88 = .ok (.iaload, 1) := by decide +kernel
theorem dX10_isFor_89 : decode cX10_isFor 89 = .ok (.iadd, 1) := by decide +kernel
theorem dX10_isFor_90 : decode cX10_isFor 90 = .ok (.iaload, 1) := by decide +kernel
theorem dX10_isFor_91 : decode cX10_isFor 91 = .ok (.istore 6, 2) := by decide +kernel
theorem dX10_isFor_93 : decode cX10_isFor 93 = .ok (.aload_n 0, 1) := by decide +kernel
theorem dX10_isFor_94 : decode cX10_isFor 94 = .ok (.getfield 96, 3) := by decide +kernel
theorem dX10_isFor_97 : decode cX10_isFor 97 = .ok (.iconst 4, 1) := by decide +kernel
theorem dX10_isFor_98 : decode cX10_isFor 98 = .ok (.iload_n 1, 1) := by decide +kernel
theorem dX10_isFor_99 : decode cX10_isFor 99 = .ok (.imul, 1) := by decide +kernel
theorem dX10_isFor_100 : decode cX10_isFor 100 = .ok (.iload 5, 2) := by decide +kernel
theorem dX10_isFor_102 : decode cX10_isFor 102 = .ok (.iadd, 1) := by decide +kernel
theorem dX10_isFor_103 : decode cX10_isFor 103 = .ok (.iaload, 1) := by decide +kernel
theorem dX10_isFor_104 : decode cX10_isFor 104 = .ok (.istore 7, 2) := by decide +kernel
theorem dX10_isFor_106 : decode cX10_isFor 106 = .ok (.aload_n 0, 1) := by decide +kernel
theorem dX10_isFor_107 : decode cX10_isFor 107 = .ok (.getfield 99, 3) := by decide +kernel
theorem dX10_isFor_110 : decode cX10_isFor 110 = .ok (.iconst 4, 1) := by decide +kernel
theorem dX10_isFor_111 : decode cX10_isFor 111 = .ok (.iload_n 1, 1) := by decide +kernel
theorem dX10_isFor_112 : decode cX10_isFor 112 = .ok (.imul, 1) := by decide +kernel
theorem dX10_isFor_113 : decode cX10_isFor 113 = .ok (.iload 5, 2) := by decide +kernel
theorem dX10_isFor_115 : decode cX10_isFor 115 = .ok (.iadd, 1) := by decide +kernel
theorem dX10_isFor_116 : decode cX10_isFor 116 = .ok (.baload, 1) := by decide +kernel
theorem dX10_isFor_117 : decode cX10_isFor 117 = .ok (.ifCond .eq 18, 3) := by decide +kernel
theorem dX10_isFor_120 : decode cX10_isFor 120 = .ok (.iload 6, 2) := by decide +kernel
theorem dX10_isFor_122 : decode cX10_isFor 122 = .ok (.iload 7, 2) := by decide +kernel
theorem dX10_isFor_124 : decode cX10_isFor 124 = .ok (.if_icmp .ge 7, 3) := by decide +kernel
theorem dX10_isFor_127 : decode cX10_isFor 127 = .ok (.iconst 1, 1) := by decide +kernel
theorem dX10_isFor_128 : decode cX10_isFor 128 = .ok (.goto 19, 3) := by decide +kernel
theorem dX10_isFor_131 : decode cX10_isFor 131 = .ok (.iconst 0, 1) := by decide +kernel
theorem dX10_isFor_132 : decode cX10_isFor 132 = .ok (.goto 15, 3) := by decide +kernel
theorem dX10_isFor_135 : decode cX10_isFor 135 = .ok (.iload 6, 2) := by decide +kernel
theorem dX10_isFor_137 : decode cX10_isFor 137 = .ok (.iload 7, 2) := by decide +kernel
theorem dX10_isFor_139 : decode cX10_isFor 139 = .ok (.if_icmp .ne 7, 3) := by decide +kernel
theorem dX10_isFor_142 : decode cX10_isFor 142 = .ok (.iconst 1, 1) := by decide +kernel
theorem dX10_isFor_143 : decode cX10_isFor 143 = .ok (.goto 4, 3) := by decide +kernel
theorem dX10_isFor_146 : decode cX10_isFor 146 = .ok (.iconst 0, 1) := by decide +kernel
theorem dX10_isFor_147 : decode cX10_isFor 147 = .ok (.istore 4, 2) := by decide +kernel
theorem dX10_isFor_149 : decode cX10_isFor 149 = .ok (.iinc 5 1, 3) := by decide +kernel
theorem dX10_isFor_152 : decode cX10_isFor 152 = .ok (.goto (-97), 3) := by decide +kernel
theorem dX10_isFor_155 : decode cX10_isFor 155 = .ok (.iload 4, 2) := by decide +kernel
theorem dX10_isFor_157 : decode cX10_isFor 157 = .ok (.ireturn, 1) := by decide +kernel
theorem dX10_until_0 : decode cX10_until 0 = .ok (.aload_n 0, 1) := by decide +kernel
theorem dX10_until_1 : decode cX10_until 1 = .ok (.getfield 78, 3) := by decide +kernel
theorem dX10_until_4 : decode cX10_until 4 = .ok (.iload_n 1, 1) := by decide +kernel
theorem dX10_until_5 : decode cX10_until 5 = .ok (.iaload, 1) := by decide +kernel
theorem dX10_until_6 : decode cX10_until 6 = .ok (.ifCond .ne 14, 3) := by decide +kernel
theorem dX10_until_9 : decode cX10_until 9 = .ok (.iload_n 2, 1) := by decide +kernel
theorem dX10_until_10 : decode cX10_until 10 = .ok (.aload_n 0, 1) := by decide +kernel
theorem dX10_until_11 : decode cX10_until 11 = .ok (.getfield 75, 3) := by decide +kernel
theorem dX10_until_14 : decode cX10_until 14 = .ok (.iload_n 1, 1) := by decide +kernel
theorem dX10_until_15 : decode cX10_until 15 = .ok (.iaload, 1) := by decide +kernel
theorem dX10_until_16 : decode cX10_until 16 = .ok (.iadd, 1) := by decide +kernel
theorem dX10_until_17 : decode cX10_until 17 = .ok (.goto 20, 3) := by decide +kernel
theorem dX10_until_20 : decode cX10_until 20 = .ok (.iload_n 2, 1) := by decide +kernel
theorem dX10_until_21 : decode cX10_until 21 = .ok (.aload_n 0, 1) := by decide +kernel
theorem dX10_until_22 : decode cX10_until 22 = .ok (.getfield 78, 3) := by decide +kernel
theorem dX10_until_25 : decode cX10_until 25 = .ok (.iload_n 1, 1) := by decide +kernel
theorem dX10_until_26 : decode cX10_until 26 = .ok (.iaload, 1) := by decide +kernel
theorem dX10_until_27 : decode cX10_until 27 = .ok (.aload_n 0, 1) := by decide +kernel
theorem dX10_until_28 : decode cX10_until 28 = .ok (.getfield 75, 3) := by decide +kernel
theorem dX10_until_31 : decode cX10_until 31 = .ok (.iload_n 1, 1) := by decide +kernel
theorem dX10_until_32 : decode cX10_until 32 = .ok (.iaload, 1) := by decide +kernel
theorem dX10_until_33 : decode cX10_until 33 = .ok (.imul, 1) := by decide +kernel
theorem dX10_until_34 : decode cX10_until 34 = .ok (.invokestatic 168, 3) := by decide +kernel
theorem dX10_until_37 : decode cX10_until 37 = .ok (.istore_n 3, 1) := by decide +kernel
theorem dX10_until_38 : decode cX10_until 38 = .ok (.iload_n 3, 1) := by decide +kernel
theorem dX10_until_39 : decode cX10_until 39 = .ok (.ldc 144, 2) := by decide +kernel
theorem dX10_until_41 : decode cX10_until 41 = .ok (.if_icmp .le 8, 3) := by decide +kernel
theorem dX10_until_44 : decode cX10_until 44 = .ok (.ldc 161, 2) := by decide +kernel
theorem dX10_until_46 : decode cX10_until 46 = .ok (.goto 4, 3) := by decide +kernel
theorem dX10_until_49 : decode cX10_until 49 = .ok (.iload_n 3, 1) := by decide +kernel
theorem dX10_until_50 : decode cX10_until 50 = .ok (.ireturn, 1) := by decide +kernel
theorem dX10_bid_0 : decode cX10_bid 0 = .ok (.bipush 24, 2) := by decide +kernel
theorem dX10_bid_2 : decode cX10_bid 2 = .ok (.iload_n 1, 1) := by decide +kernel
theorem dX10_bid_3 : decode cX10_bid 3 = .ok (.imul, 1) := by decide +kernel
theorem dX10_bid_4 : decode cX10_bid 4 = .ok (.iload_n 2, 1) := by decide +kernel
theorem dX10_bid_5 : decode cX10_bid 5 = .ok (.iadd, 1) := by decide +kernel
theorem dX10_bid_6 : decode cX10_bid 6 = .ok (.istore 4, 2) := by decide +kernel
theorem dX10_bid_8 : decode cX10_bid 8 = .ok (.aload_n 0, 1) := by decide +kernel
theorem dX10_bid_9 : decode cX10_bid 9 = .ok (.getfield 20, 3) := by decide +kernel
theorem dX10_bid_12 : decode cX10_bid 12 = .ok (.iconst 4, 1) := by decide +kernel
theorem dX10_bid_13 : decode cX10_bid 13 = .ok (.iload_n 3, 1) := by decide +kernel
theorem dX10_bid_14 : decode cX10_bid 14 = .ok (.imul, 1) := by decide +kernel
theorem dX10_bid_15 : decode cX10_bid 15 = .ok (.aload_n 0, 1) := by decide +kernel
theorem dX10_bid_16 : decode cX10_bid 16 = .ok (.getfield 81, 3) := by decide +kernel
theorem dX10_bid_19 : decode cX10_bid 19 = .ok (.iload 4, 2) := by decide +kernel
theorem dX10_bid_21 : decode cX10_bid 21 = .ok (.iaload, 1) := by decide +kernel
theorem dX10_bid_22 : decode cX10_bid 22 = .ok (.iadd, 1) := by decide +kernel
theorem dX10_bid_23 : decode cX10_bid 23 = .ok (.iaload, 1) := by decide +kernel
theorem dX10_bid_24 : decode cX10_bid 24 = .ok (.istore 5, 2) := by decide +kernel
theorem dX10_bid_26 : decode cX10_bid 26 = .ok (.aload_n 0, 1) := by decide +kernel
theorem dX10_bid_27 : decode cX10_bid 27 = .ok (.getfield 284, 3) := by decide +kernel
theorem dX10_bid_30 : decode cX10_bid 30 = .ok (.istore 6, 2) := by decide +kernel
theorem dX10_bid_32 : decode cX10_bid 32 = .ok (.aload_n 0, 1) := by decide +kernel
theorem dX10_bid_33 : decode cX10_bid 33 = .ok (.getfield 287, 3) := by decide +kernel
theorem dX10_bid_36 : decode cX10_bid 36 = .ok (.istore 7, 2) := by decide +kernel
theorem dX10_bid_38 : decode cX10_bid 38 = .ok (.aload_n 0, 1) := by decide +kernel
theorem dX10_bid_39 : decode cX10_bid 39 = .ok (.getfield 66, 3) := by decide +kernel
theorem dX10_bid_42 : decode cX10_bid 42 = .ok (.iload 4, 2) := by decide +kernel
theorem dX10_bid_44 : decode cX10_bid 44 = .ok (.iaload, 1) := by decide +kernel
theorem dX10_bid_45 : decode cX10_bid 45 = .ok (.ifCond .ne 32, 3) := by decide +kernel
theorem dX10_bid_48 : decode cX10_bid 48 = .ok (.iload 6, 2) := by decide +kernel
theorem dX10_bid_50 : decode cX10_bid 50 = .ok (.iload 5, 2) := by decide +kernel
theorem dX10_bid_52 : decode cX10_bid 52 = .ok (.iconst (-1), 1) := by decide +kernel
theorem dX10_bid_53 : decode cX10_bid 53 = .ok (.if_icmp .ne 8, 3) := by decide +kernel
theorem dX10_bid_56 : decode cX10_bid 56 = .ok (.ldc 161, 2) := by decide +kernel
theorem dX10_bid_58 : decode cX10_bid 58 = .ok (.goto 11, 3) := by decide +kernel
theorem dX10_bid_61 : decode cX10_bid 61 = .ok (.aload_n 0, 1) := by decide +kernel
theorem dX10_bid_62 : decode cX10_bid 62 = .ok (.iload 4, 2) := by decide +kernel
theorem dX10_bid_64 : decode cX10_bid 64 = .ok (.iload 5, 2) := by decide +kernel
theorem dX10_bid_66 : decode cX10_bid 66 = .ok (.invokevirtual 290, 3) := by decide +kernel
theorem dX10_bid_69 : decode cX10_bid 69 = .ok (.invokestatic 293, 3) := by decide +kernel
theorem dX10_bid_72 : decode cX10_bid 72 = .ok (.istore 6, 2) := by decide +kernel
theorem dX10_bid_74 : decode cX10_bid 74 = .ok (.goto 25, 3) := by decide +kernel
theorem dX10_bid_77 : decode cX10_bid 77 = .ok (.iload 5, 2) := by decide +kernel
theorem dX10_bid_79 : decode cX10_bid 79 = .ok (.iconst (-1), 1) := by decide +kernel
theorem dX10_bid_80 : decode cX10_bid 80 = .ok (.if_icmp .ne 4, 3) := by decide +kernel
theorem dX10_bid_83 : decode cX10_bid 83 = .ok (.return_, 1) := by decide +kernel
theorem dX10_bid_84 : decode cX10_bid 84 = .ok (.iload 7, 2) := by decide +kernel
theorem dX10_bid_86 : decode cX10_bid 86 = .ok (.aload_n 0, 1) := by decide +kernel
theorem dX10_bid_87 : decode cX10_bid 87 = .ok (.iload 4, 2) := by decide +kernel
theorem dX10_bid_89 : decode cX10_bid 89 = .ok (.iload 5, 2) := by decide +kernel
theorem dX10_bid_91 : decode cX10_bid 91 = .ok (.invokevirtual 290, 3) := by decide +kernel
theorem dX10_bid_94 : decode cX10_bid 94 = .ok (.invokestatic 162, 3) := by decide +kernel
theorem dX10_bid_97 : decode cX10_bid 97 = .ok (.istore 7, 2) := by decide +kernel
theorem dX10_bid_99 : decode cX10_bid 99 = .ok (.iload 6, 2) := by decide +kernel
theorem dX10_bid_101 : decode cX10_bid 101 = .ok (.iload 7, 2) := by decide +kernel
theorem dX10_bid_103 : decode cX10_bid 103 = .ok (.if_icmp .le 24, 3) := by decide +kernel
theorem dX10_bid_106 : decode cX10_bid 106 = .ok (.aload_n 0, 1) := by decide +kernel
theorem dX10_bid_107 : decode cX10_bid 107 = .ok (.getfield 105, 3) := by decide +kernel
theorem dX10_bid_110 : decode cX10_bid 110 = .ok (.aload_n 0, 1) := by decide +kernel
theorem dX10_bid_111 : decode cX10_bid 111 = .ok (.getfield 296, 3) := by decide +kernel
theorem dX10_bid_114 : decode cX10_bid 114 = .ok (.iload_n 2, 1) := by decide +kernel
theorem dX10_bid_115 : decode cX10_bid 115 = .ok (.iastore, 1) := by decide +kernel
theorem dX10_bid_116 : decode cX10_bid 116 = .ok (.aload_n 0, 1) := by decide +kernel
theorem dX10_bid_117 : decode cX10_bid 117 = .ok (.dup, 1) := by decide +kernel
theorem dX10_bid_118 : decode cX10_bid 118 = .ok (.getfield 296, 3) := by decide +kernel
theorem dX10_bid_121 : decode cX10_bid 121 = .ok (.iconst 1, 1) := by decide +kernel
theorem dX10_bid_122 : decode cX10_bid 122 = .ok (.iadd, 1) := by decide +kernel
theorem dX10_bid_123 : decode cX10_bid 123 = .ok (.putfield 296, 3) := by decide +kernel
theorem dX10_bid_126 : decode cX10_bid 126 = .ok (.return_, 1) := by decide +kernel
theorem dX10_bid_127 : decode cX10_bid 127 = .ok (.iload 6, 2) := by decide +kernel
theorem dX10_bid_129 : decode cX10_bid 129 = .ok (.aload_n 0, 1) := by decide +kernel
theorem dX10_bid_130 : decode cX10_bid 130 = .ok (.getfield 284, 3) := by decide +kernel
theorem dX10_bid_133 : decode cX10_bid 133 = .ok (.if_icmp .le 8, 3) := by decide +kernel
theorem dX10_bid_136 : decode cX10_bid 136 = .ok (.aload_n 0, 1) := by decide +kernel
theorem dX10_bid_137 : decode cX10_bid 137 = .ok (.iload_n 2, 1) := by decide +kernel
theorem dX10_bid_138 : decode cX10_bid 138 = .ok (.putfield 299, 3) := by decide +kernel
theorem dX10_bid_141 : decode cX10_bid 141 = .ok (.iload 7, 2) := by decide +kernel
theorem dX10_bid_143 : decode cX10_bid 143 = .ok (.aload_n 0, 1) := by decide +kernel
theorem dX10_bid_144 : decode cX10_bid 144 = .ok (.getfield 287, 3) := by decide +kernel
theorem dX10_bid_147 : decode cX10_bid 147 = .ok (.if_icmp .ge 8, 3) := by decide +kernel
theorem dX10_bid_150 : decode cX10_bid 150 = .ok (.aload_n 0, 1) := by decide +kernel
theorem dX10_bid_151 : decode cX10_bid 151 = .ok (.iload_n 2, 1) := by decide +kernel
theorem dX10_bid_152 : decode cX10_bid 152 = .ok (.putfield 302, 3) := by decide +kernel
theorem dX10_bid_155 : decode cX10_bid 155 = .ok (.aload_n 0, 1) := by decide +kernel
theorem dX10_bid_156 : decode cX10_bid 156 = .ok (.iload 6, 2) := by decide +kernel
theorem dX10_bid_158 : decode cX10_bid 158 = .ok (.putfield 284, 3) := by decide +kernel
theorem dX10_bid_161 : decode cX10_bid 161 = .ok (.aload_n 0, 1) := by decide +kernel
theorem dX10_bid_162 : decode cX10_bid 162 = .ok (.iload 7, 2) := by decide +kernel
theorem dX10_bid_164 : decode cX10_bid 164 = .ok (.putfield 287, 3) := by decide +kernel
theorem dX10_bid_167 : decode cX10_bid 167 = .ok (.return_, 1) := by decide +kernel
theorem dX10_tell_0 : decode cX10_tell 0 = .ok (.aload_n 0, 1) := by decide +kernel
theorem dX10_tell_1 : decode cX10_tell 1 = .ok (.iconst 0, 1) := by decide +kernel
theorem dX10_tell_2 : decode cX10_tell 2 = .ok (.putfield 284, 3) := by decide +kernel
theorem dX10_tell_5 : decode cX10_tell 5 = .ok (.aload_n 0, 1) := by decide +kernel
theorem dX10_tell_6 : decode cX10_tell 6 = .ok (.ldc 161, 2) := by decide +kernel
theorem dX10_tell_8 : decode cX10_tell 8 = .ok (.putfield 287, 3) := by decide +kernel
theorem dX10_tell_11 : decode cX10_tell 11 = .ok (.aload_n 0, 1) := by decide +kernel
theorem dX10_tell_12 : decode cX10_tell 12 = .ok (.iconst (-1), 1) := by decide +kernel
theorem dX10_tell_13 : decode cX10_tell 13 = .ok (.putfield 299, 3) := by decide +kernel
theorem dX10_tell_16 : decode cX10_tell 16 = .ok (.aload_n 0, 1) := by decide +kernel
theorem dX10_tell_17 : decode cX10_tell 17 = .ok (.iconst (-1), 1) := by decide +kernel
theorem dX10_tell_18 : decode cX10_tell 18 = .ok (.putfield 302, 3) := by decide +kernel
theorem dX10_tell_21 : decode cX10_tell 21 = .ok (.aload_n 0, 1) := by decide +kernel
theorem dX10_tell_22 : decode cX10_tell 22 = .ok (.iconst 0, 1) := by decide +kernel
theorem dX10_tell_23 : decode cX10_tell 23 = .ok (.putfield 296, 3) := by decide +kernel
theorem dX10_tell_26 : decode cX10_tell 26 = .ok (.iload_n 3, 1) := by decide +kernel
theorem dX10_tell_27 : decode cX10_tell 27 = .ok (.iconst (-1), 1) := by decide +kernel
theorem dX10_tell_28 : decode cX10_tell 28 = .ok (.if_icmp .ne 4, 3) := by decide +kernel
theorem dX10_tell_31 : decode cX10_tell 31 = .ok (.return_, 1) := by decide +kernel
theorem dX10_tell_32 : decode cX10_tell 32 = .ok (.sipush 10000, 3) := by decide +kernel
theorem dX10_tell_35 : decode cX10_tell 35 = .ok (.istore 4, 2) := by decide +kernel
theorem dX10_tell_37 : decode cX10_tell 37 = .ok (.iload 4, 2) := by decide +kernel
theorem dX10_tell_39 : decode cX10_tell 39 = .ok (.ifCond .le 147, 3) := by decide +kernel
theorem dX10_tell_42 : decode cX10_tell 42 = .ok (.iconst (-1), 1) := by decide +kernel
theorem dX10_tell_43 : decode cX10_tell 43 = .ok (.istore 5, 2) := by decide +kernel
theorem dX10_tell_45 : decode cX10_tell 45 = .ok (.iconst 0, 1) := by decide +kernel
theorem dX10_tell_46 : decode cX10_tell 46 = .ok (.istore 6, 2) := by decide +kernel
theorem dX10_tell_48 : decode cX10_tell 48 = .ok (.iload 6, 2) := by decide +kernel
theorem dX10_tell_50 : decode cX10_tell 50 = .ok (.aload_n 0, 1) := by decide +kernel
theorem dX10_tell_51 : decode cX10_tell 51 = .ok (.getfield 63, 3) := by decide +kernel
theorem dX10_tell_54 : decode cX10_tell 54 = .ok (.iload_n 3, 1) := by decide +kernel
theorem dX10_tell_55 : decode cX10_tell 55 = .ok (.iaload, 1) := by decide +kernel
theorem dX10_tell_56 : decode cX10_tell 56 = .ok (.if_icmp .ge 45, 3) := by decide +kernel
theorem dX10_tell_59 : decode cX10_tell 59 = .ok (.aload_n 0, 1) := by decide +kernel
theorem dX10_tell_60 : decode cX10_tell 60 = .ok (.getfield 87, 3) := by decide +kernel
theorem dX10_tell_63 : decode cX10_tell 63 = .ok (.bipush 24, 2) := by decide +kernel
theorem dX10_tell_65 : decode cX10_tell 65 = .ok (.iload_n 3, 1) := by decide +kernel
theorem dX10_tell_66 : decode cX10_tell 66 = .ok (.imul, 1) := by decide +kernel
theorem dX10_tell_67 : decode cX10_tell 67 = .ok (.iload 6, 2) := by decide +kernel
theorem dX10_tell_69 : decode cX10_tell 69 = .ok (.iadd, 1) := by decide +kernel
theorem dX10_tell_70 : decode cX10_tell 70 = .ok (.iaload, 1) := by decide +kernel
theorem dX10_tell_71 : decode cX10_tell 71 = .ok (.iload 4, 2) := by decide +kernel
theorem dX10_tell_73 : decode cX10_tell 73 = .ok (.if_icmp .ge 22, 3) := by decide +kernel
theorem dX10_tell_76 : decode cX10_tell 76 = .ok (.iload 5, 2) := by decide +kernel
theorem dX10_tell_78 : decode cX10_tell 78 = .ok (.aload_n 0, 1) := by decide +kernel
theorem dX10_tell_79 : decode cX10_tell 79 = .ok (.getfield 87, 3) := by decide +kernel
theorem dX10_tell_82 : decode cX10_tell 82 = .ok (.bipush 24, 2) := by decide +kernel
theorem dX10_tell_84 : decode cX10_tell 84 = .ok (.iload_n 3, 1) := by decide +kernel
theorem dX10_tell_85 : decode cX10_tell 85 = .ok (.imul, 1) := by decide +kernel
theorem dX10_tell_86 : decode cX10_tell 86 = .ok (.iload 6, 2) := by decide +kernel
theorem dX10_tell_88 : decode cX10_tell 88 = .ok (.iadd, 1) := by decide +kernel
theorem dX10_tell_89 : decode cX10_tell 89 = .ok (.iaload, 1) := by decide +kernel
theorem dX10_tell_90 : decode cX10_tell 90 = .ok (.invokestatic 293, 3) := by decide +kernel
theorem dX10_tell_93 : decode cX10_tell 93 = .ok (.istore 5, 2) := by decide +kernel
theorem dX10_tell_95 : decode cX10_tell 95 = .ok (.iinc 6 1, 3) := by decide +kernel
theorem dX10_tell_98 : decode cX10_tell 98 = .ok (.goto (-50), 3) := by decide +kernel
theorem dX10_tell_101 : decode cX10_tell 101 = .ok (.iload 5, 2) := by decide +kernel
theorem dX10_tell_103 : decode cX10_tell 103 = .ok (.iconst (-1), 1) := by decide +kernel
theorem dX10_tell_104 : decode cX10_tell 104 = .ok (.if_icmp .ne 4, 3) := by decide +kernel
theorem dX10_tell_107 : decode cX10_tell 107 = .ok (.return_, 1) := by decide +kernel
theorem dX10_tell_108 : decode cX10_tell 108 = .ok (.iconst 0, 1) := by decide +kernel
theorem dX10_tell_109 : decode cX10_tell 109 = .ok (.istore 6, 2) := by decide +kernel
theorem dX10_tell_111 : decode cX10_tell 111 = .ok (.iload 6, 2) := by decide +kernel
theorem dX10_tell_113 : decode cX10_tell 113 = .ok (.aload_n 0, 1) := by decide +kernel
theorem dX10_tell_114 : decode cX10_tell 114 = .ok (.getfield 63, 3) := by decide +kernel
theorem dX10_tell_117 : decode cX10_tell 117 = .ok (.iload_n 3, 1) := by decide +kernel
theorem dX10_tell_118 : decode cX10_tell 118 = .ok (.iaload, 1) := by decide +kernel
theorem dX10_tell_119 : decode cX10_tell 119 = .ok (.if_icmp .ge 60, 3) := by decide +kernel
theorem dX10_tell_122 : decode cX10_tell 122 = .ok (.bipush 24, 2) := by decide +kernel
theorem dX10_tell_124 : decode cX10_tell 124 = .ok (.iload_n 3, 1) := by decide +kernel
theorem dX10_tell_125 : decode cX10_tell 125 = .ok (.imul, 1) := by decide +kernel
theorem dX10_tell_126 : decode cX10_tell 126 = .ok (.iload 6, 2) := by decide +kernel
theorem dX10_tell_128 : decode cX10_tell 128 = .ok (.iadd, 1) := by decide +kernel
theorem dX10_tell_129 : decode cX10_tell 129 = .ok (.istore 7, 2) := by decide +kernel
theorem dX10_tell_131 : decode cX10_tell 131 = .ok (.aload_n 0, 1) := by decide +kernel
theorem dX10_tell_132 : decode cX10_tell 132 = .ok (.getfield 87, 3) := by decide +kernel
theorem dX10_tell_135 : decode cX10_tell 135 = .ok (.iload 7, 2) := by decide +kernel
theorem dX10_tell_137 : decode cX10_tell 137 = .ok (.iaload, 1) := by decide +kernel
theorem dX10_tell_138 : decode cX10_tell 138 = .ok (.iload 5, 2) := by decide +kernel
theorem dX10_tell_140 : decode cX10_tell 140 = .ok (.if_icmp .ne 33, 3) := by decide +kernel
theorem dX10_tell_143 : decode cX10_tell 143 = .ok (.aload_n 0, 1) := by decide +kernel
theorem dX10_tell_144 : decode cX10_tell 144 = .ok (.getfield 66, 3) := by decide +kernel
theorem dX10_tell_147 : decode cX10_tell 147 = .ok (.iload 7, 2) := by decide +kernel
theorem dX10_tell_149 : decode cX10_tell 149 = .ok (.iaload, 1) := by decide +kernel
theorem dX10_tell_150 : decode cX10_tell 150 = .ok (.iconst 2, 1) := by decide +kernel
theorem dX10_tell_151 : decode cX10_tell 151 = .ok (.if_icmp .eq 22, 3) := by decide +kernel
theorem dX10_tell_154 : decode cX10_tell 154 = .ok (.aload_n 0, 1) := by decide +kernel
theorem dX10_tell_155 : decode cX10_tell 155 = .ok (.iload 7, 2) := by decide +kernel
theorem dX10_tell_157 : decode cX10_tell 157 = .ok (.iload_n 1, 1) := by decide +kernel
theorem dX10_tell_158 : decode cX10_tell 158 = .ok (.iload_n 2, 1) := by decide +kernel
theorem dX10_tell_159 : decode cX10_tell 159 = .ok (.invokevirtual 305, 3) := by decide +kernel
theorem dX10_tell_162 : decode cX10_tell 162 = .ok (.ifCond .eq 11, 3) := by decide +kernel
theorem dX10_tell_165 : decode cX10_tell 165 = .ok (.aload_n 0, 1) := by decide +kernel
theorem dX10_tell_166 : decode cX10_tell 166 = .ok (.iload_n 3, 1) := by decide +kernel
theorem dX10_tell_167 : decode cX10_tell 167 = .ok (.iload 6, 2) := by decide +kernel
theorem dX10_tell_169 : decode cX10_tell 169 = .ok (.iload_n 1, 1) := by decide +kernel
theorem dX10_tell_170 : decode cX10_tell 170 = .ok (.invokevirtual 309, 3) := by decide +kernel
theorem dX10_tell_173 : decode cX10_tell 173 = .ok (.iinc 6 1, 3) := by decide +kernel
theorem dX10_tell_176 : decode cX10_tell 176 = .ok (.goto (-65), 3) := by decide +kernel
theorem dX10_tell_179 : decode cX10_tell 179 = .ok (.iload 5, 2) := by decide +kernel
theorem dX10_tell_181 : decode cX10_tell 181 = .ok (.istore 4, 2) := by decide +kernel
theorem dX10_tell_183 : decode cX10_tell 183 = .ok (.goto (-146), 3) := by decide +kernel
theorem dX10_tell_186 : decode cX10_tell 186 = .ok (.return_, 1) := by decide +kernel
theorem dX10_isHeld_0 : decode cX10_isHeld 0 = .ok (.aload_n 0, 1) := by decide +kernel
theorem dX10_isHeld_1 : decode cX10_isHeld 1 = .ok (.getfield 123, 3) := by decide +kernel
theorem dX10_isHeld_4 : decode cX10_isHeld 4 = .ok (.iload_n 1, 1) := by decide +kernel
theorem dX10_isHeld_5 : decode cX10_isHeld 5 = .ok (.iaload, 1) := by decide +kernel
theorem dX10_isHeld_6 : decode cX10_isHeld 6 = .ok (.iload_n 2, 1) := by decide +kernel
theorem dX10_isHeld_7 : decode cX10_isHeld 7 = .ok (.ishr, 1) := by decide +kernel
theorem dX10_isHeld_8 : decode cX10_isHeld 8 = .ok (.iconst 1, 1) := by decide +kernel
theorem dX10_isHeld_9 : decode cX10_isHeld 9 = .ok (.iand, 1) := by decide +kernel
theorem dX10_isHeld_10 : decode cX10_isHeld 10 = .ok (.iconst 1, 1) := by decide +kernel
theorem dX10_isHeld_11 : decode cX10_isHeld 11 = .ok (.if_icmp .ne 7, 3) := by decide +kernel
theorem dX10_isHeld_14 : decode cX10_isHeld 14 = .ok (.iconst 1, 1) := by decide +kernel
theorem dX10_isHeld_15 : decode cX10_isHeld 15 = .ok (.goto 4, 3) := by decide +kernel
theorem dX10_isHeld_18 : decode cX10_isHeld 18 = .ok (.iconst 0, 1) := by decide +kernel
theorem dX10_isHeld_19 : decode cX10_isHeld 19 = .ok (.ireturn, 1) := by decide +kernel
theorem dX10_know_0 : decode cX10_know 0 = .ok (.aload_n 0, 1) := by decide +kernel
theorem dX10_know_1 : decode cX10_know 1 = .ok (.aload_n 0, 1) := by decide +kernel
theorem dX10_know_2 : decode cX10_know 2 = .ok (.getfield 313, 3) := by decide +kernel
theorem dX10_know_5 : decode cX10_know 5 = .ok (.invokevirtual 316, 3) := by decide +kernel
theorem dX10_know_8 : decode cX10_know 8 = .ok (.istore_n 3, 1) := by decide +kernel
theorem dX10_know_9 : decode cX10_know 9 = .ok (.iload_n 3, 1) := by decide +kernel
theorem dX10_know_10 : decode cX10_know 10 = .ok (.aload_n 0, 1) := by decide +kernel
theorem dX10_know_11 : decode cX10_know 11 = .ok (.getfield 108, 3) := by decide +kernel
theorem dX10_know_14 : decode cX10_know 14 = .ok (.if_icmp .eq 27, 3) := by decide +kernel
theorem dX10_know_17 : decode cX10_know 17 = .ok (.iconst 0, 1) := by decide +kernel
theorem dX10_know_18 : decode cX10_know 18 = .ok (.istore 4, 2) := by decide +kernel
theorem dX10_know_20 : decode cX10_know 20 = .ok (.iload 4, 2) := by decide +kernel
theorem dX10_know_22 : decode cX10_know 22 = .ok (.bipush 30, 2) := by decide +kernel
theorem dX10_know_24 : decode cX10_know 24 = .ok (.if_icmp .ge 17, 3) := by decide +kernel
theorem dX10_know_27 : decode cX10_know 27 = .ok (.aload_n 0, 1) := by decide +kernel
theorem dX10_know_28 : decode cX10_know 28 = .ok (.getfield 111, 3) := by decide +kernel
theorem dX10_know_31 : decode cX10_know 31 = .ok (.iload 4, 2) := by decide +kernel
theorem dX10_know_33 : decode cX10_know 33 = .ok (.iconst 0, 1) := by decide +kernel
theorem dX10_know_34 : decode cX10_know 34 = .ok (.bastore, 1) := by decide +kernel
theorem dX10_know_35 : decode cX10_know 35 = .ok (.iinc 4 1, 3) := by decide +kernel
theorem dX10_know_38 : decode cX10_know 38 = .ok (.goto (-18), 3) := by decide +kernel
theorem dX10_know_41 : decode cX10_know 41 = .ok (.aload_n 0, 1) := by decide +kernel
theorem dX10_know_42 : decode cX10_know 42 = .ok (.iload_n 3, 1) := by decide +kernel
theorem dX10_know_43 : decode cX10_know 43 = .ok (.putfield 108, 3) := by decide +kernel
theorem dX10_know_46 : decode cX10_know 46 = .ok (.iconst 0, 1) := by decide +kernel
theorem dX10_know_47 : decode cX10_know 47 = .ok (.istore 4, 2) := by decide +kernel
theorem dX10_know_49 : decode cX10_know 49 = .ok (.iload 4, 2) := by decide +kernel
theorem dX10_know_51 : decode cX10_know 51 = .ok (.bipush 8, 2) := by decide +kernel
theorem dX10_know_53 : decode cX10_know 53 = .ok (.if_icmp .ge 74, 3) := by decide +kernel
theorem dX10_know_56 : decode cX10_know 56 = .ok (.aload_n 0, 1) := by decide +kernel
theorem dX10_know_57 : decode cX10_know 57 = .ok (.getfield 111, 3) := by decide +kernel
theorem dX10_know_60 : decode cX10_know 60 = .ok (.iload_n 1, 1) := by decide +kernel
theorem dX10_know_61 : decode cX10_know 61 = .ok (.baload, 1) := by decide +kernel
theorem dX10_know_62 : decode cX10_know 62 = .ok (.ifCond .ne 65, 3) := by decide +kernel
theorem dX10_know_65 : decode cX10_know 65 = .ok (.aload_n 0, 1) := by decide +kernel
theorem dX10_know_66 : decode cX10_know 66 = .ok (.iload_n 1, 1) := by decide +kernel
theorem dX10_know_67 : decode cX10_know 67 = .ok (.iload 4, 2) := by decide +kernel
theorem dX10_know_69 : decode cX10_know 69 = .ok (.iload_n 3, 1) := by decide +kernel
theorem dX10_know_70 : decode cX10_know 70 = .ok (.invokevirtual 319, 3) := by decide +kernel
theorem dX10_know_73 : decode cX10_know 73 = .ok (.aload_n 0, 1) := by decide +kernel
theorem dX10_know_74 : decode cX10_know 74 = .ok (.getfield 114, 3) := by decide +kernel
theorem dX10_know_77 : decode cX10_know 77 = .ok (.bipush 8, 2) := by decide +kernel
theorem dX10_know_79 : decode cX10_know 79 = .ok (.iload_n 1, 1) := by decide +kernel
theorem dX10_know_80 : decode cX10_know 80 = .ok (.imul, 1) := by decide +kernel
theorem dX10_know_81 : decode cX10_know 81 = .ok (.iload 4, 2) := by decide +kernel
theorem dX10_know_83 : decode cX10_know 83 = .ok (.iadd, 1) := by decide +kernel
theorem dX10_know_84 : decode cX10_know 84 = .ok (.aload_n 0, 1) := by decide +kernel
theorem dX10_know_85 : decode cX10_know 85 = .ok (.getfield 284, 3) := by decide +kernel
theorem dX10_know_88 : decode cX10_know 88 = .ok (.iastore, 1) := by decide +kernel
theorem dX10_know_89 : decode cX10_know 89 = .ok (.aload_n 0, 1) := by decide +kernel
theorem dX10_know_90 : decode cX10_know 90 = .ok (.getfield 117, 3) := by decide +kernel
theorem dX10_know_93 : decode cX10_know 93 = .ok (.bipush 8, 2) := by decide +kernel
theorem dX10_know_95 : decode cX10_know 95 = .ok (.iload_n 1, 1) := by decide +kernel
theorem dX10_know_96 : decode cX10_know 96 = .ok (.imul, 1) := by decide +kernel
theorem dX10_know_97 : decode cX10_know 97 = .ok (.iload 4, 2) := by decide +kernel
theorem dX10_know_99 : decode cX10_know 99 = .ok (.iadd, 1) := by decide +kernel
theorem dX10_know_100 : decode cX10_know 100 = .ok (.aload_n 0, 1) := by decide +kernel
theorem dX10_know_101 : decode cX10_know 101 = .ok (.getfield 287, 3) := by decide +kernel
theorem dX10_know_104 : decode cX10_know 104 = .ok (.iastore, 1) := by decide +kernel
theorem dX10_know_105 : decode cX10_know 105 = .ok (.aload_n 0, 1) := by decide +kernel
theorem dX10_know_106 : decode cX10_know 106 = .ok (.getfield 120, 3) := by decide +kernel
theorem dX10_know_109 : decode cX10_know 109 = .ok (.bipush 8, 2) := by decide +kernel
theorem dX10_know_111 : decode cX10_know 111 = .ok (.iload_n 1, 1) := by decide +kernel
theorem dX10_know_112 : decode cX10_know 112 = .ok (.imul, 1) := by decide +kernel
theorem dX10_know_113 : decode cX10_know 113 = .ok (.iload 4, 2) := by decide +kernel
theorem dX10_know_115 : decode cX10_know 115 = .ok (.iadd, 1) := by decide +kernel
theorem dX10_know_116 : decode cX10_know 116 = .ok (.aload_n 0, 1) := by decide +kernel
theorem dX10_know_117 : decode cX10_know 117 = .ok (.getfield 302, 3) := by decide +kernel
theorem dX10_know_120 : decode cX10_know 120 = .ok (.iastore, 1) := by decide +kernel
theorem dX10_know_121 : decode cX10_know 121 = .ok (.iinc 4 1, 3) := by decide +kernel
theorem dX10_know_124 : decode cX10_know 124 = .ok (.goto (-75), 3) := by decide +kernel
theorem dX10_know_127 : decode cX10_know 127 = .ok (.aload_n 0, 1) := by decide +kernel
theorem dX10_know_128 : decode cX10_know 128 = .ok (.getfield 111, 3) := by decide +kernel
theorem dX10_know_131 : decode cX10_know 131 = .ok (.iload_n 1, 1) := by decide +kernel
theorem dX10_know_132 : decode cX10_know 132 = .ok (.iconst 1, 1) := by decide +kernel
theorem dX10_know_133 : decode cX10_know 133 = .ok (.bastore, 1) := by decide +kernel
theorem dX10_know_134 : decode cX10_know 134 = .ok (.aload_n 0, 1) := by decide +kernel
theorem dX10_know_135 : decode cX10_know 135 = .ok (.aload_n 0, 1) := by decide +kernel
theorem dX10_know_136 : decode cX10_know 136 = .ok (.getfield 114, 3) := by decide +kernel
theorem dX10_know_139 : decode cX10_know 139 = .ok (.bipush 8, 2) := by decide +kernel
theorem dX10_know_141 : decode cX10_know 141 = .ok (.iload_n 1, 1) := by decide +kernel
theorem dX10_know_142 : decode cX10_know 142 = .ok (.imul, 1) := by decide +kernel
theorem dX10_know_143 : decode cX10_know 143 = .ok (.iload_n 2, 1) := by decide +kernel
theorem dX10_know_144 : decode cX10_know 144 = .ok (.iadd, 1) := by decide +kernel
theorem dX10_know_145 : decode cX10_know 145 = .ok (.iaload, 1) := by decide +kernel
theorem dX10_know_146 : decode cX10_know 146 = .ok (.putfield 284, 3) := by decide +kernel
theorem dX10_know_149 : decode cX10_know 149 = .ok (.aload_n 0, 1) := by decide +kernel
theorem dX10_know_150 : decode cX10_know 150 = .ok (.aload_n 0, 1) := by decide +kernel
theorem dX10_know_151 : decode cX10_know 151 = .ok (.getfield 117, 3) := by decide +kernel
theorem dX10_know_154 : decode cX10_know 154 = .ok (.bipush 8, 2) := by decide +kernel
theorem dX10_know_156 : decode cX10_know 156 = .ok (.iload_n 1, 1) := by decide +kernel
theorem dX10_know_157 : decode cX10_know 157 = .ok (.imul, 1) := by decide +kernel
theorem dX10_know_158 : decode cX10_know 158 = .ok (.iload_n 2, 1) := by decide +kernel
theorem dX10_know_159 : decode cX10_know 159 = .ok (.iadd, 1) := by decide +kernel
theorem dX10_know_160 : decode cX10_know 160 = .ok (.iaload, 1) := by decide +kernel
theorem dX10_know_161 : decode cX10_know 161 = .ok (.putfield 287, 3) := by decide +kernel
theorem dX10_know_164 : decode cX10_know 164 = .ok (.aload_n 0, 1) := by decide +kernel
theorem dX10_know_165 : decode cX10_know 165 = .ok (.aload_n 0, 1) := by decide +kernel
theorem dX10_know_166 : decode cX10_know 166 = .ok (.getfield 120, 3) := by decide +kernel
theorem dX10_know_169 : decode cX10_know 169 = .ok (.bipush 8, 2) := by decide +kernel
theorem dX10_know_171 : decode cX10_know 171 = .ok (.iload_n 1, 1) := by decide +kernel
theorem dX10_know_172 : decode cX10_know 172 = .ok (.imul, 1) := by decide +kernel
theorem dX10_know_173 : decode cX10_know 173 = .ok (.iload_n 2, 1) := by decide +kernel
theorem dX10_know_174 : decode cX10_know 174 = .ok (.iadd, 1) := by decide +kernel
theorem dX10_know_175 : decode cX10_know 175 = .ok (.iaload, 1) := by decide +kernel
theorem dX10_know_176 : decode cX10_know 176 = .ok (.putfield 302, 3) := by decide +kernel
theorem dX10_know_179 : decode cX10_know 179 = .ok (.return_, 1) := by decide +kernel
theorem dX10_isDue_0 : decode cX10_isDue 0 = .ok (.aload_n 0, 1) := by decide +kernel
theorem dX10_isDue_1 : decode cX10_isDue 1 = .ok (.iload_n 1, 1) := by decide +kernel
theorem dX10_isDue_2 : decode cX10_isDue 2 = .ok (.iload_n 2, 1) := by decide +kernel
theorem dX10_isDue_3 : decode cX10_isDue 3 = .ok (.invokevirtual 322, 3) := by decide +kernel
theorem dX10_isDue_6 : decode cX10_isDue 6 = .ok (.aload_n 0, 1) := by decide +kernel
theorem dX10_isDue_7 : decode cX10_isDue 7 = .ok (.iload_n 1, 1) := by decide +kernel
theorem dX10_isDue_8 : decode cX10_isDue 8 = .ok (.iload_n 2, 1) := by decide +kernel
theorem dX10_isDue_9 : decode cX10_isDue 9 = .ok (.invokevirtual 326, 3) := by decide +kernel
theorem dX10_isDue_12 : decode cX10_isDue 12 = .ok (.ifCond .ne 33, 3) := by decide +kernel
theorem dX10_isDue_15 : decode cX10_isDue 15 = .ok (.aload_n 0, 1) := by decide +kernel
theorem dX10_isDue_16 : decode cX10_isDue 16 = .ok (.getfield 284, 3) := by decide +kernel
theorem dX10_isDue_19 : decode cX10_isDue 19 = .ok (.iload_n 3, 1) := by decide +kernel
theorem dX10_isDue_20 : decode cX10_isDue 20 = .ok (.if_icmp .gt 25, 3) := by decide +kernel
theorem dX10_isDue_23 : decode cX10_isDue 23 = .ok (.aload_n 0, 1) := by decide +kernel
theorem dX10_isDue_24 : decode cX10_isDue 24 = .ok (.getfield 287, 3) := by decide +kernel
theorem dX10_isDue_27 : decode cX10_isDue 27 = .ok (.ldc 161, 2) := by decide +kernel
theorem dX10_isDue_29 : decode cX10_isDue 29 = .ok (.if_icmp .ne 12, 3) := by decide +kernel
theorem dX10_isDue_32 : decode cX10_isDue 32 = .ok (.aload_n 0, 1) := by decide +kernel
theorem dX10_isDue_33 : decode cX10_isDue 33 = .ok (.getfield 26, 3) := by decide +kernel
theorem dX10_isDue_36 : decode cX10_isDue 36 = .ok (.iload_n 1, 1) := by decide +kernel
theorem dX10_isDue_37 : decode cX10_isDue 37 = .ok (.baload, 1) := by decide +kernel
theorem dX10_isDue_38 : decode cX10_isDue 38 = .ok (.ifCond .eq 7, 3) := by decide +kernel
theorem dX10_isDue_41 : decode cX10_isDue 41 = .ok (.iconst 1, 1) := by decide +kernel
theorem dX10_isDue_42 : decode cX10_isDue 42 = .ok (.goto 4, 3) := by decide +kernel
theorem dX10_isDue_45 : decode cX10_isDue 45 = .ok (.iconst 0, 1) := by decide +kernel
theorem dX10_isDue_46 : decode cX10_isDue 46 = .ok (.ireturn, 1) := by decide +kernel
theorem dX10_placesOf_0 : decode cX10_placesOf 0 = .ok (.aload_n 0, 1) := by decide +kernel
theorem dX10_placesOf_1 : decode cX10_placesOf 1 = .ok (.aload_n 0, 1) := by decide +kernel
theorem dX10_placesOf_2 : decode cX10_placesOf 2 = .ok (.getfield 313, 3) := by decide +kernel
theorem dX10_placesOf_5 : decode cX10_placesOf 5 = .ok (.invokevirtual 316, 3) := by decide +kernel
theorem dX10_placesOf_8 : decode cX10_placesOf 8 = .ok (.istore_n 3, 1) := by decide +kernel
theorem dX10_placesOf_9 : decode cX10_placesOf 9 = .ok (.bipush 15, 2) := by decide +kernel
theorem dX10_placesOf_11 : decode cX10_placesOf 11 = .ok (.istore 4, 2) := by decide +kernel
theorem dX10_placesOf_13 : decode cX10_placesOf 13 = .ok (.iconst 0, 1) := by decide +kernel
theorem dX10_placesOf_14 : decode cX10_placesOf 14 = .ok (.istore 5, 2) := by decide +kernel
theorem dX10_placesOf_16 : decode cX10_placesOf 16 = .ok (.iload_n 3, 1) := by decide +kernel
theorem dX10_placesOf_17 : decode cX10_placesOf 17 = .ok (.iconst (-1), 1) := by decide +kernel
theorem dX10_placesOf_18 : decode cX10_placesOf 18 = .ok (.if_icmp .eq 69, 3) := by decide +kernel
theorem dX10_placesOf_21 : decode cX10_placesOf 21 = .ok (.iload 5, 2) := by decide +kernel
theorem dX10_placesOf_23 : decode cX10_placesOf 23 = .ok (.aload_n 0, 1) := by decide +kernel
theorem dX10_placesOf_24 : decode cX10_placesOf 24 = .ok (.getfield 63, 3) := by decide +kernel
theorem dX10_placesOf_27 : decode cX10_placesOf 27 = .ok (.iload_n 3, 1) := by decide +kernel
theorem dX10_placesOf_28 : decode cX10_placesOf 28 = .ok (.iaload, 1) := by decide +kernel
theorem dX10_placesOf_29 : decode cX10_placesOf 29 = .ok (.if_icmp .ge 58, 3) := by decide +kernel
theorem dX10_placesOf_32 : decode cX10_placesOf 32 = .ok (.aload_n 0, 1) := by decide +kernel
theorem dX10_placesOf_33 : decode cX10_placesOf 33 = .ok (.getfield 66, 3) := by decide +kernel
theorem dX10_placesOf_36 : decode cX10_placesOf 36 = .ok (.bipush 24, 2) := by decide +kernel
theorem dX10_placesOf_38 : decode cX10_placesOf 38 = .ok (.iload_n 3, 1) := by decide +kernel
theorem dX10_placesOf_39 : decode cX10_placesOf 39 = .ok (.imul, 1) := by decide +kernel
theorem dX10_placesOf_40 : decode cX10_placesOf 40 = .ok (.iload 5, 2) := by decide +kernel
theorem dX10_placesOf_42 : decode cX10_placesOf 42 = .ok (.iadd, 1) := by decide +kernel
theorem dX10_placesOf_43 : decode cX10_placesOf 43 = .ok (.iaload, 1) := by decide +kernel
theorem dX10_placesOf_44 : decode cX10_placesOf 44 = .ok (.iconst 2, 1) := by decide +kernel
theorem dX10_placesOf_45 : decode cX10_placesOf 45 = .ok (.if_icmp .ne 36, 3) := by decide +kernel
theorem dX10_placesOf_48 : decode cX10_placesOf 48 = .ok (.aload_n 0, 1) := by decide +kernel
theorem dX10_placesOf_49 : decode cX10_placesOf 49 = .ok (.bipush 24, 2) := by decide +kernel
theorem dX10_placesOf_51 : decode cX10_placesOf 51 = .ok (.iload_n 3, 1) := by decide +kernel
theorem dX10_placesOf_52 : decode cX10_placesOf 52 = .ok (.imul, 1) := by decide +kernel
theorem dX10_placesOf_53 : decode cX10_placesOf 53 = .ok (.iload 5, 2) := by decide +kernel
theorem dX10_placesOf_55 : decode cX10_placesOf 55 = .ok (.iadd, 1) := by decide +kernel
theorem dX10_placesOf_56 : decode cX10_placesOf 56 = .ok (.iload_n 1, 1) := by decide +kernel
theorem dX10_placesOf_57 : decode cX10_placesOf 57 = .ok (.iload_n 2, 1) := by decide +kernel
theorem dX10_placesOf_58 : decode cX10_placesOf 58 = .ok (.invokevirtual 305, 3) := by decide +kernel
theorem dX10_placesOf_61 : decode cX10_placesOf 61 = .ok (.ifCond .eq 20, 3) := by decide +kernel
theorem dX10_placesOf_64 : decode cX10_placesOf 64 = .ok (.iload 4, 2) := by decide +kernel
theorem dX10_placesOf_66 : decode cX10_placesOf 66 = .ok (.aload_n 0, 1) := by decide +kernel
theorem dX10_placesOf_67 : decode cX10_placesOf 67 = .ok (.getfield 84, 3) := by decide +kernel
theorem dX10_placesOf_70 : decode cX10_placesOf 70 = .ok (.bipush 24, 2) := by decide +kernel
theorem dX10_placesOf_72 : decode cX10_placesOf 72 = .ok (.iload_n 3, 1) := by decide +kernel
theorem dX10_placesOf_73 : decode cX10_placesOf 73 = .ok (.imul, 1) := by decide +kernel
theorem dX10_placesOf_74 : decode cX10_placesOf 74 = .ok (.iload 5, 2) := by decide +kernel
theorem dX10_placesOf_76 : decode cX10_placesOf 76 = .ok (.iadd, 1) := by decide +kernel
theorem dX10_placesOf_77 : decode cX10_placesOf 77 = .ok (.iaload, 1) := by decide +kernel
theorem dX10_placesOf_78 : decode cX10_placesOf 78 = .ok (.iand, 1) := by decide +kernel
theorem dX10_placesOf_79 : decode cX10_placesOf 79 = .ok (.istore 4, 2) := by decide +kernel
theorem dX10_placesOf_81 : decode cX10_placesOf 81 = .ok (.iinc 5 1, 3) := by decide +kernel
theorem dX10_placesOf_84 : decode cX10_placesOf 84 = .ok (.goto (-68), 3) := by decide +kernel
theorem dX10_placesOf_87 : decode cX10_placesOf 87 = .ok (.iload 4, 2) := by decide +kernel
theorem dX10_placesOf_89 : decode cX10_placesOf 89 = .ok (.ireturn, 1) := by decide +kernel
theorem dX10_copy_0 : decode cX10_copy 0 = .ok (.aload_n 0, 1) := by decide +kernel
theorem dX10_copy_1 : decode cX10_copy 1 = .ok (.iconst 0, 1) := by decide +kernel
theorem dX10_copy_2 : decode cX10_copy 2 = .ok (.putfield 126, 3) := by decide +kernel
theorem dX10_copy_5 : decode cX10_copy 5 = .ok (.aload_n 0, 1) := by decide +kernel
theorem dX10_copy_6 : decode cX10_copy 6 = .ok (.iload_n 1, 1) := by decide +kernel
theorem dX10_copy_7 : decode cX10_copy 7 = .ok (.invokevirtual 281, 3) := by decide +kernel
theorem dX10_copy_10 : decode cX10_copy 10 = .ok (.ifCond .eq 17, 3) := by decide +kernel
theorem dX10_copy_13 : decode cX10_copy 13 = .ok (.iload_n 2, 1) := by decide +kernel
theorem dX10_copy_14 : decode cX10_copy 14 = .ok (.invokestatic 330, 3) := by decide +kernel
theorem dX10_copy_17 : decode cX10_copy 17 = .ok (.ifCond .eq 10, 3) := by decide +kernel
theorem dX10_copy_20 : decode cX10_copy 20 = .ok (.iload_n 3, 1) := by decide +kernel
theorem dX10_copy_21 : decode cX10_copy 21 = .ok (.invokestatic 333, 3) := by decide +kernel
theorem dX10_copy_24 : decode cX10_copy 24 = .ok (.ifCond .ne 11, 3) := by decide +kernel
theorem dX10_copy_27 : decode cX10_copy 27 = .ok (.aload_n 0, 1) := by decide +kernel
theorem dX10_copy_28 : decode cX10_copy 28 = .ok (.iconst 1, 1) := by decide +kernel
theorem dX10_copy_29 : decode cX10_copy 29 = .ok (.invokevirtual 152, 3) := by decide +kernel
theorem dX10_copy_32 : decode cX10_copy 32 = .ok (.pop, 1) := by decide +kernel
theorem dX10_copy_33 : decode cX10_copy 33 = .ok (.iconst 0, 1) := by decide +kernel
theorem dX10_copy_34 : decode cX10_copy 34 = .ok (.ireturn, 1) := by decide +kernel
theorem dX10_copy_35 : decode cX10_copy 35 = .ok (.bipush 8, 2) := by decide +kernel
theorem dX10_copy_37 : decode cX10_copy 37 = .ok (.iload_n 1, 1) := by decide +kernel
theorem dX10_copy_38 : decode cX10_copy 38 = .ok (.imul, 1) := by decide +kernel
theorem dX10_copy_39 : decode cX10_copy 39 = .ok (.iload_n 2, 1) := by decide +kernel
theorem dX10_copy_40 : decode cX10_copy 40 = .ok (.iadd, 1) := by decide +kernel
theorem dX10_copy_41 : decode cX10_copy 41 = .ok (.istore 4, 2) := by decide +kernel
theorem dX10_copy_43 : decode cX10_copy 43 = .ok (.aload_n 0, 1) := by decide +kernel
theorem dX10_copy_44 : decode cX10_copy 44 = .ok (.getfield 23, 3) := by decide +kernel
theorem dX10_copy_47 : decode cX10_copy 47 = .ok (.iload 4, 2) := by decide +kernel
theorem dX10_copy_49 : decode cX10_copy 49 = .ok (.iaload, 1) := by decide +kernel
theorem dX10_copy_50 : decode cX10_copy 50 = .ok (.iload_n 3, 1) := by decide +kernel
theorem dX10_copy_51 : decode cX10_copy 51 = .ok (.ishr, 1) := by decide +kernel
theorem dX10_copy_52 : decode cX10_copy 52 = .ok (.iconst 1, 1) := by decide +kernel
theorem dX10_copy_53 : decode cX10_copy 53 = .ok (.iand, 1) := by decide +kernel
theorem dX10_copy_54 : decode cX10_copy 54 = .ok (.iconst 1, 1) := by decide +kernel
theorem dX10_copy_55 : decode cX10_copy 55 = .ok (.if_icmp .eq 16, 3) := by decide +kernel
theorem dX10_copy_58 : decode cX10_copy 58 = .ok (.aload_n 0, 1) := by decide +kernel
theorem dX10_copy_59 : decode cX10_copy 59 = .ok (.iload_n 1, 1) := by decide +kernel
theorem dX10_copy_60 : decode cX10_copy 60 = .ok (.iload_n 2, 1) := by decide +kernel
theorem dX10_copy_61 : decode cX10_copy 61 = .ok (.invokevirtual 336, 3) := by decide +kernel
theorem dX10_copy_64 : decode cX10_copy 64 = .ok (.iload_n 3, 1) := by decide +kernel
theorem dX10_copy_65 : decode cX10_copy 65 = .ok (.ishr, 1) := by decide +kernel
theorem dX10_copy_66 : decode cX10_copy 66 = .ok (.iconst 1, 1) := by decide +kernel
theorem dX10_copy_67 : decode cX10_copy 67 = .ok (.iand, 1) := by decide +kernel
theorem dX10_copy_68 : decode cX10_copy 68 = .ok (.ifCond .ne 5, 3) := by decide +kernel
theorem dX10_copy_71 : decode cX10_copy 71 = .ok (.iconst 0, 1) := by decide +kernel
theorem dX10_copy_72 : decode cX10_copy 72 = .ok (.ireturn, 1) := by decide +kernel
theorem dX10_copy_73 : decode cX10_copy 73 = .ok (.aload_n 0, 1) := by decide +kernel
theorem dX10_copy_74 : decode cX10_copy 74 = .ok (.getfield 23, 3) := by decide +kernel
theorem dX10_copy_77 : decode cX10_copy 77 = .ok (.iload 4, 2) := by decide +kernel
theorem dX10_copy_79 : decode cX10_copy 79 = .ok (.dup2, 1) := by decide +kernel
theorem dX10_copy_80 : decode cX10_copy 80 = .ok (.iaload, 1) := by decide +kernel
theorem dX10_copy_81 : decode cX10_copy 81 = .ok (.iconst 1, 1) := by decide +kernel
theorem dX10_copy_82 : decode cX10_copy 82 = .ok (.iload_n 3, 1) := by decide +kernel
theorem dX10_copy_83 : decode cX10_copy 83 = .ok (.ishl, 1) := by decide +kernel
theorem dX10_copy_84 : decode cX10_copy 84 = .ok (.ior, 1) := by decide +kernel
theorem dX10_copy_85 : decode cX10_copy 85 = .ok (.iastore, 1) := by decide +kernel
theorem dX10_copy_86 : decode cX10_copy 86 = .ok (.iconst 1, 1) := by decide +kernel
theorem dX10_copy_87 : decode cX10_copy 87 = .ok (.ireturn, 1) := by decide +kernel
theorem dX10_copies_0 : decode cX10_copies 0 = .ok (.aload_n 0, 1) := by decide +kernel
theorem dX10_copies_1 : decode cX10_copies 1 = .ok (.iconst 0, 1) := by decide +kernel
theorem dX10_copies_2 : decode cX10_copies 2 = .ok (.putfield 126, 3) := by decide +kernel
theorem dX10_copies_5 : decode cX10_copies 5 = .ok (.aload_n 0, 1) := by decide +kernel
theorem dX10_copies_6 : decode cX10_copies 6 = .ok (.iload_n 1, 1) := by decide +kernel
theorem dX10_copies_7 : decode cX10_copies 7 = .ok (.invokevirtual 281, 3) := by decide +kernel
theorem dX10_copies_10 : decode cX10_copies 10 = .ok (.ifCond .eq 24, 3) := by decide +kernel
theorem dX10_copies_13 : decode cX10_copies 13 = .ok (.iload_n 2, 1) := by decide +kernel
theorem dX10_copies_14 : decode cX10_copies 14 = .ok (.invokestatic 330, 3) := by decide +kernel
theorem dX10_copies_17 : decode cX10_copies 17 = .ok (.ifCond .eq 17, 3) := by decide +kernel
theorem dX10_copies_20 : decode cX10_copies 20 = .ok (.aload_n 0, 1) := by decide +kernel
theorem dX10_copies_21 : decode cX10_copies 21 = .ok (.getfield 23, 3) := by decide +kernel
theorem dX10_copies_24 : decode cX10_copies 24 = .ok (.bipush 8, 2) := by decide +kernel
theorem dX10_copies_26 : decode cX10_copies 26 = .ok (.iload_n 1, 1) := by decide +kernel
theorem dX10_copies_27 : decode cX10_copies 27 = .ok (.imul, 1) := by decide +kernel
theorem dX10_copies_28 : decode cX10_copies 28 = .ok (.iload_n 2, 1) := by decide +kernel
theorem dX10_copies_29 : decode cX10_copies 29 = .ok (.iadd, 1) := by decide +kernel
theorem dX10_copies_30 : decode cX10_copies 30 = .ok (.iaload, 1) := by decide +kernel
theorem dX10_copies_31 : decode cX10_copies 31 = .ok (.goto 8, 3) := by decide +kernel
theorem dX10_copies_34 : decode cX10_copies 34 = .ok (.aload_n 0, 1) := by decide +kernel
theorem dX10_copies_35 : decode cX10_copies 35 = .ok (.iconst 1, 1) := by decide +kernel
theorem dX10_copies_36 : decode cX10_copies 36 = .ok (.invokevirtual 152, 3) := by decide +kernel
theorem dX10_copies_39 : decode cX10_copies 39 = .ok (.ireturn, 1) := by decide +kernel
theorem dX10_store_0 : decode cX10_store 0 = .ok (.aload_n 0, 1) := by decide +kernel
theorem dX10_store_1 : decode cX10_store 1 = .ok (.iconst 0, 1) := by decide +kernel
theorem dX10_store_2 : decode cX10_store 2 = .ok (.putfield 126, 3) := by decide +kernel
theorem dX10_store_5 : decode cX10_store 5 = .ok (.iload_n 1, 1) := by decide +kernel
theorem dX10_store_6 : decode cX10_store 6 = .ok (.invokestatic 333, 3) := by decide +kernel
theorem dX10_store_9 : decode cX10_store 9 = .ok (.ifCond .ne 9, 3) := by decide +kernel
theorem dX10_store_12 : decode cX10_store 12 = .ok (.aload_n 0, 1) := by decide +kernel
theorem dX10_store_13 : decode cX10_store 13 = .ok (.iconst 1, 1) := by decide +kernel
theorem dX10_store_14 : decode cX10_store 14 = .ok (.putfield 126, 3) := by decide +kernel
theorem dX10_store_17 : decode cX10_store 17 = .ok (.return_, 1) := by decide +kernel
theorem dX10_store_18 : decode cX10_store 18 = .ok (.iload_n 2, 1) := by decide +kernel
theorem dX10_store_19 : decode cX10_store 19 = .ok (.iconst 1, 1) := by decide +kernel
theorem dX10_store_20 : decode cX10_store 20 = .ok (.if_icmp .lt 21, 3) := by decide +kernel
theorem dX10_store_23 : decode cX10_store 23 = .ok (.iload_n 2, 1) := by decide +kernel
theorem dX10_store_24 : decode cX10_store 24 = .ok (.sipush 400, 3) := by decide +kernel
theorem dX10_store_27 : decode cX10_store 27 = .ok (.if_icmp .gt 14, 3) := by decide +kernel
theorem dX10_store_30 : decode cX10_store 30 = .ok (.iload_n 3, 1) := by decide +kernel
theorem dX10_store_31 : decode cX10_store 31 = .ok (.ifCond .lt 10, 3) := by decide +kernel
theorem dX10_store_34 : decode cX10_store 34 = .ok (.iload_n 3, 1) := by decide +kernel
theorem dX10_store_35 : decode cX10_store 35 = .ok (.sipush 399, 3) := by decide +kernel
theorem dX10_store_38 : decode cX10_store 38 = .ok (.if_icmp .le 9, 3) := by decide +kernel
theorem dX10_store_41 : decode cX10_store 41 = .ok (.aload_n 0, 1) := by decide +kernel
theorem dX10_store_42 : decode cX10_store 42 = .ok (.iconst 2, 1) := by decide +kernel
theorem dX10_store_43 : decode cX10_store 43 = .ok (.putfield 126, 3) := by decide +kernel
theorem dX10_store_46 : decode cX10_store 46 = .ok (.return_, 1) := by decide +kernel
theorem dX10_store_47 : decode cX10_store 47 = .ok (.aload_n 0, 1) := by decide +kernel
theorem dX10_store_48 : decode cX10_store 48 = .ok (.getfield 30, 3) := by decide +kernel
theorem dX10_store_51 : decode cX10_store 51 = .ok (.iload_n 1, 1) := by decide +kernel
theorem dX10_store_52 : decode cX10_store 52 = .ok (.iload_n 2, 1) := by decide +kernel
theorem dX10_store_53 : decode cX10_store 53 = .ok (.iastore, 1) := by decide +kernel
theorem dX10_store_54 : decode cX10_store 54 = .ok (.aload_n 0, 1) := by decide +kernel
theorem dX10_store_55 : decode cX10_store 55 = .ok (.getfield 33, 3) := by decide +kernel
theorem dX10_store_58 : decode cX10_store 58 = .ok (.iload_n 1, 1) := by decide +kernel
theorem dX10_store_59 : decode cX10_store 59 = .ok (.iload_n 3, 1) := by decide +kernel
theorem dX10_store_60 : decode cX10_store 60 = .ok (.iastore, 1) := by decide +kernel
theorem dX10_store_61 : decode cX10_store 61 = .ok (.return_, 1) := by decide +kernel
theorem dX10_hold_0 : decode cX10_hold 0 = .ok (.aload_n 0, 1) := by decide +kernel
theorem dX10_hold_1 : decode cX10_hold 1 = .ok (.iconst 0, 1) := by decide +kernel
theorem dX10_hold_2 : decode cX10_hold 2 = .ok (.putfield 126, 3) := by decide +kernel
theorem dX10_hold_5 : decode cX10_hold 5 = .ok (.aload_n 0, 1) := by decide +kernel
theorem dX10_hold_6 : decode cX10_hold 6 = .ok (.iload_n 1, 1) := by decide +kernel
theorem dX10_hold_7 : decode cX10_hold 7 = .ok (.invokevirtual 281, 3) := by decide +kernel
theorem dX10_hold_10 : decode cX10_hold 10 = .ok (.ifCond .ne 9, 3) := by decide +kernel
theorem dX10_hold_13 : decode cX10_hold 13 = .ok (.aload_n 0, 1) := by decide +kernel
theorem dX10_hold_14 : decode cX10_hold 14 = .ok (.iconst 1, 1) := by decide +kernel
theorem dX10_hold_15 : decode cX10_hold 15 = .ok (.invokevirtual 152, 3) := by decide +kernel
theorem dX10_hold_18 : decode cX10_hold 18 = .ok (.ireturn, 1) := by decide +kernel
theorem dX10_hold_19 : decode cX10_hold 19 = .ok (.aload_n 0, 1) := by decide +kernel
theorem dX10_hold_20 : decode cX10_hold 20 = .ok (.getfield 339, 3) := by decide +kernel
theorem dX10_hold_23 : decode cX10_hold 23 = .ok (.bipush 40, 2) := by decide +kernel
theorem dX10_hold_25 : decode cX10_hold 25 = .ok (.if_icmp .eq 15, 3) := by decide +kernel
theorem dX10_hold_28 : decode cX10_hold 28 = .ok (.iload_n 2, 1) := by decide +kernel
theorem dX10_hold_29 : decode cX10_hold 29 = .ok (.iconst 1, 1) := by decide +kernel
theorem dX10_hold_30 : decode cX10_hold 30 = .ok (.if_icmp .lt 10, 3) := by decide +kernel
theorem dX10_hold_33 : decode cX10_hold 33 = .ok (.iload_n 2, 1) := by decide +kernel
theorem dX10_hold_34 : decode cX10_hold 34 = .ok (.sipush 255, 3) := by decide +kernel
theorem dX10_hold_37 : decode cX10_hold 37 = .ok (.if_icmp .le 5, 3) := by decide +kernel
theorem dX10_hold_40 : decode cX10_hold 40 = .ok (.iconst (-1), 1) := by decide +kernel
theorem dX10_hold_41 : decode cX10_hold 41 = .ok (.ireturn, 1) := by decide +kernel
theorem dX10_hold_42 : decode cX10_hold 42 = .ok (.aload_n 0, 1) := by decide +kernel
theorem dX10_hold_43 : decode cX10_hold 43 = .ok (.getfield 36, 3) := by decide +kernel
theorem dX10_hold_46 : decode cX10_hold 46 = .ok (.aload_n 0, 1) := by decide +kernel
theorem dX10_hold_47 : decode cX10_hold 47 = .ok (.getfield 339, 3) := by decide +kernel
theorem dX10_hold_50 : decode cX10_hold 50 = .ok (.iload_n 1, 1) := by decide +kernel
theorem dX10_hold_51 : decode cX10_hold 51 = .ok (.iastore, 1) := by decide +kernel
theorem dX10_hold_52 : decode cX10_hold 52 = .ok (.aload_n 0, 1) := by decide +kernel
theorem dX10_hold_53 : decode cX10_hold 53 = .ok (.getfield 39, 3) := by decide +kernel
theorem dX10_hold_56 : decode cX10_hold 56 = .ok (.aload_n 0, 1) := by decide +kernel
theorem dX10_hold_57 : decode cX10_hold 57 = .ok (.getfield 339, 3) := by decide +kernel
theorem dX10_hold_60 : decode cX10_hold 60 = .ok (.iload_n 2, 1) := by decide +kernel
theorem dX10_hold_61 : decode cX10_hold 61 = .ok (.iastore, 1) := by decide +kernel
theorem dX10_hold_62 : decode cX10_hold 62 = .ok (.aload_n 0, 1) := by decide +kernel
theorem dX10_hold_63 : decode cX10_hold 63 = .ok (.getfield 123, 3) := by decide +kernel
theorem dX10_hold_66 : decode cX10_hold 66 = .ok (.iload_n 1, 1) := by decide +kernel
theorem dX10_hold_67 : decode cX10_hold 67 = .ok (.dup2, 1) := by decide +kernel
theorem dX10_hold_68 : decode cX10_hold 68 = .ok (.iaload, 1) := by decide +kernel
theorem dX10_hold_69 : decode cX10_hold 69 = .ok (.iload_n 2, 1) := by decide +kernel
theorem dX10_hold_70 : decode cX10_hold 70 = .ok (.ior, 1) := by decide +kernel
theorem dX10_hold_71 : decode cX10_hold 71 = .ok (.iastore, 1) := by decide +kernel
theorem dX10_hold_72 : decode cX10_hold 72 = .ok (.aload_n 0, 1) := by decide +kernel
theorem dX10_hold_73 : decode cX10_hold 73 = .ok (.dup, 1) := by decide +kernel
theorem dX10_hold_74 : decode cX10_hold 74 = .ok (.getfield 339, 3) := by decide +kernel
theorem dX10_hold_77 : decode cX10_hold 77 = .ok (.iconst 1, 1) := by decide +kernel
theorem dX10_hold_78 : decode cX10_hold 78 = .ok (.iadd, 1) := by decide +kernel
theorem dX10_hold_79 : decode cX10_hold 79 = .ok (.putfield 339, 3) := by decide +kernel
theorem dX10_hold_82 : decode cX10_hold 82 = .ok (.aload_n 0, 1) := by decide +kernel
theorem dX10_hold_83 : decode cX10_hold 83 = .ok (.getfield 339, 3) := by decide +kernel
theorem dX10_hold_86 : decode cX10_hold 86 = .ok (.iconst 1, 1) := by decide +kernel
theorem dX10_hold_87 : decode cX10_hold 87 = .ok (.isub, 1) := by decide +kernel
theorem dX10_hold_88 : decode cX10_hold 88 = .ok (.ireturn, 1) := by decide +kernel
theorem dX10_lift_0 : decode cX10_lift 0 = .ok (.aload_n 0, 1) := by decide +kernel
theorem dX10_lift_1 : decode cX10_lift 1 = .ok (.iconst 0, 1) := by decide +kernel
theorem dX10_lift_2 : decode cX10_lift 2 = .ok (.putfield 126, 3) := by decide +kernel
theorem dX10_lift_5 : decode cX10_lift 5 = .ok (.iload_n 1, 1) := by decide +kernel
theorem dX10_lift_6 : decode cX10_lift 6 = .ok (.ifCond .lt 11, 3) := by decide +kernel
theorem dX10_lift_9 : decode cX10_lift 9 = .ok (.iload_n 1, 1) := by decide +kernel
theorem dX10_lift_10 : decode cX10_lift 10 = .ok (.aload_n 0, 1) := by decide +kernel
theorem dX10_lift_11 : decode cX10_lift 11 = .ok (.getfield 339, 3) := by decide +kernel
theorem dX10_lift_14 : decode cX10_lift 14 = .ok (.if_icmp .lt 11, 3) := by decide +kernel
theorem dX10_lift_17 : decode cX10_lift 17 = .ok (.aload_n 0, 1) := by decide +kernel
theorem dX10_lift_18 : decode cX10_lift 18 = .ok (.iconst 1, 1) := by decide +kernel
theorem dX10_lift_19 : decode cX10_lift 19 = .ok (.invokevirtual 152, 3) := by decide +kernel
theorem dX10_lift_22 : decode cX10_lift 22 = .ok (.pop, 1) := by decide +kernel
theorem dX10_lift_23 : decode cX10_lift 23 = .ok (.iconst 0, 1) := by decide +kernel
theorem dX10_lift_24 : decode cX10_lift 24 = .ok (.ireturn, 1) := by decide +kernel
theorem dX10_lift_25 : decode cX10_lift 25 = .ok (.aload_n 0, 1) := by decide +kernel
theorem dX10_lift_26 : decode cX10_lift 26 = .ok (.getfield 42, 3) := by decide +kernel
theorem dX10_lift_29 : decode cX10_lift 29 = .ok (.iload_n 1, 1) := by decide +kernel
theorem dX10_lift_30 : decode cX10_lift 30 = .ok (.baload, 1) := by decide +kernel
theorem dX10_lift_31 : decode cX10_lift 31 = .ok (.ifCond .eq 5, 3) := by decide +kernel
theorem dX10_lift_34 : decode cX10_lift 34 = .ok (.iconst 0, 1) := by decide +kernel
theorem dX10_lift_35 : decode cX10_lift 35 = .ok (.ireturn, 1) := by decide +kernel
theorem dX10_lift_36 : decode cX10_lift 36 = .ok (.aload_n 0, 1) := by decide +kernel
theorem dX10_lift_37 : decode cX10_lift 37 = .ok (.getfield 42, 3) := by decide +kernel
theorem dX10_lift_40 : decode cX10_lift 40 = .ok (.iload_n 1, 1) := by decide +kernel
theorem dX10_lift_41 : decode cX10_lift 41 = .ok (.iconst 1, 1) := by decide +kernel
theorem dX10_lift_42 : decode cX10_lift 42 = .ok (.bastore, 1) := by decide +kernel
theorem dX10_lift_43 : decode cX10_lift 43 = .ok (.aload_n 0, 1) := by decide +kernel
theorem dX10_lift_44 : decode cX10_lift 44 = .ok (.getfield 36, 3) := by decide +kernel
theorem dX10_lift_47 : decode cX10_lift 47 = .ok (.iload_n 1, 1) := by decide +kernel
theorem dX10_lift_48 : decode cX10_lift 48 = .ok (.iaload, 1) := by decide +kernel
theorem dX10_lift_49 : decode cX10_lift 49 = .ok (.istore_n 2, 1) := by decide +kernel
theorem dX10_lift_50 : decode cX10_lift 50 = .ok (.aload_n 0, 1) := by decide +kernel
theorem dX10_lift_51 : decode cX10_lift 51 = .ok (.getfield 123, 3) := by decide +kernel
theorem dX10_lift_54 : decode cX10_lift 54 = .ok (.iload_n 2, 1) := by decide +kernel
theorem dX10_lift_55 : decode cX10_lift 55 = .ok (.iconst 0, 1) := by decide +kernel
theorem dX10_lift_56 : decode cX10_lift 56 = .ok (.iastore, 1) := by decide +kernel
theorem dX10_lift_57 : decode cX10_lift 57 = .ok (.iconst 0, 1) := by decide +kernel
theorem dX10_lift_58 : decode cX10_lift 58 = .ok (.istore_n 3, 1) := by decide +kernel
theorem dX10_lift_59 : decode cX10_lift 59 = .ok (.iload_n 3, 1) := by decide +kernel
theorem dX10_lift_60 : decode cX10_lift 60 = .ok (.aload_n 0, 1) := by decide +kernel
theorem dX10_lift_61 : decode cX10_lift 61 = .ok (.getfield 339, 3) := by decide +kernel
theorem dX10_lift_64 : decode cX10_lift 64 = .ok (.if_icmp .ge 43, 3) := by decide +kernel
theorem dX10_lift_67 : decode cX10_lift 67 = .ok (.aload_n 0, 1) := by decide +kernel
theorem dX10_lift_68 : decode cX10_lift 68 = .ok (.getfield 42, 3) := by decide +kernel
theorem dX10_lift_71 : decode cX10_lift 71 = .ok (.iload_n 3, 1) := by decide +kernel
theorem dX10_lift_72 : decode cX10_lift 72 = .ok (.baload, 1) := by decide +kernel
theorem dX10_lift_73 : decode cX10_lift 73 = .ok (.ifCond .ne 28, 3) := by decide +kernel
theorem dX10_lift_76 : decode cX10_lift 76 = .ok (.aload_n 0, 1) := by decide +kernel
theorem dX10_lift_77 : decode cX10_lift 77 = .ok (.getfield 36, 3) := by decide +kernel
theorem dX10_lift_80 : decode cX10_lift 80 = .ok (.iload_n 3, 1) := by decide +kernel
theorem dX10_lift_81 : decode cX10_lift 81 = .ok (.iaload, 1) := by decide +kernel
theorem dX10_lift_82 : decode cX10_lift 82 = .ok (.iload_n 2, 1) := by decide +kernel
theorem dX10_lift_83 : decode cX10_lift 83 = .ok (.if_icmp .ne 18, 3) := by decide +kernel
theorem dX10_lift_86 : decode cX10_lift 86 = .ok (.aload_n 0, 1) := by decide +kernel
theorem dX10_lift_87 : decode cX10_lift 87 = .ok (.getfield 123, 3) := by decide +kernel
theorem dX10_lift_90 : decode cX10_lift 90 = .ok (.iload_n 2, 1) := by decide +kernel
theorem dX10_lift_91 : decode cX10_lift 91 = .ok (.dup2, 1) := by decide +kernel
theorem dX10_lift_92 : decode cX10_lift 92 = .ok (.iaload, 1) := by decide +kernel
theorem dX10_lift_93 : decode cX10_lift 93 = .ok (.aload_n 0, 1) := by decide +kernel
theorem dX10_lift_94 : decode cX10_lift 94 = .ok (.getfield 39, 3) := by decide +kernel
theorem dX10_lift_97 : decode cX10_lift 97 = .ok (.iload_n 3, 1) := by decide +kernel
theorem dX10_lift_98 : decode cX10_lift 98 = .ok (.iaload, 1) := by decide +kernel
theorem dX10_lift_99 : decode cX10_lift 99 = .ok (.ior, 1) := by decide +kernel
theorem dX10_lift_100 : decode cX10_lift 100 = .ok (.iastore, 1) := by decide +kernel
theorem dX10_lift_101 : decode cX10_lift 101 = .ok (.iinc 3 1, 3) := by decide +kernel
theorem dX10_lift_104 : decode cX10_lift 104 = .ok (.goto (-45), 3) := by decide +kernel
theorem dX10_lift_107 : decode cX10_lift 107 = .ok (.iconst 1, 1) := by decide +kernel
theorem dX10_lift_108 : decode cX10_lift 108 = .ok (.ireturn, 1) := by decide +kernel
theorem dX10_wish_0 : decode cX10_wish 0 = .ok (.aload_n 0, 1) := by decide +kernel
theorem dX10_wish_1 : decode cX10_wish 1 = .ok (.iconst 0, 1) := by decide +kernel
theorem dX10_wish_2 : decode cX10_wish 2 = .ok (.putfield 126, 3) := by decide +kernel
theorem dX10_wish_5 : decode cX10_wish 5 = .ok (.aload_n 0, 1) := by decide +kernel
theorem dX10_wish_6 : decode cX10_wish 6 = .ok (.iload_n 1, 1) := by decide +kernel
theorem dX10_wish_7 : decode cX10_wish 7 = .ok (.invokevirtual 281, 3) := by decide +kernel
theorem dX10_wish_10 : decode cX10_wish 10 = .ok (.ifCond .ne 9, 3) := by decide +kernel
theorem dX10_wish_13 : decode cX10_wish 13 = .ok (.aload_n 0, 1) := by decide +kernel
theorem dX10_wish_14 : decode cX10_wish 14 = .ok (.iconst 1, 1) := by decide +kernel
theorem dX10_wish_15 : decode cX10_wish 15 = .ok (.invokevirtual 152, 3) := by decide +kernel
theorem dX10_wish_18 : decode cX10_wish 18 = .ok (.ireturn, 1) := by decide +kernel
theorem dX10_wish_19 : decode cX10_wish 19 = .ok (.aload_n 0, 1) := by decide +kernel
theorem dX10_wish_20 : decode cX10_wish 20 = .ok (.getfield 26, 3) := by decide +kernel
theorem dX10_wish_23 : decode cX10_wish 23 = .ok (.iload_n 1, 1) := by decide +kernel
theorem dX10_wish_24 : decode cX10_wish 24 = .ok (.iconst 1, 1) := by decide +kernel
theorem dX10_wish_25 : decode cX10_wish 25 = .ok (.bastore, 1) := by decide +kernel
theorem dX10_wish_26 : decode cX10_wish 26 = .ok (.iconst 0, 1) := by decide +kernel
theorem dX10_wish_27 : decode cX10_wish 27 = .ok (.istore_n 2, 1) := by decide +kernel
theorem dX10_wish_28 : decode cX10_wish 28 = .ok (.iconst 0, 1) := by decide +kernel
theorem dX10_wish_29 : decode cX10_wish 29 = .ok (.istore_n 3, 1) := by decide +kernel
theorem dX10_wish_30 : decode cX10_wish 30 = .ok (.iload_n 3, 1) := by decide +kernel
theorem dX10_wish_31 : decode cX10_wish 31 = .ok (.bipush 8, 2) := by decide +kernel
theorem dX10_wish_33 : decode cX10_wish 33 = .ok (.if_icmp .ge 42, 3) := by decide +kernel
theorem dX10_wish_36 : decode cX10_wish 36 = .ok (.aload_n 0, 1) := by decide +kernel
theorem dX10_wish_37 : decode cX10_wish 37 = .ok (.getfield 23, 3) := by decide +kernel
theorem dX10_wish_40 : decode cX10_wish 40 = .ok (.bipush 8, 2) := by decide +kernel
theorem dX10_wish_42 : decode cX10_wish 42 = .ok (.iload_n 1, 1) := by decide +kernel
theorem dX10_wish_43 : decode cX10_wish 43 = .ok (.imul, 1) := by decide +kernel
theorem dX10_wish_44 : decode cX10_wish 44 = .ok (.iload_n 3, 1) := by decide +kernel
theorem dX10_wish_45 : decode cX10_wish 45 = .ok (.iadd, 1) := by decide +kernel
theorem dX10_wish_46 : decode cX10_wish 46 = .ok (.iaload, 1) := by decide +kernel
theorem dX10_wish_47 : decode cX10_wish 47 = .ok (.ifCond .eq 22, 3) := by decide +kernel
theorem dX10_wish_50 : decode cX10_wish 50 = .ok (.aload_n 0, 1) := by decide +kernel
theorem dX10_wish_51 : decode cX10_wish 51 = .ok (.iload_n 1, 1) := by decide +kernel
theorem dX10_wish_52 : decode cX10_wish 52 = .ok (.iload_n 3, 1) := by decide +kernel
theorem dX10_wish_53 : decode cX10_wish 53 = .ok (.aload_n 0, 1) := by decide +kernel
theorem dX10_wish_54 : decode cX10_wish 54 = .ok (.getfield 313, 3) := by decide +kernel
theorem dX10_wish_57 : decode cX10_wish 57 = .ok (.invokevirtual 342, 3) := by decide +kernel
theorem dX10_wish_60 : decode cX10_wish 60 = .ok (.ifCond .eq 9, 3) := by decide +kernel
theorem dX10_wish_63 : decode cX10_wish 63 = .ok (.iload_n 2, 1) := by decide +kernel
theorem dX10_wish_64 : decode cX10_wish 64 = .ok (.iconst 1, 1) := by decide +kernel
theorem dX10_wish_65 : decode cX10_wish 65 = .ok (.iload_n 3, 1) := by decide +kernel
theorem dX10_wish_66 : decode cX10_wish 66 = .ok (.ishl, 1) := by decide +kernel
theorem dX10_wish_67 : decode cX10_wish 67 = .ok (.ior, 1) := by decide +kernel
theorem dX10_wish_68 : decode cX10_wish 68 = .ok (.istore_n 2, 1) := by decide +kernel
theorem dX10_wish_69 : decode cX10_wish 69 = .ok (.iinc 3 1, 3) := by decide +kernel
theorem dX10_wish_72 : decode cX10_wish 72 = .ok (.goto (-42), 3) := by decide +kernel
theorem dX10_wish_75 : decode cX10_wish 75 = .ok (.iload_n 2, 1) := by decide +kernel
theorem dX10_wish_76 : decode cX10_wish 76 = .ok (.ireturn, 1) := by decide +kernel
theorem dX10_isSet_0 : decode cX10_isSet 0 = .ok (.iload_n 1, 1) := by decide +kernel
theorem dX10_isSet_1 : decode cX10_isSet 1 = .ok (.ifCond .lt 15, 3) := by decide +kernel
theorem dX10_isSet_4 : decode cX10_isSet 4 = .ok (.iload_n 1, 1) := by decide +kernel
theorem dX10_isSet_5 : decode cX10_isSet 5 = .ok (.aload_n 0, 1) := by decide +kernel
theorem dX10_isSet_6 : decode cX10_isSet 6 = .ok (.getfield 270, 3) := by decide +kernel
theorem dX10_isSet_9 : decode cX10_isSet 9 = .ok (.if_icmp .ge 7, 3) := by decide +kernel
theorem dX10_isSet_12 : decode cX10_isSet 12 = .ok (.iconst 1, 1) := by decide +kernel
theorem dX10_isSet_13 : decode cX10_isSet 13 = .ok (.goto 4, 3) := by decide +kernel
theorem dX10_isSet_16 : decode cX10_isSet 16 = .ok (.iconst 0, 1) := by decide +kernel
theorem dX10_isSet_17 : decode cX10_isSet 17 = .ok (.ireturn, 1) := by decide +kernel
theorem dX10_span_0 : decode cX10_span 0 = .ok (.aload_n 0, 1) := by decide +kernel
theorem dX10_span_1 : decode cX10_span 1 = .ok (.iconst 0, 1) := by decide +kernel
theorem dX10_span_2 : decode cX10_span 2 = .ok (.putfield 126, 3) := by decide +kernel
theorem dX10_span_5 : decode cX10_span 5 = .ok (.aload_n 0, 1) := by decide +kernel
theorem dX10_span_6 : decode cX10_span 6 = .ok (.iload_n 1, 1) := by decide +kernel
theorem dX10_span_7 : decode cX10_span 7 = .ok (.invokevirtual 281, 3) := by decide +kernel
theorem dX10_span_10 : decode cX10_span 10 = .ok (.ifCond .eq 34, 3) := by decide +kernel
theorem dX10_span_13 : decode cX10_span 13 = .ok (.iload_n 2, 1) := by decide +kernel
theorem dX10_span_14 : decode cX10_span 14 = .ok (.invokestatic 330, 3) := by decide +kernel
theorem dX10_span_17 : decode cX10_span 17 = .ok (.ifCond .eq 27, 3) := by decide +kernel
theorem dX10_span_20 : decode cX10_span 20 = .ok (.iload_n 3, 1) := by decide +kernel
theorem dX10_span_21 : decode cX10_span 21 = .ok (.iconst (-1), 1) := by decide +kernel
theorem dX10_span_22 : decode cX10_span 22 = .ok (.if_icmp .eq 11, 3) := by decide +kernel
theorem dX10_span_25 : decode cX10_span 25 = .ok (.aload_n 0, 1) := by decide +kernel
theorem dX10_span_26 : decode cX10_span 26 = .ok (.iload_n 3, 1) := by decide +kernel
theorem dX10_span_27 : decode cX10_span 27 = .ok (.invokevirtual 345, 3) := by decide +kernel
theorem dX10_span_30 : decode cX10_span 30 = .ok (.ifCond .eq 14, 3) := by decide +kernel
theorem dX10_span_33 : decode cX10_span 33 = .ok (.iload 4, 2) := by decide +kernel
theorem dX10_span_35 : decode cX10_span 35 = .ok (.ifCond .lt 9, 3) := by decide +kernel
theorem dX10_span_38 : decode cX10_span 38 = .ok (.iload 4, 2) := by decide +kernel
theorem dX10_span_40 : decode cX10_span 40 = .ok (.iconst 4, 1) := by decide +kernel
theorem dX10_span_41 : decode cX10_span 41 = .ok (.if_icmp .le 9, 3) := by decide +kernel
theorem dX10_span_44 : decode cX10_span 44 = .ok (.aload_n 0, 1) := by decide +kernel
theorem dX10_span_45 : decode cX10_span 45 = .ok (.iconst 1, 1) := by decide +kernel
theorem dX10_span_46 : decode cX10_span 46 = .ok (.invokevirtual 152, 3) := by decide +kernel
theorem dX10_span_49 : decode cX10_span 49 = .ok (.ireturn, 1) := by decide +kernel
theorem dX10_span_50 : decode cX10_span 50 = .ok (.aload_n 0, 1) := by decide +kernel
theorem dX10_span_51 : decode cX10_span 51 = .ok (.iload_n 1, 1) := by decide +kernel
theorem dX10_span_52 : decode cX10_span 52 = .ok (.iload_n 2, 1) := by decide +kernel
theorem dX10_span_53 : decode cX10_span 53 = .ok (.iload_n 3, 1) := by decide +kernel
theorem dX10_span_54 : decode cX10_span 54 = .ok (.iconst (-1), 1) := by decide +kernel
theorem dX10_span_55 : decode cX10_span 55 = .ok (.if_icmp .ne 14, 3) := by decide +kernel
theorem dX10_span_58 : decode cX10_span 58 = .ok (.aload_n 0, 1) := by decide +kernel
theorem dX10_span_59 : decode cX10_span 59 = .ok (.aload_n 0, 1) := by decide +kernel
theorem dX10_span_60 : decode cX10_span 60 = .ok (.getfield 313, 3) := by decide +kernel
theorem dX10_span_63 : decode cX10_span 63 = .ok (.invokevirtual 316, 3) := by decide +kernel
theorem dX10_span_66 : decode cX10_span 66 = .ok (.goto 4, 3) := by decide +kernel
theorem dX10_span_69 : decode cX10_span 69 = .ok (.iload_n 3, 1) := by decide +kernel
theorem dX10_span_70 : decode cX10_span 70 = .ok (.invokevirtual 319, 3) := by decide +kernel
theorem dX10_span_73 : decode cX10_span 73 = .ok (.iload 4, 2) := by decide +kernel
theorem dX10_span_75 : decode cX10_span 75 = .ok (.ifCond .ne 10, 3) := by decide +kernel
theorem dX10_span_78 : decode cX10_span 78 = .ok (.aload_n 0, 1) := by decide +kernel
theorem dX10_span_79 : decode cX10_span 79 = .ok (.getfield 284, 3) := by decide +kernel
theorem dX10_span_82 : decode cX10_span 82 = .ok (.goto 46, 3) := by decide +kernel
theorem dX10_span_85 : decode cX10_span 85 = .ok (.iload 4, 2) := by decide +kernel
theorem dX10_span_87 : decode cX10_span 87 = .ok (.iconst 1, 1) := by decide +kernel
theorem dX10_span_88 : decode cX10_span 88 = .ok (.if_icmp .ne 10, 3) := by decide +kernel
theorem dX10_span_91 : decode cX10_span 91 = .ok (.aload_n 0, 1) := by decide +kernel
theorem dX10_span_92 : decode cX10_span 92 = .ok (.getfield 287, 3) := by decide +kernel
theorem dX10_span_95 : decode cX10_span 95 = .ok (.goto 33, 3) := by decide +kernel
theorem dX10_span_98 : decode cX10_span 98 = .ok (.iload 4, 2) := by decide +kernel
theorem dX10_span_100 : decode cX10_span 100 = .ok (.iconst 2, 1) := by decide +kernel
theorem dX10_span_101 : decode cX10_span 101 = .ok (.if_icmp .ne 10, 3) := by decide +kernel
theorem dX10_span_104 : decode cX10_span 104 = .ok (.aload_n 0, 1) := by decide +kernel
theorem dX10_span_105 : decode cX10_span 105 = .ok (.getfield 299, 3) := by decide +kernel
theorem dX10_span_108 : decode cX10_span 108 = .ok (.goto 20, 3) := by decide +kernel
theorem dX10_span_111 : decode cX10_span 111 = .ok (.iload 4, 2) := by decide +kernel
theorem dX10_span_113 : decode cX10_span 113 = .ok (.iconst 3, 1) := by decide +kernel
theorem dX10_span_114 : decode cX10_span 114 = .ok (.if_icmp .ne 10, 3) := by decide +kernel
theorem dX10_span_117 : decode cX10_span 117 = .ok (.aload_n 0, 1) := by decide +kernel
theorem dX10_span_118 : decode cX10_span 118 = .ok (.getfield 302, 3) := by decide +kernel
theorem dX10_span_121 : decode cX10_span 121 = .ok (.goto 7, 3) := by decide +kernel
theorem dX10_span_124 : decode cX10_span 124 = .ok (.aload_n 0, 1) := by decide +kernel
theorem dX10_span_125 : decode cX10_span 125 = .ok (.getfield 296, 3) := by decide +kernel
theorem dX10_span_128 : decode cX10_span 128 = .ok (.ireturn, 1) := by decide +kernel
theorem dX10_lost_0 : decode cX10_lost 0 = .ok (.aload_n 0, 1) := by decide +kernel
theorem dX10_lost_1 : decode cX10_lost 1 = .ok (.iconst 0, 1) := by decide +kernel
theorem dX10_lost_2 : decode cX10_lost 2 = .ok (.putfield 126, 3) := by decide +kernel
theorem dX10_lost_5 : decode cX10_lost 5 = .ok (.aload_n 0, 1) := by decide +kernel
theorem dX10_lost_6 : decode cX10_lost 6 = .ok (.iload_n 1, 1) := by decide +kernel
theorem dX10_lost_7 : decode cX10_lost 7 = .ok (.invokevirtual 281, 3) := by decide +kernel
theorem dX10_lost_10 : decode cX10_lost 10 = .ok (.ifCond .eq 23, 3) := by decide +kernel
theorem dX10_lost_13 : decode cX10_lost 13 = .ok (.iload_n 2, 1) := by decide +kernel
theorem dX10_lost_14 : decode cX10_lost 14 = .ok (.invokestatic 330, 3) := by decide +kernel
theorem dX10_lost_17 : decode cX10_lost 17 = .ok (.ifCond .eq 16, 3) := by decide +kernel
theorem dX10_lost_20 : decode cX10_lost 20 = .ok (.iload_n 3, 1) := by decide +kernel
theorem dX10_lost_21 : decode cX10_lost 21 = .ok (.iconst (-1), 1) := by decide +kernel
theorem dX10_lost_22 : decode cX10_lost 22 = .ok (.if_icmp .eq 17, 3) := by decide +kernel
theorem dX10_lost_25 : decode cX10_lost 25 = .ok (.aload_n 0, 1) := by decide +kernel
theorem dX10_lost_26 : decode cX10_lost 26 = .ok (.iload_n 3, 1) := by decide +kernel
theorem dX10_lost_27 : decode cX10_lost 27 = .ok (.invokevirtual 345, 3) := by decide +kernel
theorem dX10_lost_30 : decode cX10_lost 30 = .ok (.ifCond .ne 9, 3) := by decide +kernel
theorem dX10_lost_33 : decode cX10_lost 33 = .ok (.aload_n 0, 1) := by decide +kernel
theorem dX10_lost_34 : decode cX10_lost 34 = .ok (.iconst 1, 1) := by decide +kernel
theorem dX10_lost_35 : decode cX10_lost 35 = .ok (.invokevirtual 152, 3) := by decide +kernel
theorem dX10_lost_38 : decode cX10_lost 38 = .ok (.ireturn, 1) := by decide +kernel
theorem dX10_lost_39 : decode cX10_lost 39 = .ok (.aload_n 0, 1) := by decide +kernel
theorem dX10_lost_40 : decode cX10_lost 40 = .ok (.iload_n 1, 1) := by decide +kernel
theorem dX10_lost_41 : decode cX10_lost 41 = .ok (.iload_n 2, 1) := by decide +kernel
theorem dX10_lost_42 : decode cX10_lost 42 = .ok (.iload_n 3, 1) := by decide +kernel
theorem dX10_lost_43 : decode cX10_lost 43 = .ok (.iconst (-1), 1) := by decide +kernel
theorem dX10_lost_44 : decode cX10_lost 44 = .ok (.if_icmp .ne 14, 3) := by decide +kernel
theorem dX10_lost_47 : decode cX10_lost 47 = .ok (.aload_n 0, 1) := by decide +kernel
theorem dX10_lost_48 : decode cX10_lost 48 = .ok (.aload_n 0, 1) := by decide +kernel
theorem dX10_lost_49 : decode cX10_lost 49 = .ok (.getfield 313, 3) := by decide +kernel
theorem dX10_lost_52 : decode cX10_lost 52 = .ok (.invokevirtual 316, 3) := by decide +kernel
theorem dX10_lost_55 : decode cX10_lost 55 = .ok (.goto 4, 3) := by decide +kernel
theorem dX10_lost_58 : decode cX10_lost 58 = .ok (.iload_n 3, 1) := by decide +kernel
theorem dX10_lost_59 : decode cX10_lost 59 = .ok (.invokevirtual 319, 3) := by decide +kernel
theorem dX10_lost_62 : decode cX10_lost 62 = .ok (.iload 4, 2) := by decide +kernel
theorem dX10_lost_64 : decode cX10_lost 64 = .ok (.ifCond .lt 12, 3) := by decide +kernel
theorem dX10_lost_67 : decode cX10_lost 67 = .ok (.iload 4, 2) := by decide +kernel
theorem dX10_lost_69 : decode cX10_lost 69 = .ok (.aload_n 0, 1) := by decide +kernel
theorem dX10_lost_70 : decode cX10_lost 70 = .ok (.getfield 296, 3) := by decide +kernel
theorem dX10_lost_73 : decode cX10_lost 73 = .ok (.if_icmp .lt 11, 3) := by decide +kernel
theorem dX10_lost_76 : decode cX10_lost 76 = .ok (.aload_n 0, 1) := by decide +kernel
theorem dX10_lost_77 : decode cX10_lost 77 = .ok (.iconst 1, 1) := by decide +kernel
theorem dX10_lost_78 : decode cX10_lost 78 = .ok (.invokevirtual 152, 3) := by decide +kernel
theorem dX10_lost_81 : decode cX10_lost 81 = .ok (.goto 10, 3) := by decide +kernel
theorem dX10_lost_84 : decode cX10_lost 84 = .ok (.aload_n 0, 1) := by decide +kernel
theorem dX10_lost_85 : decode cX10_lost 85 = .ok (.getfield 105, 3) := by decide +kernel
theorem dX10_lost_88 : decode cX10_lost 88 = .ok (.iload 4, 2) := by decide +kernel
theorem dX10_lost_90 : decode cX10_lost 90 = .ok (.iaload, 1) := by decide +kernel
theorem dX10_lost_91 : decode cX10_lost 91 = .ok (.ireturn, 1) := by decide +kernel
theorem dX10_why_0 : decode cX10_why 0 = .ok (.aload_n 0, 1) := by decide +kernel
theorem dX10_why_1 : decode cX10_why 1 = .ok (.iconst 0, 1) := by decide +kernel
theorem dX10_why_2 : decode cX10_why 2 = .ok (.putfield 126, 3) := by decide +kernel
theorem dX10_why_5 : decode cX10_why 5 = .ok (.aload_n 0, 1) := by decide +kernel
theorem dX10_why_6 : decode cX10_why 6 = .ok (.iload_n 1, 1) := by decide +kernel
theorem dX10_why_7 : decode cX10_why 7 = .ok (.invokevirtual 281, 3) := by decide +kernel
theorem dX10_why_10 : decode cX10_why 10 = .ok (.ifCond .eq 10, 3) := by decide +kernel
theorem dX10_why_13 : decode cX10_why 13 = .ok (.iload_n 2, 1) := by decide +kernel
theorem dX10_why_14 : decode cX10_why 14 = .ok (.invokestatic 330, 3) := by decide +kernel
theorem dX10_why_17 : decode cX10_why 17 = .ok (.ifCond .ne 9, 3) := by decide +kernel
theorem dX10_why_20 : decode cX10_why 20 = .ok (.aload_n 0, 1) := by decide +kernel
theorem dX10_why_21 : decode cX10_why 21 = .ok (.iconst 1, 1) := by decide +kernel
theorem dX10_why_22 : decode cX10_why 22 = .ok (.invokevirtual 152, 3) := by decide +kernel
theorem dX10_why_25 : decode cX10_why 25 = .ok (.ireturn, 1) := by decide +kernel
theorem dX10_why_26 : decode cX10_why 26 = .ok (.aload_n 0, 1) := by decide +kernel
theorem dX10_why_27 : decode cX10_why 27 = .ok (.iload_n 1, 1) := by decide +kernel
theorem dX10_why_28 : decode cX10_why 28 = .ok (.iload_n 2, 1) := by decide +kernel
theorem dX10_why_29 : decode cX10_why 29 = .ok (.aload_n 0, 1) := by decide +kernel
theorem dX10_why_30 : decode cX10_why 30 = .ok (.getfield 313, 3) := by decide +kernel
theorem dX10_why_33 : decode cX10_why 33 = .ok (.invokevirtual 342, 3) := by decide +kernel
theorem dX10_why_36 : decode cX10_why 36 = .ok (.ifCond .eq 5, 3) := by decide +kernel
theorem dX10_why_39 : decode cX10_why 39 = .ok (.iconst 0, 1) := by decide +kernel
theorem dX10_why_40 : decode cX10_why 40 = .ok (.ireturn, 1) := by decide +kernel
theorem dX10_why_41 : decode cX10_why 41 = .ok (.aload_n 0, 1) := by decide +kernel
theorem dX10_why_42 : decode cX10_why 42 = .ok (.iload_n 1, 1) := by decide +kernel
theorem dX10_why_43 : decode cX10_why 43 = .ok (.iload_n 2, 1) := by decide +kernel
theorem dX10_why_44 : decode cX10_why 44 = .ok (.invokevirtual 326, 3) := by decide +kernel
theorem dX10_why_47 : decode cX10_why 47 = .ok (.ifCond .eq 7, 3) := by decide +kernel
theorem dX10_why_50 : decode cX10_why 50 = .ok (.iconst 1, 1) := by decide +kernel
theorem dX10_why_51 : decode cX10_why 51 = .ok (.goto 19, 3) := by decide +kernel
theorem dX10_why_54 : decode cX10_why 54 = .ok (.aload_n 0, 1) := by decide +kernel
theorem dX10_why_55 : decode cX10_why 55 = .ok (.getfield 284, 3) := by decide +kernel
theorem dX10_why_58 : decode cX10_why 58 = .ok (.aload_n 0, 1) := by decide +kernel
theorem dX10_why_59 : decode cX10_why 59 = .ok (.getfield 313, 3) := by decide +kernel
theorem dX10_why_62 : decode cX10_why 62 = .ok (.if_icmp .le 7, 3) := by decide +kernel
theorem dX10_why_65 : decode cX10_why 65 = .ok (.iconst 2, 1) := by decide +kernel
theorem dX10_why_66 : decode cX10_why 66 = .ok (.goto 4, 3) := by decide +kernel
theorem dX10_why_69 : decode cX10_why 69 = .ok (.iconst 3, 1) := by decide +kernel
theorem dX10_why_70 : decode cX10_why 70 = .ok (.ireturn, 1) := by decide +kernel
theorem dX10_places_0 : decode cX10_places 0 = .ok (.aload_n 0, 1) := by decide +kernel
theorem dX10_places_1 : decode cX10_places 1 = .ok (.iconst 0, 1) := by decide +kernel
theorem dX10_places_2 : decode cX10_places 2 = .ok (.putfield 126, 3) := by decide +kernel
theorem dX10_places_5 : decode cX10_places 5 = .ok (.aload_n 0, 1) := by decide +kernel
theorem dX10_places_6 : decode cX10_places 6 = .ok (.iload_n 1, 1) := by decide +kernel
theorem dX10_places_7 : decode cX10_places 7 = .ok (.invokevirtual 281, 3) := by decide +kernel
theorem dX10_places_10 : decode cX10_places 10 = .ok (.ifCond .eq 19, 3) := by decide +kernel
theorem dX10_places_13 : decode cX10_places 13 = .ok (.iload_n 2, 1) := by decide +kernel
theorem dX10_places_14 : decode cX10_places 14 = .ok (.invokestatic 330, 3) := by decide +kernel
theorem dX10_places_17 : decode cX10_places 17 = .ok (.ifCond .eq 12, 3) := by decide +kernel
theorem dX10_places_20 : decode cX10_places 20 = .ok (.aload_n 0, 1) := by decide +kernel
theorem dX10_places_21 : decode cX10_places 21 = .ok (.iload_n 1, 1) := by decide +kernel
theorem dX10_places_22 : decode cX10_places 22 = .ok (.iload_n 2, 1) := by decide +kernel
theorem dX10_places_23 : decode cX10_places 23 = .ok (.invokevirtual 336, 3) := by decide +kernel
theorem dX10_places_26 : decode cX10_places 26 = .ok (.goto 8, 3) := by decide +kernel
theorem dX10_places_29 : decode cX10_places 29 = .ok (.aload_n 0, 1) := by decide +kernel
theorem dX10_places_30 : decode cX10_places 30 = .ok (.iconst 1, 1) := by decide +kernel
theorem dX10_places_31 : decode cX10_places 31 = .ok (.invokevirtual 152, 3) := by decide +kernel
theorem dX10_places_34 : decode cX10_places 34 = .ok (.ireturn, 1) := by decide +kernel
theorem dX10_ones_0 : decode cX10_ones 0 = .ok (.iconst 0, 1) := by decide +kernel
theorem dX10_ones_1 : decode cX10_ones 1 = .ok (.istore_n 1, 1) := by decide +kernel
theorem dX10_ones_2 : decode cX10_ones 2 = .ok (.iload_n 0, 1) := by decide +kernel
theorem dX10_ones_3 : decode cX10_ones 3 = .ok (.istore_n 2, 1) := by decide +kernel
theorem dX10_ones_4 : decode cX10_ones 4 = .ok (.iload_n 2, 1) := by decide +kernel
theorem dX10_ones_5 : decode cX10_ones 5 = .ok (.ifCond .eq 15, 3) := by decide +kernel
theorem dX10_ones_8 : decode cX10_ones 8 = .ok (.iinc 1 1, 3) := by decide +kernel
theorem dX10_ones_11 : decode cX10_ones 11 = .ok (.iload_n 2, 1) := by decide +kernel
theorem dX10_ones_12 : decode cX10_ones 12 = .ok (.iload_n 2, 1) := by decide +kernel
theorem dX10_ones_13 : decode cX10_ones 13 = .ok (.iconst 1, 1) := by decide +kernel
theorem dX10_ones_14 : decode cX10_ones 14 = .ok (.isub, 1) := by decide +kernel
theorem dX10_ones_15 : decode cX10_ones 15 = .ok (.iand, 1) := by decide +kernel
theorem dX10_ones_16 : decode cX10_ones 16 = .ok (.istore_n 2, 1) := by decide +kernel
theorem dX10_ones_17 : decode cX10_ones 17 = .ok (.goto (-13), 3) := by decide +kernel
theorem dX10_ones_20 : decode cX10_ones 20 = .ok (.iload_n 1, 1) := by decide +kernel
theorem dX10_ones_21 : decode cX10_ones 21 = .ok (.ireturn, 1) := by decide +kernel
theorem dX10_misplaced_0 : decode cX10_misplaced 0 = .ok (.aload_n 0, 1) := by decide +kernel
theorem dX10_misplaced_1 : decode cX10_misplaced 1 = .ok (.iconst 0, 1) := by decide +kernel
theorem dX10_misplaced_2 : decode cX10_misplaced 2 = .ok (.putfield 126, 3) := by decide +kernel
theorem dX10_misplaced_5 : decode cX10_misplaced 5 = .ok (.iconst 0, 1) := by decide +kernel
theorem dX10_misplaced_6 : decode cX10_misplaced 6 = .ok (.istore_n 1, 1) := by decide +kernel
theorem dX10_misplaced_7 : decode cX10_misplaced 7 = .ok (.iconst 0, 1) := by decide +kernel
theorem dX10_misplaced_8 : decode cX10_misplaced 8 = .ok (.istore_n 2, 1) := by decide +kernel
theorem dX10_misplaced_9 : decode cX10_misplaced 9 = .ok (.iload_n 2, 1) := by decide +kernel
theorem dX10_misplaced_10 : decode cX10_misplaced 10 = .ok (.aload_n 0, 1) := by decide +kernel
theorem dX10_misplaced_11 : decode cX10_misplaced 11 = .ok (.getfield 278, 3) := by decide +kernel
theorem dX10_misplaced_14 : decode cX10_misplaced 14 = .ok (.if_icmp .ge 49, 3) := by decide +kernel
theorem dX10_misplaced_17 : decode cX10_misplaced 17 = .ok (.iconst 0, 1) := by decide +kernel
theorem dX10_misplaced_18 : decode cX10_misplaced 18 = .ok (.istore_n 3, 1) := by decide +kernel
theorem dX10_misplaced_19 : decode cX10_misplaced 19 = .ok (.iload_n 3, 1) := by decide +kernel
theorem dX10_misplaced_20 : decode cX10_misplaced 20 = .ok (.bipush 8, 2) := by decide +kernel
theorem dX10_misplaced_22 : decode cX10_misplaced 22 = .ok (.if_icmp .ge 35, 3) := by decide +kernel
theorem dX10_misplaced_25 : decode cX10_misplaced 25 = .ok (.iload_n 1, 1) := by decide +kernel
theorem dX10_misplaced_26 : decode cX10_misplaced 26 = .ok (.aload_n 0, 1) := by decide +kernel
theorem dX10_misplaced_27 : decode cX10_misplaced 27 = .ok (.getfield 23, 3) := by decide +kernel
theorem dX10_misplaced_30 : decode cX10_misplaced 30 = .ok (.bipush 8, 2) := by decide +kernel
theorem dX10_misplaced_32 : decode cX10_misplaced 32 = .ok (.iload_n 2, 1) := by decide +kernel
theorem dX10_misplaced_33 : decode cX10_misplaced 33 = .ok (.imul, 1) := by decide +kernel
theorem dX10_misplaced_34 : decode cX10_misplaced 34 = .ok (.iload_n 3, 1) := by decide +kernel
theorem dX10_misplaced_35 : decode cX10_misplaced 35 = .ok (.iadd, 1) := by decide +kernel
theorem dX10_misplaced_36 : decode cX10_misplaced 36 = .ok (.iaload, 1) := by decide +kernel
theorem dX10_misplaced_37 : decode cX10_misplaced 37 = .ok (.aload_n 0, 1) := by decide +kernel
theorem dX10_misplaced_38 : decode cX10_misplaced 38 = .ok (.iload_n 2, 1) := by decide +kernel
theorem dX10_misplaced_39 : decode cX10_misplaced 39 = .ok (.iload_n 3, 1) := by decide +kernel
theorem dX10_misplaced_40 : decode cX10_misplaced 40 = .ok (.invokevirtual 336, 3) := by decide +kernel
theorem dX10_misplaced_43 : decode cX10_misplaced 43 = .ok (.iconst (-1), 1) := by decide +kernel
theorem dX10_misplaced_44 : decode cX10_misplaced 44 = .ok (.ixor, 1) := by decide +kernel
theorem dX10_misplaced_45 : decode cX10_misplaced 45 = .ok (.iand, 1) := by decide +kernel
theorem dX10_misplaced_46 : decode cX10_misplaced 46 = .ok (.invokestatic 348, 3) := by decide +kernel
theorem dX10_misplaced_49 : decode cX10_misplaced 49 = .ok (.iadd, 1) := by decide +kernel
theorem dX10_misplaced_50 : decode cX10_misplaced 50 = .ok (.istore_n 1, 1) := by decide +kernel
theorem dX10_misplaced_51 : decode cX10_misplaced 51 = .ok (.iinc 3 1, 3) := by decide +kernel
theorem dX10_misplaced_54 : decode cX10_misplaced 54 = .ok (.goto (-35), 3) := by decide +kernel
theorem dX10_misplaced_57 : decode cX10_misplaced 57 = .ok (.iinc 2 1, 3) := by decide +kernel
theorem dX10_misplaced_60 : decode cX10_misplaced 60 = .ok (.goto (-51), 3) := by decide +kernel
theorem dX10_misplaced_63 : decode cX10_misplaced 63 = .ok (.iload_n 1, 1) := by decide +kernel
theorem dX10_misplaced_64 : decode cX10_misplaced 64 = .ok (.ireturn, 1) := by decide +kernel
theorem dX10_planned_0 : decode cX10_planned 0 = .ok (.aload_n 0, 1) := by decide +kernel
theorem dX10_planned_1 : decode cX10_planned 1 = .ok (.iconst 0, 1) := by decide +kernel
theorem dX10_planned_2 : decode cX10_planned 2 = .ok (.putfield 126, 3) := by decide +kernel
theorem dX10_planned_5 : decode cX10_planned 5 = .ok (.aload_n 0, 1) := by decide +kernel
theorem dX10_planned_6 : decode cX10_planned 6 = .ok (.iload_n 1, 1) := by decide +kernel
theorem dX10_planned_7 : decode cX10_planned 7 = .ok (.invokevirtual 281, 3) := by decide +kernel
theorem dX10_planned_10 : decode cX10_planned 10 = .ok (.ifCond .eq 17, 3) := by decide +kernel
theorem dX10_planned_13 : decode cX10_planned 13 = .ok (.iload_n 2, 1) := by decide +kernel
theorem dX10_planned_14 : decode cX10_planned 14 = .ok (.invokestatic 330, 3) := by decide +kernel
theorem dX10_planned_17 : decode cX10_planned 17 = .ok (.ifCond .eq 10, 3) := by decide +kernel
theorem dX10_planned_20 : decode cX10_planned 20 = .ok (.iload_n 3, 1) := by decide +kernel
theorem dX10_planned_21 : decode cX10_planned 21 = .ok (.invokestatic 333, 3) := by decide +kernel
theorem dX10_planned_24 : decode cX10_planned 24 = .ok (.ifCond .ne 9, 3) := by decide +kernel
theorem dX10_planned_27 : decode cX10_planned 27 = .ok (.aload_n 0, 1) := by decide +kernel
theorem dX10_planned_28 : decode cX10_planned 28 = .ok (.iconst 1, 1) := by decide +kernel
theorem dX10_planned_29 : decode cX10_planned 29 = .ok (.invokevirtual 152, 3) := by decide +kernel
theorem dX10_planned_32 : decode cX10_planned 32 = .ok (.ireturn, 1) := by decide +kernel
theorem dX10_planned_33 : decode cX10_planned 33 = .ok (.aload_n 0, 1) := by decide +kernel
theorem dX10_planned_34 : decode cX10_planned 34 = .ok (.getfield 23, 3) := by decide +kernel
theorem dX10_planned_37 : decode cX10_planned 37 = .ok (.bipush 8, 2) := by decide +kernel
theorem dX10_planned_39 : decode cX10_planned 39 = .ok (.iload_n 1, 1) := by decide +kernel
theorem dX10_planned_40 : decode cX10_planned 40 = .ok (.imul, 1) := by decide +kernel
theorem dX10_planned_41 : decode cX10_planned 41 = .ok (.iload_n 2, 1) := by decide +kernel
theorem dX10_planned_42 : decode cX10_planned 42 = .ok (.iadd, 1) := by decide +kernel
theorem dX10_planned_43 : decode cX10_planned 43 = .ok (.iaload, 1) := by decide +kernel
theorem dX10_planned_44 : decode cX10_planned 44 = .ok (.iload_n 3, 1) := by decide +kernel
theorem dX10_planned_45 : decode cX10_planned 45 = .ok (.ishr, 1) := by decide +kernel
theorem dX10_planned_46 : decode cX10_planned 46 = .ok (.iconst 1, 1) := by decide +kernel
theorem dX10_planned_47 : decode cX10_planned 47 = .ok (.iand, 1) := by decide +kernel
theorem dX10_planned_48 : decode cX10_planned 48 = .ok (.ifCond .ne 5, 3) := by decide +kernel
theorem dX10_planned_51 : decode cX10_planned 51 = .ok (.iconst (-1), 1) := by decide +kernel
theorem dX10_planned_52 : decode cX10_planned 52 = .ok (.ireturn, 1) := by decide +kernel
theorem dX10_planned_53 : decode cX10_planned 53 = .ok (.aload_n 0, 1) := by decide +kernel
theorem dX10_planned_54 : decode cX10_planned 54 = .ok (.iload_n 1, 1) := by decide +kernel
theorem dX10_planned_55 : decode cX10_planned 55 = .ok (.iload_n 2, 1) := by decide +kernel
theorem dX10_planned_56 : decode cX10_planned 56 = .ok (.ldc 161, 2) := by decide +kernel
theorem dX10_planned_58 : decode cX10_planned 58 = .ok (.invokevirtual 342, 3) := by decide +kernel
theorem dX10_planned_61 : decode cX10_planned 61 = .ok (.ifCond .ne 6, 3) := by decide +kernel
theorem dX10_planned_64 : decode cX10_planned 64 = .ok (.ldc 161, 2) := by decide +kernel
theorem dX10_planned_66 : decode cX10_planned 66 = .ok (.ireturn, 1) := by decide +kernel
theorem dX10_planned_67 : decode cX10_planned 67 = .ok (.aload_n 0, 1) := by decide +kernel
theorem dX10_planned_68 : decode cX10_planned 68 = .ok (.getfield 313, 3) := by decide +kernel
theorem dX10_planned_71 : decode cX10_planned 71 = .ok (.iconst 1, 1) := by decide +kernel
theorem dX10_planned_72 : decode cX10_planned 72 = .ok (.iadd, 1) := by decide +kernel
theorem dX10_planned_73 : decode cX10_planned 73 = .ok (.aload_n 0, 1) := by decide +kernel
theorem dX10_planned_74 : decode cX10_planned 74 = .ok (.getfield 284, 3) := by decide +kernel
theorem dX10_planned_77 : decode cX10_planned 77 = .ok (.aload_n 0, 1) := by decide +kernel
theorem dX10_planned_78 : decode cX10_planned 78 = .ok (.getfield 33, 3) := by decide +kernel
theorem dX10_planned_81 : decode cX10_planned 81 = .ok (.iload_n 3, 1) := by decide +kernel
theorem dX10_planned_82 : decode cX10_planned 82 = .ok (.iaload, 1) := by decide +kernel
theorem dX10_planned_83 : decode cX10_planned 83 = .ok (.invokestatic 293, 3) := by decide +kernel
theorem dX10_planned_86 : decode cX10_planned 86 = .ok (.invokestatic 293, 3) := by decide +kernel
theorem dX10_planned_89 : decode cX10_planned 89 = .ok (.istore 4, 2) := by decide +kernel
theorem dX10_planned_91 : decode cX10_planned 91 = .ok (.iload 4, 2) := by decide +kernel
theorem dX10_planned_93 : decode cX10_planned 93 = .ok (.ldc 144, 2) := by decide +kernel
theorem dX10_planned_95 : decode cX10_planned 95 = .ok (.if_icmp .le 6, 3) := by decide +kernel
theorem dX10_planned_98 : decode cX10_planned 98 = .ok (.ldc 161, 2) := by decide +kernel
theorem dX10_planned_100 : decode cX10_planned 100 = .ok (.ireturn, 1) := by decide +kernel
theorem dX10_planned_101 : decode cX10_planned 101 = .ok (.iload 4, 2) := by decide +kernel
theorem dX10_planned_103 : decode cX10_planned 103 = .ok (.aload_n 0, 1) := by decide +kernel
theorem dX10_planned_104 : decode cX10_planned 104 = .ok (.getfield 33, 3) := by decide +kernel
theorem dX10_planned_107 : decode cX10_planned 107 = .ok (.iload_n 3, 1) := by decide +kernel
theorem dX10_planned_108 : decode cX10_planned 108 = .ok (.iaload, 1) := by decide +kernel
theorem dX10_planned_109 : decode cX10_planned 109 = .ok (.isub, 1) := by decide +kernel
theorem dX10_planned_110 : decode cX10_planned 110 = .ok (.aload_n 0, 1) := by decide +kernel
theorem dX10_planned_111 : decode cX10_planned 111 = .ok (.getfield 30, 3) := by decide +kernel
theorem dX10_planned_114 : decode cX10_planned 114 = .ok (.iload_n 3, 1) := by decide +kernel
theorem dX10_planned_115 : decode cX10_planned 115 = .ok (.iaload, 1) := by decide +kernel
theorem dX10_planned_116 : decode cX10_planned 116 = .ok (.irem, 1) := by decide +kernel
theorem dX10_planned_117 : decode cX10_planned 117 = .ok (.ifCond .eq 9, 3) := by decide +kernel
theorem dX10_planned_120 : decode cX10_planned 120 = .ok (.iinc 4 1, 3) := by decide +kernel
theorem dX10_planned_123 : decode cX10_planned 123 = .ok (.goto (-22), 3) := by decide +kernel
theorem dX10_planned_126 : decode cX10_planned 126 = .ok (.iload 4, 2) := by decide +kernel
theorem dX10_planned_128 : decode cX10_planned 128 = .ok (.ldc 144, 2) := by decide +kernel
theorem dX10_planned_130 : decode cX10_planned 130 = .ok (.if_icmp .le 8, 3) := by decide +kernel
theorem dX10_planned_133 : decode cX10_planned 133 = .ok (.ldc 161, 2) := by decide +kernel
theorem dX10_planned_135 : decode cX10_planned 135 = .ok (.goto 5, 3) := by decide +kernel
theorem dX10_planned_138 : decode cX10_planned 138 = .ok (.iload 4, 2) := by decide +kernel
theorem dX10_planned_140 : decode cX10_planned 140 = .ok (.ireturn, 1) := by decide +kernel
theorem dX10_differ_0 : decode cX10_differ 0 = .ok (.aload_n 0, 1) := by decide +kernel
theorem dX10_differ_1 : decode cX10_differ 1 = .ok (.iconst 0, 1) := by decide +kernel
theorem dX10_differ_2 : decode cX10_differ 2 = .ok (.putfield 126, 3) := by decide +kernel
theorem dX10_differ_5 : decode cX10_differ 5 = .ok (.aload_n 0, 1) := by decide +kernel
theorem dX10_differ_6 : decode cX10_differ 6 = .ok (.iload_n 1, 1) := by decide +kernel
theorem dX10_differ_7 : decode cX10_differ 7 = .ok (.invokevirtual 345, 3) := by decide +kernel
theorem dX10_differ_10 : decode cX10_differ 10 = .ok (.ifCond .eq 11, 3) := by decide +kernel
theorem dX10_differ_13 : decode cX10_differ 13 = .ok (.aload_n 0, 1) := by decide +kernel
theorem dX10_differ_14 : decode cX10_differ 14 = .ok (.iload_n 2, 1) := by decide +kernel
theorem dX10_differ_15 : decode cX10_differ 15 = .ok (.invokevirtual 345, 3) := by decide +kernel
theorem dX10_differ_18 : decode cX10_differ 18 = .ok (.ifCond .ne 9, 3) := by decide +kernel
theorem dX10_differ_21 : decode cX10_differ 21 = .ok (.aload_n 0, 1) := by decide +kernel
theorem dX10_differ_22 : decode cX10_differ 22 = .ok (.iconst 1, 1) := by decide +kernel
theorem dX10_differ_23 : decode cX10_differ 23 = .ok (.invokevirtual 152, 3) := by decide +kernel
theorem dX10_differ_26 : decode cX10_differ 26 = .ok (.ireturn, 1) := by decide +kernel
theorem dX10_differ_27 : decode cX10_differ 27 = .ok (.iconst 0, 1) := by decide +kernel
theorem dX10_differ_28 : decode cX10_differ 28 = .ok (.istore_n 3, 1) := by decide +kernel
theorem dX10_differ_29 : decode cX10_differ 29 = .ok (.iconst 0, 1) := by decide +kernel
theorem dX10_differ_30 : decode cX10_differ 30 = .ok (.istore 4, 2) := by decide +kernel
theorem dX10_differ_32 : decode cX10_differ 32 = .ok (.iload 4, 2) := by decide +kernel
theorem dX10_differ_34 : decode cX10_differ 34 = .ok (.aload_n 0, 1) := by decide +kernel
theorem dX10_differ_35 : decode cX10_differ 35 = .ok (.getfield 278, 3) := by decide +kernel
theorem dX10_differ_38 : decode cX10_differ 38 = .ok (.if_icmp .ge 81, 3) := by decide +kernel
theorem dX10_differ_41 : decode cX10_differ 41 = .ok (.iconst 0, 1) := by decide +kernel
theorem dX10_differ_42 : decode cX10_differ 42 = .ok (.istore 5, 2) := by decide +kernel
theorem dX10_differ_44 : decode cX10_differ 44 = .ok (.iload 5, 2) := by decide +kernel
theorem dX10_differ_46 : decode cX10_differ 46 = .ok (.bipush 8, 2) := by decide +kernel
theorem dX10_differ_48 : decode cX10_differ 48 = .ok (.if_icmp .ge 65, 3) := by decide +kernel
theorem dX10_differ_51 : decode cX10_differ 51 = .ok (.aload_n 0, 1) := by decide +kernel
theorem dX10_differ_52 : decode cX10_differ 52 = .ok (.iload 4, 2) := by decide +kernel
theorem dX10_differ_54 : decode cX10_differ 54 = .ok (.iload 5, 2) := by decide +kernel
theorem dX10_differ_56 : decode cX10_differ 56 = .ok (.iload_n 1, 1) := by decide +kernel
theorem dX10_differ_57 : decode cX10_differ 57 = .ok (.invokevirtual 319, 3) := by decide +kernel
theorem dX10_differ_60 : decode cX10_differ 60 = .ok (.aload_n 0, 1) := by decide +kernel
theorem dX10_differ_61 : decode cX10_differ 61 = .ok (.getfield 284, 3) := by decide +kernel
theorem dX10_differ_64 : decode cX10_differ 64 = .ok (.istore 6, 2) := by decide +kernel
theorem dX10_differ_66 : decode cX10_differ 66 = .ok (.aload_n 0, 1) := by decide +kernel
theorem dX10_differ_67 : decode cX10_differ 67 = .ok (.getfield 287, 3) := by decide +kernel
theorem dX10_differ_70 : decode cX10_differ 70 = .ok (.istore 7, 2) := by decide +kernel
theorem dX10_differ_72 : decode cX10_differ 72 = .ok (.aload_n 0, 1) := by decide +kernel
theorem dX10_differ_73 : decode cX10_differ 73 = .ok (.iload 4, 2) := by decide +kernel
theorem dX10_differ_75 : decode cX10_differ 75 = .ok (.iload 5, 2) := by decide +kernel
theorem dX10_differ_77 : decode cX10_differ 77 = .ok (.iload_n 2, 1) := by decide +kernel
theorem dX10_differ_78 : decode cX10_differ 78 = .ok (.invokevirtual 319, 3) := by decide +kernel
theorem dX10_differ_81 : decode cX10_differ 81 = .ok (.iload_n 3, 1) := by decide +kernel
theorem dX10_differ_82 : decode cX10_differ 82 = .ok (.iload 6, 2) := by decide +kernel
theorem dX10_differ_84 : decode cX10_differ 84 = .ok (.aload_n 0, 1) := by decide +kernel
theorem dX10_differ_85 : decode cX10_differ 85 = .ok (.getfield 284, 3) := by decide +kernel
theorem dX10_differ_88 : decode cX10_differ 88 = .ok (.if_icmp .ne 12, 3) := by decide +kernel
theorem dX10_differ_91 : decode cX10_differ 91 = .ok (.iload 7, 2) := by decide +kernel
theorem dX10_differ_93 : decode cX10_differ 93 = .ok (.aload_n 0, 1) := by decide +kernel
theorem dX10_differ_94 : decode cX10_differ 94 = .ok (.getfield 287, 3) := by decide +kernel
theorem dX10_differ_97 : decode cX10_differ 97 = .ok (.if_icmp .eq 7, 3) := by decide +kernel
theorem dX10_differ_100 : decode cX10_differ 100 = .ok (.iconst 1, 1) := by decide +kernel
theorem dX10_differ_101 : decode cX10_differ 101 = .ok (.goto 4, 3) := by decide +kernel
theorem dX10_differ_104 : decode cX10_differ 104 = .ok (.iconst 0, 1) := by decide +kernel
theorem dX10_differ_105 : decode cX10_differ 105 = .ok (.iadd, 1) := by decide +kernel
theorem dX10_differ_106 : decode cX10_differ 106 = .ok (.istore_n 3, 1) := by decide +kernel
theorem dX10_differ_107 : decode cX10_differ 107 = .ok (.iinc 5 1, 3) := by decide +kernel
theorem dX10_differ_110 : decode cX10_differ 110 = .ok (.goto (-66), 3) := by decide +kernel
theorem dX10_differ_113 : decode cX10_differ 113 = .ok (.iinc 4 1, 3) := by decide +kernel
theorem dX10_differ_116 : decode cX10_differ 116 = .ok (.goto (-84), 3) := by decide +kernel
theorem dX10_differ_119 : decode cX10_differ 119 = .ok (.iload_n 3, 1) := by decide +kernel
theorem dX10_differ_120 : decode cX10_differ 120 = .ok (.ireturn, 1) := by decide +kernel
theorem dX10_bites_0 : decode cX10_bites 0 = .ok (.aload_n 0, 1) := by decide +kernel
theorem dX10_bites_1 : decode cX10_bites 1 = .ok (.iconst 0, 1) := by decide +kernel
theorem dX10_bites_2 : decode cX10_bites 2 = .ok (.putfield 126, 3) := by decide +kernel
theorem dX10_bites_5 : decode cX10_bites 5 = .ok (.aload_n 0, 1) := by decide +kernel
theorem dX10_bites_6 : decode cX10_bites 6 = .ok (.iload_n 1, 1) := by decide +kernel
theorem dX10_bites_7 : decode cX10_bites 7 = .ok (.invokevirtual 345, 3) := by decide +kernel
theorem dX10_bites_10 : decode cX10_bites 10 = .ok (.ifCond .eq 17, 3) := by decide +kernel
theorem dX10_bites_13 : decode cX10_bites 13 = .ok (.iload_n 2, 1) := by decide +kernel
theorem dX10_bites_14 : decode cX10_bites 14 = .ok (.ifCond .lt 13, 3) := by decide +kernel
theorem dX10_bites_17 : decode cX10_bites 17 = .ok (.iload_n 2, 1) := by decide +kernel
theorem dX10_bites_18 : decode cX10_bites 18 = .ok (.aload_n 0, 1) := by decide +kernel
theorem dX10_bites_19 : decode cX10_bites 19 = .ok (.getfield 63, 3) := by decide +kernel
theorem dX10_bites_22 : decode cX10_bites 22 = .ok (.iload_n 1, 1) := by decide +kernel
theorem dX10_bites_23 : decode cX10_bites 23 = .ok (.iaload, 1) := by decide +kernel
theorem dX10_bites_24 : decode cX10_bites 24 = .ok (.if_icmp .lt 11, 3) := by decide +kernel
theorem dX10_bites_27 : decode cX10_bites 27 = .ok (.aload_n 0, 1) := by decide +kernel
theorem dX10_bites_28 : decode cX10_bites 28 = .ok (.iconst 1, 1) := by decide +kernel
theorem dX10_bites_29 : decode cX10_bites 29 = .ok (.invokevirtual 152, 3) := by decide +kernel
theorem dX10_bites_32 : decode cX10_bites 32 = .ok (.pop, 1) := by decide +kernel
theorem dX10_bites_33 : decode cX10_bites 33 = .ok (.iconst 0, 1) := by decide +kernel
theorem dX10_bites_34 : decode cX10_bites 34 = .ok (.ireturn, 1) := by decide +kernel
theorem dX10_bites_35 : decode cX10_bites 35 = .ok (.iconst 0, 1) := by decide +kernel
theorem dX10_bites_36 : decode cX10_bites 36 = .ok (.istore_n 3, 1) := by decide +kernel
theorem dX10_bites_37 : decode cX10_bites 37 = .ok (.iconst 0, 1) := by decide +kernel
theorem dX10_bites_38 : decode cX10_bites 38 = .ok (.istore 4, 2) := by decide +kernel
theorem dX10_bites_40 : decode cX10_bites 40 = .ok (.iload 4, 2) := by decide +kernel
theorem dX10_bites_42 : decode cX10_bites 42 = .ok (.aload_n 0, 1) := by decide +kernel
theorem dX10_bites_43 : decode cX10_bites 43 = .ok (.getfield 278, 3) := by decide +kernel
theorem dX10_bites_46 : decode cX10_bites 46 = .ok (.if_icmp .ge 60, 3) := by decide +kernel
theorem dX10_bites_49 : decode cX10_bites 49 = .ok (.iconst 0, 1) := by decide +kernel
theorem dX10_bites_50 : decode cX10_bites 50 = .ok (.istore 5, 2) := by decide +kernel
theorem dX10_bites_52 : decode cX10_bites 52 = .ok (.iload 5, 2) := by decide +kernel
theorem dX10_bites_54 : decode cX10_bites 54 = .ok (.bipush 8, 2) := by decide +kernel
theorem dX10_bites_56 : decode cX10_bites 56 = .ok (.if_icmp .ge 44, 3) := by decide +kernel
theorem dX10_bites_59 : decode cX10_bites 59 = .ok (.aload_n 0, 1) := by decide +kernel
theorem dX10_bites_60 : decode cX10_bites 60 = .ok (.getfield 23, 3) := by decide +kernel
theorem dX10_bites_63 : decode cX10_bites 63 = .ok (.bipush 8, 2) := by decide +kernel
theorem dX10_bites_65 : decode cX10_bites 65 = .ok (.iload 4, 2) := by decide +kernel
theorem dX10_bites_67 : decode cX10_bites 67 = .ok (.imul, 1) := by decide +kernel
theorem dX10_bites_68 : decode cX10_bites 68 = .ok (.iload 5, 2) := by decide +kernel
theorem dX10_bites_70 : decode cX10_bites 70 = .ok (.iadd, 1) := by decide +kernel
theorem dX10_bites_71 : decode cX10_bites 71 = .ok (.iaload, 1) := by decide +kernel
theorem dX10_bites_72 : decode cX10_bites 72 = .ok (.ifCond .eq 22, 3) := by decide +kernel
theorem dX10_bites_75 : decode cX10_bites 75 = .ok (.aload_n 0, 1) := by decide +kernel
theorem dX10_bites_76 : decode cX10_bites 76 = .ok (.bipush 24, 2) := by decide +kernel
theorem dX10_bites_78 : decode cX10_bites 78 = .ok (.iload_n 1, 1) := by decide +kernel
theorem dX10_bites_79 : decode cX10_bites 79 = .ok (.imul, 1) := by decide +kernel
theorem dX10_bites_80 : decode cX10_bites 80 = .ok (.iload_n 2, 1) := by decide +kernel
theorem dX10_bites_81 : decode cX10_bites 81 = .ok (.iadd, 1) := by decide +kernel
theorem dX10_bites_82 : decode cX10_bites 82 = .ok (.iload 4, 2) := by decide +kernel
theorem dX10_bites_84 : decode cX10_bites 84 = .ok (.iload 5, 2) := by decide +kernel
theorem dX10_bites_86 : decode cX10_bites 86 = .ok (.invokevirtual 305, 3) := by decide +kernel
theorem dX10_bites_89 : decode cX10_bites 89 = .ok (.ifCond .eq 5, 3) := by decide +kernel
theorem dX10_bites_92 : decode cX10_bites 92 = .ok (.iconst 1, 1) := by decide +kernel
theorem dX10_bites_93 : decode cX10_bites 93 = .ok (.istore_n 3, 1) := by decide +kernel
theorem dX10_bites_94 : decode cX10_bites 94 = .ok (.iinc 5 1, 3) := by decide +kernel
theorem dX10_bites_97 : decode cX10_bites 97 = .ok (.goto (-45), 3) := by decide +kernel
theorem dX10_bites_100 : decode cX10_bites 100 = .ok (.iinc 4 1, 3) := by decide +kernel
theorem dX10_bites_103 : decode cX10_bites 103 = .ok (.goto (-63), 3) := by decide +kernel
theorem dX10_bites_106 : decode cX10_bites 106 = .ok (.iload_n 3, 1) := by decide +kernel
theorem dX10_bites_107 : decode cX10_bites 107 = .ok (.ireturn, 1) := by decide +kernel
theorem dX10_sweep_0 : decode cX10_sweep 0 = .ok (.iconst 0, 1) := by decide +kernel
theorem dX10_sweep_1 : decode cX10_sweep 1 = .ok (.istore_n 2, 1) := by decide +kernel
theorem dX10_sweep_2 : decode cX10_sweep 2 = .ok (.iload_n 2, 1) := by decide +kernel
theorem dX10_sweep_3 : decode cX10_sweep 3 = .ok (.aload_n 0, 1) := by decide +kernel
theorem dX10_sweep_4 : decode cX10_sweep 4 = .ok (.getfield 278, 3) := by decide +kernel
theorem dX10_sweep_7 : decode cX10_sweep 7 = .ok (.if_icmp .ge 173, 3) := by decide +kernel
theorem dX10_sweep_10 : decode cX10_sweep 10 = .ok (.iconst 0, 1) := by decide +kernel
theorem dX10_sweep_11 : decode cX10_sweep 11 = .ok (.istore_n 3, 1) := by decide +kernel
theorem dX10_sweep_12 : decode cX10_sweep 12 = .ok (.iload_n 3, 1) := by decide +kernel
theorem dX10_sweep_13 : decode cX10_sweep 13 = .ok (.bipush 8, 2) := by decide +kernel
theorem dX10_sweep_15 : decode cX10_sweep 15 = .ok (.if_icmp .ge 159, 3) := by decide +kernel
theorem dX10_sweep_18 : decode cX10_sweep 18 = .ok (.aload_n 0, 1) := by decide +kernel
theorem dX10_sweep_19 : decode cX10_sweep 19 = .ok (.getfield 23, 3) := by decide +kernel
theorem dX10_sweep_22 : decode cX10_sweep 22 = .ok (.bipush 8, 2) := by decide +kernel
theorem dX10_sweep_24 : decode cX10_sweep 24 = .ok (.iload_n 2, 1) := by decide +kernel
theorem dX10_sweep_25 : decode cX10_sweep 25 = .ok (.imul, 1) := by decide +kernel
theorem dX10_sweep_26 : decode cX10_sweep 26 = .ok (.iload_n 3, 1) := by decide +kernel
theorem dX10_sweep_27 : decode cX10_sweep 27 = .ok (.iadd, 1) := by decide +kernel
theorem dX10_sweep_28 : decode cX10_sweep 28 = .ok (.iaload, 1) := by decide +kernel
theorem dX10_sweep_29 : decode cX10_sweep 29 = .ok (.iload_n 1, 1) := by decide +kernel
theorem dX10_sweep_30 : decode cX10_sweep 30 = .ok (.ishr, 1) := by decide +kernel
theorem dX10_sweep_31 : decode cX10_sweep 31 = .ok (.iconst 1, 1) := by decide +kernel
theorem dX10_sweep_32 : decode cX10_sweep 32 = .ok (.iand, 1) := by decide +kernel
theorem dX10_sweep_33 : decode cX10_sweep 33 = .ok (.ifCond .eq 135, 3) := by decide +kernel
theorem dX10_sweep_36 : decode cX10_sweep 36 = .ok (.aload_n 0, 1) := by decide +kernel
theorem dX10_sweep_37 : decode cX10_sweep 37 = .ok (.iload_n 2, 1) := by decide +kernel
theorem dX10_sweep_38 : decode cX10_sweep 38 = .ok (.iload_n 3, 1) := by decide +kernel
theorem dX10_sweep_39 : decode cX10_sweep 39 = .ok (.aload_n 0, 1) := by decide +kernel
theorem dX10_sweep_40 : decode cX10_sweep 40 = .ok (.getfield 313, 3) := by decide +kernel
theorem dX10_sweep_43 : decode cX10_sweep 43 = .ok (.invokevirtual 342, 3) := by decide +kernel
theorem dX10_sweep_46 : decode cX10_sweep 46 = .ok (.ifCond .ne 6, 3) := by decide +kernel
theorem dX10_sweep_49 : decode cX10_sweep 49 = .ok (.goto 119, 3) := by decide +kernel
theorem dX10_sweep_52 : decode cX10_sweep 52 = .ok (.aload_n 0, 1) := by decide +kernel
theorem dX10_sweep_53 : decode cX10_sweep 53 = .ok (.getfield 23, 3) := by decide +kernel
theorem dX10_sweep_56 : decode cX10_sweep 56 = .ok (.bipush 8, 2) := by decide +kernel
theorem dX10_sweep_58 : decode cX10_sweep 58 = .ok (.iload_n 2, 1) := by decide +kernel
theorem dX10_sweep_59 : decode cX10_sweep 59 = .ok (.imul, 1) := by decide +kernel
theorem dX10_sweep_60 : decode cX10_sweep 60 = .ok (.iload_n 3, 1) := by decide +kernel
theorem dX10_sweep_61 : decode cX10_sweep 61 = .ok (.iadd, 1) := by decide +kernel
theorem dX10_sweep_62 : decode cX10_sweep 62 = .ok (.dup2, 1) := by decide +kernel
theorem dX10_sweep_63 : decode cX10_sweep 63 = .ok (.iaload, 1) := by decide +kernel
theorem dX10_sweep_64 : decode cX10_sweep 64 = .ok (.iconst 1, 1) := by decide +kernel
theorem dX10_sweep_65 : decode cX10_sweep 65 = .ok (.iload_n 1, 1) := by decide +kernel
theorem dX10_sweep_66 : decode cX10_sweep 66 = .ok (.ishl, 1) := by decide +kernel
theorem dX10_sweep_67 : decode cX10_sweep 67 = .ok (.iconst (-1), 1) := by decide +kernel
theorem dX10_sweep_68 : decode cX10_sweep 68 = .ok (.ixor, 1) := by decide +kernel
theorem dX10_sweep_69 : decode cX10_sweep 69 = .ok (.iand, 1) := by decide +kernel
theorem dX10_sweep_70 : decode cX10_sweep 70 = .ok (.iastore, 1) := by decide +kernel
theorem dX10_sweep_71 : decode cX10_sweep 71 = .ok (.aload_n 0, 1) := by decide +kernel
theorem dX10_sweep_72 : decode cX10_sweep 72 = .ok (.getfield 313, 3) := by decide +kernel
theorem dX10_sweep_75 : decode cX10_sweep 75 = .ok (.aload_n 0, 1) := by decide +kernel
theorem dX10_sweep_76 : decode cX10_sweep 76 = .ok (.getfield 287, 3) := by decide +kernel
theorem dX10_sweep_79 : decode cX10_sweep 79 = .ok (.if_icmp .le 13, 3) := by decide +kernel
theorem dX10_sweep_82 : decode cX10_sweep 82 = .ok (.aload_n 0, 1) := by decide +kernel
theorem dX10_sweep_83 : decode cX10_sweep 83 = .ok (.dup, 1) := by decide +kernel
theorem dX10_sweep_84 : decode cX10_sweep 84 = .ok (.getfield 351, 3) := by decide +kernel
theorem dX10_sweep_87 : decode cX10_sweep 87 = .ok (.iconst 1, 1) := by decide +kernel
theorem dX10_sweep_88 : decode cX10_sweep 88 = .ok (.iadd, 1) := by decide +kernel
theorem dX10_sweep_89 : decode cX10_sweep 89 = .ok (.putfield 351, 3) := by decide +kernel
theorem dX10_sweep_92 : decode cX10_sweep 92 = .ok (.aload_n 0, 1) := by decide +kernel
theorem dX10_sweep_93 : decode cX10_sweep 93 = .ok (.getfield 354, 3) := by decide +kernel
theorem dX10_sweep_96 : decode cX10_sweep 96 = .ok (.sipush 400, 3) := by decide +kernel
theorem dX10_sweep_99 : decode cX10_sweep 99 = .ok (.if_icmp .ge 59, 3) := by decide +kernel
theorem dX10_sweep_102 : decode cX10_sweep 102 = .ok (.aload_n 0, 1) := by decide +kernel
theorem dX10_sweep_103 : decode cX10_sweep 103 = .ok (.getfield 45, 3) := by decide +kernel
theorem dX10_sweep_106 : decode cX10_sweep 106 = .ok (.aload_n 0, 1) := by decide +kernel
theorem dX10_sweep_107 : decode cX10_sweep 107 = .ok (.getfield 354, 3) := by decide +kernel
theorem dX10_sweep_110 : decode cX10_sweep 110 = .ok (.iload_n 2, 1) := by decide +kernel
theorem dX10_sweep_111 : decode cX10_sweep 111 = .ok (.iastore, 1) := by decide +kernel
theorem dX10_sweep_112 : decode cX10_sweep 112 = .ok (.aload_n 0, 1) := by decide +kernel
theorem dX10_sweep_113 : decode cX10_sweep 113 = .ok (.getfield 48, 3) := by decide +kernel
theorem dX10_sweep_116 : decode cX10_sweep 116 = .ok (.aload_n 0, 1) := by decide +kernel
theorem dX10_sweep_117 : decode cX10_sweep 117 = .ok (.getfield 354, 3) := by decide +kernel
theorem dX10_sweep_120 : decode cX10_sweep 120 = .ok (.iload_n 3, 1) := by decide +kernel
theorem dX10_sweep_121 : decode cX10_sweep 121 = .ok (.iastore, 1) := by decide +kernel
theorem dX10_sweep_122 : decode cX10_sweep 122 = .ok (.aload_n 0, 1) := by decide +kernel
theorem dX10_sweep_123 : decode cX10_sweep 123 = .ok (.getfield 51, 3) := by decide +kernel
theorem dX10_sweep_126 : decode cX10_sweep 126 = .ok (.aload_n 0, 1) := by decide +kernel
theorem dX10_sweep_127 : decode cX10_sweep 127 = .ok (.getfield 354, 3) := by decide +kernel
theorem dX10_sweep_130 : decode cX10_sweep 130 = .ok (.iload_n 1, 1) := by decide +kernel
theorem dX10_sweep_131 : decode cX10_sweep 131 = .ok (.iastore, 1) := by decide +kernel
theorem dX10_sweep_132 : decode cX10_sweep 132 = .ok (.aload_n 0, 1) := by decide +kernel
theorem dX10_sweep_133 : decode cX10_sweep 133 = .ok (.getfield 54, 3) := by decide +kernel
theorem dX10_sweep_136 : decode cX10_sweep 136 = .ok (.aload_n 0, 1) := by decide +kernel
theorem dX10_sweep_137 : decode cX10_sweep 137 = .ok (.getfield 354, 3) := by decide +kernel
theorem dX10_sweep_140 : decode cX10_sweep 140 = .ok (.aload_n 0, 1) := by decide +kernel
theorem dX10_sweep_141 : decode cX10_sweep 141 = .ok (.getfield 313, 3) := by decide +kernel
theorem dX10_sweep_144 : decode cX10_sweep 144 = .ok (.iastore, 1) := by decide +kernel
theorem dX10_sweep_145 : decode cX10_sweep 145 = .ok (.aload_n 0, 1) := by decide +kernel
theorem dX10_sweep_146 : decode cX10_sweep 146 = .ok (.getfield 57, 3) := by decide +kernel
theorem dX10_sweep_149 : decode cX10_sweep 149 = .ok (.aload_n 0, 1) := by decide +kernel
theorem dX10_sweep_150 : decode cX10_sweep 150 = .ok (.getfield 354, 3) := by decide +kernel
theorem dX10_sweep_153 : decode cX10_sweep 153 = .ok (.aload_n 0, 1) := by decide +kernel
theorem dX10_sweep_154 : decode cX10_sweep 154 = .ok (.getfield 302, 3) := by decide +kernel
theorem dX10_sweep_157 : decode cX10_sweep 157 = .ok (.iastore, 1) := by decide +kernel
theorem dX10_sweep_158 : decode cX10_sweep 158 = .ok (.aload_n 0, 1) := by decide +kernel
theorem dX10_sweep_159 : decode cX10_sweep 159 = .ok (.dup, 1) := by decide +kernel
theorem dX10_sweep_160 : decode cX10_sweep 160 = .ok (.getfield 354, 3) := by decide +kernel
theorem dX10_sweep_163 : decode cX10_sweep 163 = .ok (.iconst 1, 1) := by decide +kernel
theorem dX10_sweep_164 : decode cX10_sweep 164 = .ok (.iadd, 1) := by decide +kernel
theorem dX10_sweep_165 : decode cX10_sweep 165 = .ok (.putfield 354, 3) := by decide +kernel
theorem dX10_sweep_168 : decode cX10_sweep 168 = .ok (.iinc 3 1, 3) := by decide +kernel
theorem dX10_sweep_171 : decode cX10_sweep 171 = .ok (.goto (-159), 3) := by decide +kernel
theorem dX10_sweep_174 : decode cX10_sweep 174 = .ok (.iinc 2 1, 3) := by decide +kernel
theorem dX10_sweep_177 : decode cX10_sweep 177 = .ok (.goto (-175), 3) := by decide +kernel
theorem dX10_sweep_180 : decode cX10_sweep 180 = .ok (.return_, 1) := by decide +kernel
theorem dX10_days_0 : decode cX10_days 0 = .ok (.aload_n 0, 1) := by decide +kernel
theorem dX10_days_1 : decode cX10_days 1 = .ok (.iconst 0, 1) := by decide +kernel
theorem dX10_days_2 : decode cX10_days 2 = .ok (.putfield 126, 3) := by decide +kernel
theorem dX10_days_5 : decode cX10_days 5 = .ok (.iload_n 1, 1) := by decide +kernel
theorem dX10_days_6 : decode cX10_days 6 = .ok (.ifCond .lt 21, 3) := by decide +kernel
theorem dX10_days_9 : decode cX10_days 9 = .ok (.iload_n 1, 1) := by decide +kernel
theorem dX10_days_10 : decode cX10_days 10 = .ok (.sipush 1000, 3) := by decide +kernel
theorem dX10_days_13 : decode cX10_days 13 = .ok (.if_icmp .gt 14, 3) := by decide +kernel
theorem dX10_days_16 : decode cX10_days 16 = .ok (.aload_n 0, 1) := by decide +kernel
theorem dX10_days_17 : decode cX10_days 17 = .ok (.getfield 313, 3) := by decide +kernel
theorem dX10_days_20 : decode cX10_days 20 = .ok (.iload_n 1, 1) := by decide +kernel
theorem dX10_days_21 : decode cX10_days 21 = .ok (.iadd, 1) := by decide +kernel
theorem dX10_days_22 : decode cX10_days 22 = .ok (.ldc 144, 2) := by decide +kernel
theorem dX10_days_24 : decode cX10_days 24 = .ok (.if_icmp .le 9, 3) := by decide +kernel
theorem dX10_days_27 : decode cX10_days 27 = .ok (.aload_n 0, 1) := by decide +kernel
theorem dX10_days_28 : decode cX10_days 28 = .ok (.iconst 1, 1) := by decide +kernel
theorem dX10_days_29 : decode cX10_days 29 = .ok (.invokevirtual 152, 3) := by decide +kernel
theorem dX10_days_32 : decode cX10_days 32 = .ok (.ireturn, 1) := by decide +kernel
theorem dX10_days_33 : decode cX10_days 33 = .ok (.iconst 0, 1) := by decide +kernel
theorem dX10_days_34 : decode cX10_days 34 = .ok (.istore_n 2, 1) := by decide +kernel
theorem dX10_days_35 : decode cX10_days 35 = .ok (.iload_n 2, 1) := by decide +kernel
theorem dX10_days_36 : decode cX10_days 36 = .ok (.iload_n 1, 1) := by decide +kernel
theorem dX10_days_37 : decode cX10_days 37 = .ok (.if_icmp .ge 71, 3) := by decide +kernel
theorem dX10_days_40 : decode cX10_days 40 = .ok (.aload_n 0, 1) := by decide +kernel
theorem dX10_days_41 : decode cX10_days 41 = .ok (.dup, 1) := by decide +kernel
theorem dX10_days_42 : decode cX10_days 42 = .ok (.getfield 313, 3) := by decide +kernel
theorem dX10_days_45 : decode cX10_days 45 = .ok (.iconst 1, 1) := by decide +kernel
theorem dX10_days_46 : decode cX10_days 46 = .ok (.iadd, 1) := by decide +kernel
theorem dX10_days_47 : decode cX10_days 47 = .ok (.putfield 313, 3) := by decide +kernel
theorem dX10_days_50 : decode cX10_days 50 = .ok (.iconst 0, 1) := by decide +kernel
theorem dX10_days_51 : decode cX10_days 51 = .ok (.istore_n 3, 1) := by decide +kernel
theorem dX10_days_52 : decode cX10_days 52 = .ok (.iload_n 3, 1) := by decide +kernel
theorem dX10_days_53 : decode cX10_days 53 = .ok (.iconst 4, 1) := by decide +kernel
theorem dX10_days_54 : decode cX10_days 54 = .ok (.if_icmp .ge 48, 3) := by decide +kernel
theorem dX10_days_57 : decode cX10_days 57 = .ok (.aload_n 0, 1) := by decide +kernel
theorem dX10_days_58 : decode cX10_days 58 = .ok (.getfield 313, 3) := by decide +kernel
theorem dX10_days_61 : decode cX10_days 61 = .ok (.aload_n 0, 1) := by decide +kernel
theorem dX10_days_62 : decode cX10_days 62 = .ok (.getfield 33, 3) := by decide +kernel
theorem dX10_days_65 : decode cX10_days 65 = .ok (.iload_n 3, 1) := by decide +kernel
theorem dX10_days_66 : decode cX10_days 66 = .ok (.iaload, 1) := by decide +kernel
theorem dX10_days_67 : decode cX10_days 67 = .ok (.if_icmp .lt 29, 3) := by decide +kernel
theorem dX10_days_70 : decode cX10_days 70 = .ok (.aload_n 0, 1) := by decide +kernel
theorem dX10_days_71 : decode cX10_days 71 = .ok (.getfield 313, 3) := by decide +kernel
theorem dX10_days_74 : decode cX10_days 74 = .ok (.aload_n 0, 1) := by decide +kernel
theorem dX10_days_75 : decode cX10_days 75 = .ok (.getfield 33, 3) := by decide +kernel
theorem dX10_days_78 : decode cX10_days 78 = .ok (.iload_n 3, 1) := by decide +kernel
theorem dX10_days_79 : decode cX10_days 79 = .ok (.iaload, 1) := by decide +kernel
theorem dX10_days_80 : decode cX10_days 80 = .ok (.isub, 1) := by decide +kernel
theorem dX10_days_81 : decode cX10_days 81 = .ok (.aload_n 0, 1) := by decide +kernel
theorem dX10_days_82 : decode cX10_days 82 = .ok (.getfield 30, 3) := by decide +kernel
theorem dX10_days_85 : decode cX10_days 85 = .ok (.iload_n 3, 1) := by decide +kernel
theorem dX10_days_86 : decode cX10_days 86 = .ok (.iaload, 1) := by decide +kernel
theorem dX10_days_87 : decode cX10_days 87 = .ok (.irem, 1) := by decide +kernel
theorem dX10_days_88 : decode cX10_days 88 = .ok (.ifCond .ne 8, 3) := by decide +kernel
theorem dX10_days_91 : decode cX10_days 91 = .ok (.aload_n 0, 1) := by decide +kernel
theorem dX10_days_92 : decode cX10_days 92 = .ok (.iload_n 3, 1) := by decide +kernel
theorem dX10_days_93 : decode cX10_days 93 = .ok (.invokevirtual 357, 3) := by decide +kernel
theorem dX10_days_96 : decode cX10_days 96 = .ok (.iinc 3 1, 3) := by decide +kernel
theorem dX10_days_99 : decode cX10_days 99 = .ok (.goto (-47), 3) := by decide +kernel
theorem dX10_days_102 : decode cX10_days 102 = .ok (.iinc 2 1, 3) := by decide +kernel
theorem dX10_days_105 : decode cX10_days 105 = .ok (.goto (-70), 3) := by decide +kernel
theorem dX10_days_108 : decode cX10_days 108 = .ok (.aload_n 0, 1) := by decide +kernel
theorem dX10_days_109 : decode cX10_days 109 = .ok (.getfield 313, 3) := by decide +kernel
theorem dX10_days_112 : decode cX10_days 112 = .ok (.ireturn, 1) := by decide +kernel
theorem dX10_entry_0 : decode cX10_entry 0 = .ok (.aload_n 0, 1) := by decide +kernel
theorem dX10_entry_1 : decode cX10_entry 1 = .ok (.iconst 0, 1) := by decide +kernel
theorem dX10_entry_2 : decode cX10_entry 2 = .ok (.putfield 126, 3) := by decide +kernel
theorem dX10_entry_5 : decode cX10_entry 5 = .ok (.iload_n 1, 1) := by decide +kernel
theorem dX10_entry_6 : decode cX10_entry 6 = .ok (.ifCond .lt 17, 3) := by decide +kernel
theorem dX10_entry_9 : decode cX10_entry 9 = .ok (.iload_n 1, 1) := by decide +kernel
theorem dX10_entry_10 : decode cX10_entry 10 = .ok (.aload_n 0, 1) := by decide +kernel
theorem dX10_entry_11 : decode cX10_entry 11 = .ok (.getfield 354, 3) := by decide +kernel
theorem dX10_entry_14 : decode cX10_entry 14 = .ok (.sipush 400, 3) := by decide +kernel
theorem dX10_entry_17 : decode cX10_entry 17 = .ok (.invokestatic 162, 3) := by decide +kernel
theorem dX10_entry_20 : decode cX10_entry 20 = .ok (.if_icmp .lt 9, 3) := by decide +kernel
theorem dX10_entry_23 : decode cX10_entry 23 = .ok (.aload_n 0, 1) := by decide +kernel
theorem dX10_entry_24 : decode cX10_entry 24 = .ok (.iconst 1, 1) := by decide +kernel
theorem dX10_entry_25 : decode cX10_entry 25 = .ok (.invokevirtual 152, 3) := by decide +kernel
theorem dX10_entry_28 : decode cX10_entry 28 = .ok (.ireturn, 1) := by decide +kernel
theorem dX10_entry_29 : decode cX10_entry 29 = .ok (.iload_n 2, 1) := by decide +kernel
theorem dX10_entry_30 : decode cX10_entry 30 = .ok (.tableswitch 69 0 4 #[34, 41, 48, 55, 62], 34) := by decide +kernel
theorem dX10_entry_64 : decode cX10_entry 64 = .ok (.aload_n 0, 1) := by decide +kernel
theorem dX10_entry_65 : decode cX10_entry 65 = .ok (.getfield 45, 3) := by decide +kernel
theorem dX10_entry_68 : decode cX10_entry 68 = .ok (.iload_n 1, 1) := by decide +kernel
theorem dX10_entry_69 : decode cX10_entry 69 = .ok (.iaload, 1) := by decide +kernel
theorem dX10_entry_70 : decode cX10_entry 70 = .ok (.ireturn, 1) := by decide +kernel
theorem dX10_entry_71 : decode cX10_entry 71 = .ok (.aload_n 0, 1) := by decide +kernel
theorem dX10_entry_72 : decode cX10_entry 72 = .ok (.getfield 48, 3) := by decide +kernel
theorem dX10_entry_75 : decode cX10_entry 75 = .ok (.iload_n 1, 1) := by decide +kernel
theorem dX10_entry_76 : decode cX10_entry 76 = .ok (.iaload, 1) := by decide +kernel
theorem dX10_entry_77 : decode cX10_entry 77 = .ok (.ireturn, 1) := by decide +kernel
theorem dX10_entry_78 : decode cX10_entry 78 = .ok (.aload_n 0, 1) := by decide +kernel
theorem dX10_entry_79 : decode cX10_entry 79 = .ok (.getfield 51, 3) := by decide +kernel
theorem dX10_entry_82 : decode cX10_entry 82 = .ok (.iload_n 1, 1) := by decide +kernel
theorem dX10_entry_83 : decode cX10_entry 83 = .ok (.iaload, 1) := by decide +kernel
theorem dX10_entry_84 : decode cX10_entry 84 = .ok (.ireturn, 1) := by decide +kernel
theorem dX10_entry_85 : decode cX10_entry 85 = .ok (.aload_n 0, 1) := by decide +kernel
theorem dX10_entry_86 : decode cX10_entry 86 = .ok (.getfield 54, 3) := by decide +kernel
theorem dX10_entry_89 : decode cX10_entry 89 = .ok (.iload_n 1, 1) := by decide +kernel
theorem dX10_entry_90 : decode cX10_entry 90 = .ok (.iaload, 1) := by decide +kernel
theorem dX10_entry_91 : decode cX10_entry 91 = .ok (.ireturn, 1) := by decide +kernel
theorem dX10_entry_92 : decode cX10_entry 92 = .ok (.aload_n 0, 1) := by decide +kernel
theorem dX10_entry_93 : decode cX10_entry 93 = .ok (.getfield 57, 3) := by decide +kernel
theorem dX10_entry_96 : decode cX10_entry 96 = .ok (.iload_n 1, 1) := by decide +kernel
theorem dX10_entry_97 : decode cX10_entry 97 = .ok (.iaload, 1) := by decide +kernel
theorem dX10_entry_98 : decode cX10_entry 98 = .ok (.ireturn, 1) := by decide +kernel
theorem dX10_entry_99 : decode cX10_entry 99 = .ok (.aload_n 0, 1) := by decide +kernel
theorem dX10_entry_100 : decode cX10_entry 100 = .ok (.iconst 1, 1) := by decide +kernel
theorem dX10_entry_101 : decode cX10_entry 101 = .ok (.invokevirtual 152, 3) := by decide +kernel
theorem dX10_entry_104 : decode cX10_entry 104 = .ok (.ireturn, 1) := by decide +kernel
theorem dX10_count_0 : decode cX10_count 0 = .ok (.aload_n 0, 1) := by decide +kernel
theorem dX10_count_1 : decode cX10_count 1 = .ok (.iconst 0, 1) := by decide +kernel
theorem dX10_count_2 : decode cX10_count 2 = .ok (.putfield 126, 3) := by decide +kernel
theorem dX10_count_5 : decode cX10_count 5 = .ok (.iconst 0, 1) := by decide +kernel
theorem dX10_count_6 : decode cX10_count 6 = .ok (.istore_n 2, 1) := by decide +kernel
theorem dX10_count_7 : decode cX10_count 7 = .ok (.iconst 0, 1) := by decide +kernel
theorem dX10_count_8 : decode cX10_count 8 = .ok (.istore_n 3, 1) := by decide +kernel
theorem dX10_count_9 : decode cX10_count 9 = .ok (.iload_n 3, 1) := by decide +kernel
theorem dX10_count_10 : decode cX10_count 10 = .ok (.sipush 240, 3) := by decide +kernel
theorem dX10_count_13 : decode cX10_count 13 = .ok (.if_icmp .ge 21, 3) := by decide +kernel
theorem dX10_count_16 : decode cX10_count 16 = .ok (.iload_n 2, 1) := by decide +kernel
theorem dX10_count_17 : decode cX10_count 17 = .ok (.aload_n 0, 1) := by decide +kernel
theorem dX10_count_18 : decode cX10_count 18 = .ok (.getfield 23, 3) := by decide +kernel
theorem dX10_count_21 : decode cX10_count 21 = .ok (.iload_n 3, 1) := by decide +kernel
theorem dX10_count_22 : decode cX10_count 22 = .ok (.iaload, 1) := by decide +kernel
theorem dX10_count_23 : decode cX10_count 23 = .ok (.invokestatic 348, 3) := by decide +kernel
theorem dX10_count_26 : decode cX10_count 26 = .ok (.iadd, 1) := by decide +kernel
theorem dX10_count_27 : decode cX10_count 27 = .ok (.istore_n 2, 1) := by decide +kernel
theorem dX10_count_28 : decode cX10_count 28 = .ok (.iinc 3 1, 3) := by decide +kernel
theorem dX10_count_31 : decode cX10_count 31 = .ok (.goto (-22), 3) := by decide +kernel
theorem dX10_count_34 : decode cX10_count 34 = .ok (.iconst 0, 1) := by decide +kernel
theorem dX10_count_35 : decode cX10_count 35 = .ok (.istore_n 3, 1) := by decide +kernel
theorem dX10_count_36 : decode cX10_count 36 = .ok (.iconst 0, 1) := by decide +kernel
theorem dX10_count_37 : decode cX10_count 37 = .ok (.istore 4, 2) := by decide +kernel
theorem dX10_count_39 : decode cX10_count 39 = .ok (.iload 4, 2) := by decide +kernel
theorem dX10_count_41 : decode cX10_count 41 = .ok (.aload_n 0, 1) := by decide +kernel
theorem dX10_count_42 : decode cX10_count 42 = .ok (.getfield 339, 3) := by decide +kernel
theorem dX10_count_45 : decode cX10_count 45 = .ok (.if_icmp .ge 27, 3) := by decide +kernel
theorem dX10_count_48 : decode cX10_count 48 = .ok (.iload_n 3, 1) := by decide +kernel
theorem dX10_count_49 : decode cX10_count 49 = .ok (.aload_n 0, 1) := by decide +kernel
theorem dX10_count_50 : decode cX10_count 50 = .ok (.getfield 42, 3) := by decide +kernel
theorem dX10_count_53 : decode cX10_count 53 = .ok (.iload 4, 2) := by decide +kernel
theorem dX10_count_55 : decode cX10_count 55 = .ok (.baload, 1) := by decide +kernel
theorem dX10_count_56 : decode cX10_count 56 = .ok (.ifCond .eq 7, 3) := by decide +kernel
theorem dX10_count_59 : decode cX10_count 59 = .ok (.iconst 0, 1) := by decide +kernel
theorem dX10_count_60 : decode cX10_count 60 = .ok (.goto 4, 3) := by decide +kernel
theorem dX10_count_63 : decode cX10_count 63 = .ok (.iconst 1, 1) := by decide +kernel
theorem dX10_count_64 : decode cX10_count 64 = .ok (.iadd, 1) := by decide +kernel
theorem dX10_count_65 : decode cX10_count 65 = .ok (.istore_n 3, 1) := by decide +kernel
theorem dX10_count_66 : decode cX10_count 66 = .ok (.iinc 4 1, 3) := by decide +kernel
theorem dX10_count_69 : decode cX10_count 69 = .ok (.goto (-30), 3) := by decide +kernel
theorem dX10_count_72 : decode cX10_count 72 = .ok (.aload_n 0, 1) := by decide +kernel
theorem dX10_count_73 : decode cX10_count 73 = .ok (.aload_n 0, 1) := by decide +kernel
theorem dX10_count_74 : decode cX10_count 74 = .ok (.getfield 313, 3) := by decide +kernel
theorem dX10_count_77 : decode cX10_count 77 = .ok (.invokevirtual 316, 3) := by decide +kernel
theorem dX10_count_80 : decode cX10_count 80 = .ok (.istore 4, 2) := by decide +kernel
theorem dX10_count_82 : decode cX10_count 82 = .ok (.iload_n 1, 1) := by decide +kernel
theorem dX10_count_83 : decode cX10_count 83 = .ok (.tableswitch 108 0 9 #[53, 58, 63, 68, 71, 76, 81, 83, 85, 90], 53) := by decide +kernel
theorem dX10_count_136 : decode cX10_count 136 = .ok (.aload_n 0, 1) := by decide +kernel
theorem dX10_count_137 : decode cX10_count 137 = .ok (.getfield 313, 3) := by decide +kernel
theorem dX10_count_140 : decode cX10_count 140 = .ok (.ireturn, 1) := by decide +kernel
theorem dX10_count_141 : decode cX10_count 141 = .ok (.aload_n 0, 1) := by decide +kernel
theorem dX10_count_142 : decode cX10_count 142 = .ok (.getfield 278, 3) := by decide +kernel
theorem dX10_count_145 : decode cX10_count 145 = .ok (.ireturn, 1) := by decide +kernel
theorem dX10_count_146 : decode cX10_count 146 = .ok (.aload_n 0, 1) := by decide +kernel
theorem dX10_count_147 : decode cX10_count 147 = .ok (.getfield 270, 3) := by decide +kernel
theorem dX10_count_150 : decode cX10_count 150 = .ok (.ireturn, 1) := by decide +kernel
theorem dX10_count_151 : decode cX10_count 151 = .ok (.iload 4, 2) := by decide +kernel
theorem dX10_count_153 : decode cX10_count 153 = .ok (.ireturn, 1) := by decide +kernel
theorem dX10_count_154 : decode cX10_count 154 = .ok (.aload_n 0, 1) := by decide +kernel
theorem dX10_count_155 : decode cX10_count 155 = .ok (.getfield 354, 3) := by decide +kernel
theorem dX10_count_158 : decode cX10_count 158 = .ok (.ireturn, 1) := by decide +kernel
theorem dX10_count_159 : decode cX10_count 159 = .ok (.aload_n 0, 1) := by decide +kernel
theorem dX10_count_160 : decode cX10_count 160 = .ok (.getfield 351, 3) := by decide +kernel
theorem dX10_count_163 : decode cX10_count 163 = .ok (.ireturn, 1) := by decide +kernel
theorem dX10_count_164 : decode cX10_count 164 = .ok (.iload_n 2, 1) := by decide +kernel
theorem dX10_count_165 : decode cX10_count 165 = .ok (.ireturn, 1) := by decide +kernel
theorem dX10_count_166 : decode cX10_count 166 = .ok (.iload_n 3, 1) := by decide +kernel
theorem dX10_count_167 : decode cX10_count 167 = .ok (.ireturn, 1) := by decide +kernel
theorem dX10_count_168 : decode cX10_count 168 = .ok (.aload_n 0, 1) := by decide +kernel
theorem dX10_count_169 : decode cX10_count 169 = .ok (.getfield 171, 3) := by decide +kernel
theorem dX10_count_172 : decode cX10_count 172 = .ok (.ireturn, 1) := by decide +kernel
theorem dX10_count_173 : decode cX10_count 173 = .ok (.iload 4, 2) := by decide +kernel
theorem dX10_count_175 : decode cX10_count 175 = .ok (.iconst (-1), 1) := by decide +kernel
theorem dX10_count_176 : decode cX10_count 176 = .ok (.if_icmp .ne 7, 3) := by decide +kernel
theorem dX10_count_179 : decode cX10_count 179 = .ok (.iconst 0, 1) := by decide +kernel
theorem dX10_count_180 : decode cX10_count 180 = .ok (.goto 10, 3) := by decide +kernel
theorem dX10_count_183 : decode cX10_count 183 = .ok (.aload_n 0, 1) := by decide +kernel
theorem dX10_count_184 : decode cX10_count 184 = .ok (.getfield 63, 3) := by decide +kernel
theorem dX10_count_187 : decode cX10_count 187 = .ok (.iload 4, 2) := by decide +kernel
theorem dX10_count_189 : decode cX10_count 189 = .ok (.iaload, 1) := by decide +kernel
theorem dX10_count_190 : decode cX10_count 190 = .ok (.ireturn, 1) := by decide +kernel
theorem dX10_count_191 : decode cX10_count 191 = .ok (.aload_n 0, 1) := by decide +kernel
theorem dX10_count_192 : decode cX10_count 192 = .ok (.iconst 1, 1) := by decide +kernel
theorem dX10_count_193 : decode cX10_count 193 = .ok (.invokevirtual 152, 3) := by decide +kernel
theorem dX10_count_196 : decode cX10_count 196 = .ok (.ireturn, 1) := by decide +kernel
