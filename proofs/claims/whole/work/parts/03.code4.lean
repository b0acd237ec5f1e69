/-! the instructions, by program -/
theorem d_M_divide_111 : decode b_M_divide 111 = .ok (.invokevirtual 59, 3) := by decide +kernel
theorem d_M_divide_114 : decode b_M_divide 114 = .ok (.aload_n 0, 1) := by decide +kernel
theorem d_M_divide_115 : decode b_M_divide 115 = .ok (.getfield 13, 3) := by decide +kernel
theorem d_M_divide_118 : decode b_M_divide 118 = .ok (.bipush 38, 2) := by decide +kernel
theorem d_M_divide_120 : decode b_M_divide 120 = .ok (.iaload, 1) := by decide +kernel
theorem d_M_divide_121 : decode b_M_divide 121 = .ok (.istore 7, 2) := by decide +kernel
theorem d_M_divide_123 : decode b_M_divide 123 = .ok (.aload_n 0, 1) := by decide +kernel
theorem d_M_divide_124 : decode b_M_divide 124 = .ok (.getfield 13, 3) := by decide +kernel
theorem d_M_divide_127 : decode b_M_divide 127 = .ok (.bipush 36, 2) := by decide +kernel
theorem d_M_divide_129 : decode b_M_divide 129 = .ok (.iaload, 1) := by decide +kernel
theorem d_M_divide_130 : decode b_M_divide 130 = .ok (.istore 8, 2) := by decide +kernel
theorem d_M_divide_132 : decode b_M_divide 132 = .ok (.iload 8, 2) := by decide +kernel
theorem d_M_divide_134 : decode b_M_divide 134 = .ok (.iload 6, 2) := by decide +kernel
theorem d_M_divide_136 : decode b_M_divide 136 = .ok (.iconst 1, 1) := by decide +kernel
theorem d_M_divide_137 : decode b_M_divide 137 = .ok (.iadd, 1) := by decide +kernel
theorem d_M_divide_138 : decode b_M_divide 138 = .ok (.if_icmp .gt 21, 3) := by decide +kernel
theorem d_M_divide_141 : decode b_M_divide 141 = .ok (.aload_n 0, 1) := by decide +kernel
theorem d_M_divide_142 : decode b_M_divide 142 = .ok (.getfield 7, 3) := by decide +kernel
theorem d_M_divide_145 : decode b_M_divide 145 = .ok (.sipush 10800, 3) := by decide +kernel
theorem d_M_divide_148 : decode b_M_divide 148 = .ok (.iload 8, 2) := by decide +kernel
theorem d_M_divide_150 : decode b_M_divide 150 = .ok (.iadd, 1) := by decide +kernel
theorem d_M_divide_151 : decode b_M_divide 151 = .ok (.iconst 0, 1) := by decide +kernel
theorem d_M_divide_152 : decode b_M_divide 152 = .ok (.iastore, 1) := by decide +kernel
theorem d_M_divide_153 : decode b_M_divide 153 = .ok (.iinc 8 1, 3) := by decide +kernel
theorem d_M_divide_156 : decode b_M_divide 156 = .ok (.goto (-24), 3) := by decide +kernel
theorem d_M_divide_159 : decode b_M_divide 159 = .ok (.iload 6, 2) := by decide +kernel
theorem d_M_divide_161 : decode b_M_divide 161 = .ok (.iconst 1, 1) := by decide +kernel
theorem d_M_divide_162 : decode b_M_divide 162 = .ok (.iadd, 1) := by decide +kernel
theorem d_M_divide_163 : decode b_M_divide 163 = .ok (.iload 7, 2) := by decide +kernel
theorem d_M_divide_165 : decode b_M_divide 165 = .ok (.isub, 1) := by decide +kernel
theorem d_M_divide_166 : decode b_M_divide 166 = .ok (.istore 8, 2) := by decide +kernel
theorem d_M_divide_168 : decode b_M_divide 168 = .ok (.aload_n 0, 1) := by decide +kernel
theorem d_M_divide_169 : decode b_M_divide 169 = .ok (.getfield 7, 3) := by decide +kernel
theorem d_M_divide_172 : decode b_M_divide 172 = .ok (.sipush 11400, 3) := by decide +kernel
theorem d_M_divide_175 : decode b_M_divide 175 = .ok (.iload 7, 2) := by decide +kernel
theorem d_M_divide_177 : decode b_M_divide 177 = .ok (.iadd, 1) := by decide +kernel
theorem d_M_divide_178 : decode b_M_divide 178 = .ok (.iconst 1, 1) := by decide +kernel
theorem d_M_divide_179 : decode b_M_divide 179 = .ok (.isub, 1) := by decide +kernel
theorem d_M_divide_180 : decode b_M_divide 180 = .ok (.iaload, 1) := by decide +kernel
theorem d_M_divide_181 : decode b_M_divide 181 = .ok (.i2l, 1) := by decide +kernel
theorem d_M_divide_182 : decode b_M_divide 182 = .ok (.lstore 9, 2) := by decide +kernel
theorem d_M_divide_184 : decode b_M_divide 184 = .ok (.iload 8, 2) := by decide +kernel
theorem d_M_divide_186 : decode b_M_divide 186 = .ok (.istore 11, 2) := by decide +kernel
theorem d_M_divide_188 : decode b_M_divide 188 = .ok (.iload 11, 2) := by decide +kernel
theorem d_M_divide_190 : decode b_M_divide 190 = .ok (.ifCond .lt 116, 3) := by decide +kernel
theorem d_M_divide_193 : decode b_M_divide 193 = .ok (.sipush 10800, 3) := by decide +kernel
theorem d_M_divide_196 : decode b_M_divide 196 = .ok (.iload 11, 2) := by decide +kernel
theorem d_M_divide_198 : decode b_M_divide 198 = .ok (.iadd, 1) := by decide +kernel
theorem d_M_divide_199 : decode b_M_divide 199 = .ok (.iload 7, 2) := by decide +kernel
theorem d_M_divide_201 : decode b_M_divide 201 = .ok (.iadd, 1) := by decide +kernel
theorem d_M_divide_202 : decode b_M_divide 202 = .ok (.istore 12, 2) := by decide +kernel
theorem d_M_divide_204 : decode b_M_divide 204 = .ok (.aload_n 0, 1) := by decide +kernel
theorem d_M_divide_205 : decode b_M_divide 205 = .ok (.getfield 7, 3) := by decide +kernel
theorem d_M_divide_208 : decode b_M_divide 208 = .ok (.iload 12, 2) := by decide +kernel
theorem d_M_divide_210 : decode b_M_divide 210 = .ok (.iaload, 1) := by decide +kernel
theorem d_M_divide_211 : decode b_M_divide 211 = .ok (.i2l, 1) := by decide +kernel
theorem d_M_divide_212 : decode b_M_divide 212 = .ok (.ldc2_w 37, 3) := by decide +kernel
theorem d_M_divide_215 : decode b_M_divide 215 = .ok (.lmul, 1) := by decide +kernel
theorem d_M_divide_216 : decode b_M_divide 216 = .ok (.aload_n 0, 1) := by decide +kernel
theorem d_M_divide_217 : decode b_M_divide 217 = .ok (.getfield 7, 3) := by decide +kernel
theorem d_M_divide_220 : decode b_M_divide 220 = .ok (.iload 12, 2) := by decide +kernel
theorem d_M_divide_222 : decode b_M_divide 222 = .ok (.iconst 1, 1) := by decide +kernel
theorem d_M_divide_223 : decode b_M_divide 223 = .ok (.isub, 1) := by decide +kernel
theorem d_M_divide_224 : decode b_M_divide 224 = .ok (.iaload, 1) := by decide +kernel
theorem d_M_divide_225 : decode b_M_divide 225 = .ok (.i2l, 1) := by decide +kernel
theorem d_M_divide_226 : decode b_M_divide 226 = .ok (.ladd, 1) := by decide +kernel
theorem d_M_divide_227 : decode b_M_divide 227 = .ok (.lload 9, 2) := by decide +kernel
theorem d_M_divide_229 : decode b_M_divide 229 = .ok (.ldiv, 1) := by decide +kernel
theorem d_M_divide_230 : decode b_M_divide 230 = .ok (.lstore 13, 2) := by decide +kernel
theorem d_M_divide_232 : decode b_M_divide 232 = .ok (.lload 13, 2) := by decide +kernel
theorem d_M_divide_234 : decode b_M_divide 234 = .ok (.ldc2_w 37, 3) := by decide +kernel
theorem d_M_divide_237 : decode b_M_divide 237 = .ok (.lcmp, 1) := by decide +kernel
theorem d_M_divide_238 : decode b_M_divide 238 = .ok (.ifCond .lt 9, 3) := by decide +kernel
theorem d_M_divide_241 : decode b_M_divide 241 = .ok (.ldc2_w 62, 3) := by decide +kernel
theorem d_M_divide_244 : decode b_M_divide 244 = .ok (.goto 5, 3) := by decide +kernel
theorem d_M_divide_247 : decode b_M_divide 247 = .ok (.lload 13, 2) := by decide +kernel
theorem d_M_divide_249 : decode b_M_divide 249 = .ok (.lstore 13, 2) := by decide +kernel
theorem d_M_divide_251 : decode b_M_divide 251 = .ok (.aload_n 0, 1) := by decide +kernel
theorem d_M_divide_252 : decode b_M_divide 252 = .ok (.iload 11, 2) := by decide +kernel
theorem d_M_divide_254 : decode b_M_divide 254 = .ok (.lload 13, 2) := by decide +kernel
theorem d_M_divide_256 : decode b_M_divide 256 = .ok (.invokevirtual 64, 3) := by decide +kernel
theorem d_M_divide_259 : decode b_M_divide 259 = .ok (.ifCond .eq 27, 3) := by decide +kernel
theorem d_M_divide_262 : decode b_M_divide 262 = .ok (.lload 13, 2) := by decide +kernel
theorem d_M_divide_264 : decode b_M_divide 264 = .ok (.lconst 1, 1) := by decide +kernel
theorem d_M_divide_265 : decode b_M_divide 265 = .ok (.lsub, 1) := by decide +kernel
theorem d_M_divide_266 : decode b_M_divide 266 = .ok (.lstore 13, 2) := by decide +kernel
theorem d_M_divide_268 : decode b_M_divide 268 = .ok (.aload_n 0, 1) := by decide +kernel
theorem d_M_divide_269 : decode b_M_divide 269 = .ok (.iload 11, 2) := by decide +kernel
theorem d_M_divide_271 : decode b_M_divide 271 = .ok (.invokevirtual 68, 3) := by decide +kernel
theorem d_M_divide_274 : decode b_M_divide 274 = .ok (.ifCond .ne 12, 3) := by decide +kernel
theorem d_M_divide_277 : decode b_M_divide 277 = .ok (.lload 13, 2) := by decide +kernel
theorem d_M_divide_279 : decode b_M_divide 279 = .ok (.lconst 1, 1) := by decide +kernel
theorem d_M_divide_280 : decode b_M_divide 280 = .ok (.lsub, 1) := by decide +kernel
theorem d_M_divide_281 : decode b_M_divide 281 = .ok (.lstore 13, 2) := by decide +kernel
theorem d_M_divide_283 : decode b_M_divide 283 = .ok (.goto (-15), 3) := by decide +kernel
theorem d_M_divide_286 : decode b_M_divide 286 = .ok (.aload_n 0, 1) := by decide +kernel
theorem d_M_divide_287 : decode b_M_divide 287 = .ok (.getfield 7, 3) := by decide +kernel
theorem d_M_divide_290 : decode b_M_divide 290 = .ok (.sipush 11100, 3) := by decide +kernel
theorem d_M_divide_293 : decode b_M_divide 293 = .ok (.iload 11, 2) := by decide +kernel
theorem d_M_divide_295 : decode b_M_divide 295 = .ok (.iadd, 1) := by decide +kernel
theorem d_M_divide_296 : decode b_M_divide 296 = .ok (.lload 13, 2) := by decide +kernel
theorem d_M_divide_298 : decode b_M_divide 298 = .ok (.l2i, 1) := by decide +kernel
theorem d_M_divide_299 : decode b_M_divide 299 = .ok (.iastore, 1) := by decide +kernel
theorem d_M_divide_300 : decode b_M_divide 300 = .ok (.iinc 11 (-1), 3) := by decide +kernel
theorem d_M_divide_303 : decode b_M_divide 303 = .ok (.goto (-115), 3) := by decide +kernel
theorem d_M_divide_306 : decode b_M_divide 306 = .ok (.aload_n 0, 1) := by decide +kernel
theorem d_M_divide_307 : decode b_M_divide 307 = .ok (.getfield 13, 3) := by decide +kernel
theorem d_M_divide_310 : decode b_M_divide 310 = .ok (.bipush 37, 2) := by decide +kernel
theorem d_M_divide_312 : decode b_M_divide 312 = .ok (.iload 8, 2) := by decide +kernel
theorem d_M_divide_314 : decode b_M_divide 314 = .ok (.iconst 1, 1) := by decide +kernel
theorem d_M_divide_315 : decode b_M_divide 315 = .ok (.iadd, 1) := by decide +kernel
theorem d_M_divide_316 : decode b_M_divide 316 = .ok (.iastore, 1) := by decide +kernel
theorem d_M_divide_317 : decode b_M_divide 317 = .ok (.aload_n 0, 1) := by decide +kernel
theorem d_M_divide_318 : decode b_M_divide 318 = .ok (.getfield 16, 3) := by decide +kernel
theorem d_M_divide_321 : decode b_M_divide 321 = .ok (.bipush 37, 2) := by decide +kernel
theorem d_M_divide_323 : decode b_M_divide 323 = .ok (.iload 4, 2) := by decide +kernel
theorem d_M_divide_325 : decode b_M_divide 325 = .ok (.bastore, 1) := by decide +kernel
theorem d_M_divide_326 : decode b_M_divide 326 = .ok (.aload_n 0, 1) := by decide +kernel
theorem d_M_divide_327 : decode b_M_divide 327 = .ok (.bipush 37, 2) := by decide +kernel
theorem d_M_divide_329 : decode b_M_divide 329 = .ok (.invokevirtual 39, 3) := by decide +kernel
theorem d_M_divide_332 : decode b_M_divide 332 = .ok (.iconst 0, 1) := by decide +kernel
theorem d_M_divide_333 : decode b_M_divide 333 = .ok (.istore 11, 2) := by decide +kernel
theorem d_M_divide_335 : decode b_M_divide 335 = .ok (.iload 7, 2) := by decide +kernel
theorem d_M_divide_337 : decode b_M_divide 337 = .ok (.iconst 1, 1) := by decide +kernel
theorem d_M_divide_338 : decode b_M_divide 338 = .ok (.isub, 1) := by decide +kernel
theorem d_M_divide_339 : decode b_M_divide 339 = .ok (.istore 12, 2) := by decide +kernel
theorem d_M_divide_341 : decode b_M_divide 341 = .ok (.iload 12, 2) := by decide +kernel
theorem d_M_divide_343 : decode b_M_divide 343 = .ok (.ifCond .lt 58, 3) := by decide +kernel
theorem d_M_divide_346 : decode b_M_divide 346 = .ok (.iload 11, 2) := by decide +kernel
theorem d_M_divide_348 : decode b_M_divide 348 = .ok (.i2l, 1) := by decide +kernel
theorem d_M_divide_349 : decode b_M_divide 349 = .ok (.ldc2_w 37, 3) := by decide +kernel
theorem d_M_divide_352 : decode b_M_divide 352 = .ok (.lmul, 1) := by decide +kernel
theorem d_M_divide_353 : decode b_M_divide 353 = .ok (.aload_n 0, 1) := by decide +kernel
theorem d_M_divide_354 : decode b_M_divide 354 = .ok (.getfield 7, 3) := by decide +kernel
theorem d_M_divide_357 : decode b_M_divide 357 = .ok (.sipush 10800, 3) := by decide +kernel
theorem d_M_divide_360 : decode b_M_divide 360 = .ok (.iload 12, 2) := by decide +kernel
theorem d_M_divide_362 : decode b_M_divide 362 = .ok (.iadd, 1) := by decide +kernel
theorem d_M_divide_363 : decode b_M_divide 363 = .ok (.iaload, 1) := by decide +kernel
theorem d_M_divide_364 : decode b_M_divide 364 = .ok (.i2l, 1) := by decide +kernel
theorem d_M_divide_365 : decode b_M_divide 365 = .ok (.ladd, 1) := by decide +kernel
theorem d_M_divide_366 : decode b_M_divide 366 = .ok (.lstore 13, 2) := by decide +kernel
theorem d_M_divide_368 : decode b_M_divide 368 = .ok (.aload_n 0, 1) := by decide +kernel
theorem d_M_divide_369 : decode b_M_divide 369 = .ok (.getfield 7, 3) := by decide +kernel
theorem d_M_divide_372 : decode b_M_divide 372 = .ok (.sipush 10800, 3) := by decide +kernel
theorem d_M_divide_375 : decode b_M_divide 375 = .ok (.iload 12, 2) := by decide +kernel
theorem d_M_divide_377 : decode b_M_divide 377 = .ok (.iadd, 1) := by decide +kernel
theorem d_M_divide_378 : decode b_M_divide 378 = .ok (.lload 13, 2) := by decide +kernel
theorem d_M_divide_380 : decode b_M_divide 380 = .ok (.iload 5, 2) := by decide +kernel
theorem d_M_divide_382 : decode b_M_divide 382 = .ok (.i2l, 1) := by decide +kernel
theorem d_M_divide_383 : decode b_M_divide 383 = .ok (.ldiv, 1) := by decide +kernel
theorem d_M_divide_384 : decode b_M_divide 384 = .ok (.l2i, 1) := by decide +kernel
theorem d_M_divide_385 : decode b_M_divide 385 = .ok (.iastore, 1) := by decide +kernel
theorem d_M_divide_386 : decode b_M_divide 386 = .ok (.lload 13, 2) := by decide +kernel
theorem d_M_divide_388 : decode b_M_divide 388 = .ok (.iload 5, 2) := by decide +kernel
theorem d_M_divide_390 : decode b_M_divide 390 = .ok (.i2l, 1) := by decide +kernel
theorem d_M_divide_391 : decode b_M_divide 391 = .ok (.lrem, 1) := by decide +kernel
theorem d_M_divide_392 : decode b_M_divide 392 = .ok (.l2i, 1) := by decide +kernel
theorem d_M_divide_393 : decode b_M_divide 393 = .ok (.istore 11, 2) := by decide +kernel
theorem d_M_divide_395 : decode b_M_divide 395 = .ok (.iinc 12 (-1), 3) := by decide +kernel
theorem d_M_divide_398 : decode b_M_divide 398 = .ok (.goto (-57), 3) := by decide +kernel
theorem d_M_divide_401 : decode b_M_divide 401 = .ok (.aload_n 0, 1) := by decide +kernel
theorem d_M_divide_402 : decode b_M_divide 402 = .ok (.getfield 13, 3) := by decide +kernel
theorem d_M_divide_405 : decode b_M_divide 405 = .ok (.bipush 36, 2) := by decide +kernel
theorem d_M_divide_407 : decode b_M_divide 407 = .ok (.iload 7, 2) := by decide +kernel
theorem d_M_divide_409 : decode b_M_divide 409 = .ok (.iastore, 1) := by decide +kernel
theorem d_M_divide_410 : decode b_M_divide 410 = .ok (.aload_n 0, 1) := by decide +kernel
theorem d_M_divide_411 : decode b_M_divide 411 = .ok (.getfield 16, 3) := by decide +kernel
theorem d_M_divide_414 : decode b_M_divide 414 = .ok (.bipush 36, 2) := by decide +kernel
theorem d_M_divide_416 : decode b_M_divide 416 = .ok (.iload_n 3, 1) := by decide +kernel
theorem d_M_divide_417 : decode b_M_divide 417 = .ok (.bastore, 1) := by decide +kernel
theorem d_M_divide_418 : decode b_M_divide 418 = .ok (.aload_n 0, 1) := by decide +kernel
theorem d_M_divide_419 : decode b_M_divide 419 = .ok (.bipush 36, 2) := by decide +kernel
theorem d_M_divide_421 : decode b_M_divide 421 = .ok (.invokevirtual 39, 3) := by decide +kernel
theorem d_M_divide_424 : decode b_M_divide 424 = .ok (.return_, 1) := by decide +kernel
theorem d_M_compareSizes_0 : decode b_M_compareSizes 0 = .ok (.aload_n 0, 1) := by decide +kernel
theorem d_M_compareSizes_1 : decode b_M_compareSizes 1 = .ok (.getfield 13, 3) := by decide +kernel
theorem d_M_compareSizes_4 : decode b_M_compareSizes 4 = .ok (.iload_n 1, 1) := by decide +kernel
theorem d_M_compareSizes_5 : decode b_M_compareSizes 5 = .ok (.iaload, 1) := by decide +kernel
theorem d_M_compareSizes_6 : decode b_M_compareSizes 6 = .ok (.aload_n 0, 1) := by decide +kernel
theorem d_M_compareSizes_7 : decode b_M_compareSizes 7 = .ok (.getfield 13, 3) := by decide +kernel
theorem d_M_compareSizes_10 : decode b_M_compareSizes 10 = .ok (.iload_n 2, 1) := by decide +kernel
theorem d_M_compareSizes_11 : decode b_M_compareSizes 11 = .ok (.iaload, 1) := by decide +kernel
theorem d_M_compareSizes_12 : decode b_M_compareSizes 12 = .ok (.if_icmp .eq 24, 3) := by decide +kernel
theorem d_M_compareSizes_15 : decode b_M_compareSizes 15 = .ok (.aload_n 0, 1) := by decide +kernel
theorem d_M_compareSizes_16 : decode b_M_compareSizes 16 = .ok (.getfield 13, 3) := by decide +kernel
theorem d_M_compareSizes_19 : decode b_M_compareSizes 19 = .ok (.iload_n 1, 1) := by decide +kernel
theorem d_M_compareSizes_20 : decode b_M_compareSizes 20 = .ok (.iaload, 1) := by decide +kernel
theorem d_M_compareSizes_21 : decode b_M_compareSizes 21 = .ok (.aload_n 0, 1) := by decide +kernel
theorem d_M_compareSizes_22 : decode b_M_compareSizes 22 = .ok (.getfield 13, 3) := by decide +kernel
theorem d_M_compareSizes_25 : decode b_M_compareSizes 25 = .ok (.iload_n 2, 1) := by decide +kernel
theorem d_M_compareSizes_26 : decode b_M_compareSizes 26 = .ok (.iaload, 1) := by decide +kernel
theorem d_M_compareSizes_27 : decode b_M_compareSizes 27 = .ok (.if_icmp .ge 7, 3) := by decide +kernel
theorem d_M_compareSizes_30 : decode b_M_compareSizes 30 = .ok (.iconst (-1), 1) := by decide +kernel
theorem d_M_compareSizes_31 : decode b_M_compareSizes 31 = .ok (.goto 4, 3) := by decide +kernel
theorem d_M_compareSizes_34 : decode b_M_compareSizes 34 = .ok (.iconst 1, 1) := by decide +kernel
theorem d_M_compareSizes_35 : decode b_M_compareSizes 35 = .ok (.ireturn, 1) := by decide +kernel
theorem d_M_compareSizes_36 : decode b_M_compareSizes 36 = .ok (.aload_n 0, 1) := by decide +kernel
theorem d_M_compareSizes_37 : decode b_M_compareSizes 37 = .ok (.getfield 13, 3) := by decide +kernel
theorem d_M_compareSizes_40 : decode b_M_compareSizes 40 = .ok (.iload_n 1, 1) := by decide +kernel
theorem d_M_compareSizes_41 : decode b_M_compareSizes 41 = .ok (.iaload, 1) := by decide +kernel
theorem d_M_compareSizes_42 : decode b_M_compareSizes 42 = .ok (.iconst 1, 1) := by decide +kernel
theorem d_M_compareSizes_43 : decode b_M_compareSizes 43 = .ok (.isub, 1) := by decide +kernel
theorem d_M_compareSizes_44 : decode b_M_compareSizes 44 = .ok (.istore_n 3, 1) := by decide +kernel
theorem d_M_compareSizes_45 : decode b_M_compareSizes 45 = .ok (.iload_n 3, 1) := by decide +kernel
theorem d_M_compareSizes_46 : decode b_M_compareSizes 46 = .ok (.ifCond .lt 36, 3) := by decide +kernel
theorem d_M_compareSizes_49 : decode b_M_compareSizes 49 = .ok (.aload_n 0, 1) := by decide +kernel
theorem d_M_compareSizes_50 : decode b_M_compareSizes 50 = .ok (.getfield 7, 3) := by decide +kernel
theorem d_M_compareSizes_53 : decode b_M_compareSizes 53 = .ok (.sipush 300, 3) := by decide +kernel
theorem d_M_compareSizes_56 : decode b_M_compareSizes 56 = .ok (.iload_n 1, 1) := by decide +kernel
theorem d_M_compareSizes_57 : decode b_M_compareSizes 57 = .ok (.imul, 1) := by decide +kernel
theorem d_M_compareSizes_58 : decode b_M_compareSizes 58 = .ok (.iload_n 3, 1) := by decide +kernel
theorem d_M_compareSizes_59 : decode b_M_compareSizes 59 = .ok (.iadd, 1) := by decide +kernel
theorem d_M_compareSizes_60 : decode b_M_compareSizes 60 = .ok (.iaload, 1) := by decide +kernel
theorem d_M_compareSizes_61 : decode b_M_compareSizes 61 = .ok (.aload_n 0, 1) := by decide +kernel
theorem d_M_compareSizes_62 : decode b_M_compareSizes 62 = .ok (.getfield 7, 3) := by decide +kernel
theorem d_M_compareSizes_65 : decode b_M_compareSizes 65 = .ok (.sipush 300, 3) := by decide +kernel
theorem d_M_compareSizes_68 : decode b_M_compareSizes 68 = .ok (.iload_n 2, 1) := by decide +kernel
theorem d_M_compareSizes_69 : decode b_M_compareSizes 69 = .ok (.imul, 1) := by decide +kernel
theorem d_M_compareSizes_70 : decode b_M_compareSizes 70 = .ok (.iload_n 3, 1) := by decide +kernel
theorem d_M_compareSizes_71 : decode b_M_compareSizes 71 = .ok (.iadd, 1) := by decide +kernel
theorem d_M_compareSizes_72 : decode b_M_compareSizes 72 = .ok (.iaload, 1) := by decide +kernel
theorem d_M_compareSizes_73 : decode b_M_compareSizes 73 = .ok (.if_icmp .ne 9, 3) := by decide +kernel
theorem d_M_compareSizes_76 : decode b_M_compareSizes 76 = .ok (.iinc 3 (-1), 3) := by decide +kernel
theorem d_M_compareSizes_79 : decode b_M_compareSizes 79 = .ok (.goto (-34), 3) := by decide +kernel
theorem d_M_compareSizes_82 : decode b_M_compareSizes 82 = .ok (.iload_n 3, 1) := by decide +kernel
theorem d_M_compareSizes_83 : decode b_M_compareSizes 83 = .ok (.ifCond .ge 7, 3) := by decide +kernel
theorem d_M_compareSizes_86 : decode b_M_compareSizes 86 = .ok (.iconst 0, 1) := by decide +kernel
theorem d_M_compareSizes_87 : decode b_M_compareSizes 87 = .ok (.goto 35, 3) := by decide +kernel
theorem d_M_compareSizes_90 : decode b_M_compareSizes 90 = .ok (.aload_n 0, 1) := by decide +kernel
theorem d_M_compareSizes_91 : decode b_M_compareSizes 91 = .ok (.getfield 7, 3) := by decide +kernel
theorem d_M_compareSizes_94 : decode b_M_compareSizes 94 = .ok (.sipush 300, 3) := by decide +kernel
theorem d_M_compareSizes_97 : decode b_M_compareSizes 97 = .ok (.iload_n 1, 1) := by decide +kernel
theorem d_M_compareSizes_98 : decode b_M_compareSizes 98 = .ok (.imul, 1) := by decide +kernel
theorem d_M_compareSizes_99 : decode b_M_compareSizes 99 = .ok (.iload_n 3, 1) := by decide +kernel
theorem d_M_compareSizes_100 : decode b_M_compareSizes 100 = .ok (.iadd, 1) := by decide +kernel
theorem d_M_compareSizes_101 : decode b_M_compareSizes 101 = .ok (.iaload, 1) := by decide +kernel
theorem d_M_compareSizes_102 : decode b_M_compareSizes 102 = .ok (.aload_n 0, 1) := by decide +kernel
theorem d_M_compareSizes_103 : decode b_M_compareSizes 103 = .ok (.getfield 7, 3) := by decide +kernel
theorem d_M_compareSizes_106 : decode b_M_compareSizes 106 = .ok (.sipush 300, 3) := by decide +kernel
theorem d_M_compareSizes_109 : decode b_M_compareSizes 109 = .ok (.iload_n 2, 1) := by decide +kernel
theorem d_M_compareSizes_110 : decode b_M_compareSizes 110 = .ok (.imul, 1) := by decide +kernel
theorem d_M_compareSizes_111 : decode b_M_compareSizes 111 = .ok (.iload_n 3, 1) := by decide +kernel
theorem d_M_compareSizes_112 : decode b_M_compareSizes 112 = .ok (.iadd, 1) := by decide +kernel
theorem d_M_compareSizes_113 : decode b_M_compareSizes 113 = .ok (.iaload, 1) := by decide +kernel
theorem d_M_compareSizes_114 : decode b_M_compareSizes 114 = .ok (.if_icmp .ge 7, 3) := by decide +kernel
theorem d_M_compareSizes_117 : decode b_M_compareSizes 117 = .ok (.iconst (-1), 1) := by decide +kernel
theorem d_M_compareSizes_118 : decode b_M_compareSizes 118 = .ok (.goto 4, 3) := by decide +kernel
theorem d_M_compareSizes_121 : decode b_M_compareSizes 121 = .ok (.iconst 1, 1) := by decide +kernel
theorem d_M_compareSizes_122 : decode b_M_compareSizes 122 = .ok (.ireturn, 1) := by decide +kernel
theorem d_M_scale_0 : decode b_M_scale 0 = .ok (.lconst 0, 1) := by decide +kernel
theorem d_M_scale_1 : decode b_M_scale 1 = .ok (.lstore 4, 2) := by decide +kernel
theorem d_M_scale_3 : decode b_M_scale 3 = .ok (.aload_n 0, 1) := by decide +kernel
theorem d_M_scale_4 : decode b_M_scale 4 = .ok (.getfield 13, 3) := by decide +kernel
theorem d_M_scale_7 : decode b_M_scale 7 = .ok (.iload_n 2, 1) := by decide +kernel
theorem d_M_scale_8 : decode b_M_scale 8 = .ok (.iaload, 1) := by decide +kernel
theorem d_M_scale_9 : decode b_M_scale 9 = .ok (.istore 6, 2) := by decide +kernel
theorem d_M_scale_11 : decode b_M_scale 11 = .ok (.iconst 0, 1) := by decide +kernel
theorem d_M_scale_12 : decode b_M_scale 12 = .ok (.istore 7, 2) := by decide +kernel
theorem d_M_scale_14 : decode b_M_scale 14 = .ok (.iload 7, 2) := by decide +kernel
theorem d_M_scale_16 : decode b_M_scale 16 = .ok (.iload 6, 2) := by decide +kernel
theorem d_M_scale_18 : decode b_M_scale 18 = .ok (.if_icmp .ge 59, 3) := by decide +kernel
theorem d_M_scale_21 : decode b_M_scale 21 = .ok (.aload_n 0, 1) := by decide +kernel
theorem d_M_scale_22 : decode b_M_scale 22 = .ok (.getfield 7, 3) := by decide +kernel
theorem d_M_scale_25 : decode b_M_scale 25 = .ok (.sipush 300, 3) := by decide +kernel
theorem d_M_scale_28 : decode b_M_scale 28 = .ok (.iload_n 2, 1) := by decide +kernel
theorem d_M_scale_29 : decode b_M_scale 29 = .ok (.imul, 1) := by decide +kernel
theorem d_M_scale_30 : decode b_M_scale 30 = .ok (.iload 7, 2) := by decide +kernel
theorem d_M_scale_32 : decode b_M_scale 32 = .ok (.iadd, 1) := by decide +kernel
theorem d_M_scale_33 : decode b_M_scale 33 = .ok (.iaload, 1) := by decide +kernel
theorem d_M_scale_34 : decode b_M_scale 34 = .ok (.i2l, 1) := by decide +kernel
theorem d_M_scale_35 : decode b_M_scale 35 = .ok (.iload_n 3, 1) := by decide +kernel
theorem d_M_scale_36 : decode b_M_scale 36 = .ok (.i2l, 1) := by decide +kernel
theorem d_M_scale_37 : decode b_M_scale 37 = .ok (.lmul, 1) := by decide +kernel
theorem d_M_scale_38 : decode b_M_scale 38 = .ok (.lload 4, 2) := by decide +kernel
theorem d_M_scale_40 : decode b_M_scale 40 = .ok (.ladd, 1) := by decide +kernel
theorem d_M_scale_41 : decode b_M_scale 41 = .ok (.lstore 8, 2) := by decide +kernel
theorem d_M_scale_43 : decode b_M_scale 43 = .ok (.aload_n 0, 1) := by decide +kernel
theorem d_M_scale_44 : decode b_M_scale 44 = .ok (.getfield 7, 3) := by decide +kernel
theorem d_M_scale_47 : decode b_M_scale 47 = .ok (.sipush 300, 3) := by decide +kernel
theorem d_M_scale_50 : decode b_M_scale 50 = .ok (.iload_n 1, 1) := by decide +kernel
theorem d_M_scale_51 : decode b_M_scale 51 = .ok (.imul, 1) := by decide +kernel
theorem d_M_scale_52 : decode b_M_scale 52 = .ok (.iload 7, 2) := by decide +kernel
theorem d_M_scale_54 : decode b_M_scale 54 = .ok (.iadd, 1) := by decide +kernel
theorem d_M_scale_55 : decode b_M_scale 55 = .ok (.lload 8, 2) := by decide +kernel
theorem d_M_scale_57 : decode b_M_scale 57 = .ok (.ldc2_w 37, 3) := by decide +kernel
theorem d_M_scale_60 : decode b_M_scale 60 = .ok (.lrem, 1) := by decide +kernel
theorem d_M_scale_61 : decode b_M_scale 61 = .ok (.l2i, 1) := by decide +kernel
theorem d_M_scale_62 : decode b_M_scale 62 = .ok (.iastore, 1) := by decide +kernel
theorem d_M_scale_63 : decode b_M_scale 63 = .ok (.lload 8, 2) := by decide +kernel
theorem d_M_scale_65 : decode b_M_scale 65 = .ok (.ldc2_w 37, 3) := by decide +kernel
theorem d_M_scale_68 : decode b_M_scale 68 = .ok (.ldiv, 1) := by decide +kernel
theorem d_M_scale_69 : decode b_M_scale 69 = .ok (.lstore 4, 2) := by decide +kernel
theorem d_M_scale_71 : decode b_M_scale 71 = .ok (.iinc 7 1, 3) := by decide +kernel
theorem d_M_scale_74 : decode b_M_scale 74 = .ok (.goto (-60), 3) := by decide +kernel
theorem d_M_scale_77 : decode b_M_scale 77 = .ok (.aload_n 0, 1) := by decide +kernel
theorem d_M_scale_78 : decode b_M_scale 78 = .ok (.getfield 7, 3) := by decide +kernel
theorem d_M_scale_81 : decode b_M_scale 81 = .ok (.sipush 300, 3) := by decide +kernel
theorem d_M_scale_84 : decode b_M_scale 84 = .ok (.iload_n 1, 1) := by decide +kernel
theorem d_M_scale_85 : decode b_M_scale 85 = .ok (.imul, 1) := by decide +kernel
theorem d_M_scale_86 : decode b_M_scale 86 = .ok (.iload 6, 2) := by decide +kernel
theorem d_M_scale_88 : decode b_M_scale 88 = .ok (.iadd, 1) := by decide +kernel
theorem d_M_scale_89 : decode b_M_scale 89 = .ok (.lload 4, 2) := by decide +kernel
theorem d_M_scale_91 : decode b_M_scale 91 = .ok (.l2i, 1) := by decide +kernel
theorem d_M_scale_92 : decode b_M_scale 92 = .ok (.iastore, 1) := by decide +kernel
theorem d_M_scale_93 : decode b_M_scale 93 = .ok (.aload_n 0, 1) := by decide +kernel
theorem d_M_scale_94 : decode b_M_scale 94 = .ok (.getfield 13, 3) := by decide +kernel
theorem d_M_scale_97 : decode b_M_scale 97 = .ok (.iload_n 1, 1) := by decide +kernel
theorem d_M_scale_98 : decode b_M_scale 98 = .ok (.iload 6, 2) := by decide +kernel
theorem d_M_scale_100 : decode b_M_scale 100 = .ok (.iconst 1, 1) := by decide +kernel
theorem d_M_scale_101 : decode b_M_scale 101 = .ok (.iadd, 1) := by decide +kernel
theorem d_M_scale_102 : decode b_M_scale 102 = .ok (.iastore, 1) := by decide +kernel
theorem d_M_scale_103 : decode b_M_scale 103 = .ok (.aload_n 0, 1) := by decide +kernel
theorem d_M_scale_104 : decode b_M_scale 104 = .ok (.iload_n 1, 1) := by decide +kernel
theorem d_M_scale_105 : decode b_M_scale 105 = .ok (.invokevirtual 39, 3) := by decide +kernel
theorem d_M_scale_108 : decode b_M_scale 108 = .ok (.return_, 1) := by decide +kernel
theorem d_M_takes_0 : decode b_M_takes 0 = .ok (.aload_n 0, 1) := by decide +kernel
theorem d_M_takes_1 : decode b_M_takes 1 = .ok (.getfield 13, 3) := by decide +kernel
theorem d_M_takes_4 : decode b_M_takes 4 = .ok (.bipush 38, 2) := by decide +kernel
theorem d_M_takes_6 : decode b_M_takes 6 = .ok (.iaload, 1) := by decide +kernel
theorem d_M_takes_7 : decode b_M_takes 7 = .ok (.istore 4, 2) := by decide +kernel
theorem d_M_takes_9 : decode b_M_takes 9 = .ok (.lconst 0, 1) := by decide +kernel
theorem d_M_takes_10 : decode b_M_takes 10 = .ok (.lstore 5, 2) := by decide +kernel
theorem d_M_takes_12 : decode b_M_takes 12 = .ok (.iconst 0, 1) := by decide +kernel
theorem d_M_takes_13 : decode b_M_takes 13 = .ok (.istore 7, 2) := by decide +kernel
theorem d_M_takes_15 : decode b_M_takes 15 = .ok (.iload 7, 2) := by decide +kernel
theorem d_M_takes_17 : decode b_M_takes 17 = .ok (.iload 4, 2) := by decide +kernel
theorem d_M_takes_19 : decode b_M_takes 19 = .ok (.if_icmp .gt 109, 3) := by decide +kernel
theorem d_M_takes_22 : decode b_M_takes 22 = .ok (.aload_n 0, 1) := by decide +kernel
theorem d_M_takes_23 : decode b_M_takes 23 = .ok (.getfield 7, 3) := by decide +kernel
theorem d_M_takes_26 : decode b_M_takes 26 = .ok (.sipush 10800, 3) := by decide +kernel
theorem d_M_takes_29 : decode b_M_takes 29 = .ok (.iload_n 1, 1) := by decide +kernel
theorem d_M_takes_30 : decode b_M_takes 30 = .ok (.iadd, 1) := by decide +kernel
theorem d_M_takes_31 : decode b_M_takes 31 = .ok (.iload 7, 2) := by decide +kernel
theorem d_M_takes_33 : decode b_M_takes 33 = .ok (.iadd, 1) := by decide +kernel
theorem d_M_takes_34 : decode b_M_takes 34 = .ok (.iaload, 1) := by decide +kernel
theorem d_M_takes_35 : decode b_M_takes 35 = .ok (.i2l, 1) := by decide +kernel
theorem d_M_takes_36 : decode b_M_takes 36 = .ok (.iload 7, 2) := by decide +kernel
theorem d_M_takes_38 : decode b_M_takes 38 = .ok (.iload 4, 2) := by decide +kernel
theorem d_M_takes_40 : decode b_M_takes 40 = .ok (.if_icmp .ge 20, 3) := by decide +kernel
theorem d_M_takes_43 : decode b_M_takes 43 = .ok (.aload_n 0, 1) := by decide +kernel
theorem d_M_takes_44 : decode b_M_takes 44 = .ok (.getfield 7, 3) := by decide +kernel
theorem d_M_takes_47 : decode b_M_takes 47 = .ok (.sipush 11400, 3) := by decide +kernel
theorem d_M_takes_50 : decode b_M_takes 50 = .ok (.iload 7, 2) := by decide +kernel
theorem d_M_takes_52 : decode b_M_takes 52 = .ok (.iadd, 1) := by decide +kernel
theorem d_M_takes_53 : decode b_M_takes 53 = .ok (.iaload, 1) := by decide +kernel
theorem d_M_takes_54 : decode b_M_takes 54 = .ok (.i2l, 1) := by decide +kernel
theorem d_M_takes_55 : decode b_M_takes 55 = .ok (.lload_n 2, 1) := by decide +kernel
theorem d_M_takes_56 : decode b_M_takes 56 = .ok (.lmul, 1) := by decide +kernel
theorem d_M_takes_57 : decode b_M_takes 57 = .ok (.goto 4, 3) := by decide +kernel
theorem d_M_takes_60 : decode b_M_takes 60 = .ok (.lconst 0, 1) := by decide +kernel
theorem d_M_takes_61 : decode b_M_takes 61 = .ok (.lsub, 1) := by decide +kernel
theorem d_M_takes_62 : decode b_M_takes 62 = .ok (.lload 5, 2) := by decide +kernel
theorem d_M_takes_64 : decode b_M_takes 64 = .ok (.lsub, 1) := by decide +kernel
theorem d_M_takes_65 : decode b_M_takes 65 = .ok (.lstore 8, 2) := by decide +kernel
theorem d_M_takes_67 : decode b_M_takes 67 = .ok (.lload 8, 2) := by decide +kernel
theorem d_M_takes_69 : decode b_M_takes 69 = .ok (.ldc2_w 37, 3) := by decide +kernel
theorem d_M_takes_72 : decode b_M_takes 72 = .ok (.lrem, 1) := by decide +kernel
theorem d_M_takes_73 : decode b_M_takes 73 = .ok (.lstore 10, 2) := by decide +kernel
theorem d_M_takes_75 : decode b_M_takes 75 = .ok (.lload 10, 2) := by decide +kernel
theorem d_M_takes_77 : decode b_M_takes 77 = .ok (.lconst 0, 1) := by decide +kernel
theorem d_M_takes_78 : decode b_M_takes 78 = .ok (.lcmp, 1) := by decide +kernel
theorem d_M_takes_79 : decode b_M_takes 79 = .ok (.ifCond .ge 12, 3) := by decide +kernel
theorem d_M_takes_82 : decode b_M_takes 82 = .ok (.lload 10, 2) := by decide +kernel
theorem d_M_takes_84 : decode b_M_takes 84 = .ok (.ldc2_w 37, 3) := by decide +kernel
theorem d_M_takes_87 : decode b_M_takes 87 = .ok (.ladd, 1) := by decide +kernel
theorem d_M_takes_88 : decode b_M_takes 88 = .ok (.goto 5, 3) := by decide +kernel
theorem d_M_takes_91 : decode b_M_takes 91 = .ok (.lload 10, 2) := by decide +kernel
theorem d_M_takes_93 : decode b_M_takes 93 = .ok (.lstore 10, 2) := by decide +kernel
theorem d_M_takes_95 : decode b_M_takes 95 = .ok (.aload_n 0, 1) := by decide +kernel
theorem d_M_takes_96 : decode b_M_takes 96 = .ok (.getfield 7, 3) := by decide +kernel
theorem d_M_takes_99 : decode b_M_takes 99 = .ok (.sipush 10800, 3) := by decide +kernel
theorem d_M_takes_102 : decode b_M_takes 102 = .ok (.iload_n 1, 1) := by decide +kernel
theorem d_M_takes_103 : decode b_M_takes 103 = .ok (.iadd, 1) := by decide +kernel
theorem d_M_takes_104 : decode b_M_takes 104 = .ok (.iload 7, 2) := by decide +kernel
theorem d_M_takes_106 : decode b_M_takes 106 = .ok (.iadd, 1) := by decide +kernel
theorem d_M_takes_107 : decode b_M_takes 107 = .ok (.lload 10, 2) := by decide +kernel
theorem d_M_takes_109 : decode b_M_takes 109 = .ok (.l2i, 1) := by decide +kernel
theorem d_M_takes_110 : decode b_M_takes 110 = .ok (.iastore, 1) := by decide +kernel
theorem d_M_takes_111 : decode b_M_takes 111 = .ok (.lload 10, 2) := by decide +kernel
theorem d_M_takes_113 : decode b_M_takes 113 = .ok (.lload 8, 2) := by decide +kernel
theorem d_M_takes_115 : decode b_M_takes 115 = .ok (.lsub, 1) := by decide +kernel
theorem d_M_takes_116 : decode b_M_takes 116 = .ok (.ldc2_w 37, 3) := by decide +kernel
theorem d_M_takes_119 : decode b_M_takes 119 = .ok (.ldiv, 1) := by decide +kernel
theorem d_M_takes_120 : decode b_M_takes 120 = .ok (.lstore 5, 2) := by decide +kernel
theorem d_M_takes_122 : decode b_M_takes 122 = .ok (.iinc 7 1, 3) := by decide +kernel
theorem d_M_takes_125 : decode b_M_takes 125 = .ok (.goto (-110), 3) := by decide +kernel
theorem d_M_takes_128 : decode b_M_takes 128 = .ok (.lload 5, 2) := by decide +kernel
theorem d_M_takes_130 : decode b_M_takes 130 = .ok (.lconst 0, 1) := by decide +kernel
theorem d_M_takes_131 : decode b_M_takes 131 = .ok (.lcmp, 1) := by decide +kernel
theorem d_M_takes_132 : decode b_M_takes 132 = .ok (.ifCond .le 7, 3) := by decide +kernel
theorem d_M_takes_135 : decode b_M_takes 135 = .ok (.iconst 1, 1) := by decide +kernel
theorem d_M_takes_136 : decode b_M_takes 136 = .ok (.goto 4, 3) := by decide +kernel
theorem d_M_takes_139 : decode b_M_takes 139 = .ok (.iconst 0, 1) := by decide +kernel
theorem d_M_takes_140 : decode b_M_takes 140 = .ok (.ireturn, 1) := by decide +kernel
theorem d_M_givesBack_0 : decode b_M_givesBack 0 = .ok (.aload_n 0, 1) := by decide +kernel
theorem d_M_givesBack_1 : decode b_M_givesBack 1 = .ok (.getfield 13, 3) := by decide +kernel
theorem d_M_givesBack_4 : decode b_M_givesBack 4 = .ok (.bipush 38, 2) := by decide +kernel
theorem d_M_givesBack_6 : decode b_M_givesBack 6 = .ok (.iaload, 1) := by decide +kernel
theorem d_M_givesBack_7 : decode b_M_givesBack 7 = .ok (.istore_n 2, 1) := by decide +kernel
theorem d_M_givesBack_8 : decode b_M_givesBack 8 = .ok (.iconst 0, 1) := by decide +kernel
theorem d_M_givesBack_9 : decode b_M_givesBack 9 = .ok (.istore_n 3, 1) := by decide +kernel
theorem d_M_givesBack_10 : decode b_M_givesBack 10 = .ok (.iconst 0, 1) := by decide +kernel
theorem d_M_givesBack_11 : decode b_M_givesBack 11 = .ok (.istore 4, 2) := by decide +kernel
theorem d_M_givesBack_13 : decode b_M_givesBack 13 = .ok (.iload 4, 2) := by decide +kernel
theorem d_M_givesBack_15 : decode b_M_givesBack 15 = .ok (.iload_n 2, 1) := by decide +kernel
theorem d_M_givesBack_16 : decode b_M_givesBack 16 = .ok (.if_icmp .gt 72, 3) := by decide +kernel
theorem d_M_givesBack_19 : decode b_M_givesBack 19 = .ok (.aload_n 0, 1) := by decide +kernel
theorem d_M_givesBack_20 : decode b_M_givesBack 20 = .ok (.getfield 7, 3) := by decide +kernel
theorem d_M_givesBack_23 : decode b_M_givesBack 23 = .ok (.sipush 10800, 3) := by decide +kernel
theorem d_M_givesBack_26 : decode b_M_givesBack 26 = .ok (.iload_n 1, 1) := by decide +kernel
theorem d_M_givesBack_27 : decode b_M_givesBack 27 = .ok (.iadd, 1) := by decide +kernel
theorem d_M_givesBack_28 : decode b_M_givesBack 28 = .ok (.iload 4, 2) := by decide +kernel
theorem d_M_givesBack_30 : decode b_M_givesBack 30 = .ok (.iadd, 1) := by decide +kernel
theorem d_M_givesBack_31 : decode b_M_givesBack 31 = .ok (.iaload, 1) := by decide +kernel
theorem d_M_givesBack_32 : decode b_M_givesBack 32 = .ok (.iload 4, 2) := by decide +kernel
theorem d_M_givesBack_34 : decode b_M_givesBack 34 = .ok (.iload_n 2, 1) := by decide +kernel
theorem d_M_givesBack_35 : decode b_M_givesBack 35 = .ok (.if_icmp .ge 17, 3) := by decide +kernel
theorem d_M_givesBack_38 : decode b_M_givesBack 38 = .ok (.aload_n 0, 1) := by decide +kernel
theorem d_M_givesBack_39 : decode b_M_givesBack 39 = .ok (.getfield 7, 3) := by decide +kernel
theorem d_M_givesBack_42 : decode b_M_givesBack 42 = .ok (.sipush 11400, 3) := by decide +kernel
theorem d_M_givesBack_45 : decode b_M_givesBack 45 = .ok (.iload 4, 2) := by decide +kernel
theorem d_M_givesBack_47 : decode b_M_givesBack 47 = .ok (.iadd, 1) := by decide +kernel
theorem d_M_givesBack_48 : decode b_M_givesBack 48 = .ok (.iaload, 1) := by decide +kernel
theorem d_M_givesBack_49 : decode b_M_givesBack 49 = .ok (.goto 4, 3) := by decide +kernel
theorem d_M_givesBack_52 : decode b_M_givesBack 52 = .ok (.iconst 0, 1) := by decide +kernel
theorem d_M_givesBack_53 : decode b_M_givesBack 53 = .ok (.iadd, 1) := by decide +kernel
theorem d_M_givesBack_54 : decode b_M_givesBack 54 = .ok (.iload_n 3, 1) := by decide +kernel
theorem d_M_givesBack_55 : decode b_M_givesBack 55 = .ok (.iadd, 1) := by decide +kernel
theorem d_M_givesBack_56 : decode b_M_givesBack 56 = .ok (.istore 5, 2) := by decide +kernel
theorem d_M_givesBack_58 : decode b_M_givesBack 58 = .ok (.aload_n 0, 1) := by decide +kernel
theorem d_M_givesBack_59 : decode b_M_givesBack 59 = .ok (.getfield 7, 3) := by decide +kernel
theorem d_M_givesBack_62 : decode b_M_givesBack 62 = .ok (.sipush 10800, 3) := by decide +kernel
theorem d_M_givesBack_65 : decode b_M_givesBack 65 = .ok (.iload_n 1, 1) := by decide +kernel
theorem d_M_givesBack_66 : decode b_M_givesBack 66 = .ok (.iadd, 1) := by decide +kernel
theorem d_M_givesBack_67 : decode b_M_givesBack 67 = .ok (.iload 4, 2) := by decide +kernel
theorem d_M_givesBack_69 : decode b_M_givesBack 69 = .ok (.iadd, 1) := by decide +kernel
theorem d_M_givesBack_70 : decode b_M_givesBack 70 = .ok (.iload 5, 2) := by decide +kernel
theorem d_M_givesBack_72 : decode b_M_givesBack 72 = .ok (.ldc 43, 2) := by decide +kernel
theorem d_M_givesBack_74 : decode b_M_givesBack 74 = .ok (.irem, 1) := by decide +kernel
theorem d_M_givesBack_75 : decode b_M_givesBack 75 = .ok (.iastore, 1) := by decide +kernel
theorem d_M_givesBack_76 : decode b_M_givesBack 76 = .ok (.iload 5, 2) := by decide +kernel
theorem d_M_givesBack_78 : decode b_M_givesBack 78 = .ok (.ldc 43, 2) := by decide +kernel
theorem d_M_givesBack_80 : decode b_M_givesBack 80 = .ok (.idiv, 1) := by decide +kernel
theorem d_M_givesBack_81 : decode b_M_givesBack 81 = .ok (.istore_n 3, 1) := by decide +kernel
theorem d_M_givesBack_82 : decode b_M_givesBack 82 = .ok (.iinc 4 1, 3) := by decide +kernel
theorem d_M_givesBack_85 : decode b_M_givesBack 85 = .ok (.goto (-72), 3) := by decide +kernel
theorem d_M_givesBack_88 : decode b_M_givesBack 88 = .ok (.iload_n 3, 1) := by decide +kernel
theorem d_M_givesBack_89 : decode b_M_givesBack 89 = .ok (.ifCond .le 7, 3) := by decide +kernel
theorem d_M_givesBack_92 : decode b_M_givesBack 92 = .ok (.iconst 1, 1) := by decide +kernel
theorem d_M_givesBack_93 : decode b_M_givesBack 93 = .ok (.goto 4, 3) := by decide +kernel
theorem d_M_givesBack_96 : decode b_M_givesBack 96 = .ok (.iconst 0, 1) := by decide +kernel
theorem d_M_givesBack_97 : decode b_M_givesBack 97 = .ok (.ireturn, 1) := by decide +kernel
theorem d_M_below_0 : decode b_M_below 0 = .ok (.bipush 16, 2) := by decide +kernel
theorem d_M_below_2 : decode b_M_below 2 = .ok (.iload_n 0, 1) := by decide +kernel
theorem d_M_below_3 : decode b_M_below 3 = .ok (.iadd, 1) := by decide +kernel
theorem d_M_below_4 : decode b_M_below 4 = .ok (.ireturn, 1) := by decide +kernel
theorem d_M_combine_0 : decode b_M_combine 0 = .ok (.iload_n 1, 1) := by decide +kernel
theorem d_M_combine_1 : decode b_M_combine 1 = .ok (.invokestatic 86, 3) := by decide +kernel
theorem d_M_combine_4 : decode b_M_combine 4 = .ok (.ifCond .eq 32, 3) := by decide +kernel
theorem d_M_combine_7 : decode b_M_combine 7 = .ok (.iload_n 3, 1) := by decide +kernel
theorem d_M_combine_8 : decode b_M_combine 8 = .ok (.invokestatic 86, 3) := by decide +kernel
theorem d_M_combine_11 : decode b_M_combine 11 = .ok (.ifCond .eq 25, 3) := by decide +kernel
theorem d_M_combine_14 : decode b_M_combine 14 = .ok (.iload 4, 2) := by decide +kernel
theorem d_M_combine_16 : decode b_M_combine 16 = .ok (.invokestatic 86, 3) := by decide +kernel
theorem d_M_combine_19 : decode b_M_combine 19 = .ok (.ifCond .eq 17, 3) := by decide +kernel
theorem d_M_combine_22 : decode b_M_combine 22 = .ok (.iload_n 2, 1) := by decide +kernel
theorem d_M_combine_23 : decode b_M_combine 23 = .ok (.ifCond .lt 13, 3) := by decide +kernel
theorem d_M_combine_26 : decode b_M_combine 26 = .ok (.iload_n 2, 1) := by decide +kernel
theorem d_M_combine_27 : decode b_M_combine 27 = .ok (.bipush 8, 2) := by decide +kernel
theorem d_M_combine_29 : decode b_M_combine 29 = .ok (.if_icmp .gt 7, 3) := by decide +kernel
theorem d_M_combine_32 : decode b_M_combine 32 = .ok (.iconst 1, 1) := by decide +kernel
theorem d_M_combine_33 : decode b_M_combine 33 = .ok (.goto 4, 3) := by decide +kernel
theorem d_M_combine_36 : decode b_M_combine 36 = .ok (.iconst 0, 1) := by decide +kernel
theorem d_M_combine_37 : decode b_M_combine 37 = .ok (.istore 5, 2) := by decide +kernel
theorem d_M_combine_39 : decode b_M_combine 39 = .ok (.aload_n 0, 1) := by decide +kernel
theorem d_M_combine_40 : decode b_M_combine 40 = .ok (.iload 5, 2) := by decide +kernel
theorem d_M_combine_42 : decode b_M_combine 42 = .ok (.ifCond .eq 36, 3) := by decide +kernel
theorem d_M_combine_45 : decode b_M_combine 45 = .ok (.iload_n 2, 1) := by decide +kernel
theorem d_M_combine_46 : decode b_M_combine 46 = .ok (.bipush 8, 2) := by decide +kernel
theorem d_M_combine_48 : decode b_M_combine 48 = .ok (.if_icmp .lt 26, 3) := by decide +kernel
theorem d_M_combine_51 : decode b_M_combine 51 = .ok (.aload_n 0, 1) := by decide +kernel
theorem d_M_combine_52 : decode b_M_combine 52 = .ok (.iload_n 3, 1) := by decide +kernel
theorem d_M_combine_53 : decode b_M_combine 53 = .ok (.invokestatic 82, 3) := by decide +kernel
theorem d_M_combine_56 : decode b_M_combine 56 = .ok (.invokevirtual 98, 3) := by decide +kernel
theorem d_M_combine_59 : decode b_M_combine 59 = .ok (.ifCond .eq 19, 3) := by decide +kernel
theorem d_M_combine_62 : decode b_M_combine 62 = .ok (.aload_n 0, 1) := by decide +kernel
theorem d_M_combine_63 : decode b_M_combine 63 = .ok (.iload 4, 2) := by decide +kernel
theorem d_M_combine_65 : decode b_M_combine 65 = .ok (.invokestatic 82, 3) := by decide +kernel
theorem d_M_combine_68 : decode b_M_combine 68 = .ok (.invokevirtual 98, 3) := by decide +kernel
theorem d_M_combine_71 : decode b_M_combine 71 = .ok (.ifCond .eq 7, 3) := by decide +kernel
theorem d_M_combine_74 : decode b_M_combine 74 = .ok (.iconst 0, 1) := by decide +kernel
theorem d_M_combine_75 : decode b_M_combine 75 = .ok (.goto 4, 3) := by decide +kernel
theorem d_M_combine_78 : decode b_M_combine 78 = .ok (.iconst 1, 1) := by decide +kernel
theorem d_M_combine_79 : decode b_M_combine 79 = .ok (.putfield 34, 3) := by decide +kernel
theorem d_M_combine_82 : decode b_M_combine 82 = .ok (.aload_n 0, 1) := by decide +kernel
theorem d_M_combine_83 : decode b_M_combine 83 = .ok (.getfield 34, 3) := by decide +kernel
theorem d_M_combine_86 : decode b_M_combine 86 = .ok (.ifCond .le 5, 3) := by decide +kernel
theorem d_M_combine_89 : decode b_M_combine 89 = .ok (.iconst 0, 1) := by decide +kernel
theorem d_M_combine_90 : decode b_M_combine 90 = .ok (.ireturn, 1) := by decide +kernel
theorem d_M_combine_91 : decode b_M_combine 91 = .ok (.iload_n 2, 1) := by decide +kernel
theorem d_M_combine_92 : decode b_M_combine 92 = .ok (.iconst 3, 1) := by decide +kernel
theorem d_M_combine_93 : decode b_M_combine 93 = .ok (.if_icmp .eq 15, 3) := by decide +kernel
theorem d_M_combine_96 : decode b_M_combine 96 = .ok (.iload_n 2, 1) := by decide +kernel
theorem d_M_combine_97 : decode b_M_combine 97 = .ok (.bipush 6, 2) := by decide +kernel
theorem d_M_combine_99 : decode b_M_combine 99 = .ok (.if_icmp .eq 9, 3) := by decide +kernel
theorem d_M_combine_102 : decode b_M_combine 102 = .ok (.iload_n 2, 1) := by decide +kernel
theorem d_M_combine_103 : decode b_M_combine 103 = .ok (.bipush 7, 2) := by decide +kernel
theorem d_M_combine_105 : decode b_M_combine 105 = .ok (.if_icmp .ne 7, 3) := by decide +kernel
theorem d_M_combine_108 : decode b_M_combine 108 = .ok (.iconst 1, 1) := by decide +kernel
theorem d_M_combine_109 : decode b_M_combine 109 = .ok (.goto 4, 3) := by decide +kernel
theorem d_M_combine_112 : decode b_M_combine 112 = .ok (.iconst 0, 1) := by decide +kernel
theorem d_M_combine_113 : decode b_M_combine 113 = .ok (.istore 6, 2) := by decide +kernel
theorem d_M_combine_115 : decode b_M_combine 115 = .ok (.iload 6, 2) := by decide +kernel
theorem d_M_combine_117 : decode b_M_combine 117 = .ok (.ifCond .eq 16, 3) := by decide +kernel
theorem d_M_combine_120 : decode b_M_combine 120 = .ok (.aload_n 0, 1) := by decide +kernel
theorem d_M_combine_121 : decode b_M_combine 121 = .ok (.getfield 13, 3) := by decide +kernel
theorem d_M_combine_124 : decode b_M_combine 124 = .ok (.iload 4, 2) := by decide +kernel
theorem d_M_combine_126 : decode b_M_combine 126 = .ok (.iaload, 1) := by decide +kernel
theorem d_M_combine_127 : decode b_M_combine 127 = .ok (.ifCond .ne 6, 3) := by decide +kernel
theorem d_M_combine_130 : decode b_M_combine 130 = .ok (.bipush (-2), 2) := by decide +kernel
theorem d_M_combine_132 : decode b_M_combine 132 = .ok (.ireturn, 1) := by decide +kernel
theorem d_M_combine_133 : decode b_M_combine 133 = .ok (.iload_n 2, 1) := by decide +kernel
theorem d_M_combine_134 : decode b_M_combine 134 = .ok (.tableswitch 252 0 7 #[46, 46, 111, 141, 171, 193, 215, 243], 46) := by decide +kernel
theorem d_M_combine_180 : decode b_M_combine 180 = .ok (.aload_n 0, 1) := by decide +kernel
theorem d_M_combine_181 : decode b_M_combine 181 = .ok (.bipush 39, 2) := by decide +kernel
theorem d_M_combine_183 : decode b_M_combine 183 = .ok (.iload_n 3, 1) := by decide +kernel
theorem d_M_combine_184 : decode b_M_combine 184 = .ok (.iload 4, 2) := by decide +kernel
theorem d_M_combine_186 : decode b_M_combine 186 = .ok (.invokestatic 82, 3) := by decide +kernel
theorem d_M_combine_189 : decode b_M_combine 189 = .ok (.invokevirtual 92, 3) := by decide +kernel
theorem d_M_combine_192 : decode b_M_combine 192 = .ok (.aload_n 0, 1) := by decide +kernel
theorem d_M_combine_193 : decode b_M_combine 193 = .ok (.bipush 40, 2) := by decide +kernel
theorem d_M_combine_195 : decode b_M_combine 195 = .ok (.iload 4, 2) := by decide +kernel
theorem d_M_combine_197 : decode b_M_combine 197 = .ok (.iload_n 3, 1) := by decide +kernel
theorem d_M_combine_198 : decode b_M_combine 198 = .ok (.invokestatic 82, 3) := by decide +kernel
theorem d_M_combine_201 : decode b_M_combine 201 = .ok (.invokevirtual 92, 3) := by decide +kernel
theorem d_M_combine_204 : decode b_M_combine 204 = .ok (.aload_n 0, 1) := by decide +kernel
theorem d_M_combine_205 : decode b_M_combine 205 = .ok (.bipush 32, 2) := by decide +kernel
theorem d_M_combine_207 : decode b_M_combine 207 = .ok (.bipush 39, 2) := by decide +kernel
theorem d_M_combine_209 : decode b_M_combine 209 = .ok (.bipush 40, 2) := by decide +kernel
theorem d_M_combine_211 : decode b_M_combine 211 = .ok (.iload_n 2, 1) := by decide +kernel
theorem d_M_combine_212 : decode b_M_combine 212 = .ok (.iconst 1, 1) := by decide +kernel
theorem d_M_combine_213 : decode b_M_combine 213 = .ok (.if_icmp .ne 7, 3) := by decide +kernel
theorem d_M_combine_216 : decode b_M_combine 216 = .ok (.iconst 1, 1) := by decide +kernel
theorem d_M_combine_217 : decode b_M_combine 217 = .ok (.goto 4, 3) := by decide +kernel
theorem d_M_combine_220 : decode b_M_combine 220 = .ok (.iconst 0, 1) := by decide +kernel
theorem d_M_combine_221 : decode b_M_combine 221 = .ok (.invokevirtual 75, 3) := by decide +kernel
theorem d_M_combine_224 : decode b_M_combine 224 = .ok (.aload_n 0, 1) := by decide +kernel
theorem d_M_combine_225 : decode b_M_combine 225 = .ok (.bipush 33, 2) := by decide +kernel
theorem d_M_combine_227 : decode b_M_combine 227 = .ok (.iload_n 3, 1) := by decide +kernel
theorem d_M_combine_228 : decode b_M_combine 228 = .ok (.invokestatic 82, 3) := by decide +kernel
theorem d_M_combine_231 : decode b_M_combine 231 = .ok (.iload 4, 2) := by decide +kernel
theorem d_M_combine_233 : decode b_M_combine 233 = .ok (.invokestatic 82, 3) := by decide +kernel
theorem d_M_combine_236 : decode b_M_combine 236 = .ok (.invokevirtual 92, 3) := by decide +kernel
theorem d_M_combine_239 : decode b_M_combine 239 = .ok (.aload_n 0, 1) := by decide +kernel
theorem d_M_combine_240 : decode b_M_combine 240 = .ok (.iload_n 1, 1) := by decide +kernel
theorem d_M_combine_241 : decode b_M_combine 241 = .ok (.invokevirtual 89, 3) := by decide +kernel
theorem d_M_combine_244 : decode b_M_combine 244 = .ok (.ireturn, 1) := by decide +kernel
theorem d_M_combine_245 : decode b_M_combine 245 = .ok (.aload_n 0, 1) := by decide +kernel
theorem d_M_combine_246 : decode b_M_combine 246 = .ok (.bipush 32, 2) := by decide +kernel
theorem d_M_combine_248 : decode b_M_combine 248 = .ok (.iload_n 3, 1) := by decide +kernel
theorem d_M_combine_249 : decode b_M_combine 249 = .ok (.iload 4, 2) := by decide +kernel
theorem d_M_combine_251 : decode b_M_combine 251 = .ok (.invokevirtual 92, 3) := by decide +kernel
theorem d_M_combine_254 : decode b_M_combine 254 = .ok (.aload_n 0, 1) := by decide +kernel
theorem d_M_combine_255 : decode b_M_combine 255 = .ok (.bipush 33, 2) := by decide +kernel
theorem d_M_combine_257 : decode b_M_combine 257 = .ok (.iload_n 3, 1) := by decide +kernel
theorem d_M_combine_258 : decode b_M_combine 258 = .ok (.invokestatic 82, 3) := by decide +kernel
theorem d_M_combine_261 : decode b_M_combine 261 = .ok (.iload 4, 2) := by decide +kernel
theorem d_M_combine_263 : decode b_M_combine 263 = .ok (.invokestatic 82, 3) := by decide +kernel
theorem d_M_combine_266 : decode b_M_combine 266 = .ok (.invokevirtual 92, 3) := by decide +kernel
theorem d_M_combine_269 : decode b_M_combine 269 = .ok (.aload_n 0, 1) := by decide +kernel
theorem d_M_combine_270 : decode b_M_combine 270 = .ok (.iload_n 1, 1) := by decide +kernel
theorem d_M_combine_271 : decode b_M_combine 271 = .ok (.invokevirtual 89, 3) := by decide +kernel
theorem d_M_combine_274 : decode b_M_combine 274 = .ok (.ireturn, 1) := by decide +kernel
theorem d_M_combine_275 : decode b_M_combine 275 = .ok (.aload_n 0, 1) := by decide +kernel
theorem d_M_combine_276 : decode b_M_combine 276 = .ok (.bipush 32, 2) := by decide +kernel
theorem d_M_combine_278 : decode b_M_combine 278 = .ok (.iload_n 3, 1) := by decide +kernel
theorem d_M_combine_279 : decode b_M_combine 279 = .ok (.iload 4, 2) := by decide +kernel
theorem d_M_combine_281 : decode b_M_combine 281 = .ok (.invokestatic 82, 3) := by decide +kernel
theorem d_M_combine_284 : decode b_M_combine 284 = .ok (.invokevirtual 92, 3) := by decide +kernel
theorem d_M_combine_287 : decode b_M_combine 287 = .ok (.aload_n 0, 1) := by decide +kernel
theorem d_M_combine_288 : decode b_M_combine 288 = .ok (.bipush 33, 2) := by decide +kernel
theorem d_M_combine_290 : decode b_M_combine 290 = .ok (.iload_n 3, 1) := by decide +kernel
theorem d_M_combine_291 : decode b_M_combine 291 = .ok (.invokestatic 82, 3) := by decide +kernel
theorem d_M_combine_294 : decode b_M_combine 294 = .ok (.iload 4, 2) := by decide +kernel
theorem d_M_combine_296 : decode b_M_combine 296 = .ok (.invokevirtual 92, 3) := by decide +kernel
theorem d_M_combine_299 : decode b_M_combine 299 = .ok (.aload_n 0, 1) := by decide +kernel
theorem d_M_combine_300 : decode b_M_combine 300 = .ok (.iload_n 1, 1) := by decide +kernel
theorem d_M_combine_301 : decode b_M_combine 301 = .ok (.invokevirtual 89, 3) := by decide +kernel
theorem d_M_combine_304 : decode b_M_combine 304 = .ok (.ireturn, 1) := by decide +kernel
theorem d_M_combine_305 : decode b_M_combine 305 = .ok (.aload_n 0, 1) := by decide +kernel
theorem d_M_combine_306 : decode b_M_combine 306 = .ok (.iload_n 1, 1) := by decide +kernel
theorem d_M_combine_307 : decode b_M_combine 307 = .ok (.aload_n 0, 1) := by decide +kernel
theorem d_M_combine_308 : decode b_M_combine 308 = .ok (.iload_n 3, 1) := by decide +kernel
theorem d_M_combine_309 : decode b_M_combine 309 = .ok (.iload 4, 2) := by decide +kernel
theorem d_M_combine_311 : decode b_M_combine 311 = .ok (.invokevirtual 101, 3) := by decide +kernel
theorem d_M_combine_314 : decode b_M_combine 314 = .ok (.ifCond .gt 7, 3) := by decide +kernel
theorem d_M_combine_317 : decode b_M_combine 317 = .ok (.iload_n 3, 1) := by decide +kernel
theorem d_M_combine_318 : decode b_M_combine 318 = .ok (.goto 5, 3) := by decide +kernel
theorem d_M_combine_321 : decode b_M_combine 321 = .ok (.iload 4, 2) := by decide +kernel
theorem d_M_combine_323 : decode b_M_combine 323 = .ok (.invokevirtual 104, 3) := by decide +kernel
theorem d_M_combine_326 : decode b_M_combine 326 = .ok (.ireturn, 1) := by decide +kernel
theorem d_M_combine_327 : decode b_M_combine 327 = .ok (.aload_n 0, 1) := by decide +kernel
theorem d_M_combine_328 : decode b_M_combine 328 = .ok (.iload_n 1, 1) := by decide +kernel
theorem d_M_combine_329 : decode b_M_combine 329 = .ok (.aload_n 0, 1) := by decide +kernel
theorem d_M_combine_330 : decode b_M_combine 330 = .ok (.iload_n 3, 1) := by decide +kernel
theorem d_M_combine_331 : decode b_M_combine 331 = .ok (.iload 4, 2) := by decide +kernel
theorem d_M_combine_333 : decode b_M_combine 333 = .ok (.invokevirtual 101, 3) := by decide +kernel
theorem d_M_combine_336 : decode b_M_combine 336 = .ok (.ifCond .lt 7, 3) := by decide +kernel
theorem d_M_combine_339 : decode b_M_combine 339 = .ok (.iload_n 3, 1) := by decide +kernel
theorem d_M_combine_340 : decode b_M_combine 340 = .ok (.goto 5, 3) := by decide +kernel
theorem d_M_combine_343 : decode b_M_combine 343 = .ok (.iload 4, 2) := by decide +kernel
theorem d_M_combine_345 : decode b_M_combine 345 = .ok (.invokevirtual 104, 3) := by decide +kernel
theorem d_M_combine_348 : decode b_M_combine 348 = .ok (.ireturn, 1) := by decide +kernel
theorem d_M_combine_349 : decode b_M_combine 349 = .ok (.aload_n 0, 1) := by decide +kernel
theorem d_M_combine_350 : decode b_M_combine 350 = .ok (.iload_n 3, 1) := by decide +kernel
theorem d_M_combine_351 : decode b_M_combine 351 = .ok (.iload 4, 2) := by decide +kernel
theorem d_M_combine_353 : decode b_M_combine 353 = .ok (.invokevirtual 107, 3) := by decide +kernel
theorem d_M_combine_356 : decode b_M_combine 356 = .ok (.aload_n 0, 1) := by decide +kernel
theorem d_M_combine_357 : decode b_M_combine 357 = .ok (.bipush 32, 2) := by decide +kernel
theorem d_M_combine_359 : decode b_M_combine 359 = .ok (.bipush 41, 2) := by decide +kernel
theorem d_M_combine_361 : decode b_M_combine 361 = .ok (.invokevirtual 55, 3) := by decide +kernel
theorem d_M_combine_364 : decode b_M_combine 364 = .ok (.aload_n 0, 1) := by decide +kernel
theorem d_M_combine_365 : decode b_M_combine 365 = .ok (.bipush 33, 2) := by decide +kernel
theorem d_M_combine_367 : decode b_M_combine 367 = .ok (.lconst 1, 1) := by decide +kernel
theorem d_M_combine_368 : decode b_M_combine 368 = .ok (.invokevirtual 30, 3) := by decide +kernel
theorem d_M_combine_371 : decode b_M_combine 371 = .ok (.aload_n 0, 1) := by decide +kernel
theorem d_M_combine_372 : decode b_M_combine 372 = .ok (.iload_n 1, 1) := by decide +kernel
theorem d_M_combine_373 : decode b_M_combine 373 = .ok (.invokevirtual 89, 3) := by decide +kernel
theorem d_M_combine_376 : decode b_M_combine 376 = .ok (.ireturn, 1) := by decide +kernel
theorem d_M_combine_377 : decode b_M_combine 377 = .ok (.aload_n 0, 1) := by decide +kernel
theorem d_M_combine_378 : decode b_M_combine 378 = .ok (.iload_n 1, 1) := by decide +kernel
theorem d_M_combine_379 : decode b_M_combine 379 = .ok (.iload_n 3, 1) := by decide +kernel
theorem d_M_combine_380 : decode b_M_combine 380 = .ok (.iload 4, 2) := by decide +kernel
theorem d_M_combine_382 : decode b_M_combine 382 = .ok (.invokevirtual 110, 3) := by decide +kernel
theorem d_M_combine_385 : decode b_M_combine 385 = .ok (.ireturn, 1) := by decide +kernel
theorem d_M_combine_386 : decode b_M_combine 386 = .ok (.aload_n 0, 1) := by decide +kernel
theorem d_M_combine_387 : decode b_M_combine 387 = .ok (.iload_n 3, 1) := by decide +kernel
theorem d_M_combine_388 : decode b_M_combine 388 = .ok (.iload 4, 2) := by decide +kernel
theorem d_M_combine_390 : decode b_M_combine 390 = .ok (.invokevirtual 79, 3) := by decide +kernel
theorem d_M_combine_393 : decode b_M_combine 393 = .ok (.aload_n 0, 1) := by decide +kernel
theorem d_M_combine_394 : decode b_M_combine 394 = .ok (.bipush 32, 2) := by decide +kernel
theorem d_M_combine_396 : decode b_M_combine 396 = .ok (.bipush 34, 2) := by decide +kernel
theorem d_M_combine_398 : decode b_M_combine 398 = .ok (.invokevirtual 55, 3) := by decide +kernel
theorem d_M_combine_401 : decode b_M_combine 401 = .ok (.aload_n 0, 1) := by decide +kernel
theorem d_M_combine_402 : decode b_M_combine 402 = .ok (.bipush 33, 2) := by decide +kernel
theorem d_M_combine_404 : decode b_M_combine 404 = .ok (.lconst 1, 1) := by decide +kernel
theorem d_M_combine_405 : decode b_M_combine 405 = .ok (.invokevirtual 30, 3) := by decide +kernel
theorem d_M_combine_408 : decode b_M_combine 408 = .ok (.aload_n 0, 1) := by decide +kernel
theorem d_M_combine_409 : decode b_M_combine 409 = .ok (.iload_n 1, 1) := by decide +kernel
theorem d_M_combine_410 : decode b_M_combine 410 = .ok (.invokevirtual 89, 3) := by decide +kernel
theorem d_M_combine_413 : decode b_M_combine 413 = .ok (.ireturn, 1) := by decide +kernel
theorem d_M_isOne_0 : decode b_M_isOne 0 = .ok (.aload_n 0, 1) := by decide +kernel
theorem d_M_isOne_1 : decode b_M_isOne 1 = .ok (.getfield 13, 3) := by decide +kernel
theorem d_M_isOne_4 : decode b_M_isOne 4 = .ok (.iload_n 1, 1) := by decide +kernel
theorem d_M_isOne_5 : decode b_M_isOne 5 = .ok (.iaload, 1) := by decide +kernel
theorem d_M_isOne_6 : decode b_M_isOne 6 = .ok (.iconst 1, 1) := by decide +kernel
theorem d_M_isOne_7 : decode b_M_isOne 7 = .ok (.if_icmp .ne 30, 3) := by decide +kernel
theorem d_M_isOne_10 : decode b_M_isOne 10 = .ok (.aload_n 0, 1) := by decide +kernel
theorem d_M_isOne_11 : decode b_M_isOne 11 = .ok (.getfield 7, 3) := by decide +kernel
theorem d_M_isOne_14 : decode b_M_isOne 14 = .ok (.sipush 300, 3) := by decide +kernel
theorem d_M_isOne_17 : decode b_M_isOne 17 = .ok (.iload_n 1, 1) := by decide +kernel
theorem d_M_isOne_18 : decode b_M_isOne 18 = .ok (.imul, 1) := by decide +kernel
theorem d_M_isOne_19 : decode b_M_isOne 19 = .ok (.iaload, 1) := by decide +kernel
theorem d_M_isOne_20 : decode b_M_isOne 20 = .ok (.iconst 1, 1) := by decide +kernel
theorem d_M_isOne_21 : decode b_M_isOne 21 = .ok (.if_icmp .ne 16, 3) := by decide +kernel
theorem d_M_isOne_24 : decode b_M_isOne 24 = .ok (.aload_n 0, 1) := by decide +kernel
theorem d_M_isOne_25 : decode b_M_isOne 25 = .ok (.getfield 16, 3) := by decide +kernel
theorem d_M_isOne_28 : decode b_M_isOne 28 = .ok (.iload_n 1, 1) := by decide +kernel
theorem d_M_isOne_29 : decode b_M_isOne 29 = .ok (.baload, 1) := by decide +kernel
theorem d_M_isOne_30 : decode b_M_isOne 30 = .ok (.ifCond .ne 7, 3) := by decide +kernel
theorem d_M_isOne_33 : decode b_M_isOne 33 = .ok (.iconst 1, 1) := by decide +kernel
theorem d_M_isOne_34 : decode b_M_isOne 34 = .ok (.goto 4, 3) := by decide +kernel
theorem d_M_isOne_37 : decode b_M_isOne 37 = .ok (.iconst 0, 1) := by decide +kernel
theorem d_M_isOne_38 : decode b_M_isOne 38 = .ok (.ireturn, 1) := by decide +kernel
theorem d_M_times_0 : decode b_M_times 0 = .ok (.aload_n 0, 1) := by decide +kernel
theorem d_M_times_1 : decode b_M_times 1 = .ok (.getfield 13, 3) := by decide +kernel
theorem d_M_times_4 : decode b_M_times 4 = .ok (.iload_n 2, 1) := by decide +kernel
theorem d_M_times_5 : decode b_M_times 5 = .ok (.iaload, 1) := by decide +kernel
theorem d_M_times_6 : decode b_M_times 6 = .ok (.aload_n 0, 1) := by decide +kernel
theorem d_M_times_7 : decode b_M_times 7 = .ok (.getfield 13, 3) := by decide +kernel
theorem d_M_times_10 : decode b_M_times 10 = .ok (.iload_n 3, 1) := by decide +kernel
theorem d_M_times_11 : decode b_M_times 11 = .ok (.iaload, 1) := by decide +kernel
theorem d_M_times_12 : decode b_M_times 12 = .ok (.iadd, 1) := by decide +kernel
theorem d_M_times_13 : decode b_M_times 13 = .ok (.istore 4, 2) := by decide +kernel
theorem d_M_times_15 : decode b_M_times 15 = .ok (.iconst 0, 1) := by decide +kernel
theorem d_M_times_16 : decode b_M_times 16 = .ok (.istore 5, 2) := by decide +kernel
theorem d_M_times_18 : decode b_M_times 18 = .ok (.iload 5, 2) := by decide +kernel
theorem d_M_times_20 : decode b_M_times 20 = .ok (.iload 4, 2) := by decide +kernel
theorem d_M_times_22 : decode b_M_times 22 = .ok (.if_icmp .ge 23, 3) := by decide +kernel
theorem d_M_times_25 : decode b_M_times 25 = .ok (.aload_n 0, 1) := by decide +kernel
theorem d_M_times_26 : decode b_M_times 26 = .ok (.getfield 7, 3) := by decide +kernel
theorem d_M_times_29 : decode b_M_times 29 = .ok (.sipush 300, 3) := by decide +kernel
theorem d_M_times_32 : decode b_M_times 32 = .ok (.iload_n 1, 1) := by decide +kernel
theorem d_M_times_33 : decode b_M_times 33 = .ok (.imul, 1) := by decide +kernel
theorem d_M_times_34 : decode b_M_times 34 = .ok (.iload 5, 2) := by decide +kernel
theorem d_M_times_36 : decode b_M_times 36 = .ok (.iadd, 1) := by decide +kernel
theorem d_M_times_37 : decode b_M_times 37 = .ok (.iconst 0, 1) := by decide +kernel
theorem d_M_times_38 : decode b_M_times 38 = .ok (.iastore, 1) := by decide +kernel
theorem d_M_times_39 : decode b_M_times 39 = .ok (.iinc 5 1, 3) := by decide +kernel
theorem d_M_times_42 : decode b_M_times 42 = .ok (.goto (-24), 3) := by decide +kernel
theorem d_M_times_45 : decode b_M_times 45 = .ok (.iconst 0, 1) := by decide +kernel
theorem d_M_times_46 : decode b_M_times 46 = .ok (.istore 5, 2) := by decide +kernel
theorem d_M_times_48 : decode b_M_times 48 = .ok (.iload 5, 2) := by decide +kernel
theorem d_M_times_50 : decode b_M_times 50 = .ok (.aload_n 0, 1) := by decide +kernel
theorem d_M_times_51 : decode b_M_times 51 = .ok (.getfield 13, 3) := by decide +kernel
theorem d_M_times_54 : decode b_M_times 54 = .ok (.iload_n 2, 1) := by decide +kernel
theorem d_M_times_55 : decode b_M_times 55 = .ok (.iaload, 1) := by decide +kernel
theorem d_M_times_56 : decode b_M_times 56 = .ok (.if_icmp .ge 138, 3) := by decide +kernel
theorem d_M_times_59 : decode b_M_times 59 = .ok (.lconst 0, 1) := by decide +kernel
theorem d_M_times_60 : decode b_M_times 60 = .ok (.lstore 6, 2) := by decide +kernel
theorem d_M_times_62 : decode b_M_times 62 = .ok (.iconst 0, 1) := by decide +kernel
theorem d_M_times_63 : decode b_M_times 63 = .ok (.istore 8, 2) := by decide +kernel
theorem d_M_times_65 : decode b_M_times 65 = .ok (.iload 8, 2) := by decide +kernel
theorem d_M_times_67 : decode b_M_times 67 = .ok (.aload_n 0, 1) := by decide +kernel
theorem d_M_times_68 : decode b_M_times 68 = .ok (.getfield 13, 3) := by decide +kernel
theorem d_M_times_71 : decode b_M_times 71 = .ok (.iload_n 3, 1) := by decide +kernel
theorem d_M_times_72 : decode b_M_times 72 = .ok (.iaload, 1) := by decide +kernel
theorem d_M_times_73 : decode b_M_times 73 = .ok (.if_icmp .ge 92, 3) := by decide +kernel
theorem d_M_times_76 : decode b_M_times 76 = .ok (.aload_n 0, 1) := by decide +kernel
theorem d_M_times_77 : decode b_M_times 77 = .ok (.getfield 7, 3) := by decide +kernel
theorem d_M_times_80 : decode b_M_times 80 = .ok (.sipush 300, 3) := by decide +kernel
theorem d_M_times_83 : decode b_M_times 83 = .ok (.iload_n 2, 1) := by decide +kernel
theorem d_M_times_84 : decode b_M_times 84 = .ok (.imul, 1) := by decide +kernel
theorem d_M_times_85 : decode b_M_times 85 = .ok (.iload 5, 2) := by decide +kernel
theorem d_M_times_87 : decode b_M_times 87 = .ok (.iadd, 1) := by decide +kernel
theorem d_M_times_88 : decode b_M_times 88 = .ok (.iaload, 1) := by decide +kernel
theorem d_M_times_89 : decode b_M_times 89 = .ok (.i2l, 1) := by decide +kernel
theorem d_M_times_90 : decode b_M_times 90 = .ok (.aload_n 0, 1) := by decide +kernel
theorem d_M_times_91 : decode b_M_times 91 = .ok (.getfield 7, 3) := by decide +kernel
theorem d_M_times_94 : decode b_M_times 94 = .ok (.sipush 300, 3) := by decide +kernel
theorem d_M_times_97 : decode b_M_times 97 = .ok (.iload_n 3, 1) := by decide +kernel
theorem d_M_times_98 : decode b_M_times 98 = .ok (.imul, 1) := by decide +kernel
theorem d_M_times_99 : decode b_M_times 99 = .ok (.iload 8, 2) := by decide +kernel
theorem d_M_times_101 : decode b_M_times 101 = .ok (.iadd, 1) := by decide +kernel
theorem d_M_times_102 : decode b_M_times 102 = .ok (.iaload, 1) := by decide +kernel
theorem d_M_times_103 : decode b_M_times 103 = .ok (.i2l, 1) := by decide +kernel
theorem d_M_times_104 : decode b_M_times 104 = .ok (.lmul, 1) := by decide +kernel
theorem d_M_times_105 : decode b_M_times 105 = .ok (.aload_n 0, 1) := by decide +kernel
theorem d_M_times_106 : decode b_M_times 106 = .ok (.getfield 7, 3) := by decide +kernel
theorem d_M_times_109 : decode b_M_times 109 = .ok (.sipush 300, 3) := by decide +kernel
theorem d_M_times_112 : decode b_M_times 112 = .ok (.iload_n 1, 1) := by decide +kernel
theorem d_M_times_113 : decode b_M_times 113 = .ok (.imul, 1) := by decide +kernel
theorem d_M_times_114 : decode b_M_times 114 = .ok (.iload 5, 2) := by decide +kernel
theorem d_M_times_116 : decode b_M_times 116 = .ok (.iadd, 1) := by decide +kernel
theorem d_M_times_117 : decode b_M_times 117 = .ok (.iload 8, 2) := by decide +kernel
theorem d_M_times_119 : decode b_M_times 119 = .ok (.iadd, 1) := by decide +kernel
theorem d_M_times_120 : decode b_M_times 120 = .ok (.iaload, 1) := by decide +kernel
theorem d_M_times_121 : decode b_M_times 121 = .ok (.i2l, 1) := by decide +kernel
theorem d_M_times_122 : decode b_M_times 122 = .ok (.ladd, 1) := by decide +kernel
theorem d_M_times_123 : decode b_M_times 123 = .ok (.lload 6, 2) := by decide +kernel
theorem d_M_times_125 : decode b_M_times 125 = .ok (.ladd, 1) := by decide +kernel
theorem d_M_times_126 : decode b_M_times 126 = .ok (.lstore 9, 2) := by decide +kernel
theorem d_M_times_128 : decode b_M_times 128 = .ok (.aload_n 0, 1) := by decide +kernel
theorem d_M_times_129 : decode b_M_times 129 = .ok (.getfield 7, 3) := by decide +kernel
theorem d_M_times_132 : decode b_M_times 132 = .ok (.sipush 300, 3) := by decide +kernel
theorem d_M_times_135 : decode b_M_times 135 = .ok (.iload_n 1, 1) := by decide +kernel
theorem d_M_times_136 : decode b_M_times 136 = .ok (.imul, 1) := by decide +kernel
theorem d_M_times_137 : decode b_M_times 137 = .ok (.iload 5, 2) := by decide +kernel
theorem d_M_times_139 : decode b_M_times 139 = .ok (.iadd, 1) := by decide +kernel
theorem d_M_times_140 : decode b_M_times 140 = .ok (.iload 8, 2) := by decide +kernel
theorem d_M_times_142 : decode b_M_times 142 = .ok (.iadd, 1) := by decide +kernel
theorem d_M_times_143 : decode b_M_times 143 = .ok (.lload 9, 2) := by decide +kernel
theorem d_M_times_145 : decode b_M_times 145 = .ok (.ldc2_w 37, 3) := by decide +kernel
theorem d_M_times_148 : decode b_M_times 148 = .ok (.lrem, 1) := by decide +kernel
theorem d_M_times_149 : decode b_M_times 149 = .ok (.l2i, 1) := by decide +kernel
theorem d_M_times_150 : decode b_M_times 150 = .ok (.iastore, 1) := by decide +kernel
theorem d_M_times_151 : decode b_M_times 151 = .ok (.lload 9, 2) := by decide +kernel
theorem d_M_times_153 : decode b_M_times 153 = .ok (.ldc2_w 37, 3) := by decide +kernel
theorem d_M_times_156 : decode b_M_times 156 = .ok (.ldiv, 1) := by decide +kernel
theorem d_M_times_157 : decode b_M_times 157 = .ok (.lstore 6, 2) := by decide +kernel
theorem d_M_times_159 : decode b_M_times 159 = .ok (.iinc 8 1, 3) := by decide +kernel
theorem d_M_times_162 : decode b_M_times 162 = .ok (.goto (-97), 3) := by decide +kernel
theorem d_M_times_165 : decode b_M_times 165 = .ok (.aload_n 0, 1) := by decide +kernel
theorem d_M_times_166 : decode b_M_times 166 = .ok (.getfield 7, 3) := by decide +kernel
theorem d_M_times_169 : decode b_M_times 169 = .ok (.sipush 300, 3) := by decide +kernel
theorem d_M_times_172 : decode b_M_times 172 = .ok (.iload_n 1, 1) := by decide +kernel
theorem d_M_times_173 : decode b_M_times 173 = .ok (.imul, 1) := by decide +kernel
theorem d_M_times_174 : decode b_M_times 174 = .ok (.iload 5, 2) := by decide +kernel
theorem d_M_times_176 : decode b_M_times 176 = .ok (.iadd, 1) := by decide +kernel
theorem d_M_times_177 : decode b_M_times 177 = .ok (.aload_n 0, 1) := by decide +kernel
theorem d_M_times_178 : decode b_M_times 178 = .ok (.getfield 13, 3) := by decide +kernel
theorem d_M_times_181 : decode b_M_times 181 = .ok (.iload_n 3, 1) := by decide +kernel
theorem d_M_times_182 : decode b_M_times 182 = .ok (.iaload, 1) := by decide +kernel
theorem d_M_times_183 : decode b_M_times 183 = .ok (.iadd, 1) := by decide +kernel
theorem d_M_times_184 : decode b_M_times 184 = .ok (.lload 6, 2) := by decide +kernel
theorem d_M_times_186 : decode b_M_times 186 = .ok (.l2i, 1) := by decide +kernel
theorem d_M_times_187 : decode b_M_times 187 = .ok (.iastore, 1) := by decide +kernel
theorem d_M_times_188 : decode b_M_times 188 = .ok (.iinc 5 1, 3) := by decide +kernel
theorem d_M_times_191 : decode b_M_times 191 = .ok (.goto (-143), 3) := by decide +kernel
theorem d_M_times_194 : decode b_M_times 194 = .ok (.aload_n 0, 1) := by decide +kernel
theorem d_M_times_195 : decode b_M_times 195 = .ok (.getfield 13, 3) := by decide +kernel
theorem d_M_times_198 : decode b_M_times 198 = .ok (.iload_n 1, 1) := by decide +kernel
theorem d_M_times_199 : decode b_M_times 199 = .ok (.iload 4, 2) := by decide +kernel
theorem d_M_times_201 : decode b_M_times 201 = .ok (.iastore, 1) := by decide +kernel
theorem d_M_times_202 : decode b_M_times 202 = .ok (.aload_n 0, 1) := by decide +kernel
theorem d_M_times_203 : decode b_M_times 203 = .ok (.getfield 16, 3) := by decide +kernel
theorem d_M_times_206 : decode b_M_times 206 = .ok (.iload_n 1, 1) := by decide +kernel
theorem d_M_times_207 : decode b_M_times 207 = .ok (.aload_n 0, 1) := by decide +kernel
theorem d_M_times_208 : decode b_M_times 208 = .ok (.getfield 16, 3) := by decide +kernel
theorem d_M_times_211 : decode b_M_times 211 = .ok (.iload_n 2, 1) := by decide +kernel
