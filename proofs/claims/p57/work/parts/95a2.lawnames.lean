/-! ===== the law's names, decode 2 ===== -/
theorem dL_legs_83 : decode cL_legs 83 = .ok (.iconst 0, 1) := by decide +kernel
theorem dL_legs_84 : decode cL_legs 84 = .ok (.istore 6, 2) := by decide +kernel
theorem dL_legs_86 : decode cL_legs 86 = .ok (.iload 5, 2) := by decide +kernel
theorem dL_legs_88 : decode cL_legs 88 = .ok (.aload_n 0, 1) := by decide +kernel
theorem dL_legs_89 : decode cL_legs 89 = .ok (.iload_n 3, 1) := by decide +kernel
theorem dL_legs_90 : decode cL_legs 90 = .ok (.iload 4, 2) := by decide +kernel
theorem dL_legs_92 : decode cL_legs 92 = .ok (.invokestatic 221, 3) := by decide +kernel
theorem dL_legs_95 : decode cL_legs 95 = .ok (.ifCond .le 7, 3) := by decide +kernel
theorem dL_legs_98 : decode cL_legs 98 = .ok (.iconst 1, 1) := by decide +kernel
theorem dL_legs_99 : decode cL_legs 99 = .ok (.goto 4, 3) := by decide +kernel
theorem dL_legs_102 : decode cL_legs 102 = .ok (.iconst 0, 1) := by decide +kernel
theorem dL_legs_103 : decode cL_legs 103 = .ok (.if_icmp .ne 92, 3) := by decide +kernel
theorem dL_legs_106 : decode cL_legs 106 = .ok (.aload_n 0, 1) := by decide +kernel
theorem dL_legs_107 : decode cL_legs 107 = .ok (.iload_n 3, 1) := by decide +kernel
theorem dL_legs_108 : decode cL_legs 108 = .ok (.iload 4, 2) := by decide +kernel
theorem dL_legs_110 : decode cL_legs 110 = .ok (.invokestatic 221, 3) := by decide +kernel
theorem dL_legs_113 : decode cL_legs 113 = .ok (.aload_n 0, 1) := by decide +kernel
theorem dL_legs_114 : decode cL_legs 114 = .ok (.iload 4, 2) := by decide +kernel
theorem dL_legs_116 : decode cL_legs 116 = .ok (.iload_n 3, 1) := by decide +kernel
theorem dL_legs_117 : decode cL_legs 117 = .ok (.invokestatic 221, 3) := by decide +kernel
theorem dL_legs_120 : decode cL_legs 120 = .ok (.if_icmp .ne 75, 3) := by decide +kernel
theorem dL_legs_123 : decode cL_legs 123 = .ok (.aload_n 0, 1) := by decide +kernel
theorem dL_legs_124 : decode cL_legs 124 = .ok (.iload_n 3, 1) := by decide +kernel
theorem dL_legs_125 : decode cL_legs 125 = .ok (.iload 4, 2) := by decide +kernel
theorem dL_legs_127 : decode cL_legs 127 = .ok (.invokestatic 223, 3) := by decide +kernel
theorem dL_legs_130 : decode cL_legs 130 = .ok (.iload 5, 2) := by decide +kernel
theorem dL_legs_132 : decode cL_legs 132 = .ok (.ifCond .ne 8, 3) := by decide +kernel
theorem dL_legs_135 : decode cL_legs 135 = .ok (.bipush (-13), 2) := by decide +kernel
theorem dL_legs_137 : decode cL_legs 137 = .ok (.goto 13, 3) := by decide +kernel
theorem dL_legs_140 : decode cL_legs 140 = .ok (.iload 6, 2) := by decide +kernel
theorem dL_legs_142 : decode cL_legs 142 = .ok (.ifCond .eq 7, 3) := by decide +kernel
theorem dL_legs_145 : decode cL_legs 145 = .ok (.iconst 1, 1) := by decide +kernel
theorem dL_legs_146 : decode cL_legs 146 = .ok (.goto 4, 3) := by decide +kernel
theorem dL_legs_149 : decode cL_legs 149 = .ok (.iconst 0, 1) := by decide +kernel
theorem dL_legs_150 : decode cL_legs 150 = .ok (.if_icmp .ne 45, 3) := by decide +kernel
theorem dL_legs_153 : decode cL_legs 153 = .ok (.iload_n 3, 1) := by decide +kernel
theorem dL_legs_154 : decode cL_legs 154 = .ok (.iload 4, 2) := by decide +kernel
theorem dL_legs_156 : decode cL_legs 156 = .ok (.if_icmp .ne 8, 3) := by decide +kernel
theorem dL_legs_159 : decode cL_legs 159 = .ok (.iload 5, 2) := by decide +kernel
theorem dL_legs_161 : decode cL_legs 161 = .ok (.ifCond .ne 34, 3) := by decide +kernel
theorem dL_legs_164 : decode cL_legs 164 = .ok (.aload_n 0, 1) := by decide +kernel
theorem dL_legs_165 : decode cL_legs 165 = .ok (.iload_n 3, 1) := by decide +kernel
theorem dL_legs_166 : decode cL_legs 166 = .ok (.iload 4, 2) := by decide +kernel
theorem dL_legs_168 : decode cL_legs 168 = .ok (.invokestatic 225, 3) := by decide +kernel
theorem dL_legs_171 : decode cL_legs 171 = .ok (.aload_n 0, 1) := by decide +kernel
theorem dL_legs_172 : decode cL_legs 172 = .ok (.invokevirtual 227, 3) := by decide +kernel
theorem dL_legs_175 : decode cL_legs 175 = .ok (.if_icmp .gt 20, 3) := by decide +kernel
theorem dL_legs_178 : decode cL_legs 178 = .ok (.aload_n 0, 1) := by decide +kernel
theorem dL_legs_179 : decode cL_legs 179 = .ok (.iload_n 3, 1) := by decide +kernel
theorem dL_legs_180 : decode cL_legs 180 = .ok (.iload 4, 2) := by decide +kernel
theorem dL_legs_182 : decode cL_legs 182 = .ok (.invokestatic 216, 3) := by decide +kernel
theorem dL_legs_185 : decode cL_legs 185 = .ok (.aload_n 0, 1) := by decide +kernel
theorem dL_legs_186 : decode cL_legs 186 = .ok (.iload 4, 2) := by decide +kernel
theorem dL_legs_188 : decode cL_legs 188 = .ok (.iload_n 3, 1) := by decide +kernel
theorem dL_legs_189 : decode cL_legs 189 = .ok (.invokestatic 216, 3) := by decide +kernel
theorem dL_legs_192 : decode cL_legs 192 = .ok (.if_icmp .eq 5, 3) := by decide +kernel
theorem dL_legs_195 : decode cL_legs 195 = .ok (.iconst 0, 1) := by decide +kernel
theorem dL_legs_196 : decode cL_legs 196 = .ok (.ireturn, 1) := by decide +kernel
theorem dL_legs_197 : decode cL_legs 197 = .ok (.iinc 4 1, 3) := by decide +kernel
theorem dL_legs_200 : decode cL_legs 200 = .ok (.goto (-183), 3) := by decide +kernel
theorem dL_legs_203 : decode cL_legs 203 = .ok (.iinc 3 1, 3) := by decide +kernel
theorem dL_legs_206 : decode cL_legs 206 = .ok (.goto (-197), 3) := by decide +kernel
theorem dL_legs_209 : decode cL_legs 209 = .ok (.iconst 0, 1) := by decide +kernel
theorem dL_legs_210 : decode cL_legs 210 = .ok (.istore_n 3, 1) := by decide +kernel
theorem dL_legs_211 : decode cL_legs 211 = .ok (.iload_n 3, 1) := by decide +kernel
theorem dL_legs_212 : decode cL_legs 212 = .ok (.aload_n 0, 1) := by decide +kernel
theorem dL_legs_213 : decode cL_legs 213 = .ok (.invokevirtual 230, 3) := by decide +kernel
theorem dL_legs_216 : decode cL_legs 216 = .ok (.if_icmp .ge 152, 3) := by decide +kernel
theorem dL_legs_219 : decode cL_legs 219 = .ok (.aload_n 0, 1) := by decide +kernel
theorem dL_legs_220 : decode cL_legs 220 = .ok (.iload_n 3, 1) := by decide +kernel
theorem dL_legs_221 : decode cL_legs 221 = .ok (.invokestatic 233, 3) := by decide +kernel
theorem dL_legs_224 : decode cL_legs 224 = .ok (.istore 4, 2) := by decide +kernel
theorem dL_legs_226 : decode cL_legs 226 = .ok (.aload_n 0, 1) := by decide +kernel
theorem dL_legs_227 : decode cL_legs 227 = .ok (.iload_n 3, 1) := by decide +kernel
theorem dL_legs_228 : decode cL_legs 228 = .ok (.invokestatic 236, 3) := by decide +kernel
theorem dL_legs_231 : decode cL_legs 231 = .ok (.istore 5, 2) := by decide +kernel
theorem dL_legs_233 : decode cL_legs 233 = .ok (.iload 4, 2) := by decide +kernel
theorem dL_legs_235 : decode cL_legs 235 = .ok (.ifCond .lt 22, 3) := by decide +kernel
theorem dL_legs_238 : decode cL_legs 238 = .ok (.iload 5, 2) := by decide +kernel
theorem dL_legs_240 : decode cL_legs 240 = .ok (.iload 4, 2) := by decide +kernel
theorem dL_legs_242 : decode cL_legs 242 = .ok (.if_icmp .le 15, 3) := by decide +kernel
theorem dL_legs_245 : decode cL_legs 245 = .ok (.aload_n 0, 1) := by decide +kernel
theorem dL_legs_246 : decode cL_legs 246 = .ok (.iload 4, 2) := by decide +kernel
theorem dL_legs_248 : decode cL_legs 248 = .ok (.iload 5, 2) := by decide +kernel
theorem dL_legs_250 : decode cL_legs 250 = .ok (.invokestatic 214, 3) := by decide +kernel
theorem dL_legs_253 : decode cL_legs 253 = .ok (.iconst 1, 1) := by decide +kernel
theorem dL_legs_254 : decode cL_legs 254 = .ok (.if_icmp .eq 5, 3) := by decide +kernel
theorem dL_legs_257 : decode cL_legs 257 = .ok (.iconst 0, 1) := by decide +kernel
theorem dL_legs_258 : decode cL_legs 258 = .ok (.ireturn, 1) := by decide +kernel
theorem dL_legs_259 : decode cL_legs 259 = .ok (.iload_n 3, 1) := by decide +kernel
theorem dL_legs_260 : decode cL_legs 260 = .ok (.ifCond .le 102, 3) := by decide +kernel
theorem dL_legs_263 : decode cL_legs 263 = .ok (.aload_n 0, 1) := by decide +kernel
theorem dL_legs_264 : decode cL_legs 264 = .ok (.iload_n 3, 1) := by decide +kernel
theorem dL_legs_265 : decode cL_legs 265 = .ok (.iconst 1, 1) := by decide +kernel
theorem dL_legs_266 : decode cL_legs 266 = .ok (.isub, 1) := by decide +kernel
theorem dL_legs_267 : decode cL_legs 267 = .ok (.invokestatic 233, 3) := by decide +kernel
theorem dL_legs_270 : decode cL_legs 270 = .ok (.istore 6, 2) := by decide +kernel
theorem dL_legs_272 : decode cL_legs 272 = .ok (.aload_n 0, 1) := by decide +kernel
theorem dL_legs_273 : decode cL_legs 273 = .ok (.iload_n 3, 1) := by decide +kernel
theorem dL_legs_274 : decode cL_legs 274 = .ok (.iconst 1, 1) := by decide +kernel
theorem dL_legs_275 : decode cL_legs 275 = .ok (.isub, 1) := by decide +kernel
theorem dL_legs_276 : decode cL_legs 276 = .ok (.invokestatic 236, 3) := by decide +kernel
theorem dL_legs_279 : decode cL_legs 279 = .ok (.istore 7, 2) := by decide +kernel
theorem dL_legs_281 : decode cL_legs 281 = .ok (.aload_n 0, 1) := by decide +kernel
theorem dL_legs_282 : decode cL_legs 282 = .ok (.iload 4, 2) := by decide +kernel
theorem dL_legs_284 : decode cL_legs 284 = .ok (.iload 5, 2) := by decide +kernel
theorem dL_legs_286 : decode cL_legs 286 = .ok (.invokestatic 216, 3) := by decide +kernel
theorem dL_legs_289 : decode cL_legs 289 = .ok (.aload_n 0, 1) := by decide +kernel
theorem dL_legs_290 : decode cL_legs 290 = .ok (.iload 6, 2) := by decide +kernel
theorem dL_legs_292 : decode cL_legs 292 = .ok (.iload 7, 2) := by decide +kernel
theorem dL_legs_294 : decode cL_legs 294 = .ok (.invokestatic 216, 3) := by decide +kernel
theorem dL_legs_297 : decode cL_legs 297 = .ok (.isub, 1) := by decide +kernel
theorem dL_legs_298 : decode cL_legs 298 = .ok (.istore 8, 2) := by decide +kernel
theorem dL_legs_300 : decode cL_legs 300 = .ok (.iload 8, 2) := by decide +kernel
theorem dL_legs_302 : decode cL_legs 302 = .ok (.ifCond .eq 8, 3) := by decide +kernel
theorem dL_legs_305 : decode cL_legs 305 = .ok (.iload 8, 2) := by decide +kernel
theorem dL_legs_307 : decode cL_legs 307 = .ok (.goto 20, 3) := by decide +kernel
theorem dL_legs_310 : decode cL_legs 310 = .ok (.aload_n 0, 1) := by decide +kernel
theorem dL_legs_311 : decode cL_legs 311 = .ok (.iload 4, 2) := by decide +kernel
theorem dL_legs_313 : decode cL_legs 313 = .ok (.iload 5, 2) := by decide +kernel
theorem dL_legs_315 : decode cL_legs 315 = .ok (.invokestatic 221, 3) := by decide +kernel
theorem dL_legs_318 : decode cL_legs 318 = .ok (.aload_n 0, 1) := by decide +kernel
theorem dL_legs_319 : decode cL_legs 319 = .ok (.iload 6, 2) := by decide +kernel
theorem dL_legs_321 : decode cL_legs 321 = .ok (.iload 7, 2) := by decide +kernel
theorem dL_legs_323 : decode cL_legs 323 = .ok (.invokestatic 221, 3) := by decide +kernel
theorem dL_legs_326 : decode cL_legs 326 = .ok (.isub, 1) := by decide +kernel
theorem dL_legs_327 : decode cL_legs 327 = .ok (.istore 8, 2) := by decide +kernel
theorem dL_legs_329 : decode cL_legs 329 = .ok (.iload 8, 2) := by decide +kernel
theorem dL_legs_331 : decode cL_legs 331 = .ok (.ifCond .eq 8, 3) := by decide +kernel
theorem dL_legs_334 : decode cL_legs 334 = .ok (.iload 8, 2) := by decide +kernel
theorem dL_legs_336 : decode cL_legs 336 = .ok (.goto 17, 3) := by decide +kernel
theorem dL_legs_339 : decode cL_legs 339 = .ok (.bipush 10, 2) := by decide +kernel
theorem dL_legs_341 : decode cL_legs 341 = .ok (.iload 4, 2) := by decide +kernel
theorem dL_legs_343 : decode cL_legs 343 = .ok (.iload 6, 2) := by decide +kernel
theorem dL_legs_345 : decode cL_legs 345 = .ok (.isub, 1) := by decide +kernel
theorem dL_legs_346 : decode cL_legs 346 = .ok (.imul, 1) := by decide +kernel
theorem dL_legs_347 : decode cL_legs 347 = .ok (.iload 5, 2) := by decide +kernel
theorem dL_legs_349 : decode cL_legs 349 = .ok (.iadd, 1) := by decide +kernel
theorem dL_legs_350 : decode cL_legs 350 = .ok (.iload 7, 2) := by decide +kernel
theorem dL_legs_352 : decode cL_legs 352 = .ok (.isub, 1) := by decide +kernel
theorem dL_legs_353 : decode cL_legs 353 = .ok (.istore 8, 2) := by decide +kernel
theorem dL_legs_355 : decode cL_legs 355 = .ok (.iload 8, 2) := by decide +kernel
theorem dL_legs_357 : decode cL_legs 357 = .ok (.ifCond .gt 5, 3) := by decide +kernel
theorem dL_legs_360 : decode cL_legs 360 = .ok (.iconst 0, 1) := by decide +kernel
theorem dL_legs_361 : decode cL_legs 361 = .ok (.ireturn, 1) := by decide +kernel
theorem dL_legs_362 : decode cL_legs 362 = .ok (.iinc 3 1, 3) := by decide +kernel
theorem dL_legs_365 : decode cL_legs 365 = .ok (.goto (-154), 3) := by decide +kernel
theorem dL_legs_368 : decode cL_legs 368 = .ok (.aload_n 0, 1) := by decide +kernel
theorem dL_legs_369 : decode cL_legs 369 = .ok (.invokevirtual 230, 3) := by decide +kernel
theorem dL_legs_372 : decode cL_legs 372 = .ok (.iload_n 2, 1) := by decide +kernel
theorem dL_legs_373 : decode cL_legs 373 = .ok (.if_icmp .ne 82, 3) := by decide +kernel
theorem dL_legs_376 : decode cL_legs 376 = .ok (.aload_n 0, 1) := by decide +kernel
theorem dL_legs_377 : decode cL_legs 377 = .ok (.iload_n 2, 1) := by decide +kernel
theorem dL_legs_378 : decode cL_legs 378 = .ok (.invokestatic 233, 3) := by decide +kernel
theorem dL_legs_381 : decode cL_legs 381 = .ok (.bipush (-11), 2) := by decide +kernel
theorem dL_legs_383 : decode cL_legs 383 = .ok (.if_icmp .ne 72, 3) := by decide +kernel
theorem dL_legs_386 : decode cL_legs 386 = .ok (.aload_n 0, 1) := by decide +kernel
theorem dL_legs_387 : decode cL_legs 387 = .ok (.iconst (-1), 1) := by decide +kernel
theorem dL_legs_388 : decode cL_legs 388 = .ok (.invokestatic 236, 3) := by decide +kernel
theorem dL_legs_391 : decode cL_legs 391 = .ok (.bipush (-11), 2) := by decide +kernel
theorem dL_legs_393 : decode cL_legs 393 = .ok (.if_icmp .ne 62, 3) := by decide +kernel
theorem dL_legs_396 : decode cL_legs 396 = .ok (.aload_n 0, 1) := by decide +kernel
theorem dL_legs_397 : decode cL_legs 397 = .ok (.iload_n 1, 1) := by decide +kernel
theorem dL_legs_398 : decode cL_legs 398 = .ok (.iconst 0, 1) := by decide +kernel
theorem dL_legs_399 : decode cL_legs 399 = .ok (.invokestatic 214, 3) := by decide +kernel
theorem dL_legs_402 : decode cL_legs 402 = .ok (.bipush (-11), 2) := by decide +kernel
theorem dL_legs_404 : decode cL_legs 404 = .ok (.if_icmp .ne 51, 3) := by decide +kernel
theorem dL_legs_407 : decode cL_legs 407 = .ok (.aload_n 0, 1) := by decide +kernel
theorem dL_legs_408 : decode cL_legs 408 = .ok (.iconst 0, 1) := by decide +kernel
theorem dL_legs_409 : decode cL_legs 409 = .ok (.iload_n 1, 1) := by decide +kernel
theorem dL_legs_410 : decode cL_legs 410 = .ok (.invokestatic 221, 3) := by decide +kernel
theorem dL_legs_413 : decode cL_legs 413 = .ok (.bipush (-11), 2) := by decide +kernel
theorem dL_legs_415 : decode cL_legs 415 = .ok (.if_icmp .ne 40, 3) := by decide +kernel
theorem dL_legs_418 : decode cL_legs 418 = .ok (.aload_n 0, 1) := by decide +kernel
theorem dL_legs_419 : decode cL_legs 419 = .ok (.iconst (-1), 1) := by decide +kernel
theorem dL_legs_420 : decode cL_legs 420 = .ok (.iconst 0, 1) := by decide +kernel
theorem dL_legs_421 : decode cL_legs 421 = .ok (.invokestatic 216, 3) := by decide +kernel
theorem dL_legs_424 : decode cL_legs 424 = .ok (.bipush (-11), 2) := by decide +kernel
theorem dL_legs_426 : decode cL_legs 426 = .ok (.if_icmp .ne 29, 3) := by decide +kernel
theorem dL_legs_429 : decode cL_legs 429 = .ok (.aload_n 0, 1) := by decide +kernel
theorem dL_legs_430 : decode cL_legs 430 = .ok (.iload_n 1, 1) := by decide +kernel
theorem dL_legs_431 : decode cL_legs 431 = .ok (.iconst 0, 1) := by decide +kernel
theorem dL_legs_432 : decode cL_legs 432 = .ok (.invokestatic 225, 3) := by decide +kernel
theorem dL_legs_435 : decode cL_legs 435 = .ok (.bipush (-11), 2) := by decide +kernel
theorem dL_legs_437 : decode cL_legs 437 = .ok (.if_icmp .ne 18, 3) := by decide +kernel
theorem dL_legs_440 : decode cL_legs 440 = .ok (.aload_n 0, 1) := by decide +kernel
theorem dL_legs_441 : decode cL_legs 441 = .ok (.iconst 0, 1) := by decide +kernel
theorem dL_legs_442 : decode cL_legs 442 = .ok (.iload_n 1, 1) := by decide +kernel
theorem dL_legs_443 : decode cL_legs 443 = .ok (.invokestatic 223, 3) := by decide +kernel
theorem dL_legs_446 : decode cL_legs 446 = .ok (.bipush (-11), 2) := by decide +kernel
theorem dL_legs_448 : decode cL_legs 448 = .ok (.if_icmp .ne 7, 3) := by decide +kernel
theorem dL_legs_451 : decode cL_legs 451 = .ok (.iconst 1, 1) := by decide +kernel
theorem dL_legs_452 : decode cL_legs 452 = .ok (.goto 4, 3) := by decide +kernel
theorem dL_legs_455 : decode cL_legs 455 = .ok (.iconst 0, 1) := by decide +kernel
theorem dL_legs_456 : decode cL_legs 456 = .ok (.ireturn, 1) := by decide +kernel
theorem dL_shortest_0 : decode cL_shortest 0 = .ok (.iload_n 1, 1) := by decide +kernel
theorem dL_shortest_1 : decode cL_shortest 1 = .ok (.iload_n 2, 1) := by decide +kernel
theorem dL_shortest_2 : decode cL_shortest 2 = .ok (.if_icmp .ne 7, 3) := by decide +kernel
theorem dL_shortest_5 : decode cL_shortest 5 = .ok (.iconst 0, 1) := by decide +kernel
theorem dL_shortest_6 : decode cL_shortest 6 = .ok (.goto 5, 3) := by decide +kernel
theorem dL_shortest_9 : decode cL_shortest 9 = .ok (.ldc 239, 2) := by decide +kernel
theorem dL_shortest_11 : decode cL_shortest 11 = .ok (.istore 5, 2) := by decide +kernel
theorem dL_shortest_13 : decode cL_shortest 13 = .ok (.iconst 0, 1) := by decide +kernel
theorem dL_shortest_14 : decode cL_shortest 14 = .ok (.istore 6, 2) := by decide +kernel
theorem dL_shortest_16 : decode cL_shortest 16 = .ok (.iload 6, 2) := by decide +kernel
theorem dL_shortest_18 : decode cL_shortest 18 = .ok (.aload_n 0, 1) := by decide +kernel
theorem dL_shortest_19 : decode cL_shortest 19 = .ok (.invokevirtual 211, 3) := by decide +kernel
theorem dL_shortest_22 : decode cL_shortest 22 = .ok (.if_icmp .ge 98, 3) := by decide +kernel
theorem dL_shortest_25 : decode cL_shortest 25 = .ok (.iload 5, 2) := by decide +kernel
theorem dL_shortest_27 : decode cL_shortest 27 = .ok (.ifCond .le 93, 3) := by decide +kernel
theorem dL_shortest_30 : decode cL_shortest 30 = .ok (.iload 4, 2) := by decide +kernel
theorem dL_shortest_32 : decode cL_shortest 32 = .ok (.iload 6, 2) := by decide +kernel
theorem dL_shortest_34 : decode cL_shortest 34 = .ok (.ishr, 1) := by decide +kernel
theorem dL_shortest_35 : decode cL_shortest 35 = .ok (.iconst 1, 1) := by decide +kernel
theorem dL_shortest_36 : decode cL_shortest 36 = .ok (.iand, 1) := by decide +kernel
theorem dL_shortest_37 : decode cL_shortest 37 = .ok (.ifCond .ne 35, 3) := by decide +kernel
theorem dL_shortest_40 : decode cL_shortest 40 = .ok (.iload 6, 2) := by decide +kernel
theorem dL_shortest_42 : decode cL_shortest 42 = .ok (.iload_n 1, 1) := by decide +kernel
theorem dL_shortest_43 : decode cL_shortest 43 = .ok (.if_icmp .eq 29, 3) := by decide +kernel
theorem dL_shortest_46 : decode cL_shortest 46 = .ok (.aload_n 0, 1) := by decide +kernel
theorem dL_shortest_47 : decode cL_shortest 47 = .ok (.iload_n 1, 1) := by decide +kernel
theorem dL_shortest_48 : decode cL_shortest 48 = .ok (.iload 6, 2) := by decide +kernel
theorem dL_shortest_50 : decode cL_shortest 50 = .ok (.invokestatic 214, 3) := by decide +kernel
theorem dL_shortest_53 : decode cL_shortest 53 = .ok (.iconst 1, 1) := by decide +kernel
theorem dL_shortest_54 : decode cL_shortest 54 = .ok (.if_icmp .ne 18, 3) := by decide +kernel
theorem dL_shortest_57 : decode cL_shortest 57 = .ok (.aload_n 0, 1) := by decide +kernel
theorem dL_shortest_58 : decode cL_shortest 58 = .ok (.iload_n 1, 1) := by decide +kernel
theorem dL_shortest_59 : decode cL_shortest 59 = .ok (.iload 6, 2) := by decide +kernel
theorem dL_shortest_61 : decode cL_shortest 61 = .ok (.invokestatic 216, 3) := by decide +kernel
theorem dL_shortest_64 : decode cL_shortest 64 = .ok (.iload_n 3, 1) := by decide +kernel
theorem dL_shortest_65 : decode cL_shortest 65 = .ok (.if_icmp .gt 7, 3) := by decide +kernel
theorem dL_shortest_68 : decode cL_shortest 68 = .ok (.iconst 1, 1) := by decide +kernel
theorem dL_shortest_69 : decode cL_shortest 69 = .ok (.goto 4, 3) := by decide +kernel
theorem dL_shortest_72 : decode cL_shortest 72 = .ok (.iconst 0, 1) := by decide +kernel
theorem dL_shortest_73 : decode cL_shortest 73 = .ok (.istore 7, 2) := by decide +kernel
theorem dL_shortest_75 : decode cL_shortest 75 = .ok (.iload 7, 2) := by decide +kernel
theorem dL_shortest_77 : decode cL_shortest 77 = .ok (.ifCond .eq 33, 3) := by decide +kernel
theorem dL_shortest_80 : decode cL_shortest 80 = .ok (.iload 5, 2) := by decide +kernel
theorem dL_shortest_82 : decode cL_shortest 82 = .ok (.aload_n 0, 1) := by decide +kernel
theorem dL_shortest_83 : decode cL_shortest 83 = .ok (.iload_n 1, 1) := by decide +kernel
theorem dL_shortest_84 : decode cL_shortest 84 = .ok (.iload 6, 2) := by decide +kernel
theorem dL_shortest_86 : decode cL_shortest 86 = .ok (.invokevirtual 34, 3) := by decide +kernel
theorem dL_shortest_89 : decode cL_shortest 89 = .ok (.aload_n 0, 1) := by decide +kernel
theorem dL_shortest_90 : decode cL_shortest 90 = .ok (.iload 6, 2) := by decide +kernel
theorem dL_shortest_92 : decode cL_shortest 92 = .ok (.iload_n 2, 1) := by decide +kernel
theorem dL_shortest_93 : decode cL_shortest 93 = .ok (.iload_n 3, 1) := by decide +kernel
theorem dL_shortest_94 : decode cL_shortest 94 = .ok (.iload 4, 2) := by decide +kernel
theorem dL_shortest_96 : decode cL_shortest 96 = .ok (.iconst 1, 1) := by decide +kernel
theorem dL_shortest_97 : decode cL_shortest 97 = .ok (.iload_n 1, 1) := by decide +kernel
theorem dL_shortest_98 : decode cL_shortest 98 = .ok (.ishl, 1) := by decide +kernel
theorem dL_shortest_99 : decode cL_shortest 99 = .ok (.ior, 1) := by decide +kernel
theorem dL_shortest_100 : decode cL_shortest 100 = .ok (.invokestatic 240, 3) := by decide +kernel
theorem dL_shortest_103 : decode cL_shortest 103 = .ok (.iadd, 1) := by decide +kernel
theorem dL_shortest_104 : decode cL_shortest 104 = .ok (.invokestatic 243, 3) := by decide +kernel
theorem dL_shortest_107 : decode cL_shortest 107 = .ok (.goto 5, 3) := by decide +kernel
theorem dL_shortest_110 : decode cL_shortest 110 = .ok (.iload 5, 2) := by decide +kernel
theorem dL_shortest_112 : decode cL_shortest 112 = .ok (.istore 5, 2) := by decide +kernel
theorem dL_shortest_114 : decode cL_shortest 114 = .ok (.iinc 6 1, 3) := by decide +kernel
theorem dL_shortest_117 : decode cL_shortest 117 = .ok (.goto (-101), 3) := by decide +kernel
theorem dL_shortest_120 : decode cL_shortest 120 = .ok (.iload 5, 2) := by decide +kernel
theorem dL_shortest_122 : decode cL_shortest 122 = .ok (.ireturn, 1) := by decide +kernel
theorem dL_routes_0 : decode cL_routes 0 = .ok (.aload_n 0, 1) := by decide +kernel
theorem dL_routes_1 : decode cL_routes 1 = .ok (.invokevirtual 211, 3) := by decide +kernel
theorem dL_routes_4 : decode cL_routes 4 = .ok (.istore_n 1, 1) := by decide +kernel
theorem dL_routes_5 : decode cL_routes 5 = .ok (.iconst 0, 1) := by decide +kernel
theorem dL_routes_6 : decode cL_routes 6 = .ok (.istore_n 2, 1) := by decide +kernel
theorem dL_routes_7 : decode cL_routes 7 = .ok (.iconst 0, 1) := by decide +kernel
theorem dL_routes_8 : decode cL_routes 8 = .ok (.istore_n 3, 1) := by decide +kernel
theorem dL_routes_9 : decode cL_routes 9 = .ok (.iload_n 3, 1) := by decide +kernel
theorem dL_routes_10 : decode cL_routes 10 = .ok (.iload_n 1, 1) := by decide +kernel
theorem dL_routes_11 : decode cL_routes 11 = .ok (.if_icmp .ge 363, 3) := by decide +kernel
theorem dL_routes_14 : decode cL_routes 14 = .ok (.iconst 1, 1) := by decide +kernel
theorem dL_routes_15 : decode cL_routes 15 = .ok (.istore 4, 2) := by decide +kernel
theorem dL_routes_17 : decode cL_routes 17 = .ok (.iconst 0, 1) := by decide +kernel
theorem dL_routes_18 : decode cL_routes 18 = .ok (.istore 5, 2) := by decide +kernel
theorem dL_routes_20 : decode cL_routes 20 = .ok (.iload 5, 2) := by decide +kernel
theorem dL_routes_22 : decode cL_routes 22 = .ok (.iload_n 1, 1) := by decide +kernel
theorem dL_routes_23 : decode cL_routes 23 = .ok (.if_icmp .ge 332, 3) := by decide +kernel
theorem dL_routes_26 : decode cL_routes 26 = .ok (.iload_n 1, 1) := by decide +kernel
theorem dL_routes_27 : decode cL_routes 27 = .ok (.bipush 6, 2) := by decide +kernel
theorem dL_routes_29 : decode cL_routes 29 = .ok (.if_icmp .le 13, 3) := by decide +kernel
theorem dL_routes_32 : decode cL_routes 32 = .ok (.aload_n 0, 1) := by decide +kernel
theorem dL_routes_33 : decode cL_routes 33 = .ok (.iload_n 3, 1) := by decide +kernel
theorem dL_routes_34 : decode cL_routes 34 = .ok (.iload 5, 2) := by decide +kernel
theorem dL_routes_36 : decode cL_routes 36 = .ok (.invokestatic 248, 3) := by decide +kernel
theorem dL_routes_39 : decode cL_routes 39 = .ok (.goto 13, 3) := by decide +kernel
theorem dL_routes_42 : decode cL_routes 42 = .ok (.aload_n 0, 1) := by decide +kernel
theorem dL_routes_43 : decode cL_routes 43 = .ok (.iload_n 3, 1) := by decide +kernel
theorem dL_routes_44 : decode cL_routes 44 = .ok (.iload 5, 2) := by decide +kernel
theorem dL_routes_46 : decode cL_routes 46 = .ok (.bipush 20, 2) := by decide +kernel
theorem dL_routes_48 : decode cL_routes 48 = .ok (.iconst 0, 1) := by decide +kernel
theorem dL_routes_49 : decode cL_routes 49 = .ok (.invokestatic 240, 3) := by decide +kernel
theorem dL_routes_52 : decode cL_routes 52 = .ok (.istore 6, 2) := by decide +kernel
theorem dL_routes_54 : decode cL_routes 54 = .ok (.iload 6, 2) := by decide +kernel
theorem dL_routes_56 : decode cL_routes 56 = .ok (.ldc 239, 2) := by decide +kernel
theorem dL_routes_58 : decode cL_routes 58 = .ok (.if_icmp .ne 8, 3) := by decide +kernel
theorem dL_routes_61 : decode cL_routes 61 = .ok (.bipush (-13), 2) := by decide +kernel
theorem dL_routes_63 : decode cL_routes 63 = .ok (.goto 5, 3) := by decide +kernel
theorem dL_routes_66 : decode cL_routes 66 = .ok (.iload 6, 2) := by decide +kernel
theorem dL_routes_68 : decode cL_routes 68 = .ok (.istore 6, 2) := by decide +kernel
theorem dL_routes_70 : decode cL_routes 70 = .ok (.iload_n 1, 1) := by decide +kernel
theorem dL_routes_71 : decode cL_routes 71 = .ok (.bipush 6, 2) := by decide +kernel
theorem dL_routes_73 : decode cL_routes 73 = .ok (.if_icmp .le 13, 3) := by decide +kernel
theorem dL_routes_76 : decode cL_routes 76 = .ok (.aload_n 0, 1) := by decide +kernel
theorem dL_routes_77 : decode cL_routes 77 = .ok (.iload_n 3, 1) := by decide +kernel
theorem dL_routes_78 : decode cL_routes 78 = .ok (.iload 5, 2) := by decide +kernel
theorem dL_routes_80 : decode cL_routes 80 = .ok (.invokestatic 250, 3) := by decide +kernel
theorem dL_routes_83 : decode cL_routes 83 = .ok (.goto 15, 3) := by decide +kernel
theorem dL_routes_86 : decode cL_routes 86 = .ok (.aload_n 0, 1) := by decide +kernel
theorem dL_routes_87 : decode cL_routes 87 = .ok (.iload_n 3, 1) := by decide +kernel
theorem dL_routes_88 : decode cL_routes 88 = .ok (.iload 5, 2) := by decide +kernel
theorem dL_routes_90 : decode cL_routes 90 = .ok (.aload_n 0, 1) := by decide +kernel
theorem dL_routes_91 : decode cL_routes 91 = .ok (.invokevirtual 218, 3) := by decide +kernel
theorem dL_routes_94 : decode cL_routes 94 = .ok (.iconst 0, 1) := by decide +kernel
theorem dL_routes_95 : decode cL_routes 95 = .ok (.invokestatic 240, 3) := by decide +kernel
theorem dL_routes_98 : decode cL_routes 98 = .ok (.istore 7, 2) := by decide +kernel
theorem dL_routes_100 : decode cL_routes 100 = .ok (.iload 7, 2) := by decide +kernel
theorem dL_routes_102 : decode cL_routes 102 = .ok (.ldc 239, 2) := by decide +kernel
theorem dL_routes_104 : decode cL_routes 104 = .ok (.if_icmp .ne 8, 3) := by decide +kernel
theorem dL_routes_107 : decode cL_routes 107 = .ok (.bipush (-13), 2) := by decide +kernel
theorem dL_routes_109 : decode cL_routes 109 = .ok (.goto 5, 3) := by decide +kernel
theorem dL_routes_112 : decode cL_routes 112 = .ok (.iload 7, 2) := by decide +kernel
theorem dL_routes_114 : decode cL_routes 114 = .ok (.istore 7, 2) := by decide +kernel
theorem dL_routes_116 : decode cL_routes 116 = .ok (.iload 4, 2) := by decide +kernel
theorem dL_routes_118 : decode cL_routes 118 = .ok (.ifCond .eq 20, 3) := by decide +kernel
theorem dL_routes_121 : decode cL_routes 121 = .ok (.iload 5, 2) := by decide +kernel
theorem dL_routes_123 : decode cL_routes 123 = .ok (.iload_n 3, 1) := by decide +kernel
theorem dL_routes_124 : decode cL_routes 124 = .ok (.if_icmp .ge 10, 3) := by decide +kernel
theorem dL_routes_127 : decode cL_routes 127 = .ok (.iload 7, 2) := by decide +kernel
theorem dL_routes_129 : decode cL_routes 129 = .ok (.bipush (-13), 2) := by decide +kernel
theorem dL_routes_131 : decode cL_routes 131 = .ok (.if_icmp .ne 7, 3) := by decide +kernel
theorem dL_routes_134 : decode cL_routes 134 = .ok (.iconst 1, 1) := by decide +kernel
theorem dL_routes_135 : decode cL_routes 135 = .ok (.goto 4, 3) := by decide +kernel
theorem dL_routes_138 : decode cL_routes 138 = .ok (.iconst 0, 1) := by decide +kernel
theorem dL_routes_139 : decode cL_routes 139 = .ok (.istore 4, 2) := by decide +kernel
theorem dL_routes_141 : decode cL_routes 141 = .ok (.aload_n 0, 1) := by decide +kernel
theorem dL_routes_142 : decode cL_routes 142 = .ok (.iload_n 3, 1) := by decide +kernel
theorem dL_routes_143 : decode cL_routes 143 = .ok (.iload 5, 2) := by decide +kernel
theorem dL_routes_145 : decode cL_routes 145 = .ok (.invokestatic 248, 3) := by decide +kernel
theorem dL_routes_148 : decode cL_routes 148 = .ok (.iload 6, 2) := by decide +kernel
theorem dL_routes_150 : decode cL_routes 150 = .ok (.if_icmp .ne 39, 3) := by decide +kernel
theorem dL_routes_153 : decode cL_routes 153 = .ok (.aload_n 0, 1) := by decide +kernel
theorem dL_routes_154 : decode cL_routes 154 = .ok (.iload_n 3, 1) := by decide +kernel
theorem dL_routes_155 : decode cL_routes 155 = .ok (.iload 5, 2) := by decide +kernel
theorem dL_routes_157 : decode cL_routes 157 = .ok (.invokestatic 252, 3) := by decide +kernel
theorem dL_routes_160 : decode cL_routes 160 = .ok (.iload 6, 2) := by decide +kernel
theorem dL_routes_162 : decode cL_routes 162 = .ok (.if_icmp .ne 27, 3) := by decide +kernel
theorem dL_routes_165 : decode cL_routes 165 = .ok (.aload_n 0, 1) := by decide +kernel
theorem dL_routes_166 : decode cL_routes 166 = .ok (.iload_n 3, 1) := by decide +kernel
theorem dL_routes_167 : decode cL_routes 167 = .ok (.iload 5, 2) := by decide +kernel
theorem dL_routes_169 : decode cL_routes 169 = .ok (.invokestatic 250, 3) := by decide +kernel
theorem dL_routes_172 : decode cL_routes 172 = .ok (.iload 7, 2) := by decide +kernel
theorem dL_routes_174 : decode cL_routes 174 = .ok (.if_icmp .ne 15, 3) := by decide +kernel
theorem dL_routes_177 : decode cL_routes 177 = .ok (.iload 7, 2) := by decide +kernel
theorem dL_routes_179 : decode cL_routes 179 = .ok (.ifCond .lt 12, 3) := by decide +kernel
theorem dL_routes_182 : decode cL_routes 182 = .ok (.iload 7, 2) := by decide +kernel
theorem dL_routes_184 : decode cL_routes 184 = .ok (.iload 6, 2) := by decide +kernel
theorem dL_routes_186 : decode cL_routes 186 = .ok (.if_icmp .ge 5, 3) := by decide +kernel
theorem dL_routes_189 : decode cL_routes 189 = .ok (.iconst 0, 1) := by decide +kernel
theorem dL_routes_190 : decode cL_routes 190 = .ok (.ireturn, 1) := by decide +kernel
theorem dL_routes_191 : decode cL_routes 191 = .ok (.aload_n 0, 1) := by decide +kernel
theorem dL_routes_192 : decode cL_routes 192 = .ok (.iload_n 3, 1) := by decide +kernel
theorem dL_routes_193 : decode cL_routes 193 = .ok (.iload 5, 2) := by decide +kernel
theorem dL_routes_195 : decode cL_routes 195 = .ok (.invokestatic 255, 3) := by decide +kernel
theorem dL_routes_198 : decode cL_routes 198 = .ok (.istore 8, 2) := by decide +kernel
theorem dL_routes_200 : decode cL_routes 200 = .ok (.iload_n 3, 1) := by decide +kernel
theorem dL_routes_201 : decode cL_routes 201 = .ok (.iload 5, 2) := by decide +kernel
theorem dL_routes_203 : decode cL_routes 203 = .ok (.if_icmp .ne 18, 3) := by decide +kernel
theorem dL_routes_206 : decode cL_routes 206 = .ok (.iload 8, 2) := by decide +kernel
theorem dL_routes_208 : decode cL_routes 208 = .ok (.bipush (-12), 2) := by decide +kernel
theorem dL_routes_210 : decode cL_routes 210 = .ok (.if_icmp .ne 7, 3) := by decide +kernel
theorem dL_routes_213 : decode cL_routes 213 = .ok (.iconst 1, 1) := by decide +kernel
theorem dL_routes_214 : decode cL_routes 214 = .ok (.goto 71, 3) := by decide +kernel
theorem dL_routes_217 : decode cL_routes 217 = .ok (.iconst 0, 1) := by decide +kernel
theorem dL_routes_218 : decode cL_routes 218 = .ok (.goto 67, 3) := by decide +kernel
theorem dL_routes_221 : decode cL_routes 221 = .ok (.iload 6, 2) := by decide +kernel
theorem dL_routes_223 : decode cL_routes 223 = .ok (.ifCond .ge 18, 3) := by decide +kernel
theorem dL_routes_226 : decode cL_routes 226 = .ok (.iload 8, 2) := by decide +kernel
theorem dL_routes_228 : decode cL_routes 228 = .ok (.bipush (-13), 2) := by decide +kernel
theorem dL_routes_230 : decode cL_routes 230 = .ok (.if_icmp .ne 7, 3) := by decide +kernel
theorem dL_routes_233 : decode cL_routes 233 = .ok (.iconst 1, 1) := by decide +kernel
theorem dL_routes_234 : decode cL_routes 234 = .ok (.goto 51, 3) := by decide +kernel
theorem dL_routes_237 : decode cL_routes 237 = .ok (.iconst 0, 1) := by decide +kernel
theorem dL_routes_238 : decode cL_routes 238 = .ok (.goto 47, 3) := by decide +kernel
theorem dL_routes_241 : decode cL_routes 241 = .ok (.iload 8, 2) := by decide +kernel
theorem dL_routes_243 : decode cL_routes 243 = .ok (.ifCond .le 41, 3) := by decide +kernel
theorem dL_routes_246 : decode cL_routes 246 = .ok (.iload 8, 2) := by decide +kernel
theorem dL_routes_248 : decode cL_routes 248 = .ok (.bipush 20, 2) := by decide +kernel
theorem dL_routes_250 : decode cL_routes 250 = .ok (.if_icmp .gt 34, 3) := by decide +kernel
theorem dL_routes_253 : decode cL_routes 253 = .ok (.iload 7, 2) := by decide +kernel
theorem dL_routes_255 : decode cL_routes 255 = .ok (.ifCond .lt 7, 3) := by decide +kernel
theorem dL_routes_258 : decode cL_routes 258 = .ok (.iconst 1, 1) := by decide +kernel
theorem dL_routes_259 : decode cL_routes 259 = .ok (.goto 4, 3) := by decide +kernel
theorem dL_routes_262 : decode cL_routes 262 = .ok (.iconst 0, 1) := by decide +kernel
theorem dL_routes_263 : decode cL_routes 263 = .ok (.iload 8, 2) := by decide +kernel
theorem dL_routes_265 : decode cL_routes 265 = .ok (.aload_n 0, 1) := by decide +kernel
theorem dL_routes_266 : decode cL_routes 266 = .ok (.invokevirtual 218, 3) := by decide +kernel
theorem dL_routes_269 : decode cL_routes 269 = .ok (.if_icmp .gt 7, 3) := by decide +kernel
theorem dL_routes_272 : decode cL_routes 272 = .ok (.iconst 1, 1) := by decide +kernel
theorem dL_routes_273 : decode cL_routes 273 = .ok (.goto 4, 3) := by decide +kernel
theorem dL_routes_276 : decode cL_routes 276 = .ok (.iconst 0, 1) := by decide +kernel
theorem dL_routes_277 : decode cL_routes 277 = .ok (.if_icmp .ne 7, 3) := by decide +kernel
theorem dL_routes_280 : decode cL_routes 280 = .ok (.iconst 1, 1) := by decide +kernel
theorem dL_routes_281 : decode cL_routes 281 = .ok (.goto 4, 3) := by decide +kernel
theorem dL_routes_284 : decode cL_routes 284 = .ok (.iconst 0, 1) := by decide +kernel
theorem dL_routes_285 : decode cL_routes 285 = .ok (.istore 9, 2) := by decide +kernel
theorem dL_routes_287 : decode cL_routes 287 = .ok (.iload 9, 2) := by decide +kernel
theorem dL_routes_289 : decode cL_routes 289 = .ok (.ifCond .eq 58, 3) := by decide +kernel
theorem dL_routes_292 : decode cL_routes 292 = .ok (.aload_n 0, 1) := by decide +kernel
theorem dL_routes_293 : decode cL_routes 293 = .ok (.iload_n 3, 1) := by decide +kernel
theorem dL_routes_294 : decode cL_routes 294 = .ok (.iload 5, 2) := by decide +kernel
theorem dL_routes_296 : decode cL_routes 296 = .ok (.invokestatic 258, 3) := by decide +kernel
theorem dL_routes_299 : decode cL_routes 299 = .ok (.iload 8, 2) := by decide +kernel
theorem dL_routes_301 : decode cL_routes 301 = .ok (.if_icmp .ne 46, 3) := by decide +kernel
theorem dL_routes_304 : decode cL_routes 304 = .ok (.iload_n 1, 1) := by decide +kernel
theorem dL_routes_305 : decode cL_routes 305 = .ok (.bipush 6, 2) := by decide +kernel
theorem dL_routes_307 : decode cL_routes 307 = .ok (.if_icmp .gt 42, 3) := by decide +kernel
theorem dL_routes_310 : decode cL_routes 310 = .ok (.iload 8, 2) := by decide +kernel
theorem dL_routes_312 : decode cL_routes 312 = .ok (.ifCond .le 37, 3) := by decide +kernel
theorem dL_routes_315 : decode cL_routes 315 = .ok (.aload_n 0, 1) := by decide +kernel
theorem dL_routes_316 : decode cL_routes 316 = .ok (.iload_n 3, 1) := by decide +kernel
theorem dL_routes_317 : decode cL_routes 317 = .ok (.iload 5, 2) := by decide +kernel
theorem dL_routes_319 : decode cL_routes 319 = .ok (.iload 8, 2) := by decide +kernel
theorem dL_routes_321 : decode cL_routes 321 = .ok (.iconst 0, 1) := by decide +kernel
theorem dL_routes_322 : decode cL_routes 322 = .ok (.invokestatic 240, 3) := by decide +kernel
theorem dL_routes_325 : decode cL_routes 325 = .ok (.ldc 239, 2) := by decide +kernel
theorem dL_routes_327 : decode cL_routes 327 = .ok (.if_icmp .eq 20, 3) := by decide +kernel
theorem dL_routes_330 : decode cL_routes 330 = .ok (.aload_n 0, 1) := by decide +kernel
theorem dL_routes_331 : decode cL_routes 331 = .ok (.iload_n 3, 1) := by decide +kernel
theorem dL_routes_332 : decode cL_routes 332 = .ok (.iload 5, 2) := by decide +kernel
theorem dL_routes_334 : decode cL_routes 334 = .ok (.iload 8, 2) := by decide +kernel
theorem dL_routes_336 : decode cL_routes 336 = .ok (.iconst 1, 1) := by decide +kernel
theorem dL_routes_337 : decode cL_routes 337 = .ok (.isub, 1) := by decide +kernel
theorem dL_routes_338 : decode cL_routes 338 = .ok (.iconst 0, 1) := by decide +kernel
theorem dL_routes_339 : decode cL_routes 339 = .ok (.invokestatic 240, 3) := by decide +kernel
theorem dL_routes_342 : decode cL_routes 342 = .ok (.ldc 239, 2) := by decide +kernel
theorem dL_routes_344 : decode cL_routes 344 = .ok (.if_icmp .eq 5, 3) := by decide +kernel
theorem dL_routes_347 : decode cL_routes 347 = .ok (.iconst 0, 1) := by decide +kernel
theorem dL_routes_348 : decode cL_routes 348 = .ok (.ireturn, 1) := by decide +kernel
theorem dL_routes_349 : decode cL_routes 349 = .ok (.iinc 5 1, 3) := by decide +kernel
theorem dL_routes_352 : decode cL_routes 352 = .ok (.goto (-332), 3) := by decide +kernel
theorem dL_routes_355 : decode cL_routes 355 = .ok (.iload_n 2, 1) := by decide +kernel
theorem dL_routes_356 : decode cL_routes 356 = .ok (.iload 4, 2) := by decide +kernel
theorem dL_routes_358 : decode cL_routes 358 = .ok (.ifCond .eq 7, 3) := by decide +kernel
theorem dL_routes_361 : decode cL_routes 361 = .ok (.iconst 1, 1) := by decide +kernel
theorem dL_routes_362 : decode cL_routes 362 = .ok (.goto 4, 3) := by decide +kernel
theorem dL_routes_365 : decode cL_routes 365 = .ok (.iconst 0, 1) := by decide +kernel
theorem dL_routes_366 : decode cL_routes 366 = .ok (.iadd, 1) := by decide +kernel
theorem dL_routes_367 : decode cL_routes 367 = .ok (.istore_n 2, 1) := by decide +kernel
theorem dL_routes_368 : decode cL_routes 368 = .ok (.iinc 3 1, 3) := by decide +kernel
theorem dL_routes_371 : decode cL_routes 371 = .ok (.goto (-362), 3) := by decide +kernel
theorem dL_routes_374 : decode cL_routes 374 = .ok (.aload_n 0, 1) := by decide +kernel
theorem dL_routes_375 : decode cL_routes 375 = .ok (.invokevirtual 261, 3) := by decide +kernel
theorem dL_routes_378 : decode cL_routes 378 = .ok (.iload_n 2, 1) := by decide +kernel
theorem dL_routes_379 : decode cL_routes 379 = .ok (.if_icmp .ne 69, 3) := by decide +kernel
theorem dL_routes_382 : decode cL_routes 382 = .ok (.aload_n 0, 1) := by decide +kernel
theorem dL_routes_383 : decode cL_routes 383 = .ok (.invokevirtual 264, 3) := by decide +kernel
theorem dL_routes_386 : decode cL_routes 386 = .ok (.ifCond .eq 62, 3) := by decide +kernel
theorem dL_routes_389 : decode cL_routes 389 = .ok (.aload_n 0, 1) := by decide +kernel
theorem dL_routes_390 : decode cL_routes 390 = .ok (.iload_n 1, 1) := by decide +kernel
theorem dL_routes_391 : decode cL_routes 391 = .ok (.iconst 0, 1) := by decide +kernel
theorem dL_routes_392 : decode cL_routes 392 = .ok (.invokestatic 248, 3) := by decide +kernel
theorem dL_routes_395 : decode cL_routes 395 = .ok (.bipush (-11), 2) := by decide +kernel
theorem dL_routes_397 : decode cL_routes 397 = .ok (.if_icmp .ne 51, 3) := by decide +kernel
theorem dL_routes_400 : decode cL_routes 400 = .ok (.aload_n 0, 1) := by decide +kernel
theorem dL_routes_401 : decode cL_routes 401 = .ok (.iconst 0, 1) := by decide +kernel
theorem dL_routes_402 : decode cL_routes 402 = .ok (.iload_n 1, 1) := by decide +kernel
theorem dL_routes_403 : decode cL_routes 403 = .ok (.invokestatic 252, 3) := by decide +kernel
theorem dL_routes_406 : decode cL_routes 406 = .ok (.bipush (-11), 2) := by decide +kernel
theorem dL_routes_408 : decode cL_routes 408 = .ok (.if_icmp .ne 40, 3) := by decide +kernel
theorem dL_routes_411 : decode cL_routes 411 = .ok (.aload_n 0, 1) := by decide +kernel
theorem dL_routes_412 : decode cL_routes 412 = .ok (.iconst (-1), 1) := by decide +kernel
theorem dL_routes_413 : decode cL_routes 413 = .ok (.iconst 0, 1) := by decide +kernel
theorem dL_routes_414 : decode cL_routes 414 = .ok (.invokestatic 250, 3) := by decide +kernel
theorem dL_routes_417 : decode cL_routes 417 = .ok (.bipush (-11), 2) := by decide +kernel
theorem dL_routes_419 : decode cL_routes 419 = .ok (.if_icmp .ne 29, 3) := by decide +kernel
theorem dL_routes_422 : decode cL_routes 422 = .ok (.aload_n 0, 1) := by decide +kernel
theorem dL_routes_423 : decode cL_routes 423 = .ok (.iload_n 1, 1) := by decide +kernel
theorem dL_routes_424 : decode cL_routes 424 = .ok (.iload_n 1, 1) := by decide +kernel
theorem dL_routes_425 : decode cL_routes 425 = .ok (.invokestatic 255, 3) := by decide +kernel
theorem dL_routes_428 : decode cL_routes 428 = .ok (.bipush (-11), 2) := by decide +kernel
theorem dL_routes_430 : decode cL_routes 430 = .ok (.if_icmp .ne 18, 3) := by decide +kernel
theorem dL_routes_433 : decode cL_routes 433 = .ok (.aload_n 0, 1) := by decide +kernel
theorem dL_routes_434 : decode cL_routes 434 = .ok (.iconst 0, 1) := by decide +kernel
theorem dL_routes_435 : decode cL_routes 435 = .ok (.iconst (-1), 1) := by decide +kernel
theorem dL_routes_436 : decode cL_routes 436 = .ok (.invokestatic 258, 3) := by decide +kernel
theorem dL_routes_439 : decode cL_routes 439 = .ok (.bipush (-11), 2) := by decide +kernel
theorem dL_routes_441 : decode cL_routes 441 = .ok (.if_icmp .ne 7, 3) := by decide +kernel
theorem dL_routes_444 : decode cL_routes 444 = .ok (.iconst 1, 1) := by decide +kernel
theorem dL_routes_445 : decode cL_routes 445 = .ok (.goto 4, 3) := by decide +kernel
theorem dL_routes_448 : decode cL_routes 448 = .ok (.iconst 0, 1) := by decide +kernel
theorem dL_routes_449 : decode cL_routes 449 = .ok (.ireturn, 1) := by decide +kernel
theorem dL_subscribers_0 : decode cL_subscribers 0 = .ok (.aload_n 0, 1) := by decide +kernel
theorem dL_subscribers_1 : decode cL_subscribers 1 = .ok (.invokevirtual 173, 3) := by decide +kernel
theorem dL_subscribers_4 : decode cL_subscribers 4 = .ok (.istore_n 1, 1) := by decide +kernel
theorem dL_subscribers_5 : decode cL_subscribers 5 = .ok (.iconst 0, 1) := by decide +kernel
theorem dL_subscribers_6 : decode cL_subscribers 6 = .ok (.istore_n 2, 1) := by decide +kernel
theorem dL_subscribers_7 : decode cL_subscribers 7 = .ok (.iconst 0, 1) := by decide +kernel
theorem dL_subscribers_8 : decode cL_subscribers 8 = .ok (.istore_n 3, 1) := by decide +kernel
theorem dL_subscribers_9 : decode cL_subscribers 9 = .ok (.iconst 0, 1) := by decide +kernel
theorem dL_subscribers_10 : decode cL_subscribers 10 = .ok (.istore 4, 2) := by decide +kernel
theorem dL_subscribers_12 : decode cL_subscribers 12 = .ok (.iconst 0, 1) := by decide +kernel
theorem dL_subscribers_13 : decode cL_subscribers 13 = .ok (.istore 5, 2) := by decide +kernel
theorem dL_subscribers_15 : decode cL_subscribers 15 = .ok (.iconst 0, 1) := by decide +kernel
theorem dL_subscribers_16 : decode cL_subscribers 16 = .ok (.istore 6, 2) := by decide +kernel
theorem dL_subscribers_18 : decode cL_subscribers 18 = .ok (.iconst 0, 1) := by decide +kernel
theorem dL_subscribers_19 : decode cL_subscribers 19 = .ok (.istore 7, 2) := by decide +kernel
theorem dL_subscribers_21 : decode cL_subscribers 21 = .ok (.iload 7, 2) := by decide +kernel
theorem dL_subscribers_23 : decode cL_subscribers 23 = .ok (.iload_n 1, 1) := by decide +kernel
theorem dL_subscribers_24 : decode cL_subscribers 24 = .ok (.if_icmp .ge 342, 3) := by decide +kernel
theorem dL_subscribers_27 : decode cL_subscribers 27 = .ok (.aload_n 0, 1) := by decide +kernel
theorem dL_subscribers_28 : decode cL_subscribers 28 = .ok (.aload_n 0, 1) := by decide +kernel
theorem dL_subscribers_29 : decode cL_subscribers 29 = .ok (.iload 7, 2) := by decide +kernel
theorem dL_subscribers_31 : decode cL_subscribers 31 = .ok (.invokestatic 268, 3) := by decide +kernel
theorem dL_subscribers_34 : decode cL_subscribers 34 = .ok (.aload_n 0, 1) := by decide +kernel
theorem dL_subscribers_35 : decode cL_subscribers 35 = .ok (.iload 7, 2) := by decide +kernel
theorem dL_subscribers_37 : decode cL_subscribers 37 = .ok (.invokestatic 270, 3) := by decide +kernel
theorem dL_subscribers_40 : decode cL_subscribers 40 = .ok (.invokestatic 255, 3) := by decide +kernel
theorem dL_subscribers_43 : decode cL_subscribers 43 = .ok (.istore 8, 2) := by decide +kernel
theorem dL_subscribers_45 : decode cL_subscribers 45 = .ok (.iconst 0, 1) := by decide +kernel
theorem dL_subscribers_46 : decode cL_subscribers 46 = .ok (.istore 9, 2) := by decide +kernel
theorem dL_subscribers_48 : decode cL_subscribers 48 = .ok (.iconst 1, 1) := by decide +kernel
theorem dL_subscribers_49 : decode cL_subscribers 49 = .ok (.istore 10, 2) := by decide +kernel
theorem dL_subscribers_51 : decode cL_subscribers 51 = .ok (.iload 10, 2) := by decide +kernel
theorem dL_subscribers_53 : decode cL_subscribers 53 = .ok (.iload 8, 2) := by decide +kernel
theorem dL_subscribers_55 : decode cL_subscribers 55 = .ok (.if_icmp .gt 77, 3) := by decide +kernel
theorem dL_subscribers_58 : decode cL_subscribers 58 = .ok (.iconst 0, 1) := by decide +kernel
theorem dL_subscribers_59 : decode cL_subscribers 59 = .ok (.istore 11, 2) := by decide +kernel
theorem dL_subscribers_61 : decode cL_subscribers 61 = .ok (.iconst 0, 1) := by decide +kernel
theorem dL_subscribers_62 : decode cL_subscribers 62 = .ok (.istore 12, 2) := by decide +kernel
theorem dL_subscribers_64 : decode cL_subscribers 64 = .ok (.iload 12, 2) := by decide +kernel
theorem dL_subscribers_66 : decode cL_subscribers 66 = .ok (.iload_n 1, 1) := by decide +kernel
theorem dL_subscribers_67 : decode cL_subscribers 67 = .ok (.if_icmp .ge 30, 3) := by decide +kernel
theorem dL_subscribers_70 : decode cL_subscribers 70 = .ok (.iload 11, 2) := by decide +kernel
theorem dL_subscribers_72 : decode cL_subscribers 72 = .ok (.aload_n 0, 1) := by decide +kernel
theorem dL_subscribers_73 : decode cL_subscribers 73 = .ok (.iload 12, 2) := by decide +kernel
theorem dL_subscribers_75 : decode cL_subscribers 75 = .ok (.invokestatic 272, 3) := by decide +kernel
theorem dL_subscribers_78 : decode cL_subscribers 78 = .ok (.iload 10, 2) := by decide +kernel
theorem dL_subscribers_80 : decode cL_subscribers 80 = .ok (.if_icmp .lt 7, 3) := by decide +kernel
theorem dL_subscribers_83 : decode cL_subscribers 83 = .ok (.iconst 1, 1) := by decide +kernel
theorem dL_subscribers_84 : decode cL_subscribers 84 = .ok (.goto 4, 3) := by decide +kernel
theorem dL_subscribers_87 : decode cL_subscribers 87 = .ok (.iconst 0, 1) := by decide +kernel
theorem dL_subscribers_88 : decode cL_subscribers 88 = .ok (.iadd, 1) := by decide +kernel
theorem dL_subscribers_89 : decode cL_subscribers 89 = .ok (.istore 11, 2) := by decide +kernel
theorem dL_subscribers_91 : decode cL_subscribers 91 = .ok (.iinc 12 1, 3) := by decide +kernel
theorem dL_subscribers_94 : decode cL_subscribers 94 = .ok (.goto (-30), 3) := by decide +kernel
theorem dL_subscribers_97 : decode cL_subscribers 97 = .ok (.iload 9, 2) := by decide +kernel
theorem dL_subscribers_99 : decode cL_subscribers 99 = .ok (.bipush 60, 2) := by decide +kernel
theorem dL_subscribers_101 : decode cL_subscribers 101 = .ok (.iload 10, 2) := by decide +kernel
theorem dL_subscribers_103 : decode cL_subscribers 103 = .ok (.imul, 1) := by decide +kernel
theorem dL_subscribers_104 : decode cL_subscribers 104 = .ok (.iload 10, 2) := by decide +kernel
theorem dL_subscribers_106 : decode cL_subscribers 106 = .ok (.imul, 1) := by decide +kernel
theorem dL_subscribers_107 : decode cL_subscribers 107 = .ok (.bipush 60, 2) := by decide +kernel
theorem dL_subscribers_109 : decode cL_subscribers 109 = .ok (.iload 10, 2) := by decide +kernel
theorem dL_subscribers_111 : decode cL_subscribers 111 = .ok (.iconst 1, 1) := by decide +kernel
theorem dL_subscribers_112 : decode cL_subscribers 112 = .ok (.isub, 1) := by decide +kernel
theorem dL_subscribers_113 : decode cL_subscribers 113 = .ok (.imul, 1) := by decide +kernel
theorem dL_subscribers_114 : decode cL_subscribers 114 = .ok (.iload 10, 2) := by decide +kernel
theorem dL_subscribers_116 : decode cL_subscribers 116 = .ok (.iconst 1, 1) := by decide +kernel
theorem dL_subscribers_117 : decode cL_subscribers 117 = .ok (.isub, 1) := by decide +kernel
theorem dL_subscribers_118 : decode cL_subscribers 118 = .ok (.imul, 1) := by decide +kernel
theorem dL_subscribers_119 : decode cL_subscribers 119 = .ok (.isub, 1) := by decide +kernel
theorem dL_subscribers_120 : decode cL_subscribers 120 = .ok (.iload 11, 2) := by decide +kernel
theorem dL_subscribers_122 : decode cL_subscribers 122 = .ok (.idiv, 1) := by decide +kernel
theorem dL_subscribers_123 : decode cL_subscribers 123 = .ok (.iadd, 1) := by decide +kernel
theorem dL_subscribers_124 : decode cL_subscribers 124 = .ok (.istore 9, 2) := by decide +kernel
theorem dL_subscribers_126 : decode cL_subscribers 126 = .ok (.iinc 10 1, 3) := by decide +kernel
theorem dL_subscribers_129 : decode cL_subscribers 129 = .ok (.goto (-78), 3) := by decide +kernel
theorem dL_subscribers_132 : decode cL_subscribers 132 = .ok (.iload 8, 2) := by decide +kernel
theorem dL_subscribers_134 : decode cL_subscribers 134 = .ok (.ifCond .ge 8, 3) := by decide +kernel
theorem dL_subscribers_137 : decode cL_subscribers 137 = .ok (.bipush (-13), 2) := by decide +kernel
theorem dL_subscribers_139 : decode cL_subscribers 139 = .ok (.goto 5, 3) := by decide +kernel
theorem dL_subscribers_142 : decode cL_subscribers 142 = .ok (.iload 9, 2) := by decide +kernel
theorem dL_subscribers_144 : decode cL_subscribers 144 = .ok (.istore 9, 2) := by decide +kernel
theorem dL_subscribers_146 : decode cL_subscribers 146 = .ok (.aload_n 0, 1) := by decide +kernel
theorem dL_subscribers_147 : decode cL_subscribers 147 = .ok (.iload 7, 2) := by decide +kernel
theorem dL_subscribers_149 : decode cL_subscribers 149 = .ok (.invokestatic 272, 3) := by decide +kernel
theorem dL_subscribers_152 : decode cL_subscribers 152 = .ok (.iload 8, 2) := by decide +kernel
theorem dL_subscribers_154 : decode cL_subscribers 154 = .ok (.if_icmp .ne 60, 3) := by decide +kernel
theorem dL_subscribers_157 : decode cL_subscribers 157 = .ok (.aload_n 0, 1) := by decide +kernel
theorem dL_subscribers_158 : decode cL_subscribers 158 = .ok (.iload 7, 2) := by decide +kernel
theorem dL_subscribers_160 : decode cL_subscribers 160 = .ok (.invokestatic 274, 3) := by decide +kernel
theorem dL_subscribers_163 : decode cL_subscribers 163 = .ok (.iload 9, 2) := by decide +kernel
theorem dL_subscribers_165 : decode cL_subscribers 165 = .ok (.if_icmp .ne 49, 3) := by decide +kernel
theorem dL_subscribers_168 : decode cL_subscribers 168 = .ok (.aload_n 0, 1) := by decide +kernel
theorem dL_subscribers_169 : decode cL_subscribers 169 = .ok (.iload 7, 2) := by decide +kernel
theorem dL_subscribers_171 : decode cL_subscribers 171 = .ok (.invokestatic 276, 3) := by decide +kernel
theorem dL_subscribers_174 : decode cL_subscribers 174 = .ok (.iload 9, 2) := by decide +kernel
theorem dL_subscribers_176 : decode cL_subscribers 176 = .ok (.if_icmp .ne 38, 3) := by decide +kernel
theorem dL_subscribers_179 : decode cL_subscribers 179 = .ok (.aload_n 0, 1) := by decide +kernel
theorem dL_subscribers_180 : decode cL_subscribers 180 = .ok (.iload 7, 2) := by decide +kernel
theorem dL_subscribers_182 : decode cL_subscribers 182 = .ok (.invokestatic 279, 3) := by decide +kernel
theorem dL_subscribers_185 : decode cL_subscribers 185 = .ok (.ifCond .lt 29, 3) := by decide +kernel
theorem dL_subscribers_188 : decode cL_subscribers 188 = .ok (.aload_n 0, 1) := by decide +kernel
theorem dL_subscribers_189 : decode cL_subscribers 189 = .ok (.iload 7, 2) := by decide +kernel
theorem dL_subscribers_191 : decode cL_subscribers 191 = .ok (.invokestatic 281, 3) := by decide +kernel
theorem dL_subscribers_194 : decode cL_subscribers 194 = .ok (.iconst 1, 1) := by decide +kernel
theorem dL_subscribers_195 : decode cL_subscribers 195 = .ok (.if_icmp .ne 21, 3) := by decide +kernel
theorem dL_subscribers_198 : decode cL_subscribers 198 = .ok (.iload 8, 2) := by decide +kernel
theorem dL_subscribers_200 : decode cL_subscribers 200 = .ok (.ifCond .lt 14, 3) := by decide +kernel
theorem dL_subscribers_203 : decode cL_subscribers 203 = .ok (.aload_n 0, 1) := by decide +kernel
theorem dL_subscribers_204 : decode cL_subscribers 204 = .ok (.iload 7, 2) := by decide +kernel
theorem dL_subscribers_206 : decode cL_subscribers 206 = .ok (.invokestatic 279, 3) := by decide +kernel
theorem dL_subscribers_209 : decode cL_subscribers 209 = .ok (.iload 9, 2) := by decide +kernel
theorem dL_subscribers_211 : decode cL_subscribers 211 = .ok (.if_icmp .ge 5, 3) := by decide +kernel
theorem dL_subscribers_214 : decode cL_subscribers 214 = .ok (.iconst 0, 1) := by decide +kernel
theorem dL_subscribers_215 : decode cL_subscribers 215 = .ok (.ireturn, 1) := by decide +kernel
theorem dL_subscribers_216 : decode cL_subscribers 216 = .ok (.iload_n 2, 1) := by decide +kernel
theorem dL_subscribers_217 : decode cL_subscribers 217 = .ok (.iconst 0, 1) := by decide +kernel
theorem dL_subscribers_218 : decode cL_subscribers 218 = .ok (.iload 9, 2) := by decide +kernel
theorem dL_subscribers_220 : decode cL_subscribers 220 = .ok (.invokestatic 283, 3) := by decide +kernel
theorem dL_subscribers_223 : decode cL_subscribers 223 = .ok (.iadd, 1) := by decide +kernel
theorem dL_subscribers_224 : decode cL_subscribers 224 = .ok (.istore_n 2, 1) := by decide +kernel
theorem dL_subscribers_225 : decode cL_subscribers 225 = .ok (.iload_n 3, 1) := by decide +kernel
theorem dL_subscribers_226 : decode cL_subscribers 226 = .ok (.iload 8, 2) := by decide +kernel
theorem dL_subscribers_228 : decode cL_subscribers 228 = .ok (.invokestatic 283, 3) := by decide +kernel
theorem dL_subscribers_231 : decode cL_subscribers 231 = .ok (.istore_n 3, 1) := by decide +kernel
theorem dL_subscribers_232 : decode cL_subscribers 232 = .ok (.iload 4, 2) := by decide +kernel
theorem dL_subscribers_234 : decode cL_subscribers 234 = .ok (.aload_n 0, 1) := by decide +kernel
theorem dL_subscribers_235 : decode cL_subscribers 235 = .ok (.iload 7, 2) := by decide +kernel
theorem dL_subscribers_237 : decode cL_subscribers 237 = .ok (.invokestatic 279, 3) := by decide +kernel
theorem dL_subscribers_240 : decode cL_subscribers 240 = .ok (.iadd, 1) := by decide +kernel
theorem dL_subscribers_241 : decode cL_subscribers 241 = .ok (.istore 4, 2) := by decide +kernel
theorem dL_subscribers_243 : decode cL_subscribers 243 = .ok (.iload 5, 2) := by decide +kernel
theorem dL_subscribers_245 : decode cL_subscribers 245 = .ok (.aload_n 0, 1) := by decide +kernel
theorem dL_subscribers_246 : decode cL_subscribers 246 = .ok (.iload 7, 2) := by decide +kernel
theorem dL_subscribers_248 : decode cL_subscribers 248 = .ok (.invokestatic 286, 3) := by decide +kernel
theorem dL_subscribers_251 : decode cL_subscribers 251 = .ok (.iadd, 1) := by decide +kernel
theorem dL_subscribers_252 : decode cL_subscribers 252 = .ok (.istore 5, 2) := by decide +kernel
theorem dL_subscribers_254 : decode cL_subscribers 254 = .ok (.iload 6, 2) := by decide +kernel
theorem dL_subscribers_256 : decode cL_subscribers 256 = .ok (.aload_n 0, 1) := by decide +kernel
theorem dL_subscribers_257 : decode cL_subscribers 257 = .ok (.iload 7, 2) := by decide +kernel
theorem dL_subscribers_259 : decode cL_subscribers 259 = .ok (.invokestatic 289, 3) := by decide +kernel
theorem dL_subscribers_262 : decode cL_subscribers 262 = .ok (.iadd, 1) := by decide +kernel
theorem dL_subscribers_263 : decode cL_subscribers 263 = .ok (.istore 6, 2) := by decide +kernel
theorem dL_subscribers_265 : decode cL_subscribers 265 = .ok (.aload_n 0, 1) := by decide +kernel
theorem dL_subscribers_266 : decode cL_subscribers 266 = .ok (.iload 7, 2) := by decide +kernel
theorem dL_subscribers_268 : decode cL_subscribers 268 = .ok (.invokestatic 292, 3) := by decide +kernel
theorem dL_subscribers_271 : decode cL_subscribers 271 = .ok (.istore 10, 2) := by decide +kernel
theorem dL_subscribers_273 : decode cL_subscribers 273 = .ok (.iload 7, 2) := by decide +kernel
theorem dL_subscribers_275 : decode cL_subscribers 275 = .ok (.ifCond .ne 7, 3) := by decide +kernel
theorem dL_subscribers_278 : decode cL_subscribers 278 = .ok (.iconst (-1), 1) := by decide +kernel
theorem dL_subscribers_279 : decode cL_subscribers 279 = .ok (.goto 11, 3) := by decide +kernel
theorem dL_subscribers_282 : decode cL_subscribers 282 = .ok (.aload_n 0, 1) := by decide +kernel
theorem dL_subscribers_283 : decode cL_subscribers 283 = .ok (.iload 7, 2) := by decide +kernel
theorem dL_subscribers_285 : decode cL_subscribers 285 = .ok (.iconst 1, 1) := by decide +kernel
theorem dL_subscribers_286 : decode cL_subscribers 286 = .ok (.isub, 1) := by decide +kernel
theorem dL_subscribers_287 : decode cL_subscribers 287 = .ok (.invokestatic 292, 3) := by decide +kernel
theorem dL_subscribers_290 : decode cL_subscribers 290 = .ok (.istore 11, 2) := by decide +kernel
theorem dL_subscribers_292 : decode cL_subscribers 292 = .ok (.iload 7, 2) := by decide +kernel
theorem dL_subscribers_294 : decode cL_subscribers 294 = .ok (.ifCond .ne 7, 3) := by decide +kernel
theorem dL_subscribers_297 : decode cL_subscribers 297 = .ok (.iconst 1, 1) := by decide +kernel
theorem dL_subscribers_298 : decode cL_subscribers 298 = .ok (.goto 16, 3) := by decide +kernel
theorem dL_subscribers_301 : decode cL_subscribers 301 = .ok (.aload_n 0, 1) := by decide +kernel
theorem dL_subscribers_302 : decode cL_subscribers 302 = .ok (.iload 11, 2) := by decide +kernel
theorem dL_subscribers_304 : decode cL_subscribers 304 = .ok (.invokestatic 289, 3) := by decide +kernel
theorem dL_subscribers_307 : decode cL_subscribers 307 = .ok (.aload_n 0, 1) := by decide +kernel
theorem dL_subscribers_308 : decode cL_subscribers 308 = .ok (.iload 10, 2) := by decide +kernel
theorem dL_subscribers_310 : decode cL_subscribers 310 = .ok (.invokestatic 289, 3) := by decide +kernel
theorem dL_subscribers_313 : decode cL_subscribers 313 = .ok (.isub, 1) := by decide +kernel
theorem dL_subscribers_314 : decode cL_subscribers 314 = .ok (.istore 12, 2) := by decide +kernel
theorem dL_subscribers_316 : decode cL_subscribers 316 = .ok (.iload 10, 2) := by decide +kernel
theorem dL_subscribers_318 : decode cL_subscribers 318 = .ok (.ifCond .lt 40, 3) := by decide +kernel
theorem dL_subscribers_321 : decode cL_subscribers 321 = .ok (.iload 12, 2) := by decide +kernel
theorem dL_subscribers_323 : decode cL_subscribers 323 = .ok (.ifCond .lt 35, 3) := by decide +kernel
theorem dL_subscribers_326 : decode cL_subscribers 326 = .ok (.iload 12, 2) := by decide +kernel
theorem dL_subscribers_328 : decode cL_subscribers 328 = .ok (.ifCond .ne 10, 3) := by decide +kernel
theorem dL_subscribers_331 : decode cL_subscribers 331 = .ok (.iload 11, 2) := by decide +kernel
theorem dL_subscribers_333 : decode cL_subscribers 333 = .ok (.iload 10, 2) := by decide +kernel
theorem dL_subscribers_335 : decode cL_subscribers 335 = .ok (.if_icmp .gt 23, 3) := by decide +kernel
theorem dL_subscribers_338 : decode cL_subscribers 338 = .ok (.aload_n 0, 1) := by decide +kernel
theorem dL_subscribers_339 : decode cL_subscribers 339 = .ok (.iload 7, 2) := by decide +kernel
theorem dL_subscribers_341 : decode cL_subscribers 341 = .ok (.invokestatic 286, 3) := by decide +kernel
theorem dL_subscribers_344 : decode cL_subscribers 344 = .ok (.aload_n 0, 1) := by decide +kernel
theorem dL_subscribers_345 : decode cL_subscribers 345 = .ok (.iload 7, 2) := by decide +kernel
theorem dL_subscribers_347 : decode cL_subscribers 347 = .ok (.invokestatic 289, 3) := by decide +kernel
theorem dL_subscribers_350 : decode cL_subscribers 350 = .ok (.iadd, 1) := by decide +kernel
theorem dL_subscribers_351 : decode cL_subscribers 351 = .ok (.aload_n 0, 1) := by decide +kernel
theorem dL_subscribers_352 : decode cL_subscribers 352 = .ok (.invokevirtual 227, 3) := by decide +kernel
theorem dL_subscribers_355 : decode cL_subscribers 355 = .ok (.if_icmp .le 5, 3) := by decide +kernel
