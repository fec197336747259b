theorem dX12_why_269 : decode cX12_why 269 = .ok (.bipush 102, 2) := by decide +kernel
theorem dX12_why_271 : decode cX12_why 271 = .ok (.if_icmp .ne 36, 3) := by decide +kernel
theorem dX12_why_274 : decode cX12_why 274 = .ok (.aload_n 0, 1) := by decide +kernel
theorem dX12_why_275 : decode cX12_why 275 = .ok (.getfield 133, 3) := by decide +kernel
theorem dX12_why_278 : decode cX12_why 278 = .ok (.iload 5, 2) := by decide +kernel
theorem dX12_why_280 : decode cX12_why 280 = .ok (.daload, 1) := by decide +kernel
theorem dX12_why_281 : decode cX12_why 281 = .ok (.invokestatic 387, 3) := by decide +kernel
theorem dX12_why_284 : decode cX12_why 284 = .ok (.dstore 6, 2) := by decide +kernel
theorem dX12_why_286 : decode cX12_why 286 = .ok (.dload 6, 2) := by decide +kernel
theorem dX12_why_288 : decode cX12_why 288 = .ok (.ldc2_w 390, 3) := by decide +kernel
theorem dX12_why_291 : decode cX12_why 291 = .ok (.dcmp .l, 1) := by decide +kernel
theorem dX12_why_292 : decode cX12_why 292 = .ok (.ifCond .lt 12, 3) := by decide +kernel
theorem dX12_why_295 : decode cX12_why 295 = .ok (.dload 6, 2) := by decide +kernel
theorem dX12_why_297 : decode cX12_why 297 = .ok (.ldc2_w 392, 3) := by decide +kernel
theorem dX12_why_300 : decode cX12_why 300 = .ok (.dcmp .g, 1) := by decide +kernel
theorem dX12_why_301 : decode cX12_why 301 = .ok (.ifCond .le 6, 3) := by decide +kernel
theorem dX12_why_304 : decode cX12_why 304 = .ok (.bipush 119, 2) := by decide +kernel
theorem dX12_why_306 : decode cX12_why 306 = .ok (.ireturn, 1) := by decide +kernel
theorem dX12_why_307 : decode cX12_why 307 = .ok (.iload_n 3, 1) := by decide +kernel
theorem dX12_why_308 : decode cX12_why 308 = .ok (.bipush 103, 2) := by decide +kernel
theorem dX12_why_310 : decode cX12_why 310 = .ok (.if_icmp .ne 27, 3) := by decide +kernel
theorem dX12_why_313 : decode cX12_why 313 = .ok (.aload_n 0, 1) := by decide +kernel
theorem dX12_why_314 : decode cX12_why 314 = .ok (.aload_n 0, 1) := by decide +kernel
theorem dX12_why_315 : decode cX12_why 315 = .ok (.getfield 149, 3) := by decide +kernel
theorem dX12_why_318 : decode cX12_why 318 = .ok (.aload_n 0, 1) := by decide +kernel
theorem dX12_why_319 : decode cX12_why 319 = .ok (.getfield 130, 3) := by decide +kernel
theorem dX12_why_322 : decode cX12_why 322 = .ok (.iload 5, 2) := by decide +kernel
theorem dX12_why_324 : decode cX12_why 324 = .ok (.iaload, 1) := by decide +kernel
theorem dX12_why_325 : decode cX12_why 325 = .ok (.iaload, 1) := by decide +kernel
theorem dX12_why_326 : decode cX12_why 326 = .ok (.iload 4, 2) := by decide +kernel
theorem dX12_why_328 : decode cX12_why 328 = .ok (.invokevirtual 252, 3) := by decide +kernel
theorem dX12_why_331 : decode cX12_why 331 = .ok (.ifCond .ne 6, 3) := by decide +kernel
theorem dX12_why_334 : decode cX12_why 334 = .ok (.bipush 102, 2) := by decide +kernel
theorem dX12_why_336 : decode cX12_why 336 = .ok (.ireturn, 1) := by decide +kernel
theorem dX12_why_337 : decode cX12_why 337 = .ok (.iload_n 3, 1) := by decide +kernel
theorem dX12_why_338 : decode cX12_why 338 = .ok (.bipush 112, 2) := by decide +kernel
theorem dX12_why_340 : decode cX12_why 340 = .ok (.if_icmp .ne 59, 3) := by decide +kernel
theorem dX12_why_343 : decode cX12_why 343 = .ok (.aload_n 0, 1) := by decide +kernel
theorem dX12_why_344 : decode cX12_why 344 = .ok (.getfield 149, 3) := by decide +kernel
theorem dX12_why_347 : decode cX12_why 347 = .ok (.aload_n 0, 1) := by decide +kernel
theorem dX12_why_348 : decode cX12_why 348 = .ok (.getfield 130, 3) := by decide +kernel
theorem dX12_why_351 : decode cX12_why 351 = .ok (.iload 5, 2) := by decide +kernel
theorem dX12_why_353 : decode cX12_why 353 = .ok (.iconst 1, 1) := by decide +kernel
theorem dX12_why_354 : decode cX12_why 354 = .ok (.isub, 1) := by decide +kernel
theorem dX12_why_355 : decode cX12_why 355 = .ok (.iaload, 1) := by decide +kernel
theorem dX12_why_356 : decode cX12_why 356 = .ok (.iaload, 1) := by decide +kernel
theorem dX12_why_357 : decode cX12_why 357 = .ok (.istore 6, 2) := by decide +kernel
theorem dX12_why_359 : decode cX12_why 359 = .ok (.aload_n 0, 1) := by decide +kernel
theorem dX12_why_360 : decode cX12_why 360 = .ok (.iload 6, 2) := by decide +kernel
theorem dX12_why_362 : decode cX12_why 362 = .ok (.iload 4, 2) := by decide +kernel
theorem dX12_why_364 : decode cX12_why 364 = .ok (.invokevirtual 252, 3) := by decide +kernel
theorem dX12_why_367 : decode cX12_why 367 = .ok (.ifCond .ne 32, 3) := by decide +kernel
theorem dX12_why_370 : decode cX12_why 370 = .ok (.aload_n 0, 1) := by decide +kernel
theorem dX12_why_371 : decode cX12_why 371 = .ok (.getfield 47, 3) := by decide +kernel
theorem dX12_why_374 : decode cX12_why 374 = .ok (.bipush 6, 2) := by decide +kernel
theorem dX12_why_376 : decode cX12_why 376 = .ok (.iload 6, 2) := by decide +kernel
theorem dX12_why_378 : decode cX12_why 378 = .ok (.imul, 1) := by decide +kernel
theorem dX12_why_379 : decode cX12_why 379 = .ok (.iload 4, 2) := by decide +kernel
theorem dX12_why_381 : decode cX12_why 381 = .ok (.iadd, 1) := by decide +kernel
theorem dX12_why_382 : decode cX12_why 382 = .ok (.iaload, 1) := by decide +kernel
theorem dX12_why_383 : decode cX12_why 383 = .ok (.iconst (-1), 1) := by decide +kernel
theorem dX12_why_384 : decode cX12_why 384 = .ok (.if_icmp .ne 15, 3) := by decide +kernel
theorem dX12_why_387 : decode cX12_why 387 = .ok (.aload_n 0, 1) := by decide +kernel
theorem dX12_why_388 : decode cX12_why 388 = .ok (.getfield 231, 3) := by decide +kernel
theorem dX12_why_391 : decode cX12_why 391 = .ok (.bipush 60, 2) := by decide +kernel
theorem dX12_why_393 : decode cX12_why 393 = .ok (.if_icmp .ne 6, 3) := by decide +kernel
theorem dX12_why_396 : decode cX12_why 396 = .ok (.bipush 102, 2) := by decide +kernel
theorem dX12_why_398 : decode cX12_why 398 = .ok (.ireturn, 1) := by decide +kernel
theorem dX12_why_399 : decode cX12_why 399 = .ok (.iload_n 3, 1) := by decide +kernel
theorem dX12_why_400 : decode cX12_why 400 = .ok (.bipush 109, 2) := by decide +kernel
theorem dX12_why_402 : decode cX12_why 402 = .ok (.if_icmp .ne 33, 3) := by decide +kernel
theorem dX12_why_405 : decode cX12_why 405 = .ok (.aload_n 0, 1) := by decide +kernel
theorem dX12_why_406 : decode cX12_why 406 = .ok (.aload_n 0, 1) := by decide +kernel
theorem dX12_why_407 : decode cX12_why 407 = .ok (.getfield 38, 3) := by decide +kernel
theorem dX12_why_410 : decode cX12_why 410 = .ok (.aload_n 0, 1) := by decide +kernel
theorem dX12_why_411 : decode cX12_why 411 = .ok (.getfield 149, 3) := by decide +kernel
theorem dX12_why_414 : decode cX12_why 414 = .ok (.aload_n 0, 1) := by decide +kernel
theorem dX12_why_415 : decode cX12_why 415 = .ok (.getfield 130, 3) := by decide +kernel
theorem dX12_why_418 : decode cX12_why 418 = .ok (.iload 5, 2) := by decide +kernel
theorem dX12_why_420 : decode cX12_why 420 = .ok (.iaload, 1) := by decide +kernel
theorem dX12_why_421 : decode cX12_why 421 = .ok (.iaload, 1) := by decide +kernel
theorem dX12_why_422 : decode cX12_why 422 = .ok (.iaload, 1) := by decide +kernel
theorem dX12_why_423 : decode cX12_why 423 = .ok (.iload 4, 2) := by decide +kernel
theorem dX12_why_425 : decode cX12_why 425 = .ok (.invokevirtual 394, 3) := by decide +kernel
theorem dX12_why_428 : decode cX12_why 428 = .ok (.iconst (-1), 1) := by decide +kernel
theorem dX12_why_429 : decode cX12_why 429 = .ok (.if_icmp .ne 6, 3) := by decide +kernel
theorem dX12_why_432 : decode cX12_why 432 = .ok (.bipush 109, 2) := by decide +kernel
theorem dX12_why_434 : decode cX12_why 434 = .ok (.ireturn, 1) := by decide +kernel
theorem dX12_why_435 : decode cX12_why 435 = .ok (.iload_n 3, 1) := by decide +kernel
theorem dX12_why_436 : decode cX12_why 436 = .ok (.bipush 99, 2) := by decide +kernel
theorem dX12_why_438 : decode cX12_why 438 = .ok (.if_icmp .eq 9, 3) := by decide +kernel
theorem dX12_why_441 : decode cX12_why 441 = .ok (.iload_n 3, 1) := by decide +kernel
theorem dX12_why_442 : decode cX12_why 442 = .ok (.bipush 109, 2) := by decide +kernel
theorem dX12_why_444 : decode cX12_why 444 = .ok (.if_icmp .ne 15, 3) := by decide +kernel
theorem dX12_why_447 : decode cX12_why 447 = .ok (.aload_n 0, 1) := by decide +kernel
theorem dX12_why_448 : decode cX12_why 448 = .ok (.getfield 262, 3) := by decide +kernel
theorem dX12_why_451 : decode cX12_why 451 = .ok (.bipush 11, 2) := by decide +kernel
theorem dX12_why_453 : decode cX12_why 453 = .ok (.if_icmp .ne 6, 3) := by decide +kernel
theorem dX12_why_456 : decode cX12_why 456 = .ok (.bipush 100, 2) := by decide +kernel
theorem dX12_why_458 : decode cX12_why 458 = .ok (.ireturn, 1) := by decide +kernel
theorem dX12_why_459 : decode cX12_why 459 = .ok (.iload_n 3, 1) := by decide +kernel
theorem dX12_why_460 : decode cX12_why 460 = .ok (.bipush 110, 2) := by decide +kernel
theorem dX12_why_462 : decode cX12_why 462 = .ok (.if_icmp .ne 17, 3) := by decide +kernel
theorem dX12_why_465 : decode cX12_why 465 = .ok (.aload_n 0, 1) := by decide +kernel
theorem dX12_why_466 : decode cX12_why 466 = .ok (.getfield 398, 3) := by decide +kernel
theorem dX12_why_469 : decode cX12_why 469 = .ok (.bipush 60, 2) := by decide +kernel
theorem dX12_why_471 : decode cX12_why 471 = .ok (.if_icmp .ne 8, 3) := by decide +kernel
theorem dX12_why_474 : decode cX12_why 474 = .ok (.bipush 111, 2) := by decide +kernel
theorem dX12_why_476 : decode cX12_why 476 = .ok (.goto 4, 3) := by decide +kernel
theorem dX12_why_479 : decode cX12_why 479 = .ok (.iconst 0, 1) := by decide +kernel
theorem dX12_why_480 : decode cX12_why 480 = .ok (.ireturn, 1) := by decide +kernel
theorem dX12_calls_0 : decode cX12_calls 0 = .ok (.aload_n 0, 1) := by decide +kernel
theorem dX12_calls_1 : decode cX12_calls 1 = .ok (.iconst 0, 1) := by decide +kernel
theorem dX12_calls_2 : decode cX12_calls 2 = .ok (.invokevirtual 297, 3) := by decide +kernel
theorem dX12_calls_5 : decode cX12_calls 5 = .ok (.iload_n 2, 1) := by decide +kernel
theorem dX12_calls_6 : decode cX12_calls 6 = .ok (.isub, 1) := by decide +kernel
theorem dX12_calls_7 : decode cX12_calls 7 = .ok (.iconst 1, 1) := by decide +kernel
theorem dX12_calls_8 : decode cX12_calls 8 = .ok (.iadd, 1) := by decide +kernel
theorem dX12_calls_9 : decode cX12_calls 9 = .ok (.istore_n 3, 1) := by decide +kernel
theorem dX12_calls_10 : decode cX12_calls 10 = .ok (.aload_n 0, 1) := by decide +kernel
theorem dX12_calls_11 : decode cX12_calls 11 = .ok (.getfield 146, 3) := by decide +kernel
theorem dX12_calls_14 : decode cX12_calls 14 = .ok (.aload_n 0, 1) := by decide +kernel
theorem dX12_calls_15 : decode cX12_calls 15 = .ok (.getfield 262, 3) := by decide +kernel
theorem dX12_calls_18 : decode cX12_calls 18 = .ok (.dup2, 1) := by decide +kernel
theorem dX12_calls_19 : decode cX12_calls 19 = .ok (.iaload, 1) := by decide +kernel
theorem dX12_calls_20 : decode cX12_calls 20 = .ok (.iload_n 2, 1) := by decide +kernel
theorem dX12_calls_21 : decode cX12_calls 21 = .ok (.isub, 1) := by decide +kernel
theorem dX12_calls_22 : decode cX12_calls 22 = .ok (.iastore, 1) := by decide +kernel
theorem dX12_calls_23 : decode cX12_calls 23 = .ok (.aload_n 0, 1) := by decide +kernel
theorem dX12_calls_24 : decode cX12_calls 24 = .ok (.getfield 143, 3) := by decide +kernel
theorem dX12_calls_27 : decode cX12_calls 27 = .ok (.aload_n 0, 1) := by decide +kernel
theorem dX12_calls_28 : decode cX12_calls 28 = .ok (.getfield 262, 3) := by decide +kernel
theorem dX12_calls_31 : decode cX12_calls 31 = .ok (.dup2, 1) := by decide +kernel
theorem dX12_calls_32 : decode cX12_calls 32 = .ok (.iaload, 1) := by decide +kernel
theorem dX12_calls_33 : decode cX12_calls 33 = .ok (.iconst 1, 1) := by decide +kernel
theorem dX12_calls_34 : decode cX12_calls 34 = .ok (.iadd, 1) := by decide +kernel
theorem dX12_calls_35 : decode cX12_calls 35 = .ok (.iastore, 1) := by decide +kernel
theorem dX12_calls_36 : decode cX12_calls 36 = .ok (.aload_n 0, 1) := by decide +kernel
theorem dX12_calls_37 : decode cX12_calls 37 = .ok (.dup, 1) := by decide +kernel
theorem dX12_calls_38 : decode cX12_calls 38 = .ok (.getfield 262, 3) := by decide +kernel
theorem dX12_calls_41 : decode cX12_calls 41 = .ok (.iconst 1, 1) := by decide +kernel
theorem dX12_calls_42 : decode cX12_calls 42 = .ok (.iadd, 1) := by decide +kernel
theorem dX12_calls_43 : decode cX12_calls 43 = .ok (.putfield 262, 3) := by decide +kernel
theorem dX12_calls_46 : decode cX12_calls 46 = .ok (.aload_n 0, 1) := by decide +kernel
theorem dX12_calls_47 : decode cX12_calls 47 = .ok (.getfield 140, 3) := by decide +kernel
theorem dX12_calls_50 : decode cX12_calls 50 = .ok (.aload_n 0, 1) := by decide +kernel
theorem dX12_calls_51 : decode cX12_calls 51 = .ok (.getfield 262, 3) := by decide +kernel
theorem dX12_calls_54 : decode cX12_calls 54 = .ok (.iload_n 1, 1) := by decide +kernel
theorem dX12_calls_55 : decode cX12_calls 55 = .ok (.iastore, 1) := by decide +kernel
theorem dX12_calls_56 : decode cX12_calls 56 = .ok (.aload_n 0, 1) := by decide +kernel
theorem dX12_calls_57 : decode cX12_calls 57 = .ok (.getfield 143, 3) := by decide +kernel
theorem dX12_calls_60 : decode cX12_calls 60 = .ok (.aload_n 0, 1) := by decide +kernel
theorem dX12_calls_61 : decode cX12_calls 61 = .ok (.getfield 262, 3) := by decide +kernel
theorem dX12_calls_64 : decode cX12_calls 64 = .ok (.iconst 0, 1) := by decide +kernel
theorem dX12_calls_65 : decode cX12_calls 65 = .ok (.iastore, 1) := by decide +kernel
theorem dX12_calls_66 : decode cX12_calls 66 = .ok (.aload_n 0, 1) := by decide +kernel
theorem dX12_calls_67 : decode cX12_calls 67 = .ok (.getfield 146, 3) := by decide +kernel
theorem dX12_calls_70 : decode cX12_calls 70 = .ok (.aload_n 0, 1) := by decide +kernel
theorem dX12_calls_71 : decode cX12_calls 71 = .ok (.getfield 262, 3) := by decide +kernel
theorem dX12_calls_74 : decode cX12_calls 74 = .ok (.iconst 0, 1) := by decide +kernel
theorem dX12_calls_75 : decode cX12_calls 75 = .ok (.iastore, 1) := by decide +kernel
theorem dX12_calls_76 : decode cX12_calls 76 = .ok (.iconst 0, 1) := by decide +kernel
theorem dX12_calls_77 : decode cX12_calls 77 = .ok (.istore 4, 2) := by decide +kernel
theorem dX12_calls_79 : decode cX12_calls 79 = .ok (.iload 4, 2) := by decide +kernel
theorem dX12_calls_81 : decode cX12_calls 81 = .ok (.bipush 6, 2) := by decide +kernel
theorem dX12_calls_83 : decode cX12_calls 83 = .ok (.if_icmp .ge 89, 3) := by decide +kernel
theorem dX12_calls_86 : decode cX12_calls 86 = .ok (.bipush 14, 2) := by decide +kernel
theorem dX12_calls_88 : decode cX12_calls 88 = .ok (.aload_n 0, 1) := by decide +kernel
theorem dX12_calls_89 : decode cX12_calls 89 = .ok (.getfield 262, 3) := by decide +kernel
theorem dX12_calls_92 : decode cX12_calls 92 = .ok (.imul, 1) := by decide +kernel
theorem dX12_calls_93 : decode cX12_calls 93 = .ok (.iload 4, 2) := by decide +kernel
theorem dX12_calls_95 : decode cX12_calls 95 = .ok (.iadd, 1) := by decide +kernel
theorem dX12_calls_96 : decode cX12_calls 96 = .ok (.istore 5, 2) := by decide +kernel
theorem dX12_calls_98 : decode cX12_calls 98 = .ok (.iload 4, 2) := by decide +kernel
theorem dX12_calls_100 : decode cX12_calls 100 = .ok (.iload_n 2, 1) := by decide +kernel
theorem dX12_calls_101 : decode cX12_calls 101 = .ok (.if_icmp .ge 16, 3) := by decide +kernel
theorem dX12_calls_104 : decode cX12_calls 104 = .ok (.aload_n 0, 1) := by decide +kernel
theorem dX12_calls_105 : decode cX12_calls 105 = .ok (.iload_n 3, 1) := by decide +kernel
theorem dX12_calls_106 : decode cX12_calls 106 = .ok (.iload 4, 2) := by decide +kernel
theorem dX12_calls_108 : decode cX12_calls 108 = .ok (.iadd, 1) := by decide +kernel
theorem dX12_calls_109 : decode cX12_calls 109 = .ok (.iload 5, 2) := by decide +kernel
theorem dX12_calls_111 : decode cX12_calls 111 = .ok (.invokevirtual 401, 3) := by decide +kernel
theorem dX12_calls_114 : decode cX12_calls 114 = .ok (.goto 52, 3) := by decide +kernel
theorem dX12_calls_117 : decode cX12_calls 117 = .ok (.aload_n 0, 1) := by decide +kernel
theorem dX12_calls_118 : decode cX12_calls 118 = .ok (.getfield 127, 3) := by decide +kernel
theorem dX12_calls_121 : decode cX12_calls 121 = .ok (.iload 5, 2) := by decide +kernel
theorem dX12_calls_123 : decode cX12_calls 123 = .ok (.bipush 110, 2) := by decide +kernel
theorem dX12_calls_125 : decode cX12_calls 125 = .ok (.castore, 1) := by decide +kernel
theorem dX12_calls_126 : decode cX12_calls 126 = .ok (.aload_n 0, 1) := by decide +kernel
theorem dX12_calls_127 : decode cX12_calls 127 = .ok (.getfield 130, 3) := by decide +kernel
theorem dX12_calls_130 : decode cX12_calls 130 = .ok (.iload 5, 2) := by decide +kernel
theorem dX12_calls_132 : decode cX12_calls 132 = .ok (.iconst 0, 1) := by decide +kernel
theorem dX12_calls_133 : decode cX12_calls 133 = .ok (.iastore, 1) := by decide +kernel
theorem dX12_calls_134 : decode cX12_calls 134 = .ok (.aload_n 0, 1) := by decide +kernel
theorem dX12_calls_135 : decode cX12_calls 135 = .ok (.getfield 133, 3) := by decide +kernel
theorem dX12_calls_138 : decode cX12_calls 138 = .ok (.iload 5, 2) := by decide +kernel
theorem dX12_calls_140 : decode cX12_calls 140 = .ok (.dconst 0, 1) := by decide +kernel
theorem dX12_calls_141 : decode cX12_calls 141 = .ok (.dastore, 1) := by decide +kernel
theorem dX12_calls_142 : decode cX12_calls 142 = .ok (.aload_n 0, 1) := by decide +kernel
theorem dX12_calls_143 : decode cX12_calls 143 = .ok (.getfield 137, 3) := by decide +kernel
theorem dX12_calls_146 : decode cX12_calls 146 = .ok (.iload 5, 2) := by decide +kernel
theorem dX12_calls_148 : decode cX12_calls 148 = .ok (.aload_n 0, 1) := by decide +kernel
theorem dX12_calls_149 : decode cX12_calls 149 = .ok (.getfield 353, 3) := by decide +kernel
theorem dX12_calls_152 : decode cX12_calls 152 = .ok (.ifCond .eq 12, 3) := by decide +kernel
theorem dX12_calls_155 : decode cX12_calls 155 = .ok (.aload_n 0, 1) := by decide +kernel
theorem dX12_calls_156 : decode cX12_calls 156 = .ok (.bipush 110, 2) := by decide +kernel
theorem dX12_calls_158 : decode cX12_calls 158 = .ok (.invokevirtual 405, 3) := by decide +kernel
theorem dX12_calls_161 : decode cX12_calls 161 = .ok (.goto 4, 3) := by decide +kernel
theorem dX12_calls_164 : decode cX12_calls 164 = .ok (.iconst 0, 1) := by decide +kernel
theorem dX12_calls_165 : decode cX12_calls 165 = .ok (.iastore, 1) := by decide +kernel
theorem dX12_calls_166 : decode cX12_calls 166 = .ok (.iinc 4 1, 3) := by decide +kernel
theorem dX12_calls_169 : decode cX12_calls 169 = .ok (.goto (-90), 3) := by decide +kernel
theorem dX12_calls_172 : decode cX12_calls 172 = .ok (.return_, 1) := by decide +kernel
theorem dX12_puts_0 : decode cX12_puts 0 = .ok (.aload_n 0, 1) := by decide +kernel
theorem dX12_puts_1 : decode cX12_puts 1 = .ok (.iconst 1, 1) := by decide +kernel
theorem dX12_puts_2 : decode cX12_puts 2 = .ok (.invokevirtual 297, 3) := by decide +kernel
theorem dX12_puts_5 : decode cX12_puts 5 = .ok (.istore_n 2, 1) := by decide +kernel
theorem dX12_puts_6 : decode cX12_puts 6 = .ok (.aload_n 0, 1) := by decide +kernel
theorem dX12_puts_7 : decode cX12_puts 7 = .ok (.getfield 130, 3) := by decide +kernel
theorem dX12_puts_10 : decode cX12_puts 10 = .ok (.iload_n 2, 1) := by decide +kernel
theorem dX12_puts_11 : decode cX12_puts 11 = .ok (.iaload, 1) := by decide +kernel
theorem dX12_puts_12 : decode cX12_puts 12 = .ok (.istore_n 3, 1) := by decide +kernel
theorem dX12_puts_13 : decode cX12_puts 13 = .ok (.aload_n 0, 1) := by decide +kernel
theorem dX12_puts_14 : decode cX12_puts 14 = .ok (.iconst 0, 1) := by decide +kernel
theorem dX12_puts_15 : decode cX12_puts 15 = .ok (.invokevirtual 297, 3) := by decide +kernel
theorem dX12_puts_18 : decode cX12_puts 18 = .ok (.istore 4, 2) := by decide +kernel
theorem dX12_puts_20 : decode cX12_puts 20 = .ok (.aload_n 0, 1) := by decide +kernel
theorem dX12_puts_21 : decode cX12_puts 21 = .ok (.getfield 149, 3) := by decide +kernel
theorem dX12_puts_24 : decode cX12_puts 24 = .ok (.iload_n 3, 1) := by decide +kernel
theorem dX12_puts_25 : decode cX12_puts 25 = .ok (.iaload, 1) := by decide +kernel
theorem dX12_puts_26 : decode cX12_puts 26 = .ok (.istore 5, 2) := by decide +kernel
theorem dX12_puts_28 : decode cX12_puts 28 = .ok (.aload_n 0, 1) := by decide +kernel
theorem dX12_puts_29 : decode cX12_puts 29 = .ok (.iload 5, 2) := by decide +kernel
theorem dX12_puts_31 : decode cX12_puts 31 = .ok (.iload_n 1, 1) := by decide +kernel
theorem dX12_puts_32 : decode cX12_puts 32 = .ok (.invokevirtual 409, 3) := by decide +kernel
theorem dX12_puts_35 : decode cX12_puts 35 = .ok (.istore 6, 2) := by decide +kernel
theorem dX12_puts_37 : decode cX12_puts 37 = .ok (.aload_n 0, 1) := by decide +kernel
theorem dX12_puts_38 : decode cX12_puts 38 = .ok (.getfield 149, 3) := by decide +kernel
theorem dX12_puts_41 : decode cX12_puts 41 = .ok (.iload_n 3, 1) := by decide +kernel
theorem dX12_puts_42 : decode cX12_puts 42 = .ok (.iload 6, 2) := by decide +kernel
theorem dX12_puts_44 : decode cX12_puts 44 = .ok (.iastore, 1) := by decide +kernel
theorem dX12_puts_45 : decode cX12_puts 45 = .ok (.aload_n 0, 1) := by decide +kernel
theorem dX12_puts_46 : decode cX12_puts 46 = .ok (.getfield 152, 3) := by decide +kernel
theorem dX12_puts_49 : decode cX12_puts 49 = .ok (.bipush 6, 2) := by decide +kernel
theorem dX12_puts_51 : decode cX12_puts 51 = .ok (.iload_n 3, 1) := by decide +kernel
theorem dX12_puts_52 : decode cX12_puts 52 = .ok (.imul, 1) := by decide +kernel
theorem dX12_puts_53 : decode cX12_puts 53 = .ok (.iload_n 1, 1) := by decide +kernel
theorem dX12_puts_54 : decode cX12_puts 54 = .ok (.iadd, 1) := by decide +kernel
theorem dX12_puts_55 : decode cX12_puts 55 = .ok (.aload_n 0, 1) := by decide +kernel
theorem dX12_puts_56 : decode cX12_puts 56 = .ok (.getfield 127, 3) := by decide +kernel
theorem dX12_puts_59 : decode cX12_puts 59 = .ok (.iload 4, 2) := by decide +kernel
theorem dX12_puts_61 : decode cX12_puts 61 = .ok (.caload, 1) := by decide +kernel
theorem dX12_puts_62 : decode cX12_puts 62 = .ok (.castore, 1) := by decide +kernel
theorem dX12_puts_63 : decode cX12_puts 63 = .ok (.aload_n 0, 1) := by decide +kernel
theorem dX12_puts_64 : decode cX12_puts 64 = .ok (.getfield 155, 3) := by decide +kernel
theorem dX12_puts_67 : decode cX12_puts 67 = .ok (.bipush 6, 2) := by decide +kernel
theorem dX12_puts_69 : decode cX12_puts 69 = .ok (.iload_n 3, 1) := by decide +kernel
theorem dX12_puts_70 : decode cX12_puts 70 = .ok (.imul, 1) := by decide +kernel
theorem dX12_puts_71 : decode cX12_puts 71 = .ok (.iload_n 1, 1) := by decide +kernel
theorem dX12_puts_72 : decode cX12_puts 72 = .ok (.iadd, 1) := by decide +kernel
theorem dX12_puts_73 : decode cX12_puts 73 = .ok (.aload_n 0, 1) := by decide +kernel
theorem dX12_puts_74 : decode cX12_puts 74 = .ok (.getfield 130, 3) := by decide +kernel
theorem dX12_puts_77 : decode cX12_puts 77 = .ok (.iload 4, 2) := by decide +kernel
theorem dX12_puts_79 : decode cX12_puts 79 = .ok (.iaload, 1) := by decide +kernel
theorem dX12_puts_80 : decode cX12_puts 80 = .ok (.iastore, 1) := by decide +kernel
theorem dX12_puts_81 : decode cX12_puts 81 = .ok (.aload_n 0, 1) := by decide +kernel
theorem dX12_puts_82 : decode cX12_puts 82 = .ok (.getfield 158, 3) := by decide +kernel
theorem dX12_puts_85 : decode cX12_puts 85 = .ok (.bipush 6, 2) := by decide +kernel
theorem dX12_puts_87 : decode cX12_puts 87 = .ok (.iload_n 3, 1) := by decide +kernel
theorem dX12_puts_88 : decode cX12_puts 88 = .ok (.imul, 1) := by decide +kernel
theorem dX12_puts_89 : decode cX12_puts 89 = .ok (.iload_n 1, 1) := by decide +kernel
theorem dX12_puts_90 : decode cX12_puts 90 = .ok (.iadd, 1) := by decide +kernel
theorem dX12_puts_91 : decode cX12_puts 91 = .ok (.aload_n 0, 1) := by decide +kernel
theorem dX12_puts_92 : decode cX12_puts 92 = .ok (.getfield 133, 3) := by decide +kernel
theorem dX12_puts_95 : decode cX12_puts 95 = .ok (.iload 4, 2) := by decide +kernel
theorem dX12_puts_97 : decode cX12_puts 97 = .ok (.daload, 1) := by decide +kernel
theorem dX12_puts_98 : decode cX12_puts 98 = .ok (.dastore, 1) := by decide +kernel
theorem dX12_puts_99 : decode cX12_puts 99 = .ok (.aload_n 0, 1) := by decide +kernel
theorem dX12_puts_100 : decode cX12_puts 100 = .ok (.getfield 353, 3) := by decide +kernel
theorem dX12_puts_103 : decode cX12_puts 103 = .ok (.ifCond .eq 49, 3) := by decide +kernel
theorem dX12_puts_106 : decode cX12_puts 106 = .ok (.iload 6, 2) := by decide +kernel
theorem dX12_puts_108 : decode cX12_puts 108 = .ok (.iload 5, 2) := by decide +kernel
theorem dX12_puts_110 : decode cX12_puts 110 = .ok (.if_icmp .eq 42, 3) := by decide +kernel
theorem dX12_puts_113 : decode cX12_puts 113 = .ok (.iconst 0, 1) := by decide +kernel
theorem dX12_puts_114 : decode cX12_puts 114 = .ok (.istore 7, 2) := by decide +kernel
theorem dX12_puts_116 : decode cX12_puts 116 = .ok (.iload 7, 2) := by decide +kernel
theorem dX12_puts_118 : decode cX12_puts 118 = .ok (.aload_n 0, 1) := by decide +kernel
theorem dX12_puts_119 : decode cX12_puts 119 = .ok (.getfield 319, 3) := by decide +kernel
theorem dX12_puts_122 : decode cX12_puts 122 = .ok (.if_icmp .ge 17, 3) := by decide +kernel
theorem dX12_puts_125 : decode cX12_puts 125 = .ok (.aload_n 0, 1) := by decide +kernel
theorem dX12_puts_126 : decode cX12_puts 126 = .ok (.getfield 196, 3) := by decide +kernel
theorem dX12_puts_129 : decode cX12_puts 129 = .ok (.iload 7, 2) := by decide +kernel
theorem dX12_puts_131 : decode cX12_puts 131 = .ok (.iconst (-1), 1) := by decide +kernel
theorem dX12_puts_132 : decode cX12_puts 132 = .ok (.iastore, 1) := by decide +kernel
theorem dX12_puts_133 : decode cX12_puts 133 = .ok (.iinc 7 1, 3) := by decide +kernel
theorem dX12_puts_136 : decode cX12_puts 136 = .ok (.goto (-20), 3) := by decide +kernel
theorem dX12_puts_139 : decode cX12_puts 139 = .ok (.aload_n 0, 1) := by decide +kernel
theorem dX12_puts_140 : decode cX12_puts 140 = .ok (.getfield 196, 3) := by decide +kernel
theorem dX12_puts_143 : decode cX12_puts 143 = .ok (.aload_n 0, 1) := by decide +kernel
theorem dX12_puts_144 : decode cX12_puts 144 = .ok (.getfield 137, 3) := by decide +kernel
theorem dX12_puts_147 : decode cX12_puts 147 = .ok (.iload_n 2, 1) := by decide +kernel
theorem dX12_puts_148 : decode cX12_puts 148 = .ok (.iaload, 1) := by decide +kernel
theorem dX12_puts_149 : decode cX12_puts 149 = .ok (.iload 6, 2) := by decide +kernel
theorem dX12_puts_151 : decode cX12_puts 151 = .ok (.iastore, 1) := by decide +kernel
theorem dX12_puts_152 : decode cX12_puts 152 = .ok (.aload_n 0, 1) := by decide +kernel
theorem dX12_puts_153 : decode cX12_puts 153 = .ok (.getfield 146, 3) := by decide +kernel
theorem dX12_puts_156 : decode cX12_puts 156 = .ok (.aload_n 0, 1) := by decide +kernel
theorem dX12_puts_157 : decode cX12_puts 157 = .ok (.getfield 262, 3) := by decide +kernel
theorem dX12_puts_160 : decode cX12_puts 160 = .ok (.dup2, 1) := by decide +kernel
theorem dX12_puts_161 : decode cX12_puts 161 = .ok (.iaload, 1) := by decide +kernel
theorem dX12_puts_162 : decode cX12_puts 162 = .ok (.iconst 2, 1) := by decide +kernel
theorem dX12_puts_163 : decode cX12_puts 163 = .ok (.isub, 1) := by decide +kernel
theorem dX12_puts_164 : decode cX12_puts 164 = .ok (.iastore, 1) := by decide +kernel
theorem dX12_puts_165 : decode cX12_puts 165 = .ok (.aload_n 0, 1) := by decide +kernel
theorem dX12_puts_166 : decode cX12_puts 166 = .ok (.getfield 143, 3) := by decide +kernel
theorem dX12_puts_169 : decode cX12_puts 169 = .ok (.aload_n 0, 1) := by decide +kernel
theorem dX12_puts_170 : decode cX12_puts 170 = .ok (.getfield 262, 3) := by decide +kernel
theorem dX12_puts_173 : decode cX12_puts 173 = .ok (.dup2, 1) := by decide +kernel
theorem dX12_puts_174 : decode cX12_puts 174 = .ok (.iaload, 1) := by decide +kernel
theorem dX12_puts_175 : decode cX12_puts 175 = .ok (.iconst 1, 1) := by decide +kernel
theorem dX12_puts_176 : decode cX12_puts 176 = .ok (.iadd, 1) := by decide +kernel
theorem dX12_puts_177 : decode cX12_puts 177 = .ok (.iastore, 1) := by decide +kernel
theorem dX12_puts_178 : decode cX12_puts 178 = .ok (.return_, 1) := by decide +kernel
theorem dX12_returns_0 : decode cX12_returns 0 = .ok (.aload_n 0, 1) := by decide +kernel
theorem dX12_returns_1 : decode cX12_returns 1 = .ok (.iconst 0, 1) := by decide +kernel
theorem dX12_returns_2 : decode cX12_returns 2 = .ok (.invokevirtual 297, 3) := by decide +kernel
theorem dX12_returns_5 : decode cX12_returns 5 = .ok (.istore_n 1, 1) := by decide +kernel
theorem dX12_returns_6 : decode cX12_returns 6 = .ok (.aload_n 0, 1) := by decide +kernel
theorem dX12_returns_7 : decode cX12_returns 7 = .ok (.getfield 262, 3) := by decide +kernel
theorem dX12_returns_10 : decode cX12_returns 10 = .ok (.ifCond .ne 50, 3) := by decide +kernel
theorem dX12_returns_13 : decode cX12_returns 13 = .ok (.aload_n 0, 1) := by decide +kernel
theorem dX12_returns_14 : decode cX12_returns 14 = .ok (.iconst 0, 1) := by decide +kernel
theorem dX12_returns_15 : decode cX12_returns 15 = .ok (.putfield 412, 3) := by decide +kernel
theorem dX12_returns_18 : decode cX12_returns 18 = .ok (.aload_n 0, 1) := by decide +kernel
theorem dX12_returns_19 : decode cX12_returns 19 = .ok (.bipush 118, 2) := by decide +kernel
theorem dX12_returns_21 : decode cX12_returns 21 = .ok (.putfield 168, 3) := by decide +kernel
theorem dX12_returns_24 : decode cX12_returns 24 = .ok (.aload_n 0, 1) := by decide +kernel
theorem dX12_returns_25 : decode cX12_returns 25 = .ok (.aload_n 0, 1) := by decide +kernel
theorem dX12_returns_26 : decode cX12_returns 26 = .ok (.getfield 127, 3) := by decide +kernel
theorem dX12_returns_29 : decode cX12_returns 29 = .ok (.iload_n 1, 1) := by decide +kernel
theorem dX12_returns_30 : decode cX12_returns 30 = .ok (.caload, 1) := by decide +kernel
theorem dX12_returns_31 : decode cX12_returns 31 = .ok (.putfield 415, 3) := by decide +kernel
theorem dX12_returns_34 : decode cX12_returns 34 = .ok (.aload_n 0, 1) := by decide +kernel
theorem dX12_returns_35 : decode cX12_returns 35 = .ok (.aload_n 0, 1) := by decide +kernel
theorem dX12_returns_36 : decode cX12_returns 36 = .ok (.getfield 127, 3) := by decide +kernel
theorem dX12_returns_39 : decode cX12_returns 39 = .ok (.iload_n 1, 1) := by decide +kernel
theorem dX12_returns_40 : decode cX12_returns 40 = .ok (.caload, 1) := by decide +kernel
theorem dX12_returns_41 : decode cX12_returns 41 = .ok (.aload_n 0, 1) := by decide +kernel
theorem dX12_returns_42 : decode cX12_returns 42 = .ok (.getfield 130, 3) := by decide +kernel
theorem dX12_returns_45 : decode cX12_returns 45 = .ok (.iload_n 1, 1) := by decide +kernel
theorem dX12_returns_46 : decode cX12_returns 46 = .ok (.iaload, 1) := by decide +kernel
theorem dX12_returns_47 : decode cX12_returns 47 = .ok (.aload_n 0, 1) := by decide +kernel
theorem dX12_returns_48 : decode cX12_returns 48 = .ok (.getfield 133, 3) := by decide +kernel
theorem dX12_returns_51 : decode cX12_returns 51 = .ok (.iload_n 1, 1) := by decide +kernel
theorem dX12_returns_52 : decode cX12_returns 52 = .ok (.daload, 1) := by decide +kernel
theorem dX12_returns_53 : decode cX12_returns 53 = .ok (.invokestatic 418, 3) := by decide +kernel
theorem dX12_returns_56 : decode cX12_returns 56 = .ok (.putfield 422, 3) := by decide +kernel
theorem dX12_returns_59 : decode cX12_returns 59 = .ok (.return_, 1) := by decide +kernel
theorem dX12_returns_60 : decode cX12_returns 60 = .ok (.aload_n 0, 1) := by decide +kernel
theorem dX12_returns_61 : decode cX12_returns 61 = .ok (.dup, 1) := by decide +kernel
theorem dX12_returns_62 : decode cX12_returns 62 = .ok (.getfield 262, 3) := by decide +kernel
theorem dX12_returns_65 : decode cX12_returns 65 = .ok (.iconst 1, 1) := by decide +kernel
theorem dX12_returns_66 : decode cX12_returns 66 = .ok (.isub, 1) := by decide +kernel
theorem dX12_returns_67 : decode cX12_returns 67 = .ok (.putfield 262, 3) := by decide +kernel
theorem dX12_returns_70 : decode cX12_returns 70 = .ok (.aload_n 0, 1) := by decide +kernel
theorem dX12_returns_71 : decode cX12_returns 71 = .ok (.getfield 146, 3) := by decide +kernel
theorem dX12_returns_74 : decode cX12_returns 74 = .ok (.aload_n 0, 1) := by decide +kernel
theorem dX12_returns_75 : decode cX12_returns 75 = .ok (.getfield 262, 3) := by decide +kernel
theorem dX12_returns_78 : decode cX12_returns 78 = .ok (.dup2, 1) := by decide +kernel
theorem dX12_returns_79 : decode cX12_returns 79 = .ok (.iaload, 1) := by decide +kernel
theorem dX12_returns_80 : decode cX12_returns 80 = .ok (.iconst 1, 1) := by decide +kernel
theorem dX12_returns_81 : decode cX12_returns 81 = .ok (.iadd, 1) := by decide +kernel
theorem dX12_returns_82 : decode cX12_returns 82 = .ok (.iastore, 1) := by decide +kernel
theorem dX12_returns_83 : decode cX12_returns 83 = .ok (.aload_n 0, 1) := by decide +kernel
theorem dX12_returns_84 : decode cX12_returns 84 = .ok (.iload_n 1, 1) := by decide +kernel
theorem dX12_returns_85 : decode cX12_returns 85 = .ok (.aload_n 0, 1) := by decide +kernel
theorem dX12_returns_86 : decode cX12_returns 86 = .ok (.iconst 0, 1) := by decide +kernel
theorem dX12_returns_87 : decode cX12_returns 87 = .ok (.invokevirtual 297, 3) := by decide +kernel
theorem dX12_returns_90 : decode cX12_returns 90 = .ok (.invokevirtual 401, 3) := by decide +kernel
theorem dX12_returns_93 : decode cX12_returns 93 = .ok (.return_, 1) := by decide +kernel
theorem dX12_tells_0 : decode cX12_tells 0 = .ok (.aload_n 0, 1) := by decide +kernel
theorem dX12_tells_1 : decode cX12_tells 1 = .ok (.iconst 0, 1) := by decide +kernel
theorem dX12_tells_2 : decode cX12_tells 2 = .ok (.invokevirtual 297, 3) := by decide +kernel
theorem dX12_tells_5 : decode cX12_tells 5 = .ok (.istore_n 1, 1) := by decide +kernel
theorem dX12_tells_6 : decode cX12_tells 6 = .ok (.aload_n 0, 1) := by decide +kernel
theorem dX12_tells_7 : decode cX12_tells 7 = .ok (.getfield 426, 3) := by decide +kernel
theorem dX12_tells_10 : decode cX12_tells 10 = .ok (.bipush 20, 2) := by decide +kernel
theorem dX12_tells_12 : decode cX12_tells 12 = .ok (.if_icmp .ge 58, 3) := by decide +kernel
theorem dX12_tells_15 : decode cX12_tells 15 = .ok (.aload_n 0, 1) := by decide +kernel
theorem dX12_tells_16 : decode cX12_tells 16 = .ok (.getfield 161, 3) := by decide +kernel
theorem dX12_tells_19 : decode cX12_tells 19 = .ok (.aload_n 0, 1) := by decide +kernel
theorem dX12_tells_20 : decode cX12_tells 20 = .ok (.getfield 426, 3) := by decide +kernel
theorem dX12_tells_23 : decode cX12_tells 23 = .ok (.aload_n 0, 1) := by decide +kernel
theorem dX12_tells_24 : decode cX12_tells 24 = .ok (.getfield 127, 3) := by decide +kernel
theorem dX12_tells_27 : decode cX12_tells 27 = .ok (.iload_n 1, 1) := by decide +kernel
theorem dX12_tells_28 : decode cX12_tells 28 = .ok (.caload, 1) := by decide +kernel
theorem dX12_tells_29 : decode cX12_tells 29 = .ok (.castore, 1) := by decide +kernel
theorem dX12_tells_30 : decode cX12_tells 30 = .ok (.aload_n 0, 1) := by decide +kernel
theorem dX12_tells_31 : decode cX12_tells 31 = .ok (.getfield 164, 3) := by decide +kernel
theorem dX12_tells_34 : decode cX12_tells 34 = .ok (.aload_n 0, 1) := by decide +kernel
theorem dX12_tells_35 : decode cX12_tells 35 = .ok (.getfield 426, 3) := by decide +kernel
theorem dX12_tells_38 : decode cX12_tells 38 = .ok (.aload_n 0, 1) := by decide +kernel
theorem dX12_tells_39 : decode cX12_tells 39 = .ok (.getfield 127, 3) := by decide +kernel
theorem dX12_tells_42 : decode cX12_tells 42 = .ok (.iload_n 1, 1) := by decide +kernel
theorem dX12_tells_43 : decode cX12_tells 43 = .ok (.caload, 1) := by decide +kernel
theorem dX12_tells_44 : decode cX12_tells 44 = .ok (.aload_n 0, 1) := by decide +kernel
theorem dX12_tells_45 : decode cX12_tells 45 = .ok (.getfield 130, 3) := by decide +kernel
theorem dX12_tells_48 : decode cX12_tells 48 = .ok (.iload_n 1, 1) := by decide +kernel
theorem dX12_tells_49 : decode cX12_tells 49 = .ok (.iaload, 1) := by decide +kernel
theorem dX12_tells_50 : decode cX12_tells 50 = .ok (.aload_n 0, 1) := by decide +kernel
theorem dX12_tells_51 : decode cX12_tells 51 = .ok (.getfield 133, 3) := by decide +kernel
theorem dX12_tells_54 : decode cX12_tells 54 = .ok (.iload_n 1, 1) := by decide +kernel
theorem dX12_tells_55 : decode cX12_tells 55 = .ok (.daload, 1) := by decide +kernel
theorem dX12_tells_56 : decode cX12_tells 56 = .ok (.invokestatic 418, 3) := by decide +kernel
theorem dX12_tells_59 : decode cX12_tells 59 = .ok (.lastore, 1) := by decide +kernel
theorem dX12_tells_60 : decode cX12_tells 60 = .ok (.aload_n 0, 1) := by decide +kernel
theorem dX12_tells_61 : decode cX12_tells 61 = .ok (.dup, 1) := by decide +kernel
theorem dX12_tells_62 : decode cX12_tells 62 = .ok (.getfield 426, 3) := by decide +kernel
theorem dX12_tells_65 : decode cX12_tells 65 = .ok (.iconst 1, 1) := by decide +kernel
theorem dX12_tells_66 : decode cX12_tells 66 = .ok (.iadd, 1) := by decide +kernel
theorem dX12_tells_67 : decode cX12_tells 67 = .ok (.putfield 426, 3) := by decide +kernel
theorem dX12_tells_70 : decode cX12_tells 70 = .ok (.aload_n 0, 1) := by decide +kernel
theorem dX12_tells_71 : decode cX12_tells 71 = .ok (.getfield 146, 3) := by decide +kernel
theorem dX12_tells_74 : decode cX12_tells 74 = .ok (.aload_n 0, 1) := by decide +kernel
theorem dX12_tells_75 : decode cX12_tells 75 = .ok (.getfield 262, 3) := by decide +kernel
theorem dX12_tells_78 : decode cX12_tells 78 = .ok (.dup2, 1) := by decide +kernel
theorem dX12_tells_79 : decode cX12_tells 79 = .ok (.iaload, 1) := by decide +kernel
theorem dX12_tells_80 : decode cX12_tells 80 = .ok (.iconst 1, 1) := by decide +kernel
theorem dX12_tells_81 : decode cX12_tells 81 = .ok (.isub, 1) := by decide +kernel
theorem dX12_tells_82 : decode cX12_tells 82 = .ok (.iastore, 1) := by decide +kernel
theorem dX12_tells_83 : decode cX12_tells 83 = .ok (.aload_n 0, 1) := by decide +kernel
theorem dX12_tells_84 : decode cX12_tells 84 = .ok (.getfield 143, 3) := by decide +kernel
theorem dX12_tells_87 : decode cX12_tells 87 = .ok (.aload_n 0, 1) := by decide +kernel
theorem dX12_tells_88 : decode cX12_tells 88 = .ok (.getfield 262, 3) := by decide +kernel
theorem dX12_tells_91 : decode cX12_tells 91 = .ok (.dup2, 1) := by decide +kernel
theorem dX12_tells_92 : decode cX12_tells 92 = .ok (.iaload, 1) := by decide +kernel
theorem dX12_tells_93 : decode cX12_tells 93 = .ok (.iconst 1, 1) := by decide +kernel
theorem dX12_tells_94 : decode cX12_tells 94 = .ok (.iadd, 1) := by decide +kernel
theorem dX12_tells_95 : decode cX12_tells 95 = .ok (.iastore, 1) := by decide +kernel
theorem dX12_tells_96 : decode cX12_tells 96 = .ok (.return_, 1) := by decide +kernel
theorem dX12_reckonsOn_0 : decode cX12_reckonsOn 0 = .ok (.iconst 0, 1) := by decide +kernel
theorem dX12_reckonsOn_1 : decode cX12_reckonsOn 1 = .ok (.istore_n 2, 1) := by decide +kernel
theorem dX12_reckonsOn_2 : decode cX12_reckonsOn 2 = .ok (.iload_n 1, 1) := by decide +kernel
theorem dX12_reckonsOn_3 : decode cX12_reckonsOn 3 = .ok (.invokestatic 219, 3) := by decide +kernel
theorem dX12_reckonsOn_6 : decode cX12_reckonsOn 6 = .ok (.ifCond .eq 89, 3) := by decide +kernel
theorem dX12_reckonsOn_9 : decode cX12_reckonsOn 9 = .ok (.aload_n 0, 1) := by decide +kernel
theorem dX12_reckonsOn_10 : decode cX12_reckonsOn 10 = .ok (.getfield 353, 3) := by decide +kernel
theorem dX12_reckonsOn_13 : decode cX12_reckonsOn 13 = .ok (.ifCond .eq 43, 3) := by decide +kernel
theorem dX12_reckonsOn_16 : decode cX12_reckonsOn 16 = .ok (.aload_n 0, 1) := by decide +kernel
theorem dX12_reckonsOn_17 : decode cX12_reckonsOn 17 = .ok (.getfield 193, 3) := by decide +kernel
theorem dX12_reckonsOn_20 : decode cX12_reckonsOn 20 = .ok (.aload_n 0, 1) := by decide +kernel
theorem dX12_reckonsOn_21 : decode cX12_reckonsOn 21 = .ok (.getfield 137, 3) := by decide +kernel
theorem dX12_reckonsOn_24 : decode cX12_reckonsOn 24 = .ok (.aload_n 0, 1) := by decide +kernel
theorem dX12_reckonsOn_25 : decode cX12_reckonsOn 25 = .ok (.iconst 1, 1) := by decide +kernel
theorem dX12_reckonsOn_26 : decode cX12_reckonsOn 26 = .ok (.invokevirtual 297, 3) := by decide +kernel
theorem dX12_reckonsOn_29 : decode cX12_reckonsOn 29 = .ok (.iaload, 1) := by decide +kernel
theorem dX12_reckonsOn_30 : decode cX12_reckonsOn 30 = .ok (.baload, 1) := by decide +kernel
theorem dX12_reckonsOn_31 : decode cX12_reckonsOn 31 = .ok (.ifCond .eq 25, 3) := by decide +kernel
theorem dX12_reckonsOn_34 : decode cX12_reckonsOn 34 = .ok (.aload_n 0, 1) := by decide +kernel
theorem dX12_reckonsOn_35 : decode cX12_reckonsOn 35 = .ok (.getfield 193, 3) := by decide +kernel
theorem dX12_reckonsOn_38 : decode cX12_reckonsOn 38 = .ok (.aload_n 0, 1) := by decide +kernel
theorem dX12_reckonsOn_39 : decode cX12_reckonsOn 39 = .ok (.getfield 137, 3) := by decide +kernel
theorem dX12_reckonsOn_42 : decode cX12_reckonsOn 42 = .ok (.aload_n 0, 1) := by decide +kernel
theorem dX12_reckonsOn_43 : decode cX12_reckonsOn 43 = .ok (.iconst 0, 1) := by decide +kernel
theorem dX12_reckonsOn_44 : decode cX12_reckonsOn 44 = .ok (.invokevirtual 297, 3) := by decide +kernel
theorem dX12_reckonsOn_47 : decode cX12_reckonsOn 47 = .ok (.iaload, 1) := by decide +kernel
theorem dX12_reckonsOn_48 : decode cX12_reckonsOn 48 = .ok (.baload, 1) := by decide +kernel
theorem dX12_reckonsOn_49 : decode cX12_reckonsOn 49 = .ok (.ifCond .eq 7, 3) := by decide +kernel
theorem dX12_reckonsOn_52 : decode cX12_reckonsOn 52 = .ok (.iconst 1, 1) := by decide +kernel
theorem dX12_reckonsOn_53 : decode cX12_reckonsOn 53 = .ok (.goto 4, 3) := by decide +kernel
theorem dX12_reckonsOn_56 : decode cX12_reckonsOn 56 = .ok (.iconst 0, 1) := by decide +kernel
theorem dX12_reckonsOn_57 : decode cX12_reckonsOn 57 = .ok (.istore_n 3, 1) := by decide +kernel
theorem dX12_reckonsOn_58 : decode cX12_reckonsOn 58 = .ok (.aload_n 0, 1) := by decide +kernel
theorem dX12_reckonsOn_59 : decode cX12_reckonsOn 59 = .ok (.iload_n 1, 1) := by decide +kernel
theorem dX12_reckonsOn_60 : decode cX12_reckonsOn 60 = .ok (.aload_n 0, 1) := by decide +kernel
theorem dX12_reckonsOn_61 : decode cX12_reckonsOn 61 = .ok (.iconst 1, 1) := by decide +kernel
theorem dX12_reckonsOn_62 : decode cX12_reckonsOn 62 = .ok (.invokevirtual 297, 3) := by decide +kernel
theorem dX12_reckonsOn_65 : decode cX12_reckonsOn 65 = .ok (.aload_n 0, 1) := by decide +kernel
theorem dX12_reckonsOn_66 : decode cX12_reckonsOn 66 = .ok (.iconst 0, 1) := by decide +kernel
theorem dX12_reckonsOn_67 : decode cX12_reckonsOn 67 = .ok (.invokevirtual 297, 3) := by decide +kernel
theorem dX12_reckonsOn_70 : decode cX12_reckonsOn 70 = .ok (.invokevirtual 344, 3) := by decide +kernel
theorem dX12_reckonsOn_73 : decode cX12_reckonsOn 73 = .ok (.aload_n 0, 1) := by decide +kernel
theorem dX12_reckonsOn_74 : decode cX12_reckonsOn 74 = .ok (.getfield 146, 3) := by decide +kernel
theorem dX12_reckonsOn_77 : decode cX12_reckonsOn 77 = .ok (.aload_n 0, 1) := by decide +kernel
theorem dX12_reckonsOn_78 : decode cX12_reckonsOn 78 = .ok (.getfield 262, 3) := by decide +kernel
theorem dX12_reckonsOn_81 : decode cX12_reckonsOn 81 = .ok (.dup2, 1) := by decide +kernel
theorem dX12_reckonsOn_82 : decode cX12_reckonsOn 82 = .ok (.iaload, 1) := by decide +kernel
theorem dX12_reckonsOn_83 : decode cX12_reckonsOn 83 = .ok (.iconst 2, 1) := by decide +kernel
theorem dX12_reckonsOn_84 : decode cX12_reckonsOn 84 = .ok (.isub, 1) := by decide +kernel
theorem dX12_reckonsOn_85 : decode cX12_reckonsOn 85 = .ok (.iastore, 1) := by decide +kernel
theorem dX12_reckonsOn_86 : decode cX12_reckonsOn 86 = .ok (.aload_n 0, 1) := by decide +kernel
theorem dX12_reckonsOn_87 : decode cX12_reckonsOn 87 = .ok (.iload_n 3, 1) := by decide +kernel
theorem dX12_reckonsOn_88 : decode cX12_reckonsOn 88 = .ok (.invokevirtual 429, 3) := by decide +kernel
theorem dX12_reckonsOn_91 : decode cX12_reckonsOn 91 = .ok (.istore_n 2, 1) := by decide +kernel
theorem dX12_reckonsOn_92 : decode cX12_reckonsOn 92 = .ok (.goto 102, 3) := by decide +kernel
theorem dX12_reckonsOn_95 : decode cX12_reckonsOn 95 = .ok (.aload_n 0, 1) := by decide +kernel
theorem dX12_reckonsOn_96 : decode cX12_reckonsOn 96 = .ok (.getfield 353, 3) := by decide +kernel
theorem dX12_reckonsOn_99 : decode cX12_reckonsOn 99 = .ok (.ifCond .eq 25, 3) := by decide +kernel
theorem dX12_reckonsOn_102 : decode cX12_reckonsOn 102 = .ok (.aload_n 0, 1) := by decide +kernel
theorem dX12_reckonsOn_103 : decode cX12_reckonsOn 103 = .ok (.getfield 193, 3) := by decide +kernel
theorem dX12_reckonsOn_106 : decode cX12_reckonsOn 106 = .ok (.aload_n 0, 1) := by decide +kernel
theorem dX12_reckonsOn_107 : decode cX12_reckonsOn 107 = .ok (.getfield 137, 3) := by decide +kernel
theorem dX12_reckonsOn_110 : decode cX12_reckonsOn 110 = .ok (.aload_n 0, 1) := by decide +kernel
theorem dX12_reckonsOn_111 : decode cX12_reckonsOn 111 = .ok (.iconst 0, 1) := by decide +kernel
theorem dX12_reckonsOn_112 : decode cX12_reckonsOn 112 = .ok (.invokevirtual 297, 3) := by decide +kernel
theorem dX12_reckonsOn_115 : decode cX12_reckonsOn 115 = .ok (.iaload, 1) := by decide +kernel
theorem dX12_reckonsOn_116 : decode cX12_reckonsOn 116 = .ok (.baload, 1) := by decide +kernel
theorem dX12_reckonsOn_117 : decode cX12_reckonsOn 117 = .ok (.ifCond .eq 7, 3) := by decide +kernel
theorem dX12_reckonsOn_120 : decode cX12_reckonsOn 120 = .ok (.iconst 1, 1) := by decide +kernel
theorem dX12_reckonsOn_121 : decode cX12_reckonsOn 121 = .ok (.goto 4, 3) := by decide +kernel
theorem dX12_reckonsOn_124 : decode cX12_reckonsOn 124 = .ok (.iconst 0, 1) := by decide +kernel
theorem dX12_reckonsOn_125 : decode cX12_reckonsOn 125 = .ok (.istore_n 3, 1) := by decide +kernel
theorem dX12_reckonsOn_126 : decode cX12_reckonsOn 126 = .ok (.aload_n 0, 1) := by decide +kernel
theorem dX12_reckonsOn_127 : decode cX12_reckonsOn 127 = .ok (.bipush 105, 2) := by decide +kernel
theorem dX12_reckonsOn_129 : decode cX12_reckonsOn 129 = .ok (.aload_n 0, 1) := by decide +kernel
theorem dX12_reckonsOn_130 : decode cX12_reckonsOn 130 = .ok (.getfield 127, 3) := by decide +kernel
theorem dX12_reckonsOn_133 : decode cX12_reckonsOn 133 = .ok (.aload_n 0, 1) := by decide +kernel
theorem dX12_reckonsOn_134 : decode cX12_reckonsOn 134 = .ok (.iconst 0, 1) := by decide +kernel
theorem dX12_reckonsOn_135 : decode cX12_reckonsOn 135 = .ok (.invokevirtual 297, 3) := by decide +kernel
theorem dX12_reckonsOn_138 : decode cX12_reckonsOn 138 = .ok (.caload, 1) := by decide +kernel
theorem dX12_reckonsOn_139 : decode cX12_reckonsOn 139 = .ok (.bipush 105, 2) := by decide +kernel
theorem dX12_reckonsOn_141 : decode cX12_reckonsOn 141 = .ok (.if_icmp .ne 16, 3) := by decide +kernel
theorem dX12_reckonsOn_144 : decode cX12_reckonsOn 144 = .ok (.aload_n 0, 1) := by decide +kernel
theorem dX12_reckonsOn_145 : decode cX12_reckonsOn 145 = .ok (.getfield 130, 3) := by decide +kernel
theorem dX12_reckonsOn_148 : decode cX12_reckonsOn 148 = .ok (.aload_n 0, 1) := by decide +kernel
theorem dX12_reckonsOn_149 : decode cX12_reckonsOn 149 = .ok (.iconst 0, 1) := by decide +kernel
theorem dX12_reckonsOn_150 : decode cX12_reckonsOn 150 = .ok (.invokevirtual 297, 3) := by decide +kernel
theorem dX12_reckonsOn_153 : decode cX12_reckonsOn 153 = .ok (.iaload, 1) := by decide +kernel
theorem dX12_reckonsOn_154 : decode cX12_reckonsOn 154 = .ok (.goto 17, 3) := by decide +kernel
theorem dX12_reckonsOn_157 : decode cX12_reckonsOn 157 = .ok (.aload_n 0, 1) := by decide +kernel
theorem dX12_reckonsOn_158 : decode cX12_reckonsOn 158 = .ok (.getfield 133, 3) := by decide +kernel
theorem dX12_reckonsOn_161 : decode cX12_reckonsOn 161 = .ok (.aload_n 0, 1) := by decide +kernel
theorem dX12_reckonsOn_162 : decode cX12_reckonsOn 162 = .ok (.iconst 0, 1) := by decide +kernel
theorem dX12_reckonsOn_163 : decode cX12_reckonsOn 163 = .ok (.invokevirtual 297, 3) := by decide +kernel
theorem dX12_reckonsOn_166 : decode cX12_reckonsOn 166 = .ok (.daload, 1) := by decide +kernel
theorem dX12_reckonsOn_167 : decode cX12_reckonsOn 167 = .ok (.invokestatic 387, 3) := by decide +kernel
theorem dX12_reckonsOn_170 : decode cX12_reckonsOn 170 = .ok (.d2i, 1) := by decide +kernel
theorem dX12_reckonsOn_171 : decode cX12_reckonsOn 171 = .ok (.dconst 0, 1) := by decide +kernel
theorem dX12_reckonsOn_172 : decode cX12_reckonsOn 172 = .ok (.invokevirtual 304, 3) := by decide +kernel
theorem dX12_reckonsOn_175 : decode cX12_reckonsOn 175 = .ok (.aload_n 0, 1) := by decide +kernel
theorem dX12_reckonsOn_176 : decode cX12_reckonsOn 176 = .ok (.getfield 146, 3) := by decide +kernel
theorem dX12_reckonsOn_179 : decode cX12_reckonsOn 179 = .ok (.aload_n 0, 1) := by decide +kernel
theorem dX12_reckonsOn_180 : decode cX12_reckonsOn 180 = .ok (.getfield 262, 3) := by decide +kernel
theorem dX12_reckonsOn_183 : decode cX12_reckonsOn 183 = .ok (.dup2, 1) := by decide +kernel
theorem dX12_reckonsOn_184 : decode cX12_reckonsOn 184 = .ok (.iaload, 1) := by decide +kernel
theorem dX12_reckonsOn_185 : decode cX12_reckonsOn 185 = .ok (.iconst 1, 1) := by decide +kernel
theorem dX12_reckonsOn_186 : decode cX12_reckonsOn 186 = .ok (.isub, 1) := by decide +kernel
theorem dX12_reckonsOn_187 : decode cX12_reckonsOn 187 = .ok (.iastore, 1) := by decide +kernel
theorem dX12_reckonsOn_188 : decode cX12_reckonsOn 188 = .ok (.aload_n 0, 1) := by decide +kernel
theorem dX12_reckonsOn_189 : decode cX12_reckonsOn 189 = .ok (.iload_n 3, 1) := by decide +kernel
theorem dX12_reckonsOn_190 : decode cX12_reckonsOn 190 = .ok (.invokevirtual 429, 3) := by decide +kernel
theorem dX12_reckonsOn_193 : decode cX12_reckonsOn 193 = .ok (.istore_n 2, 1) := by decide +kernel
theorem dX12_reckonsOn_194 : decode cX12_reckonsOn 194 = .ok (.aload_n 0, 1) := by decide +kernel
theorem dX12_reckonsOn_195 : decode cX12_reckonsOn 195 = .ok (.iload_n 2, 1) := by decide +kernel
theorem dX12_reckonsOn_196 : decode cX12_reckonsOn 196 = .ok (.invokevirtual 433, 3) := by decide +kernel
theorem dX12_reckonsOn_199 : decode cX12_reckonsOn 199 = .ok (.aload_n 0, 1) := by decide +kernel
theorem dX12_reckonsOn_200 : decode cX12_reckonsOn 200 = .ok (.getfield 143, 3) := by decide +kernel
theorem dX12_reckonsOn_203 : decode cX12_reckonsOn 203 = .ok (.aload_n 0, 1) := by decide +kernel
theorem dX12_reckonsOn_204 : decode cX12_reckonsOn 204 = .ok (.getfield 262, 3) := by decide +kernel
theorem dX12_reckonsOn_207 : decode cX12_reckonsOn 207 = .ok (.dup2, 1) := by decide +kernel
theorem dX12_reckonsOn_208 : decode cX12_reckonsOn 208 = .ok (.iaload, 1) := by decide +kernel
theorem dX12_reckonsOn_209 : decode cX12_reckonsOn 209 = .ok (.iconst 1, 1) := by decide +kernel
theorem dX12_reckonsOn_210 : decode cX12_reckonsOn 210 = .ok (.iadd, 1) := by decide +kernel
theorem dX12_reckonsOn_211 : decode cX12_reckonsOn 211 = .ok (.iastore, 1) := by decide +kernel
theorem dX12_reckonsOn_212 : decode cX12_reckonsOn 212 = .ok (.return_, 1) := by decide +kernel
theorem dX12_made_0 : decode cX12_made 0 = .ok (.aload_n 0, 1) := by decide +kernel
theorem dX12_made_1 : decode cX12_made 1 = .ok (.getfield 353, 3) := by decide +kernel
theorem dX12_made_4 : decode cX12_made 4 = .ok (.ifCond .ne 5, 3) := by decide +kernel
theorem dX12_made_7 : decode cX12_made 7 = .ok (.iconst 0, 1) := by decide +kernel
theorem dX12_made_8 : decode cX12_made 8 = .ok (.ireturn, 1) := by decide +kernel
theorem dX12_made_9 : decode cX12_made 9 = .ok (.aload_n 0, 1) := by decide +kernel
theorem dX12_made_10 : decode cX12_made 10 = .ok (.aload_n 0, 1) := by decide +kernel
theorem dX12_made_11 : decode cX12_made 11 = .ok (.getfield 287, 3) := by decide +kernel
theorem dX12_made_14 : decode cX12_made 14 = .ok (.invokevirtual 405, 3) := by decide +kernel
theorem dX12_made_17 : decode cX12_made 17 = .ok (.istore_n 2, 1) := by decide +kernel
theorem dX12_made_18 : decode cX12_made 18 = .ok (.aload_n 0, 1) := by decide +kernel
theorem dX12_made_19 : decode cX12_made 19 = .ok (.getfield 193, 3) := by decide +kernel
theorem dX12_made_22 : decode cX12_made 22 = .ok (.iload_n 2, 1) := by decide +kernel
theorem dX12_made_23 : decode cX12_made 23 = .ok (.iload_n 1, 1) := by decide +kernel
theorem dX12_made_24 : decode cX12_made 24 = .ok (.bastore, 1) := by decide +kernel
theorem dX12_made_25 : decode cX12_made 25 = .ok (.aload_n 0, 1) := by decide +kernel
theorem dX12_made_26 : decode cX12_made 26 = .ok (.getfield 287, 3) := by decide +kernel
theorem dX12_made_29 : decode cX12_made 29 = .ok (.bipush 105, 2) := by decide +kernel
theorem dX12_made_31 : decode cX12_made 31 = .ok (.if_icmp .ne 10, 3) := by decide +kernel
theorem dX12_made_34 : decode cX12_made 34 = .ok (.aload_n 0, 1) := by decide +kernel
theorem dX12_made_35 : decode cX12_made 35 = .ok (.getfield 290, 3) := by decide +kernel
theorem dX12_made_38 : decode cX12_made 38 = .ok (.ifCond .eq 21, 3) := by decide +kernel
theorem dX12_made_41 : decode cX12_made 41 = .ok (.aload_n 0, 1) := by decide +kernel
theorem dX12_made_42 : decode cX12_made 42 = .ok (.getfield 287, 3) := by decide +kernel
theorem dX12_made_45 : decode cX12_made 45 = .ok (.bipush 102, 2) := by decide +kernel
theorem dX12_made_47 : decode cX12_made 47 = .ok (.if_icmp .ne 16, 3) := by decide +kernel
theorem dX12_made_50 : decode cX12_made 50 = .ok (.aload_n 0, 1) := by decide +kernel
theorem dX12_made_51 : decode cX12_made 51 = .ok (.getfield 293, 3) := by decide +kernel
theorem dX12_made_54 : decode cX12_made 54 = .ok (.dconst 0, 1) := by decide +kernel
theorem dX12_made_55 : decode cX12_made 55 = .ok (.dcmp .l, 1) := by decide +kernel
theorem dX12_made_56 : decode cX12_made 56 = .ok (.ifCond .ne 7, 3) := by decide +kernel
theorem dX12_made_59 : decode cX12_made 59 = .ok (.iconst 1, 1) := by decide +kernel
theorem dX12_made_60 : decode cX12_made 60 = .ok (.goto 4, 3) := by decide +kernel
theorem dX12_made_63 : decode cX12_made 63 = .ok (.iconst 0, 1) := by decide +kernel
theorem dX12_made_64 : decode cX12_made 64 = .ok (.istore_n 3, 1) := by decide +kernel
theorem dX12_made_65 : decode cX12_made 65 = .ok (.aload_n 0, 1) := by decide +kernel
theorem dX12_made_66 : decode cX12_made 66 = .ok (.getfield 199, 3) := by decide +kernel
theorem dX12_made_69 : decode cX12_made 69 = .ok (.iload_n 2, 1) := by decide +kernel
theorem dX12_made_70 : decode cX12_made 70 = .ok (.iload_n 1, 1) := by decide +kernel
theorem dX12_made_71 : decode cX12_made 71 = .ok (.ifCond .ne 7, 3) := by decide +kernel
theorem dX12_made_74 : decode cX12_made 74 = .ok (.iconst 0, 1) := by decide +kernel
theorem dX12_made_75 : decode cX12_made 75 = .ok (.goto 12, 3) := by decide +kernel
theorem dX12_made_78 : decode cX12_made 78 = .ok (.iload_n 3, 1) := by decide +kernel
theorem dX12_made_79 : decode cX12_made 79 = .ok (.ifCond .eq 7, 3) := by decide +kernel
theorem dX12_made_82 : decode cX12_made 82 = .ok (.iconst 1, 1) := by decide +kernel
theorem dX12_made_83 : decode cX12_made 83 = .ok (.goto 4, 3) := by decide +kernel
theorem dX12_made_86 : decode cX12_made 86 = .ok (.iconst 2, 1) := by decide +kernel
theorem dX12_made_87 : decode cX12_made 87 = .ok (.iastore, 1) := by decide +kernel
theorem dX12_made_88 : decode cX12_made 88 = .ok (.iload_n 2, 1) := by decide +kernel
theorem dX12_made_89 : decode cX12_made 89 = .ok (.ireturn, 1) := by decide +kernel
theorem dX12_makes_0 : decode cX12_makes 0 = .ok (.aload_n 0, 1) := by decide +kernel
theorem dX12_makes_1 : decode cX12_makes 1 = .ok (.getfield 35, 3) := by decide +kernel
theorem dX12_makes_4 : decode cX12_makes 4 = .ok (.iload_n 1, 1) := by decide +kernel
theorem dX12_makes_5 : decode cX12_makes 5 = .ok (.iaload, 1) := by decide +kernel
theorem dX12_makes_6 : decode cX12_makes 6 = .ok (.istore_n 2, 1) := by decide +kernel
theorem dX12_makes_7 : decode cX12_makes 7 = .ok (.aload_n 0, 1) := by decide +kernel
theorem dX12_makes_8 : decode cX12_makes 8 = .ok (.getfield 149, 3) := by decide +kernel
theorem dX12_makes_11 : decode cX12_makes 11 = .ok (.aload_n 0, 1) := by decide +kernel
theorem dX12_makes_12 : decode cX12_makes 12 = .ok (.getfield 398, 3) := by decide +kernel
theorem dX12_makes_15 : decode cX12_makes 15 = .ok (.iload_n 2, 1) := by decide +kernel
theorem dX12_makes_16 : decode cX12_makes 16 = .ok (.iastore, 1) := by decide +kernel
theorem dX12_makes_17 : decode cX12_makes 17 = .ok (.aload_n 0, 1) := by decide +kernel
theorem dX12_makes_18 : decode cX12_makes 18 = .ok (.bipush 111, 2) := by decide +kernel
theorem dX12_makes_20 : decode cX12_makes 20 = .ok (.aload_n 0, 1) := by decide +kernel
theorem dX12_makes_21 : decode cX12_makes 21 = .ok (.getfield 398, 3) := by decide +kernel
theorem dX12_makes_24 : decode cX12_makes 24 = .ok (.dconst 0, 1) := by decide +kernel
theorem dX12_makes_25 : decode cX12_makes 25 = .ok (.invokevirtual 304, 3) := by decide +kernel
theorem dX12_makes_28 : decode cX12_makes 28 = .ok (.aload_n 0, 1) := by decide +kernel
theorem dX12_makes_29 : decode cX12_makes 29 = .ok (.dup, 1) := by decide +kernel
theorem dX12_makes_30 : decode cX12_makes 30 = .ok (.getfield 398, 3) := by decide +kernel
theorem dX12_makes_33 : decode cX12_makes 33 = .ok (.iconst 1, 1) := by decide +kernel
theorem dX12_makes_34 : decode cX12_makes 34 = .ok (.iadd, 1) := by decide +kernel
theorem dX12_makes_35 : decode cX12_makes 35 = .ok (.putfield 398, 3) := by decide +kernel
theorem dX12_makes_38 : decode cX12_makes 38 = .ok (.iconst 0, 1) := by decide +kernel
theorem dX12_makes_39 : decode cX12_makes 39 = .ok (.istore_n 3, 1) := by decide +kernel
theorem dX12_makes_40 : decode cX12_makes 40 = .ok (.aload_n 0, 1) := by decide +kernel
theorem dX12_makes_41 : decode cX12_makes 41 = .ok (.getfield 353, 3) := by decide +kernel
theorem dX12_makes_44 : decode cX12_makes 44 = .ok (.ifCond .eq 17, 3) := by decide +kernel
theorem dX12_makes_47 : decode cX12_makes 47 = .ok (.aload_n 0, 1) := by decide +kernel
theorem dX12_makes_48 : decode cX12_makes 48 = .ok (.bipush 111, 2) := by decide +kernel
theorem dX12_makes_50 : decode cX12_makes 50 = .ok (.invokevirtual 405, 3) := by decide +kernel
theorem dX12_makes_53 : decode cX12_makes 53 = .ok (.istore_n 3, 1) := by decide +kernel
theorem dX12_makes_54 : decode cX12_makes 54 = .ok (.aload_n 0, 1) := by decide +kernel
theorem dX12_makes_55 : decode cX12_makes 55 = .ok (.getfield 196, 3) := by decide +kernel
theorem dX12_makes_58 : decode cX12_makes 58 = .ok (.iload_n 3, 1) := by decide +kernel
theorem dX12_makes_59 : decode cX12_makes 59 = .ok (.iload_n 2, 1) := by decide +kernel
theorem dX12_makes_60 : decode cX12_makes 60 = .ok (.iastore, 1) := by decide +kernel
theorem dX12_makes_61 : decode cX12_makes 61 = .ok (.aload_n 0, 1) := by decide +kernel
theorem dX12_makes_62 : decode cX12_makes 62 = .ok (.iload_n 3, 1) := by decide +kernel
theorem dX12_makes_63 : decode cX12_makes 63 = .ok (.invokevirtual 433, 3) := by decide +kernel
theorem dX12_makes_66 : decode cX12_makes 66 = .ok (.aload_n 0, 1) := by decide +kernel
theorem dX12_makes_67 : decode cX12_makes 67 = .ok (.getfield 143, 3) := by decide +kernel
theorem dX12_makes_70 : decode cX12_makes 70 = .ok (.aload_n 0, 1) := by decide +kernel
theorem dX12_makes_71 : decode cX12_makes 71 = .ok (.getfield 262, 3) := by decide +kernel
theorem dX12_makes_74 : decode cX12_makes 74 = .ok (.dup2, 1) := by decide +kernel
theorem dX12_makes_75 : decode cX12_makes 75 = .ok (.iaload, 1) := by decide +kernel
theorem dX12_makes_76 : decode cX12_makes 76 = .ok (.iconst 1, 1) := by decide +kernel
theorem dX12_makes_77 : decode cX12_makes 77 = .ok (.iadd, 1) := by decide +kernel
theorem dX12_makes_78 : decode cX12_makes 78 = .ok (.iastore, 1) := by decide +kernel
theorem dX12_makes_79 : decode cX12_makes 79 = .ok (.return_, 1) := by decide +kernel
theorem dX12_fetches_0 : decode cX12_fetches 0 = .ok (.aload_n 0, 1) := by decide +kernel
theorem dX12_fetches_1 : decode cX12_fetches 1 = .ok (.getfield 130, 3) := by decide +kernel
theorem dX12_fetches_4 : decode cX12_fetches 4 = .ok (.aload_n 0, 1) := by decide +kernel
theorem dX12_fetches_5 : decode cX12_fetches 5 = .ok (.iconst 0, 1) := by decide +kernel
theorem dX12_fetches_6 : decode cX12_fetches 6 = .ok (.invokevirtual 297, 3) := by decide +kernel
theorem dX12_fetches_9 : decode cX12_fetches 9 = .ok (.iaload, 1) := by decide +kernel
theorem dX12_fetches_10 : decode cX12_fetches 10 = .ok (.istore_n 2, 1) := by decide +kernel
theorem dX12_fetches_11 : decode cX12_fetches 11 = .ok (.aload_n 0, 1) := by decide +kernel
theorem dX12_fetches_12 : decode cX12_fetches 12 = .ok (.aload_n 0, 1) := by decide +kernel
theorem dX12_fetches_13 : decode cX12_fetches 13 = .ok (.getfield 152, 3) := by decide +kernel
theorem dX12_fetches_16 : decode cX12_fetches 16 = .ok (.bipush 6, 2) := by decide +kernel
theorem dX12_fetches_18 : decode cX12_fetches 18 = .ok (.iload_n 2, 1) := by decide +kernel
theorem dX12_fetches_19 : decode cX12_fetches 19 = .ok (.imul, 1) := by decide +kernel
theorem dX12_fetches_20 : decode cX12_fetches 20 = .ok (.iload_n 1, 1) := by decide +kernel
theorem dX12_fetches_21 : decode cX12_fetches 21 = .ok (.iadd, 1) := by decide +kernel
theorem dX12_fetches_22 : decode cX12_fetches 22 = .ok (.caload, 1) := by decide +kernel
theorem dX12_fetches_23 : decode cX12_fetches 23 = .ok (.aload_n 0, 1) := by decide +kernel
theorem dX12_fetches_24 : decode cX12_fetches 24 = .ok (.getfield 155, 3) := by decide +kernel
theorem dX12_fetches_27 : decode cX12_fetches 27 = .ok (.bipush 6, 2) := by decide +kernel
theorem dX12_fetches_29 : decode cX12_fetches 29 = .ok (.iload_n 2, 1) := by decide +kernel
theorem dX12_fetches_30 : decode cX12_fetches 30 = .ok (.imul, 1) := by decide +kernel
theorem dX12_fetches_31 : decode cX12_fetches 31 = .ok (.iload_n 1, 1) := by decide +kernel
theorem dX12_fetches_32 : decode cX12_fetches 32 = .ok (.iadd, 1) := by decide +kernel
theorem dX12_fetches_33 : decode cX12_fetches 33 = .ok (.iaload, 1) := by decide +kernel
theorem dX12_fetches_34 : decode cX12_fetches 34 = .ok (.aload_n 0, 1) := by decide +kernel
theorem dX12_fetches_35 : decode cX12_fetches 35 = .ok (.getfield 158, 3) := by decide +kernel
theorem dX12_fetches_38 : decode cX12_fetches 38 = .ok (.bipush 6, 2) := by decide +kernel
theorem dX12_fetches_40 : decode cX12_fetches 40 = .ok (.iload_n 2, 1) := by decide +kernel
theorem dX12_fetches_41 : decode cX12_fetches 41 = .ok (.imul, 1) := by decide +kernel
theorem dX12_fetches_42 : decode cX12_fetches 42 = .ok (.iload_n 1, 1) := by decide +kernel
theorem dX12_fetches_43 : decode cX12_fetches 43 = .ok (.iadd, 1) := by decide +kernel
theorem dX12_fetches_44 : decode cX12_fetches 44 = .ok (.daload, 1) := by decide +kernel
theorem dX12_fetches_45 : decode cX12_fetches 45 = .ok (.invokevirtual 304, 3) := by decide +kernel
theorem dX12_fetches_48 : decode cX12_fetches 48 = .ok (.aload_n 0, 1) := by decide +kernel
theorem dX12_fetches_49 : decode cX12_fetches 49 = .ok (.getfield 146, 3) := by decide +kernel
theorem dX12_fetches_52 : decode cX12_fetches 52 = .ok (.aload_n 0, 1) := by decide +kernel
theorem dX12_fetches_53 : decode cX12_fetches 53 = .ok (.getfield 262, 3) := by decide +kernel
theorem dX12_fetches_56 : decode cX12_fetches 56 = .ok (.dup2, 1) := by decide +kernel
theorem dX12_fetches_57 : decode cX12_fetches 57 = .ok (.iaload, 1) := by decide +kernel
theorem dX12_fetches_58 : decode cX12_fetches 58 = .ok (.iconst 1, 1) := by decide +kernel
theorem dX12_fetches_59 : decode cX12_fetches 59 = .ok (.isub, 1) := by decide +kernel
theorem dX12_fetches_60 : decode cX12_fetches 60 = .ok (.iastore, 1) := by decide +kernel
theorem dX12_fetches_61 : decode cX12_fetches 61 = .ok (.aload_n 0, 1) := by decide +kernel
theorem dX12_fetches_62 : decode cX12_fetches 62 = .ok (.aload_n 0, 1) := by decide +kernel
theorem dX12_fetches_63 : decode cX12_fetches 63 = .ok (.getfield 353, 3) := by decide +kernel
theorem dX12_fetches_66 : decode cX12_fetches 66 = .ok (.ifCond .eq 10, 3) := by decide +kernel
theorem dX12_fetches_69 : decode cX12_fetches 69 = .ok (.aload_n 0, 1) := by decide +kernel
theorem dX12_fetches_70 : decode cX12_fetches 70 = .ok (.invokevirtual 322, 3) := by decide +kernel
theorem dX12_fetches_73 : decode cX12_fetches 73 = .ok (.goto 4, 3) := by decide +kernel
theorem dX12_fetches_76 : decode cX12_fetches 76 = .ok (.iconst 0, 1) := by decide +kernel
theorem dX12_fetches_77 : decode cX12_fetches 77 = .ok (.invokevirtual 433, 3) := by decide +kernel
theorem dX12_fetches_80 : decode cX12_fetches 80 = .ok (.aload_n 0, 1) := by decide +kernel
theorem dX12_fetches_81 : decode cX12_fetches 81 = .ok (.getfield 143, 3) := by decide +kernel
theorem dX12_fetches_84 : decode cX12_fetches 84 = .ok (.aload_n 0, 1) := by decide +kernel
theorem dX12_fetches_85 : decode cX12_fetches 85 = .ok (.getfield 262, 3) := by decide +kernel
theorem dX12_fetches_88 : decode cX12_fetches 88 = .ok (.dup2, 1) := by decide +kernel
theorem dX12_fetches_89 : decode cX12_fetches 89 = .ok (.iaload, 1) := by decide +kernel
theorem dX12_fetches_90 : decode cX12_fetches 90 = .ok (.iconst 1, 1) := by decide +kernel
theorem dX12_fetches_91 : decode cX12_fetches 91 = .ok (.iadd, 1) := by decide +kernel
theorem dX12_fetches_92 : decode cX12_fetches 92 = .ok (.iastore, 1) := by decide +kernel
theorem dX12_fetches_93 : decode cX12_fetches 93 = .ok (.return_, 1) := by decide +kernel
theorem dX12_executes_0 : decode cX12_executes 0 = .ok (.bipush 40, 2) := by decide +kernel
theorem dX12_executes_2 : decode cX12_executes 2 = .ok (.aload_n 0, 1) := by decide +kernel
theorem dX12_executes_3 : decode cX12_executes 3 = .ok (.getfield 140, 3) := by decide +kernel
theorem dX12_executes_6 : decode cX12_executes 6 = .ok (.aload_n 0, 1) := by decide +kernel
theorem dX12_executes_7 : decode cX12_executes 7 = .ok (.getfield 262, 3) := by decide +kernel
theorem dX12_executes_10 : decode cX12_executes 10 = .ok (.iaload, 1) := by decide +kernel
theorem dX12_executes_11 : decode cX12_executes 11 = .ok (.imul, 1) := by decide +kernel
theorem dX12_executes_12 : decode cX12_executes 12 = .ok (.aload_n 0, 1) := by decide +kernel
theorem dX12_executes_13 : decode cX12_executes 13 = .ok (.getfield 143, 3) := by decide +kernel
theorem dX12_executes_16 : decode cX12_executes 16 = .ok (.aload_n 0, 1) := by decide +kernel
theorem dX12_executes_17 : decode cX12_executes 17 = .ok (.getfield 262, 3) := by decide +kernel
theorem dX12_executes_20 : decode cX12_executes 20 = .ok (.iaload, 1) := by decide +kernel
theorem dX12_executes_21 : decode cX12_executes 21 = .ok (.iadd, 1) := by decide +kernel
theorem dX12_executes_22 : decode cX12_executes 22 = .ok (.istore_n 1, 1) := by decide +kernel
theorem dX12_executes_23 : decode cX12_executes 23 = .ok (.aload_n 0, 1) := by decide +kernel
theorem dX12_executes_24 : decode cX12_executes 24 = .ok (.getfield 16, 3) := by decide +kernel
theorem dX12_executes_27 : decode cX12_executes 27 = .ok (.iload_n 1, 1) := by decide +kernel
theorem dX12_executes_28 : decode cX12_executes 28 = .ok (.caload, 1) := by decide +kernel
theorem dX12_executes_29 : decode cX12_executes 29 = .ok (.istore_n 2, 1) := by decide +kernel
theorem dX12_executes_30 : decode cX12_executes 30 = .ok (.aload_n 0, 1) := by decide +kernel
theorem dX12_executes_31 : decode cX12_executes 31 = .ok (.getfield 20, 3) := by decide +kernel
theorem dX12_executes_34 : decode cX12_executes 34 = .ok (.iload_n 1, 1) := by decide +kernel
theorem dX12_executes_35 : decode cX12_executes 35 = .ok (.iaload, 1) := by decide +kernel
theorem dX12_executes_36 : decode cX12_executes 36 = .ok (.istore_n 3, 1) := by decide +kernel
theorem dX12_executes_37 : decode cX12_executes 37 = .ok (.aload_n 0, 1) := by decide +kernel
theorem dX12_executes_38 : decode cX12_executes 38 = .ok (.dup, 1) := by decide +kernel
theorem dX12_executes_39 : decode cX12_executes 39 = .ok (.getfield 436, 3) := by decide +kernel
theorem dX12_executes_42 : decode cX12_executes 42 = .ok (.iconst 1, 1) := by decide +kernel
theorem dX12_executes_43 : decode cX12_executes 43 = .ok (.iadd, 1) := by decide +kernel
theorem dX12_executes_44 : decode cX12_executes 44 = .ok (.putfield 436, 3) := by decide +kernel
theorem dX12_executes_47 : decode cX12_executes 47 = .ok (.iload_n 2, 1) := by decide +kernel
theorem dX12_executes_48 : decode cX12_executes 48 = .ok (.bipush 105, 2) := by decide +kernel
theorem dX12_executes_50 : decode cX12_executes 50 = .ok (.if_icmp .eq 9, 3) := by decide +kernel
theorem dX12_executes_53 : decode cX12_executes 53 = .ok (.iload_n 2, 1) := by decide +kernel
theorem dX12_executes_54 : decode cX12_executes 54 = .ok (.bipush 107, 2) := by decide +kernel
theorem dX12_executes_56 : decode cX12_executes 56 = .ok (.if_icmp .ne 51, 3) := by decide +kernel
theorem dX12_executes_59 : decode cX12_executes 59 = .ok (.aload_n 0, 1) := by decide +kernel
theorem dX12_executes_60 : decode cX12_executes 60 = .ok (.bipush 105, 2) := by decide +kernel
theorem dX12_executes_62 : decode cX12_executes 62 = .ok (.iload_n 2, 1) := by decide +kernel
theorem dX12_executes_63 : decode cX12_executes 63 = .ok (.bipush 105, 2) := by decide +kernel
theorem dX12_executes_65 : decode cX12_executes 65 = .ok (.if_icmp .ne 7, 3) := by decide +kernel
theorem dX12_executes_68 : decode cX12_executes 68 = .ok (.iload_n 3, 1) := by decide +kernel
theorem dX12_executes_69 : decode cX12_executes 69 = .ok (.goto 9, 3) := by decide +kernel
theorem dX12_executes_72 : decode cX12_executes 72 = .ok (.aload_n 0, 1) := by decide +kernel
theorem dX12_executes_73 : decode cX12_executes 73 = .ok (.getfield 26, 3) := by decide +kernel
theorem dX12_executes_76 : decode cX12_executes 76 = .ok (.iload_n 3, 1) := by decide +kernel
theorem dX12_executes_77 : decode cX12_executes 77 = .ok (.iaload, 1) := by decide +kernel
theorem dX12_executes_78 : decode cX12_executes 78 = .ok (.dconst 0, 1) := by decide +kernel
theorem dX12_executes_79 : decode cX12_executes 79 = .ok (.invokevirtual 304, 3) := by decide +kernel
theorem dX12_executes_82 : decode cX12_executes 82 = .ok (.aload_n 0, 1) := by decide +kernel
theorem dX12_executes_83 : decode cX12_executes 83 = .ok (.aload_n 0, 1) := by decide +kernel
theorem dX12_executes_84 : decode cX12_executes 84 = .ok (.iconst 1, 1) := by decide +kernel
theorem dX12_executes_85 : decode cX12_executes 85 = .ok (.invokevirtual 429, 3) := by decide +kernel
theorem dX12_executes_88 : decode cX12_executes 88 = .ok (.invokevirtual 433, 3) := by decide +kernel
theorem dX12_executes_91 : decode cX12_executes 91 = .ok (.aload_n 0, 1) := by decide +kernel
theorem dX12_executes_92 : decode cX12_executes 92 = .ok (.getfield 143, 3) := by decide +kernel
theorem dX12_executes_95 : decode cX12_executes 95 = .ok (.aload_n 0, 1) := by decide +kernel
theorem dX12_executes_96 : decode cX12_executes 96 = .ok (.getfield 262, 3) := by decide +kernel
theorem dX12_executes_99 : decode cX12_executes 99 = .ok (.dup2, 1) := by decide +kernel
theorem dX12_executes_100 : decode cX12_executes 100 = .ok (.iaload, 1) := by decide +kernel
theorem dX12_executes_101 : decode cX12_executes 101 = .ok (.iconst 1, 1) := by decide +kernel
theorem dX12_executes_102 : decode cX12_executes 102 = .ok (.iadd, 1) := by decide +kernel
theorem dX12_executes_103 : decode cX12_executes 103 = .ok (.iastore, 1) := by decide +kernel
theorem dX12_executes_104 : decode cX12_executes 104 = .ok (.goto 413, 3) := by decide +kernel
theorem dX12_executes_107 : decode cX12_executes 107 = .ok (.iload_n 2, 1) := by decide +kernel
theorem dX12_executes_108 : decode cX12_executes 108 = .ok (.bipush 108, 2) := by decide +kernel
theorem dX12_executes_110 : decode cX12_executes 110 = .ok (.if_icmp .ne 50, 3) := by decide +kernel
theorem dX12_executes_113 : decode cX12_executes 113 = .ok (.aload_n 0, 1) := by decide +kernel
theorem dX12_executes_114 : decode cX12_executes 114 = .ok (.getfield 146, 3) := by decide +kernel
theorem dX12_executes_117 : decode cX12_executes 117 = .ok (.aload_n 0, 1) := by decide +kernel
theorem dX12_executes_118 : decode cX12_executes 118 = .ok (.getfield 262, 3) := by decide +kernel
theorem dX12_executes_121 : decode cX12_executes 121 = .ok (.dup2, 1) := by decide +kernel
theorem dX12_executes_122 : decode cX12_executes 122 = .ok (.iaload, 1) := by decide +kernel
theorem dX12_executes_123 : decode cX12_executes 123 = .ok (.iconst 1, 1) := by decide +kernel
theorem dX12_executes_124 : decode cX12_executes 124 = .ok (.iadd, 1) := by decide +kernel
theorem dX12_executes_125 : decode cX12_executes 125 = .ok (.iastore, 1) := by decide +kernel
theorem dX12_executes_126 : decode cX12_executes 126 = .ok (.aload_n 0, 1) := by decide +kernel
theorem dX12_executes_127 : decode cX12_executes 127 = .ok (.bipush 14, 2) := by decide +kernel
theorem dX12_executes_129 : decode cX12_executes 129 = .ok (.aload_n 0, 1) := by decide +kernel
theorem dX12_executes_130 : decode cX12_executes 130 = .ok (.getfield 262, 3) := by decide +kernel
theorem dX12_executes_133 : decode cX12_executes 133 = .ok (.imul, 1) := by decide +kernel
theorem dX12_executes_134 : decode cX12_executes 134 = .ok (.iload_n 3, 1) := by decide +kernel
theorem dX12_executes_135 : decode cX12_executes 135 = .ok (.iadd, 1) := by decide +kernel
theorem dX12_executes_136 : decode cX12_executes 136 = .ok (.aload_n 0, 1) := by decide +kernel
theorem dX12_executes_137 : decode cX12_executes 137 = .ok (.iconst 0, 1) := by decide +kernel
theorem dX12_executes_138 : decode cX12_executes 138 = .ok (.invokevirtual 297, 3) := by decide +kernel
theorem dX12_executes_141 : decode cX12_executes 141 = .ok (.invokevirtual 401, 3) := by decide +kernel
theorem dX12_executes_144 : decode cX12_executes 144 = .ok (.aload_n 0, 1) := by decide +kernel
theorem dX12_executes_145 : decode cX12_executes 145 = .ok (.getfield 143, 3) := by decide +kernel
theorem dX12_executes_148 : decode cX12_executes 148 = .ok (.aload_n 0, 1) := by decide +kernel
theorem dX12_executes_149 : decode cX12_executes 149 = .ok (.getfield 262, 3) := by decide +kernel
theorem dX12_executes_152 : decode cX12_executes 152 = .ok (.dup2, 1) := by decide +kernel
theorem dX12_executes_153 : decode cX12_executes 153 = .ok (.iaload, 1) := by decide +kernel
theorem dX12_executes_154 : decode cX12_executes 154 = .ok (.iconst 1, 1) := by decide +kernel
theorem dX12_executes_155 : decode cX12_executes 155 = .ok (.iadd, 1) := by decide +kernel
theorem dX12_executes_156 : decode cX12_executes 156 = .ok (.iastore, 1) := by decide +kernel
theorem dX12_executes_157 : decode cX12_executes 157 = .ok (.goto 360, 3) := by decide +kernel
theorem dX12_executes_160 : decode cX12_executes 160 = .ok (.iload_n 2, 1) := by decide +kernel
theorem dX12_executes_161 : decode cX12_executes 161 = .ok (.bipush 115, 2) := by decide +kernel
theorem dX12_executes_163 : decode cX12_executes 163 = .ok (.if_icmp .ne 50, 3) := by decide +kernel
theorem dX12_executes_166 : decode cX12_executes 166 = .ok (.aload_n 0, 1) := by decide +kernel
theorem dX12_executes_167 : decode cX12_executes 167 = .ok (.aload_n 0, 1) := by decide +kernel
theorem dX12_executes_168 : decode cX12_executes 168 = .ok (.iconst 0, 1) := by decide +kernel
theorem dX12_executes_169 : decode cX12_executes 169 = .ok (.invokevirtual 297, 3) := by decide +kernel
theorem dX12_executes_172 : decode cX12_executes 172 = .ok (.bipush 14, 2) := by decide +kernel
theorem dX12_executes_174 : decode cX12_executes 174 = .ok (.aload_n 0, 1) := by decide +kernel
theorem dX12_executes_175 : decode cX12_executes 175 = .ok (.getfield 262, 3) := by decide +kernel
theorem dX12_executes_178 : decode cX12_executes 178 = .ok (.imul, 1) := by decide +kernel
theorem dX12_executes_179 : decode cX12_executes 179 = .ok (.iload_n 3, 1) := by decide +kernel
theorem dX12_executes_180 : decode cX12_executes 180 = .ok (.iadd, 1) := by decide +kernel
theorem dX12_executes_181 : decode cX12_executes 181 = .ok (.invokevirtual 401, 3) := by decide +kernel
theorem dX12_executes_184 : decode cX12_executes 184 = .ok (.aload_n 0, 1) := by decide +kernel
theorem dX12_executes_185 : decode cX12_executes 185 = .ok (.getfield 146, 3) := by decide +kernel
theorem dX12_executes_188 : decode cX12_executes 188 = .ok (.aload_n 0, 1) := by decide +kernel
theorem dX12_executes_189 : decode cX12_executes 189 = .ok (.getfield 262, 3) := by decide +kernel
theorem dX12_executes_192 : decode cX12_executes 192 = .ok (.dup2, 1) := by decide +kernel
theorem dX12_executes_193 : decode cX12_executes 193 = .ok (.iaload, 1) := by decide +kernel
theorem dX12_executes_194 : decode cX12_executes 194 = .ok (.iconst 1, 1) := by decide +kernel
theorem dX12_executes_195 : decode cX12_executes 195 = .ok (.isub, 1) := by decide +kernel
theorem dX12_executes_196 : decode cX12_executes 196 = .ok (.iastore, 1) := by decide +kernel
theorem dX12_executes_197 : decode cX12_executes 197 = .ok (.aload_n 0, 1) := by decide +kernel
theorem dX12_executes_198 : decode cX12_executes 198 = .ok (.getfield 143, 3) := by decide +kernel
theorem dX12_executes_201 : decode cX12_executes 201 = .ok (.aload_n 0, 1) := by decide +kernel
theorem dX12_executes_202 : decode cX12_executes 202 = .ok (.getfield 262, 3) := by decide +kernel
theorem dX12_executes_205 : decode cX12_executes 205 = .ok (.dup2, 1) := by decide +kernel
theorem dX12_executes_206 : decode cX12_executes 206 = .ok (.iaload, 1) := by decide +kernel
theorem dX12_executes_207 : decode cX12_executes 207 = .ok (.iconst 1, 1) := by decide +kernel
theorem dX12_executes_208 : decode cX12_executes 208 = .ok (.iadd, 1) := by decide +kernel
theorem dX12_executes_209 : decode cX12_executes 209 = .ok (.iastore, 1) := by decide +kernel
theorem dX12_executes_210 : decode cX12_executes 210 = .ok (.goto 307, 3) := by decide +kernel
theorem dX12_executes_213 : decode cX12_executes 213 = .ok (.iload_n 2, 1) := by decide +kernel
theorem dX12_executes_214 : decode cX12_executes 214 = .ok (.bipush 117, 2) := by decide +kernel
theorem dX12_executes_216 : decode cX12_executes 216 = .ok (.if_icmp .ne 46, 3) := by decide +kernel
theorem dX12_executes_219 : decode cX12_executes 219 = .ok (.aload_n 0, 1) := by decide +kernel
theorem dX12_executes_220 : decode cX12_executes 220 = .ok (.getfield 146, 3) := by decide +kernel
theorem dX12_executes_223 : decode cX12_executes 223 = .ok (.aload_n 0, 1) := by decide +kernel
theorem dX12_executes_224 : decode cX12_executes 224 = .ok (.getfield 262, 3) := by decide +kernel
theorem dX12_executes_227 : decode cX12_executes 227 = .ok (.dup2, 1) := by decide +kernel
theorem dX12_executes_228 : decode cX12_executes 228 = .ok (.iaload, 1) := by decide +kernel
theorem dX12_executes_229 : decode cX12_executes 229 = .ok (.iconst 1, 1) := by decide +kernel
theorem dX12_executes_230 : decode cX12_executes 230 = .ok (.iadd, 1) := by decide +kernel
theorem dX12_executes_231 : decode cX12_executes 231 = .ok (.iastore, 1) := by decide +kernel
theorem dX12_executes_232 : decode cX12_executes 232 = .ok (.aload_n 0, 1) := by decide +kernel
theorem dX12_executes_233 : decode cX12_executes 233 = .ok (.aload_n 0, 1) := by decide +kernel
theorem dX12_executes_234 : decode cX12_executes 234 = .ok (.iconst 1, 1) := by decide +kernel
theorem dX12_executes_235 : decode cX12_executes 235 = .ok (.invokevirtual 297, 3) := by decide +kernel
theorem dX12_executes_238 : decode cX12_executes 238 = .ok (.aload_n 0, 1) := by decide +kernel
theorem dX12_executes_239 : decode cX12_executes 239 = .ok (.iconst 0, 1) := by decide +kernel
theorem dX12_executes_240 : decode cX12_executes 240 = .ok (.invokevirtual 297, 3) := by decide +kernel
theorem dX12_executes_243 : decode cX12_executes 243 = .ok (.invokevirtual 401, 3) := by decide +kernel
theorem dX12_executes_246 : decode cX12_executes 246 = .ok (.aload_n 0, 1) := by decide +kernel
theorem dX12_executes_247 : decode cX12_executes 247 = .ok (.getfield 143, 3) := by decide +kernel
theorem dX12_executes_250 : decode cX12_executes 250 = .ok (.aload_n 0, 1) := by decide +kernel
theorem dX12_executes_251 : decode cX12_executes 251 = .ok (.getfield 262, 3) := by decide +kernel
theorem dX12_executes_254 : decode cX12_executes 254 = .ok (.dup2, 1) := by decide +kernel
theorem dX12_executes_255 : decode cX12_executes 255 = .ok (.iaload, 1) := by decide +kernel
theorem dX12_executes_256 : decode cX12_executes 256 = .ok (.iconst 1, 1) := by decide +kernel
theorem dX12_executes_257 : decode cX12_executes 257 = .ok (.iadd, 1) := by decide +kernel
theorem dX12_executes_258 : decode cX12_executes 258 = .ok (.iastore, 1) := by decide +kernel
theorem dX12_executes_259 : decode cX12_executes 259 = .ok (.goto 258, 3) := by decide +kernel
theorem dX12_executes_262 : decode cX12_executes 262 = .ok (.iload_n 2, 1) := by decide +kernel
theorem dX12_executes_263 : decode cX12_executes 263 = .ok (.bipush 100, 2) := by decide +kernel
theorem dX12_executes_265 : decode cX12_executes 265 = .ok (.if_icmp .ne 32, 3) := by decide +kernel
theorem dX12_executes_268 : decode cX12_executes 268 = .ok (.aload_n 0, 1) := by decide +kernel
theorem dX12_executes_269 : decode cX12_executes 269 = .ok (.getfield 146, 3) := by decide +kernel
theorem dX12_executes_272 : decode cX12_executes 272 = .ok (.aload_n 0, 1) := by decide +kernel
theorem dX12_executes_273 : decode cX12_executes 273 = .ok (.getfield 262, 3) := by decide +kernel
theorem dX12_executes_276 : decode cX12_executes 276 = .ok (.dup2, 1) := by decide +kernel
theorem dX12_executes_277 : decode cX12_executes 277 = .ok (.iaload, 1) := by decide +kernel
theorem dX12_executes_278 : decode cX12_executes 278 = .ok (.iconst 1, 1) := by decide +kernel
theorem dX12_executes_279 : decode cX12_executes 279 = .ok (.isub, 1) := by decide +kernel
theorem dX12_executes_280 : decode cX12_executes 280 = .ok (.iastore, 1) := by decide +kernel
theorem dX12_executes_281 : decode cX12_executes 281 = .ok (.aload_n 0, 1) := by decide +kernel
theorem dX12_executes_282 : decode cX12_executes 282 = .ok (.getfield 143, 3) := by decide +kernel
theorem dX12_executes_285 : decode cX12_executes 285 = .ok (.aload_n 0, 1) := by decide +kernel
theorem dX12_executes_286 : decode cX12_executes 286 = .ok (.getfield 262, 3) := by decide +kernel
theorem dX12_executes_289 : decode cX12_executes 289 = .ok (.dup2, 1) := by decide +kernel
theorem dX12_executes_290 : decode cX12_executes 290 = .ok (.iaload, 1) := by decide +kernel
theorem dX12_executes_291 : decode cX12_executes 291 = .ok (.iconst 1, 1) := by decide +kernel
theorem dX12_executes_292 : decode cX12_executes 292 = .ok (.iadd, 1) := by decide +kernel
theorem dX12_executes_293 : decode cX12_executes 293 = .ok (.iastore, 1) := by decide +kernel
theorem dX12_executes_294 : decode cX12_executes 294 = .ok (.goto 223, 3) := by decide +kernel
theorem dX12_executes_297 : decode cX12_executes 297 = .ok (.iload_n 2, 1) := by decide +kernel
theorem dX12_executes_298 : decode cX12_executes 298 = .ok (.invokestatic 219, 3) := by decide +kernel
theorem dX12_executes_301 : decode cX12_executes 301 = .ok (.ifCond .ne 9, 3) := by decide +kernel
theorem dX12_executes_304 : decode cX12_executes 304 = .ok (.iload_n 2, 1) := by decide +kernel
theorem dX12_executes_305 : decode cX12_executes 305 = .ok (.bipush 119, 2) := by decide +kernel
theorem dX12_executes_307 : decode cX12_executes 307 = .ok (.if_icmp .ne 11, 3) := by decide +kernel
theorem dX12_executes_310 : decode cX12_executes 310 = .ok (.aload_n 0, 1) := by decide +kernel
theorem dX12_executes_311 : decode cX12_executes 311 = .ok (.iload_n 2, 1) := by decide +kernel
theorem dX12_executes_312 : decode cX12_executes 312 = .ok (.invokevirtual 439, 3) := by decide +kernel
theorem dX12_executes_315 : decode cX12_executes 315 = .ok (.goto 202, 3) := by decide +kernel
theorem dX12_executes_318 : decode cX12_executes 318 = .ok (.iload_n 2, 1) := by decide +kernel
theorem dX12_executes_319 : decode cX12_executes 319 = .ok (.bipush 106, 2) := by decide +kernel
theorem dX12_executes_321 : decode cX12_executes 321 = .ok (.if_icmp .ne 16, 3) := by decide +kernel
theorem dX12_executes_324 : decode cX12_executes 324 = .ok (.aload_n 0, 1) := by decide +kernel
theorem dX12_executes_325 : decode cX12_executes 325 = .ok (.getfield 143, 3) := by decide +kernel
theorem dX12_executes_328 : decode cX12_executes 328 = .ok (.aload_n 0, 1) := by decide +kernel
theorem dX12_executes_329 : decode cX12_executes 329 = .ok (.getfield 262, 3) := by decide +kernel
theorem dX12_executes_332 : decode cX12_executes 332 = .ok (.iload_n 3, 1) := by decide +kernel
theorem dX12_executes_333 : decode cX12_executes 333 = .ok (.iastore, 1) := by decide +kernel
theorem dX12_executes_334 : decode cX12_executes 334 = .ok (.goto 183, 3) := by decide +kernel
theorem dX12_executes_337 : decode cX12_executes 337 = .ok (.iload_n 2, 1) := by decide +kernel
theorem dX12_executes_338 : decode cX12_executes 338 = .ok (.bipush 122, 2) := by decide +kernel
theorem dX12_executes_340 : decode cX12_executes 340 = .ok (.if_icmp .ne 59, 3) := by decide +kernel
theorem dX12_executes_343 : decode cX12_executes 343 = .ok (.aload_n 0, 1) := by decide +kernel
theorem dX12_executes_344 : decode cX12_executes 344 = .ok (.aload_n 0, 1) := by decide +kernel
theorem dX12_executes_345 : decode cX12_executes 345 = .ok (.iconst 0, 1) := by decide +kernel
theorem dX12_executes_346 : decode cX12_executes 346 = .ok (.invokevirtual 297, 3) := by decide +kernel
theorem dX12_executes_349 : decode cX12_executes 349 = .ok (.invokevirtual 347, 3) := by decide +kernel
theorem dX12_executes_352 : decode cX12_executes 352 = .ok (.istore 4, 2) := by decide +kernel
theorem dX12_executes_354 : decode cX12_executes 354 = .ok (.aload_n 0, 1) := by decide +kernel
theorem dX12_executes_355 : decode cX12_executes 355 = .ok (.getfield 146, 3) := by decide +kernel
theorem dX12_executes_358 : decode cX12_executes 358 = .ok (.aload_n 0, 1) := by decide +kernel
theorem dX12_executes_359 : decode cX12_executes 359 = .ok (.getfield 262, 3) := by decide +kernel
theorem dX12_executes_362 : decode cX12_executes 362 = .ok (.dup2, 1) := by decide +kernel
theorem dX12_executes_363 : decode cX12_executes 363 = .ok (.iaload, 1) := by decide +kernel
theorem dX12_executes_364 : decode cX12_executes 364 = .ok (.iconst 1, 1) := by decide +kernel
theorem dX12_executes_365 : decode cX12_executes 365 = .ok (.isub, 1) := by decide +kernel
theorem dX12_executes_366 : decode cX12_executes 366 = .ok (.iastore, 1) := by decide +kernel
theorem dX12_executes_367 : decode cX12_executes 367 = .ok (.aload_n 0, 1) := by decide +kernel
theorem dX12_executes_368 : decode cX12_executes 368 = .ok (.getfield 143, 3) := by decide +kernel
theorem dX12_executes_371 : decode cX12_executes 371 = .ok (.aload_n 0, 1) := by decide +kernel
theorem dX12_executes_372 : decode cX12_executes 372 = .ok (.getfield 262, 3) := by decide +kernel
theorem dX12_executes_375 : decode cX12_executes 375 = .ok (.iload 4, 2) := by decide +kernel
theorem dX12_executes_377 : decode cX12_executes 377 = .ok (.ifCond .eq 7, 3) := by decide +kernel
theorem dX12_executes_380 : decode cX12_executes 380 = .ok (.iload_n 3, 1) := by decide +kernel
theorem dX12_executes_381 : decode cX12_executes 381 = .ok (.goto 14, 3) := by decide +kernel
theorem dX12_executes_384 : decode cX12_executes 384 = .ok (.aload_n 0, 1) := by decide +kernel
theorem dX12_executes_385 : decode cX12_executes 385 = .ok (.getfield 143, 3) := by decide +kernel
theorem dX12_executes_388 : decode cX12_executes 388 = .ok (.aload_n 0, 1) := by decide +kernel
theorem dX12_executes_389 : decode cX12_executes 389 = .ok (.getfield 262, 3) := by decide +kernel
theorem dX12_executes_392 : decode cX12_executes 392 = .ok (.iaload, 1) := by decide +kernel
theorem dX12_executes_393 : decode cX12_executes 393 = .ok (.iconst 1, 1) := by decide +kernel
theorem dX12_executes_394 : decode cX12_executes 394 = .ok (.iadd, 1) := by decide +kernel
theorem dX12_executes_395 : decode cX12_executes 395 = .ok (.iastore, 1) := by decide +kernel
theorem dX12_executes_396 : decode cX12_executes 396 = .ok (.goto 121, 3) := by decide +kernel
theorem dX12_executes_399 : decode cX12_executes 399 = .ok (.iload_n 2, 1) := by decide +kernel
theorem dX12_executes_400 : decode cX12_executes 400 = .ok (.bipush 110, 2) := by decide +kernel
theorem dX12_executes_402 : decode cX12_executes 402 = .ok (.if_icmp .ne 11, 3) := by decide +kernel
theorem dX12_executes_405 : decode cX12_executes 405 = .ok (.aload_n 0, 1) := by decide +kernel
theorem dX12_executes_406 : decode cX12_executes 406 = .ok (.iload_n 3, 1) := by decide +kernel
theorem dX12_executes_407 : decode cX12_executes 407 = .ok (.invokevirtual 443, 3) := by decide +kernel
theorem dX12_executes_410 : decode cX12_executes 410 = .ok (.goto 107, 3) := by decide +kernel
theorem dX12_executes_413 : decode cX12_executes 413 = .ok (.iload_n 2, 1) := by decide +kernel
theorem dX12_executes_414 : decode cX12_executes 414 = .ok (.bipush 103, 2) := by decide +kernel
theorem dX12_executes_416 : decode cX12_executes 416 = .ok (.if_icmp .ne 11, 3) := by decide +kernel
theorem dX12_executes_419 : decode cX12_executes 419 = .ok (.aload_n 0, 1) := by decide +kernel
theorem dX12_executes_420 : decode cX12_executes 420 = .ok (.iload_n 3, 1) := by decide +kernel
theorem dX12_executes_421 : decode cX12_executes 421 = .ok (.invokevirtual 446, 3) := by decide +kernel
theorem dX12_executes_424 : decode cX12_executes 424 = .ok (.goto 93, 3) := by decide +kernel
theorem dX12_executes_427 : decode cX12_executes 427 = .ok (.iload_n 2, 1) := by decide +kernel
theorem dX12_executes_428 : decode cX12_executes 428 = .ok (.bipush 112, 2) := by decide +kernel
theorem dX12_executes_430 : decode cX12_executes 430 = .ok (.if_icmp .ne 11, 3) := by decide +kernel
theorem dX12_executes_433 : decode cX12_executes 433 = .ok (.aload_n 0, 1) := by decide +kernel
theorem dX12_executes_434 : decode cX12_executes 434 = .ok (.iload_n 3, 1) := by decide +kernel
theorem dX12_executes_435 : decode cX12_executes 435 = .ok (.invokevirtual 449, 3) := by decide +kernel
theorem dX12_executes_438 : decode cX12_executes 438 = .ok (.goto 79, 3) := by decide +kernel
theorem dX12_executes_441 : decode cX12_executes 441 = .ok (.iload_n 2, 1) := by decide +kernel
theorem dX12_executes_442 : decode cX12_executes 442 = .ok (.bipush 99, 2) := by decide +kernel
theorem dX12_executes_444 : decode cX12_executes 444 = .ok (.if_icmp .ne 17, 3) := by decide +kernel
theorem dX12_executes_447 : decode cX12_executes 447 = .ok (.aload_n 0, 1) := by decide +kernel
theorem dX12_executes_448 : decode cX12_executes 448 = .ok (.iload_n 3, 1) := by decide +kernel
theorem dX12_executes_449 : decode cX12_executes 449 = .ok (.aload_n 0, 1) := by decide +kernel
theorem dX12_executes_450 : decode cX12_executes 450 = .ok (.getfield 7, 3) := by decide +kernel
theorem dX12_executes_453 : decode cX12_executes 453 = .ok (.iload_n 3, 1) := by decide +kernel
theorem dX12_executes_454 : decode cX12_executes 454 = .ok (.iaload, 1) := by decide +kernel
theorem dX12_executes_455 : decode cX12_executes 455 = .ok (.invokevirtual 452, 3) := by decide +kernel
theorem dX12_executes_458 : decode cX12_executes 458 = .ok (.goto 59, 3) := by decide +kernel
theorem dX12_executes_461 : decode cX12_executes 461 = .ok (.iload_n 2, 1) := by decide +kernel
theorem dX12_executes_462 : decode cX12_executes 462 = .ok (.bipush 109, 2) := by decide +kernel
theorem dX12_executes_464 : decode cX12_executes 464 = .ok (.if_icmp .ne 36, 3) := by decide +kernel
theorem dX12_executes_467 : decode cX12_executes 467 = .ok (.aload_n 0, 1) := by decide +kernel
theorem dX12_executes_468 : decode cX12_executes 468 = .ok (.aload_n 0, 1) := by decide +kernel
theorem dX12_executes_469 : decode cX12_executes 469 = .ok (.aload_n 0, 1) := by decide +kernel
theorem dX12_executes_470 : decode cX12_executes 470 = .ok (.getfield 38, 3) := by decide +kernel
theorem dX12_executes_473 : decode cX12_executes 473 = .ok (.aload_n 0, 1) := by decide +kernel
theorem dX12_executes_474 : decode cX12_executes 474 = .ok (.getfield 149, 3) := by decide +kernel
theorem dX12_executes_477 : decode cX12_executes 477 = .ok (.aload_n 0, 1) := by decide +kernel
theorem dX12_executes_478 : decode cX12_executes 478 = .ok (.getfield 130, 3) := by decide +kernel
theorem dX12_executes_481 : decode cX12_executes 481 = .ok (.aload_n 0, 1) := by decide +kernel
theorem dX12_executes_482 : decode cX12_executes 482 = .ok (.iconst 0, 1) := by decide +kernel
theorem dX12_executes_483 : decode cX12_executes 483 = .ok (.invokevirtual 297, 3) := by decide +kernel
theorem dX12_executes_486 : decode cX12_executes 486 = .ok (.iaload, 1) := by decide +kernel
theorem dX12_executes_487 : decode cX12_executes 487 = .ok (.iaload, 1) := by decide +kernel
theorem dX12_executes_488 : decode cX12_executes 488 = .ok (.iaload, 1) := by decide +kernel
theorem dX12_executes_489 : decode cX12_executes 489 = .ok (.iload_n 3, 1) := by decide +kernel
theorem dX12_executes_490 : decode cX12_executes 490 = .ok (.invokevirtual 394, 3) := by decide +kernel
theorem dX12_executes_493 : decode cX12_executes 493 = .ok (.iconst 1, 1) := by decide +kernel
theorem dX12_executes_494 : decode cX12_executes 494 = .ok (.invokevirtual 452, 3) := by decide +kernel
theorem dX12_executes_497 : decode cX12_executes 497 = .ok (.goto 20, 3) := by decide +kernel
theorem dX12_executes_500 : decode cX12_executes 500 = .ok (.iload_n 2, 1) := by decide +kernel
theorem dX12_executes_501 : decode cX12_executes 501 = .ok (.bipush 114, 2) := by decide +kernel
theorem dX12_executes_503 : decode cX12_executes 503 = .ok (.if_icmp .ne 10, 3) := by decide +kernel
theorem dX12_executes_506 : decode cX12_executes 506 = .ok (.aload_n 0, 1) := by decide +kernel
theorem dX12_executes_507 : decode cX12_executes 507 = .ok (.invokevirtual 455, 3) := by decide +kernel
theorem dX12_executes_510 : decode cX12_executes 510 = .ok (.goto 7, 3) := by decide +kernel
theorem dX12_executes_513 : decode cX12_executes 513 = .ok (.aload_n 0, 1) := by decide +kernel
theorem dX12_executes_514 : decode cX12_executes 514 = .ok (.invokevirtual 458, 3) := by decide +kernel
theorem dX12_executes_517 : decode cX12_executes 517 = .ok (.return_, 1) := by decide +kernel
theorem dX12_endsBy_0 : decode cX12_endsBy 0 = .ok (.aload_n 0, 1) := by decide +kernel
theorem dX12_endsBy_1 : decode cX12_endsBy 1 = .ok (.invokevirtual 369, 3) := by decide +kernel
theorem dX12_endsBy_4 : decode cX12_endsBy 4 = .ok (.aload_n 0, 1) := by decide +kernel
theorem dX12_endsBy_5 : decode cX12_endsBy 5 = .ok (.iconst (-1), 1) := by decide +kernel
theorem dX12_endsBy_6 : decode cX12_endsBy 6 = .ok (.putfield 172, 3) := by decide +kernel
theorem dX12_endsBy_9 : decode cX12_endsBy 9 = .ok (.aload_n 0, 1) := by decide +kernel
theorem dX12_endsBy_10 : decode cX12_endsBy 10 = .ok (.iconst 0, 1) := by decide +kernel
theorem dX12_endsBy_11 : decode cX12_endsBy 11 = .ok (.putfield 412, 3) := by decide +kernel
theorem dX12_endsBy_14 : decode cX12_endsBy 14 = .ok (.aload_n 0, 1) := by decide +kernel
theorem dX12_endsBy_15 : decode cX12_endsBy 15 = .ok (.bipush 120, 2) := by decide +kernel
theorem dX12_endsBy_17 : decode cX12_endsBy 17 = .ok (.putfield 168, 3) := by decide +kernel
theorem dX12_endsBy_20 : decode cX12_endsBy 20 = .ok (.aload_n 0, 1) := by decide +kernel
theorem dX12_endsBy_21 : decode cX12_endsBy 21 = .ok (.iload_n 1, 1) := by decide +kernel
theorem dX12_endsBy_22 : decode cX12_endsBy 22 = .ok (.putfield 460, 3) := by decide +kernel
theorem dX12_endsBy_25 : decode cX12_endsBy 25 = .ok (.aload_n 0, 1) := by decide +kernel
theorem dX12_endsBy_26 : decode cX12_endsBy 26 = .ok (.bipush 100, 2) := by decide +kernel
theorem dX12_endsBy_28 : decode cX12_endsBy 28 = .ok (.aload_n 0, 1) := by decide +kernel
theorem dX12_endsBy_29 : decode cX12_endsBy 29 = .ok (.getfield 140, 3) := by decide +kernel
theorem dX12_endsBy_32 : decode cX12_endsBy 32 = .ok (.aload_n 0, 1) := by decide +kernel
theorem dX12_endsBy_33 : decode cX12_endsBy 33 = .ok (.getfield 262, 3) := by decide +kernel
theorem dX12_endsBy_36 : decode cX12_endsBy 36 = .ok (.iaload, 1) := by decide +kernel
theorem dX12_endsBy_37 : decode cX12_endsBy 37 = .ok (.imul, 1) := by decide +kernel
theorem dX12_endsBy_38 : decode cX12_endsBy 38 = .ok (.aload_n 0, 1) := by decide +kernel
theorem dX12_endsBy_39 : decode cX12_endsBy 39 = .ok (.getfield 143, 3) := by decide +kernel
theorem dX12_endsBy_42 : decode cX12_endsBy 42 = .ok (.aload_n 0, 1) := by decide +kernel
theorem dX12_endsBy_43 : decode cX12_endsBy 43 = .ok (.getfield 262, 3) := by decide +kernel
theorem dX12_endsBy_46 : decode cX12_endsBy 46 = .ok (.iaload, 1) := by decide +kernel
theorem dX12_endsBy_47 : decode cX12_endsBy 47 = .ok (.iadd, 1) := by decide +kernel
theorem dX12_endsBy_48 : decode cX12_endsBy 48 = .ok (.putfield 463, 3) := by decide +kernel
theorem dX12_endsBy_51 : decode cX12_endsBy 51 = .ok (.return_, 1) := by decide +kernel
theorem dX12_failsBy_0 : decode cX12_failsBy 0 = .ok (.aload_n 0, 1) := by decide +kernel
theorem dX12_failsBy_1 : decode cX12_failsBy 1 = .ok (.invokevirtual 369, 3) := by decide +kernel
theorem dX12_failsBy_4 : decode cX12_failsBy 4 = .ok (.aload_n 0, 1) := by decide +kernel
theorem dX12_failsBy_5 : decode cX12_failsBy 5 = .ok (.dup, 1) := by decide +kernel
theorem dX12_failsBy_6 : decode cX12_failsBy 6 = .ok (.getfield 436, 3) := by decide +kernel
theorem dX12_failsBy_9 : decode cX12_failsBy 9 = .ok (.iconst 1, 1) := by decide +kernel
theorem dX12_failsBy_10 : decode cX12_failsBy 10 = .ok (.iadd, 1) := by decide +kernel
theorem dX12_failsBy_11 : decode cX12_failsBy 11 = .ok (.putfield 436, 3) := by decide +kernel
theorem dX12_failsBy_14 : decode cX12_failsBy 14 = .ok (.aload_n 0, 1) := by decide +kernel
theorem dX12_failsBy_15 : decode cX12_failsBy 15 = .ok (.getfield 262, 3) := by decide +kernel
theorem dX12_failsBy_18 : decode cX12_failsBy 18 = .ok (.istore_n 2, 1) := by decide +kernel
theorem dX12_failsBy_19 : decode cX12_failsBy 19 = .ok (.iload_n 2, 1) := by decide +kernel
theorem dX12_failsBy_20 : decode cX12_failsBy 20 = .ok (.ifCond .lt 24, 3) := by decide +kernel
theorem dX12_failsBy_23 : decode cX12_failsBy 23 = .ok (.aload_n 0, 1) := by decide +kernel
theorem dX12_failsBy_24 : decode cX12_failsBy 24 = .ok (.getfield 23, 3) := by decide +kernel
theorem dX12_failsBy_27 : decode cX12_failsBy 27 = .ok (.aload_n 0, 1) := by decide +kernel
theorem dX12_failsBy_28 : decode cX12_failsBy 28 = .ok (.getfield 140, 3) := by decide +kernel
theorem dX12_failsBy_31 : decode cX12_failsBy 31 = .ok (.iload_n 2, 1) := by decide +kernel
theorem dX12_failsBy_32 : decode cX12_failsBy 32 = .ok (.iaload, 1) := by decide +kernel
theorem dX12_failsBy_33 : decode cX12_failsBy 33 = .ok (.iaload, 1) := by decide +kernel
theorem dX12_failsBy_34 : decode cX12_failsBy 34 = .ok (.iconst (-1), 1) := by decide +kernel
theorem dX12_failsBy_35 : decode cX12_failsBy 35 = .ok (.if_icmp .ne 9, 3) := by decide +kernel
theorem dX12_failsBy_38 : decode cX12_failsBy 38 = .ok (.iinc 2 (-1), 3) := by decide +kernel
theorem dX12_failsBy_41 : decode cX12_failsBy 41 = .ok (.goto (-22), 3) := by decide +kernel
theorem dX12_failsBy_44 : decode cX12_failsBy 44 = .ok (.iload_n 2, 1) := by decide +kernel
theorem dX12_failsBy_45 : decode cX12_failsBy 45 = .ok (.ifCond .ge 9, 3) := by decide +kernel
theorem dX12_failsBy_48 : decode cX12_failsBy 48 = .ok (.aload_n 0, 1) := by decide +kernel
theorem dX12_failsBy_49 : decode cX12_failsBy 49 = .ok (.iload_n 1, 1) := by decide +kernel
theorem dX12_failsBy_50 : decode cX12_failsBy 50 = .ok (.invokevirtual 466, 3) := by decide +kernel
theorem dX12_failsBy_53 : decode cX12_failsBy 53 = .ok (.return_, 1) := by decide +kernel
theorem dX12_failsBy_54 : decode cX12_failsBy 54 = .ok (.aload_n 0, 1) := by decide +kernel
theorem dX12_failsBy_55 : decode cX12_failsBy 55 = .ok (.iload_n 2, 1) := by decide +kernel
theorem dX12_failsBy_56 : decode cX12_failsBy 56 = .ok (.putfield 262, 3) := by decide +kernel
theorem dX12_failsBy_59 : decode cX12_failsBy 59 = .ok (.aload_n 0, 1) := by decide +kernel
theorem dX12_failsBy_60 : decode cX12_failsBy 60 = .ok (.getfield 143, 3) := by decide +kernel
theorem dX12_failsBy_63 : decode cX12_failsBy 63 = .ok (.iload_n 2, 1) := by decide +kernel
theorem dX12_failsBy_64 : decode cX12_failsBy 64 = .ok (.aload_n 0, 1) := by decide +kernel
theorem dX12_failsBy_65 : decode cX12_failsBy 65 = .ok (.getfield 23, 3) := by decide +kernel
theorem dX12_failsBy_68 : decode cX12_failsBy 68 = .ok (.aload_n 0, 1) := by decide +kernel
theorem dX12_failsBy_69 : decode cX12_failsBy 69 = .ok (.getfield 140, 3) := by decide +kernel
theorem dX12_failsBy_72 : decode cX12_failsBy 72 = .ok (.iload_n 2, 1) := by decide +kernel
theorem dX12_failsBy_73 : decode cX12_failsBy 73 = .ok (.iaload, 1) := by decide +kernel
theorem dX12_failsBy_74 : decode cX12_failsBy 74 = .ok (.iaload, 1) := by decide +kernel
theorem dX12_failsBy_75 : decode cX12_failsBy 75 = .ok (.iastore, 1) := by decide +kernel
theorem dX12_failsBy_76 : decode cX12_failsBy 76 = .ok (.aload_n 0, 1) := by decide +kernel
theorem dX12_failsBy_77 : decode cX12_failsBy 77 = .ok (.getfield 146, 3) := by decide +kernel
theorem dX12_failsBy_80 : decode cX12_failsBy 80 = .ok (.iload_n 2, 1) := by decide +kernel
theorem dX12_failsBy_81 : decode cX12_failsBy 81 = .ok (.iconst 0, 1) := by decide +kernel
theorem dX12_failsBy_82 : decode cX12_failsBy 82 = .ok (.iastore, 1) := by decide +kernel
theorem dX12_failsBy_83 : decode cX12_failsBy 83 = .ok (.aload_n 0, 1) := by decide +kernel
theorem dX12_failsBy_84 : decode cX12_failsBy 84 = .ok (.bipush 105, 2) := by decide +kernel
theorem dX12_failsBy_86 : decode cX12_failsBy 86 = .ok (.iload_n 1, 1) := by decide +kernel
theorem dX12_failsBy_87 : decode cX12_failsBy 87 = .ok (.dconst 0, 1) := by decide +kernel
theorem dX12_failsBy_88 : decode cX12_failsBy 88 = .ok (.invokevirtual 304, 3) := by decide +kernel
theorem dX12_failsBy_91 : decode cX12_failsBy 91 = .ok (.aload_n 0, 1) := by decide +kernel
theorem dX12_failsBy_92 : decode cX12_failsBy 92 = .ok (.iconst 0, 1) := by decide +kernel
theorem dX12_failsBy_93 : decode cX12_failsBy 93 = .ok (.invokevirtual 433, 3) := by decide +kernel
theorem dX12_failsBy_96 : decode cX12_failsBy 96 = .ok (.return_, 1) := by decide +kernel
theorem dX12_looksUp_0 : decode cX12_looksUp 0 = .ok (.iload_n 1, 1) := by decide +kernel
theorem dX12_looksUp_1 : decode cX12_looksUp 1 = .ok (.bipush 112, 2) := by decide +kernel
theorem dX12_looksUp_3 : decode cX12_looksUp 3 = .ok (.if_icmp .ne 7, 3) := by decide +kernel
theorem dX12_looksUp_6 : decode cX12_looksUp 6 = .ok (.iconst 1, 1) := by decide +kernel
theorem dX12_looksUp_7 : decode cX12_looksUp 7 = .ok (.goto 4, 3) := by decide +kernel
theorem dX12_looksUp_10 : decode cX12_looksUp 10 = .ok (.iconst 0, 1) := by decide +kernel
theorem dX12_looksUp_11 : decode cX12_looksUp 11 = .ok (.istore_n 3, 1) := by decide +kernel
theorem dX12_looksUp_12 : decode cX12_looksUp 12 = .ok (.aload_n 0, 1) := by decide +kernel
theorem dX12_looksUp_13 : decode cX12_looksUp 13 = .ok (.getfield 149, 3) := by decide +kernel
theorem dX12_looksUp_16 : decode cX12_looksUp 16 = .ok (.aload_n 0, 1) := by decide +kernel
theorem dX12_looksUp_17 : decode cX12_looksUp 17 = .ok (.getfield 130, 3) := by decide +kernel
theorem dX12_looksUp_20 : decode cX12_looksUp 20 = .ok (.aload_n 0, 1) := by decide +kernel
theorem dX12_looksUp_21 : decode cX12_looksUp 21 = .ok (.iload_n 3, 1) := by decide +kernel
theorem dX12_looksUp_22 : decode cX12_looksUp 22 = .ok (.invokevirtual 297, 3) := by decide +kernel
theorem dX12_looksUp_25 : decode cX12_looksUp 25 = .ok (.iaload, 1) := by decide +kernel
theorem dX12_looksUp_26 : decode cX12_looksUp 26 = .ok (.iaload, 1) := by decide +kernel
theorem dX12_looksUp_27 : decode cX12_looksUp 27 = .ok (.istore 4, 2) := by decide +kernel
theorem dX12_looksUp_29 : decode cX12_looksUp 29 = .ok (.iload_n 1, 1) := by decide +kernel
theorem dX12_looksUp_30 : decode cX12_looksUp 30 = .ok (.bipush 109, 2) := by decide +kernel
theorem dX12_looksUp_32 : decode cX12_looksUp 32 = .ok (.if_icmp .ne 13, 3) := by decide +kernel
theorem dX12_looksUp_35 : decode cX12_looksUp 35 = .ok (.aload_n 0, 1) := by decide +kernel
theorem dX12_looksUp_36 : decode cX12_looksUp 36 = .ok (.getfield 38, 3) := by decide +kernel
theorem dX12_looksUp_39 : decode cX12_looksUp 39 = .ok (.iload 4, 2) := by decide +kernel
theorem dX12_looksUp_41 : decode cX12_looksUp 41 = .ok (.iaload, 1) := by decide +kernel
theorem dX12_looksUp_42 : decode cX12_looksUp 42 = .ok (.goto 5, 3) := by decide +kernel
theorem dX12_looksUp_45 : decode cX12_looksUp 45 = .ok (.iload 4, 2) := by decide +kernel
theorem dX12_looksUp_47 : decode cX12_looksUp 47 = .ok (.istore 5, 2) := by decide +kernel
theorem dX12_looksUp_49 : decode cX12_looksUp 49 = .ok (.aload_n 0, 1) := by decide +kernel
theorem dX12_looksUp_50 : decode cX12_looksUp 50 = .ok (.getfield 50, 3) := by decide +kernel
theorem dX12_looksUp_53 : decode cX12_looksUp 53 = .ok (.iload_n 2, 1) := by decide +kernel
theorem dX12_looksUp_54 : decode cX12_looksUp 54 = .ok (.iaload, 1) := by decide +kernel
theorem dX12_looksUp_55 : decode cX12_looksUp 55 = .ok (.iconst (-1), 1) := by decide +kernel
theorem dX12_looksUp_56 : decode cX12_looksUp 56 = .ok (.if_icmp .ne 4, 3) := by decide +kernel
theorem dX12_looksUp_59 : decode cX12_looksUp 59 = .ok (.return_, 1) := by decide +kernel
theorem dX12_looksUp_60 : decode cX12_looksUp 60 = .ok (.iconst 0, 1) := by decide +kernel
theorem dX12_looksUp_61 : decode cX12_looksUp 61 = .ok (.istore 6, 2) := by decide +kernel
theorem dX12_looksUp_63 : decode cX12_looksUp 63 = .ok (.iload 6, 2) := by decide +kernel
theorem dX12_looksUp_65 : decode cX12_looksUp 65 = .ok (.aload_n 0, 1) := by decide +kernel
theorem dX12_looksUp_66 : decode cX12_looksUp 66 = .ok (.getfield 50, 3) := by decide +kernel
theorem dX12_looksUp_69 : decode cX12_looksUp 69 = .ok (.iload_n 2, 1) := by decide +kernel
theorem dX12_looksUp_70 : decode cX12_looksUp 70 = .ok (.iaload, 1) := by decide +kernel
theorem dX12_looksUp_71 : decode cX12_looksUp 71 = .ok (.if_icmp .ge 36, 3) := by decide +kernel
theorem dX12_looksUp_74 : decode cX12_looksUp 74 = .ok (.aload_n 0, 1) := by decide +kernel
theorem dX12_looksUp_75 : decode cX12_looksUp 75 = .ok (.getfield 53, 3) := by decide +kernel
theorem dX12_looksUp_78 : decode cX12_looksUp 78 = .ok (.iconst 3, 1) := by decide +kernel
theorem dX12_looksUp_79 : decode cX12_looksUp 79 = .ok (.iload_n 2, 1) := by decide +kernel
theorem dX12_looksUp_80 : decode cX12_looksUp 80 = .ok (.imul, 1) := by decide +kernel
theorem dX12_looksUp_81 : decode cX12_looksUp 81 = .ok (.iload 6, 2) := by decide +kernel
theorem dX12_looksUp_83 : decode cX12_looksUp 83 = .ok (.iadd, 1) := by decide +kernel
theorem dX12_looksUp_84 : decode cX12_looksUp 84 = .ok (.iaload, 1) := by decide +kernel
theorem dX12_looksUp_85 : decode cX12_looksUp 85 = .ok (.iload 5, 2) := by decide +kernel
theorem dX12_looksUp_87 : decode cX12_looksUp 87 = .ok (.if_icmp .ne 14, 3) := by decide +kernel
theorem dX12_looksUp_90 : decode cX12_looksUp 90 = .ok (.aload_n 0, 1) := by decide +kernel
theorem dX12_looksUp_91 : decode cX12_looksUp 91 = .ok (.getfield 56, 3) := by decide +kernel
theorem dX12_looksUp_94 : decode cX12_looksUp 94 = .ok (.iload_n 2, 1) := by decide +kernel
theorem dX12_looksUp_95 : decode cX12_looksUp 95 = .ok (.dup2, 1) := by decide +kernel
theorem dX12_looksUp_96 : decode cX12_looksUp 96 = .ok (.iaload, 1) := by decide +kernel
theorem dX12_looksUp_97 : decode cX12_looksUp 97 = .ok (.iconst 1, 1) := by decide +kernel
theorem dX12_looksUp_98 : decode cX12_looksUp 98 = .ok (.iadd, 1) := by decide +kernel
theorem dX12_looksUp_99 : decode cX12_looksUp 99 = .ok (.iastore, 1) := by decide +kernel
theorem dX12_looksUp_100 : decode cX12_looksUp 100 = .ok (.return_, 1) := by decide +kernel
theorem dX12_looksUp_101 : decode cX12_looksUp 101 = .ok (.iinc 6 1, 3) := by decide +kernel
theorem dX12_looksUp_104 : decode cX12_looksUp 104 = .ok (.goto (-41), 3) := by decide +kernel
theorem dX12_looksUp_107 : decode cX12_looksUp 107 = .ok (.aload_n 0, 1) := by decide +kernel
theorem dX12_looksUp_108 : decode cX12_looksUp 108 = .ok (.getfield 59, 3) := by decide +kernel
theorem dX12_looksUp_111 : decode cX12_looksUp 111 = .ok (.iload_n 2, 1) := by decide +kernel
theorem dX12_looksUp_112 : decode cX12_looksUp 112 = .ok (.dup2, 1) := by decide +kernel
theorem dX12_looksUp_113 : decode cX12_looksUp 113 = .ok (.iaload, 1) := by decide +kernel
theorem dX12_looksUp_114 : decode cX12_looksUp 114 = .ok (.iconst 1, 1) := by decide +kernel
theorem dX12_looksUp_115 : decode cX12_looksUp 115 = .ok (.iadd, 1) := by decide +kernel
theorem dX12_looksUp_116 : decode cX12_looksUp 116 = .ok (.iastore, 1) := by decide +kernel
theorem dX12_looksUp_117 : decode cX12_looksUp 117 = .ok (.aload_n 0, 1) := by decide +kernel
theorem dX12_looksUp_118 : decode cX12_looksUp 118 = .ok (.getfield 50, 3) := by decide +kernel
theorem dX12_looksUp_121 : decode cX12_looksUp 121 = .ok (.iload_n 2, 1) := by decide +kernel
theorem dX12_looksUp_122 : decode cX12_looksUp 122 = .ok (.iaload, 1) := by decide +kernel
theorem dX12_looksUp_123 : decode cX12_looksUp 123 = .ok (.iconst 3, 1) := by decide +kernel
theorem dX12_looksUp_124 : decode cX12_looksUp 124 = .ok (.if_icmp .ne 13, 3) := by decide +kernel
theorem dX12_looksUp_127 : decode cX12_looksUp 127 = .ok (.aload_n 0, 1) := by decide +kernel
theorem dX12_looksUp_128 : decode cX12_looksUp 128 = .ok (.getfield 50, 3) := by decide +kernel
theorem dX12_looksUp_131 : decode cX12_looksUp 131 = .ok (.iload_n 2, 1) := by decide +kernel
theorem dX12_looksUp_132 : decode cX12_looksUp 132 = .ok (.iconst (-1), 1) := by decide +kernel
theorem dX12_looksUp_133 : decode cX12_looksUp 133 = .ok (.iastore, 1) := by decide +kernel
theorem dX12_looksUp_134 : decode cX12_looksUp 134 = .ok (.goto 30, 3) := by decide +kernel
theorem dX12_looksUp_137 : decode cX12_looksUp 137 = .ok (.aload_n 0, 1) := by decide +kernel
theorem dX12_looksUp_138 : decode cX12_looksUp 138 = .ok (.getfield 53, 3) := by decide +kernel
theorem dX12_looksUp_141 : decode cX12_looksUp 141 = .ok (.iconst 3, 1) := by decide +kernel
theorem dX12_looksUp_142 : decode cX12_looksUp 142 = .ok (.iload_n 2, 1) := by decide +kernel
theorem dX12_looksUp_143 : decode cX12_looksUp 143 = .ok (.imul, 1) := by decide +kernel
theorem dX12_looksUp_144 : decode cX12_looksUp 144 = .ok (.aload_n 0, 1) := by decide +kernel
theorem dX12_looksUp_145 : decode cX12_looksUp 145 = .ok (.getfield 50, 3) := by decide +kernel
theorem dX12_looksUp_148 : decode cX12_looksUp 148 = .ok (.iload_n 2, 1) := by decide +kernel
theorem dX12_looksUp_149 : decode cX12_looksUp 149 = .ok (.iaload, 1) := by decide +kernel
theorem dX12_looksUp_150 : decode cX12_looksUp 150 = .ok (.iadd, 1) := by decide +kernel
theorem dX12_looksUp_151 : decode cX12_looksUp 151 = .ok (.iload 5, 2) := by decide +kernel
theorem dX12_looksUp_153 : decode cX12_looksUp 153 = .ok (.iastore, 1) := by decide +kernel
theorem dX12_looksUp_154 : decode cX12_looksUp 154 = .ok (.aload_n 0, 1) := by decide +kernel
theorem dX12_looksUp_155 : decode cX12_looksUp 155 = .ok (.getfield 50, 3) := by decide +kernel
theorem dX12_looksUp_158 : decode cX12_looksUp 158 = .ok (.iload_n 2, 1) := by decide +kernel
theorem dX12_looksUp_159 : decode cX12_looksUp 159 = .ok (.dup2, 1) := by decide +kernel
theorem dX12_looksUp_160 : decode cX12_looksUp 160 = .ok (.iaload, 1) := by decide +kernel
theorem dX12_looksUp_161 : decode cX12_looksUp 161 = .ok (.iconst 1, 1) := by decide +kernel
theorem dX12_looksUp_162 : decode cX12_looksUp 162 = .ok (.iadd, 1) := by decide +kernel
theorem dX12_looksUp_163 : decode cX12_looksUp 163 = .ok (.iastore, 1) := by decide +kernel
theorem dX12_looksUp_164 : decode cX12_looksUp 164 = .ok (.return_, 1) := by decide +kernel
theorem dX12_jumpsBack_0 : decode cX12_jumpsBack 0 = .ok (.aload_n 0, 1) := by decide +kernel
theorem dX12_jumpsBack_1 : decode cX12_jumpsBack 1 = .ok (.getfield 353, 3) := by decide +kernel
theorem dX12_jumpsBack_4 : decode cX12_jumpsBack 4 = .ok (.ifCond .eq 27, 3) := by decide +kernel
theorem dX12_jumpsBack_7 : decode cX12_jumpsBack 7 = .ok (.iload_n 1, 1) := by decide +kernel
theorem dX12_jumpsBack_8 : decode cX12_jumpsBack 8 = .ok (.aload_n 0, 1) := by decide +kernel
theorem dX12_jumpsBack_9 : decode cX12_jumpsBack 9 = .ok (.getfield 363, 3) := by decide +kernel
theorem dX12_jumpsBack_12 : decode cX12_jumpsBack 12 = .ok (.if_icmp .ne 19, 3) := by decide +kernel
theorem dX12_jumpsBack_15 : decode cX12_jumpsBack 15 = .ok (.aload_n 0, 1) := by decide +kernel
theorem dX12_jumpsBack_16 : decode cX12_jumpsBack 16 = .ok (.getfield 262, 3) := by decide +kernel
theorem dX12_jumpsBack_19 : decode cX12_jumpsBack 19 = .ok (.aload_n 0, 1) := by decide +kernel
theorem dX12_jumpsBack_20 : decode cX12_jumpsBack 20 = .ok (.getfield 366, 3) := by decide +kernel
theorem dX12_jumpsBack_23 : decode cX12_jumpsBack 23 = .ok (.if_icmp .ne 8, 3) := by decide +kernel
theorem dX12_jumpsBack_26 : decode cX12_jumpsBack 26 = .ok (.aload_n 0, 1) := by decide +kernel
theorem dX12_jumpsBack_27 : decode cX12_jumpsBack 27 = .ok (.invokevirtual 469, 3) := by decide +kernel
theorem dX12_jumpsBack_30 : decode cX12_jumpsBack 30 = .ok (.return_, 1) := by decide +kernel
theorem dX12_jumpsBack_31 : decode cX12_jumpsBack 31 = .ok (.aload_n 0, 1) := by decide +kernel
theorem dX12_jumpsBack_32 : decode cX12_jumpsBack 32 = .ok (.invokevirtual 369, 3) := by decide +kernel
theorem dX12_jumpsBack_35 : decode cX12_jumpsBack 35 = .ok (.aload_n 0, 1) := by decide +kernel
theorem dX12_jumpsBack_36 : decode cX12_jumpsBack 36 = .ok (.iload_n 1, 1) := by decide +kernel
theorem dX12_jumpsBack_37 : decode cX12_jumpsBack 37 = .ok (.invokevirtual 472, 3) := by decide +kernel
theorem dX12_jumpsBack_40 : decode cX12_jumpsBack 40 = .ok (.istore_n 2, 1) := by decide +kernel
theorem dX12_jumpsBack_41 : decode cX12_jumpsBack 41 = .ok (.iload_n 2, 1) := by decide +kernel
theorem dX12_jumpsBack_42 : decode cX12_jumpsBack 42 = .ok (.iconst (-1), 1) := by decide +kernel
theorem dX12_jumpsBack_43 : decode cX12_jumpsBack 43 = .ok (.if_icmp .eq 9, 3) := by decide +kernel
theorem dX12_jumpsBack_46 : decode cX12_jumpsBack 46 = .ok (.aload_n 0, 1) := by decide +kernel
theorem dX12_jumpsBack_47 : decode cX12_jumpsBack 47 = .ok (.iload_n 2, 1) := by decide +kernel
theorem dX12_jumpsBack_48 : decode cX12_jumpsBack 48 = .ok (.invokevirtual 372, 3) := by decide +kernel
theorem dX12_jumpsBack_51 : decode cX12_jumpsBack 51 = .ok (.return_, 1) := by decide +kernel
theorem dX12_jumpsBack_52 : decode cX12_jumpsBack 52 = .ok (.aload_n 0, 1) := by decide +kernel
theorem dX12_jumpsBack_53 : decode cX12_jumpsBack 53 = .ok (.getfield 62, 3) := by decide +kernel
theorem dX12_jumpsBack_56 : decode cX12_jumpsBack 56 = .ok (.iload_n 1, 1) := by decide +kernel
theorem dX12_jumpsBack_57 : decode cX12_jumpsBack 57 = .ok (.dup2, 1) := by decide +kernel
theorem dX12_jumpsBack_58 : decode cX12_jumpsBack 58 = .ok (.iaload, 1) := by decide +kernel
theorem dX12_jumpsBack_59 : decode cX12_jumpsBack 59 = .ok (.iconst 1, 1) := by decide +kernel
theorem dX12_jumpsBack_60 : decode cX12_jumpsBack 60 = .ok (.iadd, 1) := by decide +kernel
theorem dX12_jumpsBack_61 : decode cX12_jumpsBack 61 = .ok (.iastore, 1) := by decide +kernel
theorem dX12_jumpsBack_62 : decode cX12_jumpsBack 62 = .ok (.aload_n 0, 1) := by decide +kernel
theorem dX12_jumpsBack_63 : decode cX12_jumpsBack 63 = .ok (.getfield 62, 3) := by decide +kernel
theorem dX12_jumpsBack_66 : decode cX12_jumpsBack 66 = .ok (.iload_n 1, 1) := by decide +kernel
theorem dX12_jumpsBack_67 : decode cX12_jumpsBack 67 = .ok (.iaload, 1) := by decide +kernel
theorem dX12_jumpsBack_68 : decode cX12_jumpsBack 68 = .ok (.aload_n 0, 1) := by decide +kernel
theorem dX12_jumpsBack_69 : decode cX12_jumpsBack 69 = .ok (.getfield 68, 3) := by decide +kernel
theorem dX12_jumpsBack_72 : decode cX12_jumpsBack 72 = .ok (.if_icmp .lt 24, 3) := by decide +kernel
theorem dX12_jumpsBack_75 : decode cX12_jumpsBack 75 = .ok (.aload_n 0, 1) := by decide +kernel
theorem dX12_jumpsBack_76 : decode cX12_jumpsBack 76 = .ok (.getfield 65, 3) := by decide +kernel
theorem dX12_jumpsBack_79 : decode cX12_jumpsBack 79 = .ok (.iload_n 1, 1) := by decide +kernel
theorem dX12_jumpsBack_80 : decode cX12_jumpsBack 80 = .ok (.iaload, 1) := by decide +kernel
theorem dX12_jumpsBack_81 : decode cX12_jumpsBack 81 = .ok (.iconst 2, 1) := by decide +kernel
theorem dX12_jumpsBack_82 : decode cX12_jumpsBack 82 = .ok (.if_icmp .ge 14, 3) := by decide +kernel
theorem dX12_jumpsBack_85 : decode cX12_jumpsBack 85 = .ok (.aload_n 0, 1) := by decide +kernel
theorem dX12_jumpsBack_86 : decode cX12_jumpsBack 86 = .ok (.iconst (-1), 1) := by decide +kernel
theorem dX12_jumpsBack_87 : decode cX12_jumpsBack 87 = .ok (.iconst (-1), 1) := by decide +kernel
theorem dX12_jumpsBack_88 : decode cX12_jumpsBack 88 = .ok (.iload_n 1, 1) := by decide +kernel
theorem dX12_jumpsBack_89 : decode cX12_jumpsBack 89 = .ok (.aload_n 0, 1) := by decide +kernel
theorem dX12_jumpsBack_90 : decode cX12_jumpsBack 90 = .ok (.getfield 262, 3) := by decide +kernel
theorem dX12_jumpsBack_93 : decode cX12_jumpsBack 93 = .ok (.invokevirtual 475, 3) := by decide +kernel
theorem dX12_jumpsBack_96 : decode cX12_jumpsBack 96 = .ok (.return_, 1) := by decide +kernel
theorem dX12_plainly_0 : decode cX12_plainly 0 = .ok (.aload_n 0, 1) := by decide +kernel
theorem dX12_plainly_1 : decode cX12_plainly 1 = .ok (.getfield 353, 3) := by decide +kernel
theorem dX12_plainly_4 : decode cX12_plainly 4 = .ok (.ifCond .eq 16, 3) := by decide +kernel
theorem dX12_plainly_7 : decode cX12_plainly 7 = .ok (.aload_n 0, 1) := by decide +kernel
theorem dX12_plainly_8 : decode cX12_plainly 8 = .ok (.getfield 328, 3) := by decide +kernel
theorem dX12_plainly_11 : decode cX12_plainly 11 = .ok (.bipush 30, 2) := by decide +kernel
theorem dX12_plainly_13 : decode cX12_plainly 13 = .ok (.if_icmp .ne 7, 3) := by decide +kernel
theorem dX12_plainly_16 : decode cX12_plainly 16 = .ok (.aload_n 0, 1) := by decide +kernel
theorem dX12_plainly_17 : decode cX12_plainly 17 = .ok (.invokevirtual 369, 3) := by decide +kernel
theorem dX12_plainly_20 : decode cX12_plainly 20 = .ok (.aload_n 0, 1) := by decide +kernel
theorem dX12_plainly_21 : decode cX12_plainly 21 = .ok (.invokevirtual 479, 3) := by decide +kernel
theorem dX12_plainly_24 : decode cX12_plainly 24 = .ok (.istore_n 1, 1) := by decide +kernel
theorem dX12_plainly_25 : decode cX12_plainly 25 = .ok (.iload_n 1, 1) := by decide +kernel
theorem dX12_plainly_26 : decode cX12_plainly 26 = .ok (.ifCond .eq 9, 3) := by decide +kernel
theorem dX12_plainly_29 : decode cX12_plainly 29 = .ok (.aload_n 0, 1) := by decide +kernel
theorem dX12_plainly_30 : decode cX12_plainly 30 = .ok (.iload_n 1, 1) := by decide +kernel
theorem dX12_plainly_31 : decode cX12_plainly 31 = .ok (.invokevirtual 483, 3) := by decide +kernel
theorem dX12_plainly_34 : decode cX12_plainly 34 = .ok (.return_, 1) := by decide +kernel
theorem dX12_plainly_35 : decode cX12_plainly 35 = .ok (.aload_n 0, 1) := by decide +kernel
theorem dX12_plainly_36 : decode cX12_plainly 36 = .ok (.getfield 140, 3) := by decide +kernel
theorem dX12_plainly_39 : decode cX12_plainly 39 = .ok (.aload_n 0, 1) := by decide +kernel
theorem dX12_plainly_40 : decode cX12_plainly 40 = .ok (.getfield 262, 3) := by decide +kernel
theorem dX12_plainly_43 : decode cX12_plainly 43 = .ok (.iaload, 1) := by decide +kernel
theorem dX12_plainly_44 : decode cX12_plainly 44 = .ok (.istore_n 2, 1) := by decide +kernel
theorem dX12_plainly_45 : decode cX12_plainly 45 = .ok (.bipush 40, 2) := by decide +kernel
theorem dX12_plainly_47 : decode cX12_plainly 47 = .ok (.iload_n 2, 1) := by decide +kernel
theorem dX12_plainly_48 : decode cX12_plainly 48 = .ok (.imul, 1) := by decide +kernel
theorem dX12_plainly_49 : decode cX12_plainly 49 = .ok (.aload_n 0, 1) := by decide +kernel
theorem dX12_plainly_50 : decode cX12_plainly 50 = .ok (.getfield 143, 3) := by decide +kernel
theorem dX12_plainly_53 : decode cX12_plainly 53 = .ok (.aload_n 0, 1) := by decide +kernel
theorem dX12_plainly_54 : decode cX12_plainly 54 = .ok (.getfield 262, 3) := by decide +kernel
theorem dX12_plainly_57 : decode cX12_plainly 57 = .ok (.iaload, 1) := by decide +kernel
theorem dX12_plainly_58 : decode cX12_plainly 58 = .ok (.iadd, 1) := by decide +kernel
theorem dX12_plainly_59 : decode cX12_plainly 59 = .ok (.istore_n 3, 1) := by decide +kernel
theorem dX12_plainly_60 : decode cX12_plainly 60 = .ok (.aload_n 0, 1) := by decide +kernel
theorem dX12_plainly_61 : decode cX12_plainly 61 = .ok (.getfield 16, 3) := by decide +kernel
theorem dX12_plainly_64 : decode cX12_plainly 64 = .ok (.iload_n 3, 1) := by decide +kernel
theorem dX12_plainly_65 : decode cX12_plainly 65 = .ok (.caload, 1) := by decide +kernel
theorem dX12_plainly_66 : decode cX12_plainly 66 = .ok (.istore 4, 2) := by decide +kernel
theorem dX12_plainly_68 : decode cX12_plainly 68 = .ok (.iload 4, 2) := by decide +kernel
theorem dX12_plainly_70 : decode cX12_plainly 70 = .ok (.bipush 106, 2) := by decide +kernel
theorem dX12_plainly_72 : decode cX12_plainly 72 = .ok (.if_icmp .eq 22, 3) := by decide +kernel
theorem dX12_plainly_75 : decode cX12_plainly 75 = .ok (.iload 4, 2) := by decide +kernel
theorem dX12_plainly_77 : decode cX12_plainly 77 = .ok (.bipush 122, 2) := by decide +kernel
theorem dX12_plainly_79 : decode cX12_plainly 79 = .ok (.if_icmp .ne 37, 3) := by decide +kernel
theorem dX12_plainly_82 : decode cX12_plainly 82 = .ok (.aload_n 0, 1) := by decide +kernel
theorem dX12_plainly_83 : decode cX12_plainly 83 = .ok (.aload_n 0, 1) := by decide +kernel
theorem dX12_plainly_84 : decode cX12_plainly 84 = .ok (.iconst 0, 1) := by decide +kernel
theorem dX12_plainly_85 : decode cX12_plainly 85 = .ok (.invokevirtual 297, 3) := by decide +kernel
theorem dX12_plainly_88 : decode cX12_plainly 88 = .ok (.invokevirtual 347, 3) := by decide +kernel
theorem dX12_plainly_91 : decode cX12_plainly 91 = .ok (.ifCond .eq 25, 3) := by decide +kernel
theorem dX12_plainly_94 : decode cX12_plainly 94 = .ok (.aload_n 0, 1) := by decide +kernel
theorem dX12_plainly_95 : decode cX12_plainly 95 = .ok (.getfield 20, 3) := by decide +kernel
theorem dX12_plainly_98 : decode cX12_plainly 98 = .ok (.iload_n 3, 1) := by decide +kernel
theorem dX12_plainly_99 : decode cX12_plainly 99 = .ok (.iaload, 1) := by decide +kernel
theorem dX12_plainly_100 : decode cX12_plainly 100 = .ok (.aload_n 0, 1) := by decide +kernel
theorem dX12_plainly_101 : decode cX12_plainly 101 = .ok (.getfield 143, 3) := by decide +kernel
theorem dX12_plainly_104 : decode cX12_plainly 104 = .ok (.aload_n 0, 1) := by decide +kernel
theorem dX12_plainly_105 : decode cX12_plainly 105 = .ok (.getfield 262, 3) := by decide +kernel
theorem dX12_plainly_108 : decode cX12_plainly 108 = .ok (.iaload, 1) := by decide +kernel
theorem dX12_plainly_109 : decode cX12_plainly 109 = .ok (.if_icmp .gt 7, 3) := by decide +kernel
theorem dX12_plainly_112 : decode cX12_plainly 112 = .ok (.iconst 1, 1) := by decide +kernel
theorem dX12_plainly_113 : decode cX12_plainly 113 = .ok (.goto 4, 3) := by decide +kernel
theorem dX12_plainly_116 : decode cX12_plainly 116 = .ok (.iconst 0, 1) := by decide +kernel
theorem dX12_plainly_117 : decode cX12_plainly 117 = .ok (.istore 5, 2) := by decide +kernel
theorem dX12_plainly_119 : decode cX12_plainly 119 = .ok (.iload 4, 2) := by decide +kernel
theorem dX12_plainly_121 : decode cX12_plainly 121 = .ok (.bipush 114, 2) := by decide +kernel
theorem dX12_plainly_123 : decode cX12_plainly 123 = .ok (.if_icmp .ne 18, 3) := by decide +kernel
theorem dX12_plainly_126 : decode cX12_plainly 126 = .ok (.aload_n 0, 1) := by decide +kernel
theorem dX12_plainly_127 : decode cX12_plainly 127 = .ok (.getfield 262, 3) := by decide +kernel
theorem dX12_plainly_130 : decode cX12_plainly 130 = .ok (.aload_n 0, 1) := by decide +kernel
theorem dX12_plainly_131 : decode cX12_plainly 131 = .ok (.getfield 366, 3) := by decide +kernel
theorem dX12_plainly_134 : decode cX12_plainly 134 = .ok (.if_icmp .ne 7, 3) := by decide +kernel
theorem dX12_plainly_137 : decode cX12_plainly 137 = .ok (.aload_n 0, 1) := by decide +kernel
theorem dX12_plainly_138 : decode cX12_plainly 138 = .ok (.invokevirtual 369, 3) := by decide +kernel
theorem dX12_plainly_141 : decode cX12_plainly 141 = .ok (.aload_n 0, 1) := by decide +kernel
theorem dX12_plainly_142 : decode cX12_plainly 142 = .ok (.getfield 353, 3) := by decide +kernel
theorem dX12_plainly_145 : decode cX12_plainly 145 = .ok (.ifCond .eq 42, 3) := by decide +kernel
theorem dX12_plainly_148 : decode cX12_plainly 148 = .ok (.aload_n 0, 1) := by decide +kernel
theorem dX12_plainly_149 : decode cX12_plainly 149 = .ok (.iload 4, 2) := by decide +kernel
theorem dX12_plainly_151 : decode cX12_plainly 151 = .ok (.invokevirtual 486, 3) := by decide +kernel
theorem dX12_plainly_154 : decode cX12_plainly 154 = .ok (.aload_n 0, 1) := by decide +kernel
theorem dX12_plainly_155 : decode cX12_plainly 155 = .ok (.getfield 175, 3) := by decide +kernel
theorem dX12_plainly_158 : decode cX12_plainly 158 = .ok (.aload_n 0, 1) := by decide +kernel
theorem dX12_plainly_159 : decode cX12_plainly 159 = .ok (.getfield 328, 3) := by decide +kernel
theorem dX12_plainly_162 : decode cX12_plainly 162 = .ok (.bipush 100, 2) := by decide +kernel
theorem dX12_plainly_164 : decode cX12_plainly 164 = .ok (.iload_n 2, 1) := by decide +kernel
theorem dX12_plainly_165 : decode cX12_plainly 165 = .ok (.imul, 1) := by decide +kernel
theorem dX12_plainly_166 : decode cX12_plainly 166 = .ok (.aload_n 0, 1) := by decide +kernel
theorem dX12_plainly_167 : decode cX12_plainly 167 = .ok (.getfield 143, 3) := by decide +kernel
theorem dX12_plainly_170 : decode cX12_plainly 170 = .ok (.aload_n 0, 1) := by decide +kernel
theorem dX12_plainly_171 : decode cX12_plainly 171 = .ok (.getfield 262, 3) := by decide +kernel
theorem dX12_plainly_174 : decode cX12_plainly 174 = .ok (.iaload, 1) := by decide +kernel
theorem dX12_plainly_175 : decode cX12_plainly 175 = .ok (.iadd, 1) := by decide +kernel
theorem dX12_plainly_176 : decode cX12_plainly 176 = .ok (.iastore, 1) := by decide +kernel
theorem dX12_plainly_177 : decode cX12_plainly 177 = .ok (.aload_n 0, 1) := by decide +kernel
theorem dX12_plainly_178 : decode cX12_plainly 178 = .ok (.dup, 1) := by decide +kernel
theorem dX12_plainly_179 : decode cX12_plainly 179 = .ok (.getfield 328, 3) := by decide +kernel
theorem dX12_plainly_182 : decode cX12_plainly 182 = .ok (.iconst 1, 1) := by decide +kernel
theorem dX12_plainly_183 : decode cX12_plainly 183 = .ok (.iadd, 1) := by decide +kernel
theorem dX12_plainly_184 : decode cX12_plainly 184 = .ok (.putfield 328, 3) := by decide +kernel
theorem dX12_plainly_187 : decode cX12_plainly 187 = .ok (.iload 4, 2) := by decide +kernel
theorem dX12_plainly_189 : decode cX12_plainly 189 = .ok (.bipush 103, 2) := by decide +kernel
theorem dX12_plainly_191 : decode cX12_plainly 191 = .ok (.if_icmp .eq 17, 3) := by decide +kernel
theorem dX12_plainly_194 : decode cX12_plainly 194 = .ok (.iload 4, 2) := by decide +kernel
theorem dX12_plainly_196 : decode cX12_plainly 196 = .ok (.bipush 112, 2) := by decide +kernel
theorem dX12_plainly_198 : decode cX12_plainly 198 = .ok (.if_icmp .eq 10, 3) := by decide +kernel
theorem dX12_plainly_201 : decode cX12_plainly 201 = .ok (.iload 4, 2) := by decide +kernel
theorem dX12_plainly_203 : decode cX12_plainly 203 = .ok (.bipush 109, 2) := by decide +kernel
theorem dX12_plainly_205 : decode cX12_plainly 205 = .ok (.if_icmp .ne 10, 3) := by decide +kernel
theorem dX12_plainly_208 : decode cX12_plainly 208 = .ok (.aload_n 0, 1) := by decide +kernel
theorem dX12_plainly_209 : decode cX12_plainly 209 = .ok (.iload 4, 2) := by decide +kernel
theorem dX12_plainly_211 : decode cX12_plainly 211 = .ok (.iload_n 3, 1) := by decide +kernel
theorem dX12_plainly_212 : decode cX12_plainly 212 = .ok (.invokevirtual 489, 3) := by decide +kernel
theorem dX12_plainly_215 : decode cX12_plainly 215 = .ok (.aload_n 0, 1) := by decide +kernel
theorem dX12_plainly_216 : decode cX12_plainly 216 = .ok (.invokevirtual 493, 3) := by decide +kernel
theorem dX12_plainly_219 : decode cX12_plainly 219 = .ok (.iload 5, 2) := by decide +kernel
theorem dX12_plainly_221 : decode cX12_plainly 221 = .ok (.ifCond .eq 18, 3) := by decide +kernel
theorem dX12_plainly_224 : decode cX12_plainly 224 = .ok (.aload_n 0, 1) := by decide +kernel
theorem dX12_plainly_225 : decode cX12_plainly 225 = .ok (.bipush 40, 2) := by decide +kernel
theorem dX12_plainly_227 : decode cX12_plainly 227 = .ok (.iload_n 2, 1) := by decide +kernel
theorem dX12_plainly_228 : decode cX12_plainly 228 = .ok (.imul, 1) := by decide +kernel
theorem dX12_plainly_229 : decode cX12_plainly 229 = .ok (.aload_n 0, 1) := by decide +kernel
theorem dX12_plainly_230 : decode cX12_plainly 230 = .ok (.getfield 20, 3) := by decide +kernel
theorem dX12_plainly_233 : decode cX12_plainly 233 = .ok (.iload_n 3, 1) := by decide +kernel
theorem dX12_plainly_234 : decode cX12_plainly 234 = .ok (.iaload, 1) := by decide +kernel
theorem dX12_plainly_235 : decode cX12_plainly 235 = .ok (.iadd, 1) := by decide +kernel
theorem dX12_plainly_236 : decode cX12_plainly 236 = .ok (.invokevirtual 496, 3) := by decide +kernel
theorem dX12_plainly_239 : decode cX12_plainly 239 = .ok (.return_, 1) := by decide +kernel
theorem dX12_leavesBy_0 : decode cX12_leavesBy 0 = .ok (.aload_n 0, 1) := by decide +kernel
theorem dX12_leavesBy_1 : decode cX12_leavesBy 1 = .ok (.getfield 115, 3) := by decide +kernel
theorem dX12_leavesBy_4 : decode cX12_leavesBy 4 = .ok (.iload_n 1, 1) := by decide +kernel
theorem dX12_leavesBy_5 : decode cX12_leavesBy 5 = .ok (.dup2, 1) := by decide +kernel
theorem dX12_leavesBy_6 : decode cX12_leavesBy 6 = .ok (.iaload, 1) := by decide +kernel
theorem dX12_leavesBy_7 : decode cX12_leavesBy 7 = .ok (.iconst 1, 1) := by decide +kernel
theorem dX12_leavesBy_8 : decode cX12_leavesBy 8 = .ok (.iadd, 1) := by decide +kernel
theorem dX12_leavesBy_9 : decode cX12_leavesBy 9 = .ok (.iastore, 1) := by decide +kernel
theorem dX12_leavesBy_10 : decode cX12_leavesBy 10 = .ok (.aload_n 0, 1) := by decide +kernel
theorem dX12_leavesBy_11 : decode cX12_leavesBy 11 = .ok (.getfield 124, 3) := by decide +kernel
theorem dX12_leavesBy_14 : decode cX12_leavesBy 14 = .ok (.iload_n 1, 1) := by decide +kernel
theorem dX12_leavesBy_15 : decode cX12_leavesBy 15 = .ok (.iaload, 1) := by decide +kernel
theorem dX12_leavesBy_16 : decode cX12_leavesBy 16 = .ok (.istore_n 2, 1) := by decide +kernel
theorem dX12_leavesBy_17 : decode cX12_leavesBy 17 = .ok (.iload_n 2, 1) := by decide +kernel
theorem dX12_leavesBy_18 : decode cX12_leavesBy 18 = .ok (.iconst (-1), 1) := by decide +kernel
theorem dX12_leavesBy_19 : decode cX12_leavesBy 19 = .ok (.if_icmp .eq 24, 3) := by decide +kernel
theorem dX12_leavesBy_22 : decode cX12_leavesBy 22 = .ok (.aload_n 0, 1) := by decide +kernel
theorem dX12_leavesBy_23 : decode cX12_leavesBy 23 = .ok (.iload_n 2, 1) := by decide +kernel
theorem dX12_leavesBy_24 : decode cX12_leavesBy 24 = .ok (.putfield 172, 3) := by decide +kernel
theorem dX12_leavesBy_27 : decode cX12_leavesBy 27 = .ok (.aload_n 0, 1) := by decide +kernel
theorem dX12_leavesBy_28 : decode cX12_leavesBy 28 = .ok (.iconst 0, 1) := by decide +kernel
theorem dX12_leavesBy_29 : decode cX12_leavesBy 29 = .ok (.putfield 259, 3) := by decide +kernel
theorem dX12_leavesBy_32 : decode cX12_leavesBy 32 = .ok (.aload_n 0, 1) := by decide +kernel
theorem dX12_leavesBy_33 : decode cX12_leavesBy 33 = .ok (.getfield 97, 3) := by decide +kernel
theorem dX12_leavesBy_36 : decode cX12_leavesBy 36 = .ok (.iload_n 2, 1) := by decide +kernel
theorem dX12_leavesBy_37 : decode cX12_leavesBy 37 = .ok (.dup2, 1) := by decide +kernel
theorem dX12_leavesBy_38 : decode cX12_leavesBy 38 = .ok (.iaload, 1) := by decide +kernel
theorem dX12_leavesBy_39 : decode cX12_leavesBy 39 = .ok (.iconst 1, 1) := by decide +kernel
theorem dX12_leavesBy_40 : decode cX12_leavesBy 40 = .ok (.iadd, 1) := by decide +kernel
theorem dX12_leavesBy_41 : decode cX12_leavesBy 41 = .ok (.iastore, 1) := by decide +kernel
theorem dX12_leavesBy_42 : decode cX12_leavesBy 42 = .ok (.return_, 1) := by decide +kernel
theorem dX12_leavesBy_43 : decode cX12_leavesBy 43 = .ok (.aload_n 0, 1) := by decide +kernel
theorem dX12_leavesBy_44 : decode cX12_leavesBy 44 = .ok (.getfield 91, 3) := by decide +kernel
theorem dX12_leavesBy_47 : decode cX12_leavesBy 47 = .ok (.aload_n 0, 1) := by decide +kernel
theorem dX12_leavesBy_48 : decode cX12_leavesBy 48 = .ok (.getfield 172, 3) := by decide +kernel
theorem dX12_leavesBy_51 : decode cX12_leavesBy 51 = .ok (.iaload, 1) := by decide +kernel
theorem dX12_leavesBy_52 : decode cX12_leavesBy 52 = .ok (.istore_n 3, 1) := by decide +kernel
theorem dX12_leavesBy_53 : decode cX12_leavesBy 53 = .ok (.aload_n 0, 1) := by decide +kernel
theorem dX12_leavesBy_54 : decode cX12_leavesBy 54 = .ok (.iconst (-1), 1) := by decide +kernel
theorem dX12_leavesBy_55 : decode cX12_leavesBy 55 = .ok (.putfield 172, 3) := by decide +kernel
theorem dX12_leavesBy_58 : decode cX12_leavesBy 58 = .ok (.aload_n 0, 1) := by decide +kernel
theorem dX12_leavesBy_59 : decode cX12_leavesBy 59 = .ok (.getfield 118, 3) := by decide +kernel
theorem dX12_leavesBy_62 : decode cX12_leavesBy 62 = .ok (.iload_n 1, 1) := by decide +kernel
theorem dX12_leavesBy_63 : decode cX12_leavesBy 63 = .ok (.dup2, 1) := by decide +kernel
theorem dX12_leavesBy_64 : decode cX12_leavesBy 64 = .ok (.iaload, 1) := by decide +kernel
theorem dX12_leavesBy_65 : decode cX12_leavesBy 65 = .ok (.iconst 1, 1) := by decide +kernel
theorem dX12_leavesBy_66 : decode cX12_leavesBy 66 = .ok (.iadd, 1) := by decide +kernel
theorem dX12_leavesBy_67 : decode cX12_leavesBy 67 = .ok (.iastore, 1) := by decide +kernel
theorem dX12_leavesBy_68 : decode cX12_leavesBy 68 = .ok (.aload_n 0, 1) := by decide +kernel
theorem dX12_leavesBy_69 : decode cX12_leavesBy 69 = .ok (.getfield 118, 3) := by decide +kernel
theorem dX12_leavesBy_72 : decode cX12_leavesBy 72 = .ok (.iload_n 1, 1) := by decide +kernel
theorem dX12_leavesBy_73 : decode cX12_leavesBy 73 = .ok (.iaload, 1) := by decide +kernel
theorem dX12_leavesBy_74 : decode cX12_leavesBy 74 = .ok (.aload_n 0, 1) := by decide +kernel
theorem dX12_leavesBy_75 : decode cX12_leavesBy 75 = .ok (.getfield 72, 3) := by decide +kernel
theorem dX12_leavesBy_78 : decode cX12_leavesBy 78 = .ok (.if_icmp .lt 29, 3) := by decide +kernel
theorem dX12_leavesBy_81 : decode cX12_leavesBy 81 = .ok (.aload_n 0, 1) := by decide +kernel
theorem dX12_leavesBy_82 : decode cX12_leavesBy 82 = .ok (.getfield 121, 3) := by decide +kernel
theorem dX12_leavesBy_85 : decode cX12_leavesBy 85 = .ok (.iload_n 1, 1) := by decide +kernel
theorem dX12_leavesBy_86 : decode cX12_leavesBy 86 = .ok (.iaload, 1) := by decide +kernel
theorem dX12_leavesBy_87 : decode cX12_leavesBy 87 = .ok (.iconst 2, 1) := by decide +kernel
theorem dX12_leavesBy_88 : decode cX12_leavesBy 88 = .ok (.if_icmp .ge 19, 3) := by decide +kernel
theorem dX12_leavesBy_91 : decode cX12_leavesBy 91 = .ok (.aload_n 0, 1) := by decide +kernel
theorem dX12_leavesBy_92 : decode cX12_leavesBy 92 = .ok (.iload_n 3, 1) := by decide +kernel
theorem dX12_leavesBy_93 : decode cX12_leavesBy 93 = .ok (.iload_n 1, 1) := by decide +kernel
theorem dX12_leavesBy_94 : decode cX12_leavesBy 94 = .ok (.aload_n 0, 1) := by decide +kernel
theorem dX12_leavesBy_95 : decode cX12_leavesBy 95 = .ok (.getfield 94, 3) := by decide +kernel
theorem dX12_leavesBy_98 : decode cX12_leavesBy 98 = .ok (.iload_n 3, 1) := by decide +kernel
theorem dX12_leavesBy_99 : decode cX12_leavesBy 99 = .ok (.iaload, 1) := by decide +kernel
theorem dX12_leavesBy_100 : decode cX12_leavesBy 100 = .ok (.aload_n 0, 1) := by decide +kernel
theorem dX12_leavesBy_101 : decode cX12_leavesBy 101 = .ok (.getfield 265, 3) := by decide +kernel
theorem dX12_leavesBy_104 : decode cX12_leavesBy 104 = .ok (.invokevirtual 475, 3) := by decide +kernel
theorem dX12_leavesBy_107 : decode cX12_leavesBy 107 = .ok (.return_, 1) := by decide +kernel
theorem dX12_inTrace_0 : decode cX12_inTrace 0 = .ok (.aload_n 0, 1) := by decide +kernel
theorem dX12_inTrace_1 : decode cX12_inTrace 1 = .ok (.invokevirtual 479, 3) := by decide +kernel
theorem dX12_inTrace_4 : decode cX12_inTrace 4 = .ok (.ifCond .eq 9, 3) := by decide +kernel
theorem dX12_inTrace_7 : decode cX12_inTrace 7 = .ok (.aload_n 0, 1) := by decide +kernel
theorem dX12_inTrace_8 : decode cX12_inTrace 8 = .ok (.iconst (-1), 1) := by decide +kernel
theorem dX12_inTrace_9 : decode cX12_inTrace 9 = .ok (.putfield 172, 3) := by decide +kernel
theorem dX12_inTrace_12 : decode cX12_inTrace 12 = .ok (.return_, 1) := by decide +kernel
theorem dX12_inTrace_13 : decode cX12_inTrace 13 = .ok (.iconst 0, 1) := by decide +kernel
theorem dX12_inTrace_14 : decode cX12_inTrace 14 = .ok (.istore_n 1, 1) := by decide +kernel
theorem dX12_inTrace_15 : decode cX12_inTrace 15 = .ok (.iload_n 1, 1) := by decide +kernel
theorem dX12_inTrace_16 : decode cX12_inTrace 16 = .ok (.aload_n 0, 1) := by decide +kernel
theorem dX12_inTrace_17 : decode cX12_inTrace 17 = .ok (.getfield 88, 3) := by decide +kernel
theorem dX12_inTrace_20 : decode cX12_inTrace 20 = .ok (.aload_n 0, 1) := by decide +kernel
theorem dX12_inTrace_21 : decode cX12_inTrace 21 = .ok (.getfield 172, 3) := by decide +kernel
theorem dX12_inTrace_24 : decode cX12_inTrace 24 = .ok (.iaload, 1) := by decide +kernel
theorem dX12_inTrace_25 : decode cX12_inTrace 25 = .ok (.if_icmp .ge 46, 3) := by decide +kernel
theorem dX12_inTrace_28 : decode cX12_inTrace 28 = .ok (.bipush 120, 2) := by decide +kernel
theorem dX12_inTrace_30 : decode cX12_inTrace 30 = .ok (.aload_n 0, 1) := by decide +kernel
theorem dX12_inTrace_31 : decode cX12_inTrace 31 = .ok (.getfield 172, 3) := by decide +kernel
theorem dX12_inTrace_34 : decode cX12_inTrace 34 = .ok (.imul, 1) := by decide +kernel
theorem dX12_inTrace_35 : decode cX12_inTrace 35 = .ok (.iload_n 1, 1) := by decide +kernel
theorem dX12_inTrace_36 : decode cX12_inTrace 36 = .ok (.iadd, 1) := by decide +kernel
theorem dX12_inTrace_37 : decode cX12_inTrace 37 = .ok (.istore_n 2, 1) := by decide +kernel
theorem dX12_inTrace_38 : decode cX12_inTrace 38 = .ok (.aload_n 0, 1) := by decide +kernel
theorem dX12_inTrace_39 : decode cX12_inTrace 39 = .ok (.getfield 106, 3) := by decide +kernel
theorem dX12_inTrace_42 : decode cX12_inTrace 42 = .ok (.iload_n 2, 1) := by decide +kernel
theorem dX12_inTrace_43 : decode cX12_inTrace 43 = .ok (.iaload, 1) := by decide +kernel
theorem dX12_inTrace_44 : decode cX12_inTrace 44 = .ok (.aload_n 0, 1) := by decide +kernel
theorem dX12_inTrace_45 : decode cX12_inTrace 45 = .ok (.getfield 259, 3) := by decide +kernel
theorem dX12_inTrace_48 : decode cX12_inTrace 48 = .ok (.if_icmp .ne 17, 3) := by decide +kernel
theorem dX12_inTrace_51 : decode cX12_inTrace 51 = .ok (.aload_n 0, 1) := by decide +kernel
theorem dX12_inTrace_52 : decode cX12_inTrace 52 = .ok (.iload_n 2, 1) := by decide +kernel
theorem dX12_inTrace_53 : decode cX12_inTrace 53 = .ok (.invokevirtual 499, 3) := by decide +kernel
theorem dX12_inTrace_56 : decode cX12_inTrace 56 = .ok (.ifCond .ne 9, 3) := by decide +kernel
theorem dX12_inTrace_59 : decode cX12_inTrace 59 = .ok (.aload_n 0, 1) := by decide +kernel
theorem dX12_inTrace_60 : decode cX12_inTrace 60 = .ok (.iload_n 2, 1) := by decide +kernel
theorem dX12_inTrace_61 : decode cX12_inTrace 61 = .ok (.invokevirtual 502, 3) := by decide +kernel
theorem dX12_inTrace_64 : decode cX12_inTrace 64 = .ok (.return_, 1) := by decide +kernel
theorem dX12_inTrace_65 : decode cX12_inTrace 65 = .ok (.iinc 1 1, 3) := by decide +kernel
theorem dX12_inTrace_68 : decode cX12_inTrace 68 = .ok (.goto (-53), 3) := by decide +kernel
theorem dX12_inTrace_71 : decode cX12_inTrace 71 = .ok (.aload_n 0, 1) := by decide +kernel
theorem dX12_inTrace_72 : decode cX12_inTrace 72 = .ok (.invokevirtual 493, 3) := by decide +kernel
theorem dX12_inTrace_75 : decode cX12_inTrace 75 = .ok (.aload_n 0, 1) := by decide +kernel
theorem dX12_inTrace_76 : decode cX12_inTrace 76 = .ok (.dup, 1) := by decide +kernel
theorem dX12_inTrace_77 : decode cX12_inTrace 77 = .ok (.getfield 505, 3) := by decide +kernel
theorem dX12_inTrace_80 : decode cX12_inTrace 80 = .ok (.iconst 1, 1) := by decide +kernel
theorem dX12_inTrace_81 : decode cX12_inTrace 81 = .ok (.iadd, 1) := by decide +kernel
theorem dX12_inTrace_82 : decode cX12_inTrace 82 = .ok (.putfield 505, 3) := by decide +kernel
theorem dX12_inTrace_85 : decode cX12_inTrace 85 = .ok (.aload_n 0, 1) := by decide +kernel
theorem dX12_inTrace_86 : decode cX12_inTrace 86 = .ok (.dup, 1) := by decide +kernel
theorem dX12_inTrace_87 : decode cX12_inTrace 87 = .ok (.getfield 259, 3) := by decide +kernel
theorem dX12_inTrace_90 : decode cX12_inTrace 90 = .ok (.iconst 1, 1) := by decide +kernel
theorem dX12_inTrace_91 : decode cX12_inTrace 91 = .ok (.iadd, 1) := by decide +kernel
theorem dX12_inTrace_92 : decode cX12_inTrace 92 = .ok (.putfield 259, 3) := by decide +kernel
theorem dX12_inTrace_95 : decode cX12_inTrace 95 = .ok (.aload_n 0, 1) := by decide +kernel
theorem dX12_inTrace_96 : decode cX12_inTrace 96 = .ok (.getfield 259, 3) := by decide +kernel
theorem dX12_inTrace_99 : decode cX12_inTrace 99 = .ok (.aload_n 0, 1) := by decide +kernel
theorem dX12_inTrace_100 : decode cX12_inTrace 100 = .ok (.getfield 82, 3) := by decide +kernel
theorem dX12_inTrace_103 : decode cX12_inTrace 103 = .ok (.aload_n 0, 1) := by decide +kernel
theorem dX12_inTrace_104 : decode cX12_inTrace 104 = .ok (.getfield 172, 3) := by decide +kernel
theorem dX12_inTrace_107 : decode cX12_inTrace 107 = .ok (.iaload, 1) := by decide +kernel
theorem dX12_inTrace_108 : decode cX12_inTrace 108 = .ok (.if_icmp .ne 16, 3) := by decide +kernel
theorem dX12_inTrace_111 : decode cX12_inTrace 111 = .ok (.aload_n 0, 1) := by decide +kernel
theorem dX12_inTrace_112 : decode cX12_inTrace 112 = .ok (.aload_n 0, 1) := by decide +kernel
theorem dX12_inTrace_113 : decode cX12_inTrace 113 = .ok (.getfield 91, 3) := by decide +kernel
theorem dX12_inTrace_116 : decode cX12_inTrace 116 = .ok (.aload_n 0, 1) := by decide +kernel
theorem dX12_inTrace_117 : decode cX12_inTrace 117 = .ok (.getfield 172, 3) := by decide +kernel
theorem dX12_inTrace_120 : decode cX12_inTrace 120 = .ok (.iaload, 1) := by decide +kernel
theorem dX12_inTrace_121 : decode cX12_inTrace 121 = .ok (.invokevirtual 372, 3) := by decide +kernel
theorem dX12_inTrace_124 : decode cX12_inTrace 124 = .ok (.return_, 1) := by decide +kernel
theorem dX12_run_0 : decode cX12_run 0 = .ok (.aload_n 0, 1) := by decide +kernel
theorem dX12_run_1 : decode cX12_run 1 = .ok (.iconst 0, 1) := by decide +kernel
theorem dX12_run_2 : decode cX12_run 2 = .ok (.putfield 202, 3) := by decide +kernel
theorem dX12_run_5 : decode cX12_run 5 = .ok (.aload_n 0, 1) := by decide +kernel
theorem dX12_run_6 : decode cX12_run 6 = .ok (.iload_n 1, 1) := by decide +kernel
theorem dX12_run_7 : decode cX12_run 7 = .ok (.invokevirtual 223, 3) := by decide +kernel
theorem dX12_run_10 : decode cX12_run 10 = .ok (.ifCond .ne 9, 3) := by decide +kernel
theorem dX12_run_13 : decode cX12_run 13 = .ok (.aload_n 0, 1) := by decide +kernel
theorem dX12_run_14 : decode cX12_run 14 = .ok (.iconst 1, 1) := by decide +kernel
theorem dX12_run_15 : decode cX12_run 15 = .ok (.invokevirtual 212, 3) := by decide +kernel
theorem dX12_run_18 : decode cX12_run 18 = .ok (.ireturn, 1) := by decide +kernel
theorem dX12_run_19 : decode cX12_run 19 = .ok (.aload_n 0, 1) := by decide +kernel
theorem dX12_run_20 : decode cX12_run 20 = .ok (.getfield 7, 3) := by decide +kernel
theorem dX12_run_23 : decode cX12_run 23 = .ok (.iload_n 1, 1) := by decide +kernel
theorem dX12_run_24 : decode cX12_run 24 = .ok (.iaload, 1) := by decide +kernel
theorem dX12_run_25 : decode cX12_run 25 = .ok (.ifCond .ne 9, 3) := by decide +kernel
theorem dX12_run_28 : decode cX12_run 28 = .ok (.aload_n 0, 1) := by decide +kernel
theorem dX12_run_29 : decode cX12_run 29 = .ok (.iconst 2, 1) := by decide +kernel
theorem dX12_run_30 : decode cX12_run 30 = .ok (.invokevirtual 212, 3) := by decide +kernel
theorem dX12_run_33 : decode cX12_run 33 = .ok (.ireturn, 1) := by decide +kernel
theorem dX12_run_34 : decode cX12_run 34 = .ok (.aload_n 0, 1) := by decide +kernel
theorem dX12_run_35 : decode cX12_run 35 = .ok (.iconst 0, 1) := by decide +kernel
theorem dX12_run_36 : decode cX12_run 36 = .ok (.putfield 398, 3) := by decide +kernel
theorem dX12_run_39 : decode cX12_run 39 = .ok (.aload_n 0, 1) := by decide +kernel
theorem dX12_run_40 : decode cX12_run 40 = .ok (.iconst 0, 1) := by decide +kernel
theorem dX12_run_41 : decode cX12_run 41 = .ok (.putfield 436, 3) := by decide +kernel
theorem dX12_run_44 : decode cX12_run 44 = .ok (.aload_n 0, 1) := by decide +kernel
theorem dX12_run_45 : decode cX12_run 45 = .ok (.iconst 0, 1) := by decide +kernel
theorem dX12_run_46 : decode cX12_run 46 = .ok (.putfield 505, 3) := by decide +kernel
theorem dX12_run_49 : decode cX12_run 49 = .ok (.aload_n 0, 1) := by decide +kernel
theorem dX12_run_50 : decode cX12_run 50 = .ok (.iconst 0, 1) := by decide +kernel
theorem dX12_run_51 : decode cX12_run 51 = .ok (.putfield 426, 3) := by decide +kernel
theorem dX12_run_54 : decode cX12_run 54 = .ok (.aload_n 0, 1) := by decide +kernel
theorem dX12_run_55 : decode cX12_run 55 = .ok (.iconst 0, 1) := by decide +kernel
theorem dX12_run_56 : decode cX12_run 56 = .ok (.putfield 262, 3) := by decide +kernel
theorem dX12_run_59 : decode cX12_run 59 = .ok (.aload_n 0, 1) := by decide +kernel
theorem dX12_run_60 : decode cX12_run 60 = .ok (.getfield 140, 3) := by decide +kernel
theorem dX12_run_63 : decode cX12_run 63 = .ok (.iconst 0, 1) := by decide +kernel
theorem dX12_run_64 : decode cX12_run 64 = .ok (.iload_n 1, 1) := by decide +kernel
theorem dX12_run_65 : decode cX12_run 65 = .ok (.iastore, 1) := by decide +kernel
theorem dX12_run_66 : decode cX12_run 66 = .ok (.aload_n 0, 1) := by decide +kernel
theorem dX12_run_67 : decode cX12_run 67 = .ok (.getfield 143, 3) := by decide +kernel
theorem dX12_run_70 : decode cX12_run 70 = .ok (.iconst 0, 1) := by decide +kernel
theorem dX12_run_71 : decode cX12_run 71 = .ok (.iconst 0, 1) := by decide +kernel
theorem dX12_run_72 : decode cX12_run 72 = .ok (.iastore, 1) := by decide +kernel
theorem dX12_run_73 : decode cX12_run 73 = .ok (.aload_n 0, 1) := by decide +kernel
theorem dX12_run_74 : decode cX12_run 74 = .ok (.getfield 146, 3) := by decide +kernel
theorem dX12_run_77 : decode cX12_run 77 = .ok (.iconst 0, 1) := by decide +kernel
theorem dX12_run_78 : decode cX12_run 78 = .ok (.iconst 0, 1) := by decide +kernel
theorem dX12_run_79 : decode cX12_run 79 = .ok (.iastore, 1) := by decide +kernel
theorem dX12_run_80 : decode cX12_run 80 = .ok (.iconst 0, 1) := by decide +kernel
theorem dX12_run_81 : decode cX12_run 81 = .ok (.istore_n 3, 1) := by decide +kernel
theorem dX12_run_82 : decode cX12_run 82 = .ok (.iload_n 3, 1) := by decide +kernel
theorem dX12_run_83 : decode cX12_run 83 = .ok (.bipush 6, 2) := by decide +kernel
