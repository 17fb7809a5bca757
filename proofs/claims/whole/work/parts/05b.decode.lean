/-! what stands at each place of the code -/
theorem d141_68 : decode (mB 141) 68 = .ok (.iload_n 3, 1) := by decide +kernel
theorem d141_69 : decode (mB 141) 69 = .ok (.iload_n 1, 1) := by decide +kernel
theorem d141_70 : decode (mB 141) 70 = .ok (.ifCond .eq 10, 3) := by decide +kernel
theorem d141_73 : decode (mB 141) 73 = .ok (.aload_n 0, 1) := by decide +kernel
theorem d141_74 : decode (mB 141) 74 = .ok (.getfield 228, 3) := by decide +kernel
theorem d141_77 : decode (mB 141) 77 = .ok (.goto 4, 3) := by decide +kernel
theorem d141_80 : decode (mB 141) 80 = .ok (.iconst (-1), 1) := by decide +kernel
theorem d141_81 : decode (mB 141) 81 = .ok (.iastore, 1) := by decide +kernel
theorem d141_82 : decode (mB 141) 82 = .ok (.aload_n 0, 1) := by decide +kernel
theorem d141_83 : decode (mB 141) 83 = .ok (.invokevirtual 262, 3) := by decide +kernel
theorem d141_86 : decode (mB 141) 86 = .ok (.aload_n 0, 1) := by decide +kernel
theorem d141_87 : decode (mB 141) 87 = .ok (.getfield 33, 3) := by decide +kernel
theorem d141_90 : decode (mB 141) 90 = .ok (.iload_n 3, 1) := by decide +kernel
theorem d141_91 : decode (mB 141) 91 = .ok (.iaload, 1) := by decide +kernel
theorem d141_92 : decode (mB 141) 92 = .ok (.tableswitch 354 0 30 #[154, 162, 354, 162, 200, 354, 247, 354, 154, 291, 354, 354, 354, 354, 354, 354, 354, 354, 337, 354, 354, 354, 354, 354, 354, 354, 354, 354, 354, 354, 140], 140) := by decide +kernel
theorem d141_232 : decode (mB 141) 232 = .ok (.aload_n 0, 1) := by decide +kernel
theorem d141_233 : decode (mB 141) 233 = .ok (.bipush 61, 2) := by decide +kernel
theorem d141_235 : decode (mB 141) 235 = .ok (.invokevirtual 324, 3) := by decide +kernel
theorem d141_238 : decode (mB 141) 238 = .ok (.aload_n 0, 1) := by decide +kernel
theorem d141_239 : decode (mB 141) 239 = .ok (.iload_n 3, 1) := by decide +kernel
theorem d141_240 : decode (mB 141) 240 = .ok (.invokevirtual 327, 3) := by decide +kernel
theorem d141_243 : decode (mB 141) 243 = .ok (.goto 209, 3) := by decide +kernel
theorem d141_246 : decode (mB 141) 246 = .ok (.aload_n 0, 1) := by decide +kernel
theorem d141_247 : decode (mB 141) 247 = .ok (.iload_n 3, 1) := by decide +kernel
theorem d141_248 : decode (mB 141) 248 = .ok (.invokevirtual 327, 3) := by decide +kernel
theorem d141_251 : decode (mB 141) 251 = .ok (.goto 201, 3) := by decide +kernel
theorem d141_254 : decode (mB 141) 254 = .ok (.aload_n 0, 1) := by decide +kernel
theorem d141_255 : decode (mB 141) 255 = .ok (.bipush 40, 2) := by decide +kernel
theorem d141_257 : decode (mB 141) 257 = .ok (.invokevirtual 324, 3) := by decide +kernel
theorem d141_260 : decode (mB 141) 260 = .ok (.aload_n 0, 1) := by decide +kernel
theorem d141_261 : decode (mB 141) 261 = .ok (.getfield 252, 3) := by decide +kernel
theorem d141_264 : decode (mB 141) 264 = .ok (.ifCond .ne 13, 3) := by decide +kernel
theorem d141_267 : decode (mB 141) 267 = .ok (.aload_n 0, 1) := by decide +kernel
theorem d141_268 : decode (mB 141) 268 = .ok (.getfield 39, 3) := by decide +kernel
theorem d141_271 : decode (mB 141) 271 = .ok (.iload_n 3, 1) := by decide +kernel
theorem d141_272 : decode (mB 141) 272 = .ok (.aload_n 0, 1) := by decide +kernel
theorem d141_273 : decode (mB 141) 273 = .ok (.invokevirtual 330, 3) := by decide +kernel
theorem d141_276 : decode (mB 141) 276 = .ok (.iastore, 1) := by decide +kernel
theorem d141_277 : decode (mB 141) 277 = .ok (.aload_n 0, 1) := by decide +kernel
theorem d141_278 : decode (mB 141) 278 = .ok (.bipush 41, 2) := by decide +kernel
theorem d141_280 : decode (mB 141) 280 = .ok (.invokevirtual 324, 3) := by decide +kernel
theorem d141_283 : decode (mB 141) 283 = .ok (.aload_n 0, 1) := by decide +kernel
theorem d141_284 : decode (mB 141) 284 = .ok (.iload_n 3, 1) := by decide +kernel
theorem d141_285 : decode (mB 141) 285 = .ok (.iconst 0, 1) := by decide +kernel
theorem d141_286 : decode (mB 141) 286 = .ok (.invokevirtual 310, 3) := by decide +kernel
theorem d141_289 : decode (mB 141) 289 = .ok (.goto 163, 3) := by decide +kernel
theorem d141_292 : decode (mB 141) 292 = .ok (.aload_n 0, 1) := by decide +kernel
theorem d141_293 : decode (mB 141) 293 = .ok (.iload_n 3, 1) := by decide +kernel
theorem d141_294 : decode (mB 141) 294 = .ok (.invokevirtual 333, 3) := by decide +kernel
theorem d141_297 : decode (mB 141) 297 = .ok (.aload_n 0, 1) := by decide +kernel
theorem d141_298 : decode (mB 141) 298 = .ok (.getfield 252, 3) := by decide +kernel
theorem d141_301 : decode (mB 141) 301 = .ok (.ifCond .ne 8, 3) := by decide +kernel
theorem d141_304 : decode (mB 141) 304 = .ok (.aload_n 0, 1) := by decide +kernel
theorem d141_305 : decode (mB 141) 305 = .ok (.iconst 5, 1) := by decide +kernel
theorem d141_306 : decode (mB 141) 306 = .ok (.invokevirtual 307, 3) := by decide +kernel
theorem d141_309 : decode (mB 141) 309 = .ok (.aload_n 0, 1) := by decide +kernel
theorem d141_310 : decode (mB 141) 310 = .ok (.getfield 49, 3) := by decide +kernel
theorem d141_313 : decode (mB 141) 313 = .ok (.iload_n 3, 1) := by decide +kernel
theorem d141_314 : decode (mB 141) 314 = .ok (.aload_n 0, 1) := by decide +kernel
theorem d141_315 : decode (mB 141) 315 = .ok (.getfield 228, 3) := by decide +kernel
theorem d141_318 : decode (mB 141) 318 = .ok (.iastore, 1) := by decide +kernel
theorem d141_319 : decode (mB 141) 319 = .ok (.aload_n 0, 1) := by decide +kernel
theorem d141_320 : decode (mB 141) 320 = .ok (.getfield 252, 3) := by decide +kernel
theorem d141_323 : decode (mB 141) 323 = .ok (.ifCond .ne 7, 3) := by decide +kernel
theorem d141_326 : decode (mB 141) 326 = .ok (.aload_n 0, 1) := by decide +kernel
theorem d141_327 : decode (mB 141) 327 = .ok (.invokevirtual 314, 3) := by decide +kernel
theorem d141_330 : decode (mB 141) 330 = .ok (.aload_n 0, 1) := by decide +kernel
theorem d141_331 : decode (mB 141) 331 = .ok (.bipush 59, 2) := by decide +kernel
theorem d141_333 : decode (mB 141) 333 = .ok (.invokevirtual 324, 3) := by decide +kernel
theorem d141_336 : decode (mB 141) 336 = .ok (.goto 116, 3) := by decide +kernel
theorem d141_339 : decode (mB 141) 339 = .ok (.aload_n 0, 1) := by decide +kernel
theorem d141_340 : decode (mB 141) 340 = .ok (.getfield 39, 3) := by decide +kernel
theorem d141_343 : decode (mB 141) 343 = .ok (.iload_n 3, 1) := by decide +kernel
theorem d141_344 : decode (mB 141) 344 = .ok (.aload_n 0, 1) := by decide +kernel
theorem d141_345 : decode (mB 141) 345 = .ok (.invokevirtual 330, 3) := by decide +kernel
theorem d141_348 : decode (mB 141) 348 = .ok (.iastore, 1) := by decide +kernel
theorem d141_349 : decode (mB 141) 349 = .ok (.aload_n 0, 1) := by decide +kernel
theorem d141_350 : decode (mB 141) 350 = .ok (.getfield 252, 3) := by decide +kernel
theorem d141_353 : decode (mB 141) 353 = .ok (.ifCond .ne 9, 3) := by decide +kernel
theorem d141_356 : decode (mB 141) 356 = .ok (.aload_n 0, 1) := by decide +kernel
theorem d141_357 : decode (mB 141) 357 = .ok (.bipush 7, 2) := by decide +kernel
theorem d141_359 : decode (mB 141) 359 = .ok (.invokevirtual 307, 3) := by decide +kernel
theorem d141_362 : decode (mB 141) 362 = .ok (.aload_n 0, 1) := by decide +kernel
theorem d141_363 : decode (mB 141) 363 = .ok (.getfield 252, 3) := by decide +kernel
theorem d141_366 : decode (mB 141) 366 = .ok (.ifCond .ne 8, 3) := by decide +kernel
theorem d141_369 : decode (mB 141) 369 = .ok (.aload_n 0, 1) := by decide +kernel
theorem d141_370 : decode (mB 141) 370 = .ok (.iload_n 3, 1) := by decide +kernel
theorem d141_371 : decode (mB 141) 371 = .ok (.invokevirtual 333, 3) := by decide +kernel
theorem d141_374 : decode (mB 141) 374 = .ok (.aload_n 0, 1) := by decide +kernel
theorem d141_375 : decode (mB 141) 375 = .ok (.bipush 59, 2) := by decide +kernel
theorem d141_377 : decode (mB 141) 377 = .ok (.invokevirtual 324, 3) := by decide +kernel
theorem d141_380 : decode (mB 141) 380 = .ok (.goto 72, 3) := by decide +kernel
theorem d141_383 : decode (mB 141) 383 = .ok (.aload_n 0, 1) := by decide +kernel
theorem d141_384 : decode (mB 141) 384 = .ok (.getfield 39, 3) := by decide +kernel
theorem d141_387 : decode (mB 141) 387 = .ok (.iload_n 3, 1) := by decide +kernel
theorem d141_388 : decode (mB 141) 388 = .ok (.aload_n 0, 1) := by decide +kernel
theorem d141_389 : decode (mB 141) 389 = .ok (.invokevirtual 330, 3) := by decide +kernel
theorem d141_392 : decode (mB 141) 392 = .ok (.iastore, 1) := by decide +kernel
theorem d141_393 : decode (mB 141) 393 = .ok (.aload_n 0, 1) := by decide +kernel
theorem d141_394 : decode (mB 141) 394 = .ok (.getfield 252, 3) := by decide +kernel
theorem d141_397 : decode (mB 141) 397 = .ok (.ifCond .ne 8, 3) := by decide +kernel
theorem d141_400 : decode (mB 141) 400 = .ok (.aload_n 0, 1) := by decide +kernel
theorem d141_401 : decode (mB 141) 401 = .ok (.iconst 5, 1) := by decide +kernel
theorem d141_402 : decode (mB 141) 402 = .ok (.invokevirtual 307, 3) := by decide +kernel
theorem d141_405 : decode (mB 141) 405 = .ok (.aload_n 0, 1) := by decide +kernel
theorem d141_406 : decode (mB 141) 406 = .ok (.getfield 252, 3) := by decide +kernel
theorem d141_409 : decode (mB 141) 409 = .ok (.ifCond .ne 11, 3) := by decide +kernel
theorem d141_412 : decode (mB 141) 412 = .ok (.aload_n 0, 1) := by decide +kernel
theorem d141_413 : decode (mB 141) 413 = .ok (.iload_n 3, 1) := by decide +kernel
theorem d141_414 : decode (mB 141) 414 = .ok (.ldc2_w 336, 3) := by decide +kernel
theorem d141_417 : decode (mB 141) 417 = .ok (.invokevirtual 338, 3) := by decide +kernel
theorem d141_420 : decode (mB 141) 420 = .ok (.aload_n 0, 1) := by decide +kernel
theorem d141_421 : decode (mB 141) 421 = .ok (.bipush 59, 2) := by decide +kernel
theorem d141_423 : decode (mB 141) 423 = .ok (.invokevirtual 324, 3) := by decide +kernel
theorem d141_426 : decode (mB 141) 426 = .ok (.goto 26, 3) := by decide +kernel
theorem d141_429 : decode (mB 141) 429 = .ok (.aload_n 0, 1) := by decide +kernel
theorem d141_430 : decode (mB 141) 430 = .ok (.iload_n 3, 1) := by decide +kernel
theorem d141_431 : decode (mB 141) 431 = .ok (.ldc2_w 342, 3) := by decide +kernel
theorem d141_434 : decode (mB 141) 434 = .ok (.invokevirtual 338, 3) := by decide +kernel
theorem d141_437 : decode (mB 141) 437 = .ok (.aload_n 0, 1) := by decide +kernel
theorem d141_438 : decode (mB 141) 438 = .ok (.iload_n 3, 1) := by decide +kernel
theorem d141_439 : decode (mB 141) 439 = .ok (.iconst 0, 1) := by decide +kernel
theorem d141_440 : decode (mB 141) 440 = .ok (.invokevirtual 310, 3) := by decide +kernel
theorem d141_443 : decode (mB 141) 443 = .ok (.goto 9, 3) := by decide +kernel
theorem d141_446 : decode (mB 141) 446 = .ok (.aload_n 0, 1) := by decide +kernel
theorem d141_447 : decode (mB 141) 447 = .ok (.iload_n 3, 1) := by decide +kernel
theorem d141_448 : decode (mB 141) 448 = .ok (.iconst 0, 1) := by decide +kernel
theorem d141_449 : decode (mB 141) 449 = .ok (.invokevirtual 310, 3) := by decide +kernel
theorem d141_452 : decode (mB 141) 452 = .ok (.return_, 1) := by decide +kernel
theorem d145_0 : decode (mB 145) 0 = .ok (.aload_n 0, 1) := by decide +kernel
theorem d145_1 : decode (mB 145) 1 = .ok (.getfield 252, 3) := by decide +kernel
theorem d145_4 : decode (mB 145) 4 = .ok (.ifCond .ne 13, 3) := by decide +kernel
theorem d145_7 : decode (mB 145) 7 = .ok (.aload_n 0, 1) := by decide +kernel
theorem d145_8 : decode (mB 145) 8 = .ok (.getfield 39, 3) := by decide +kernel
theorem d145_11 : decode (mB 145) 11 = .ok (.iload_n 1, 1) := by decide +kernel
theorem d145_12 : decode (mB 145) 12 = .ok (.aload_n 0, 1) := by decide +kernel
theorem d145_13 : decode (mB 145) 13 = .ok (.invokevirtual 330, 3) := by decide +kernel
theorem d145_16 : decode (mB 145) 16 = .ok (.iastore, 1) := by decide +kernel
theorem d145_17 : decode (mB 145) 17 = .ok (.aload_n 0, 1) := by decide +kernel
theorem d145_18 : decode (mB 145) 18 = .ok (.bipush 59, 2) := by decide +kernel
theorem d145_20 : decode (mB 145) 20 = .ok (.invokevirtual 324, 3) := by decide +kernel
theorem d145_23 : decode (mB 145) 23 = .ok (.return_, 1) := by decide +kernel
theorem d124_0 : decode (mB 124) 0 = .ok (.aload_n 0, 1) := by decide +kernel
theorem d124_1 : decode (mB 124) 1 = .ok (.getfield 170, 3) := by decide +kernel
theorem d124_4 : decode (mB 124) 4 = .ok (.bipush 20, 2) := by decide +kernel
theorem d124_6 : decode (mB 124) 6 = .ok (.iadd, 1) := by decide +kernel
theorem d124_7 : decode (mB 124) 7 = .ok (.sipush 800, 3) := by decide +kernel
theorem d124_10 : decode (mB 124) 10 = .ok (.if_icmp .le 5, 3) := by decide +kernel
theorem d124_13 : decode (mB 124) 13 = .ok (.iconst (-1), 1) := by decide +kernel
theorem d124_14 : decode (mB 124) 14 = .ok (.ireturn, 1) := by decide +kernel
theorem d124_15 : decode (mB 124) 15 = .ok (.iconst 0, 1) := by decide +kernel
theorem d124_16 : decode (mB 124) 16 = .ok (.istore 6, 2) := by decide +kernel
theorem d124_18 : decode (mB 124) 18 = .ok (.iload 6, 2) := by decide +kernel
theorem d124_20 : decode (mB 124) 20 = .ok (.bipush 20, 2) := by decide +kernel
theorem d124_22 : decode (mB 124) 22 = .ok (.if_icmp .ge 92, 3) := by decide +kernel
theorem d124_25 : decode (mB 124) 25 = .ok (.iload 6, 2) := by decide +kernel
theorem d124_27 : decode (mB 124) 27 = .ok (.iconst 4, 1) := by decide +kernel
theorem d124_28 : decode (mB 124) 28 = .ok (.idiv, 1) := by decide +kernel
theorem d124_29 : decode (mB 124) 29 = .ok (.istore 7, 2) := by decide +kernel
theorem d124_31 : decode (mB 124) 31 = .ok (.iload 7, 2) := by decide +kernel
theorem d124_33 : decode (mB 124) 33 = .ok (.ifCond .ne 7, 3) := by decide +kernel
theorem d124_36 : decode (mB 124) 36 = .ok (.iload_n 1, 1) := by decide +kernel
theorem d124_37 : decode (mB 124) 37 = .ok (.goto 36, 3) := by decide +kernel
theorem d124_40 : decode (mB 124) 40 = .ok (.iload 7, 2) := by decide +kernel
theorem d124_42 : decode (mB 124) 42 = .ok (.iconst 1, 1) := by decide +kernel
theorem d124_43 : decode (mB 124) 43 = .ok (.if_icmp .ne 7, 3) := by decide +kernel
theorem d124_46 : decode (mB 124) 46 = .ok (.iload_n 2, 1) := by decide +kernel
theorem d124_47 : decode (mB 124) 47 = .ok (.goto 26, 3) := by decide +kernel
theorem d124_50 : decode (mB 124) 50 = .ok (.iload 7, 2) := by decide +kernel
theorem d124_52 : decode (mB 124) 52 = .ok (.iconst 2, 1) := by decide +kernel
theorem d124_53 : decode (mB 124) 53 = .ok (.if_icmp .ne 7, 3) := by decide +kernel
theorem d124_56 : decode (mB 124) 56 = .ok (.iload_n 3, 1) := by decide +kernel
theorem d124_57 : decode (mB 124) 57 = .ok (.goto 16, 3) := by decide +kernel
theorem d124_60 : decode (mB 124) 60 = .ok (.iload 7, 2) := by decide +kernel
theorem d124_62 : decode (mB 124) 62 = .ok (.iconst 3, 1) := by decide +kernel
theorem d124_63 : decode (mB 124) 63 = .ok (.if_icmp .ne 8, 3) := by decide +kernel
theorem d124_66 : decode (mB 124) 66 = .ok (.iload 4, 2) := by decide +kernel
theorem d124_68 : decode (mB 124) 68 = .ok (.goto 5, 3) := by decide +kernel
theorem d124_71 : decode (mB 124) 71 = .ok (.iload 5, 2) := by decide +kernel
theorem d124_73 : decode (mB 124) 73 = .ok (.istore 8, 2) := by decide +kernel
theorem d124_75 : decode (mB 124) 75 = .ok (.aload_n 0, 1) := by decide +kernel
theorem d124_76 : decode (mB 124) 76 = .ok (.getfield 7, 3) := by decide +kernel
theorem d124_79 : decode (mB 124) 79 = .ok (.aload_n 0, 1) := by decide +kernel
theorem d124_80 : decode (mB 124) 80 = .ok (.getfield 170, 3) := by decide +kernel
theorem d124_83 : decode (mB 124) 83 = .ok (.iload 8, 2) := by decide +kernel
theorem d124_85 : decode (mB 124) 85 = .ok (.bipush 24, 2) := by decide +kernel
theorem d124_87 : decode (mB 124) 87 = .ok (.bipush 8, 2) := by decide +kernel
theorem d124_89 : decode (mB 124) 89 = .ok (.iload 6, 2) := by decide +kernel
theorem d124_91 : decode (mB 124) 91 = .ok (.iconst 4, 1) := by decide +kernel
theorem d124_92 : decode (mB 124) 92 = .ok (.irem, 1) := by decide +kernel
theorem d124_93 : decode (mB 124) 93 = .ok (.imul, 1) := by decide +kernel
theorem d124_94 : decode (mB 124) 94 = .ok (.isub, 1) := by decide +kernel
theorem d124_95 : decode (mB 124) 95 = .ok (.ishr, 1) := by decide +kernel
theorem d124_96 : decode (mB 124) 96 = .ok (.i2b, 1) := by decide +kernel
theorem d124_97 : decode (mB 124) 97 = .ok (.bastore, 1) := by decide +kernel
theorem d124_98 : decode (mB 124) 98 = .ok (.aload_n 0, 1) := by decide +kernel
theorem d124_99 : decode (mB 124) 99 = .ok (.dup, 1) := by decide +kernel
theorem d124_100 : decode (mB 124) 100 = .ok (.getfield 170, 3) := by decide +kernel
theorem d124_103 : decode (mB 124) 103 = .ok (.iconst 1, 1) := by decide +kernel
theorem d124_104 : decode (mB 124) 104 = .ok (.iadd, 1) := by decide +kernel
theorem d124_105 : decode (mB 124) 105 = .ok (.putfield 170, 3) := by decide +kernel
theorem d124_108 : decode (mB 124) 108 = .ok (.iinc 6 1, 3) := by decide +kernel
theorem d124_111 : decode (mB 124) 111 = .ok (.goto (-93), 3) := by decide +kernel
theorem d124_114 : decode (mB 124) 114 = .ok (.aload_n 0, 1) := by decide +kernel
theorem d124_115 : decode (mB 124) 115 = .ok (.getfield 170, 3) := by decide +kernel
theorem d124_118 : decode (mB 124) 118 = .ok (.ireturn, 1) := by decide +kernel
theorem d125_0 : decode (mB 125) 0 = .ok (.iload_n 1, 1) := by decide +kernel
theorem d125_1 : decode (mB 125) 1 = .ok (.ifCond .lt 18, 3) := by decide +kernel
theorem d125_4 : decode (mB 125) 4 = .ok (.iload_n 1, 1) := by decide +kernel
theorem d125_5 : decode (mB 125) 5 = .ok (.bipush 20, 2) := by decide +kernel
theorem d125_7 : decode (mB 125) 7 = .ok (.if_icmp .gt 12, 3) := by decide +kernel
theorem d125_10 : decode (mB 125) 10 = .ok (.aload_n 0, 1) := by decide +kernel
theorem d125_11 : decode (mB 125) 11 = .ok (.getfield 170, 3) := by decide +kernel
theorem d125_14 : decode (mB 125) 14 = .ok (.bipush 20, 2) := by decide +kernel
theorem d125_16 : decode (mB 125) 16 = .ok (.if_icmp .ge 5, 3) := by decide +kernel
theorem d125_19 : decode (mB 125) 19 = .ok (.iconst (-1), 1) := by decide +kernel
theorem d125_20 : decode (mB 125) 20 = .ok (.ireturn, 1) := by decide +kernel
theorem d125_21 : decode (mB 125) 21 = .ok (.aload_n 0, 1) := by decide +kernel
theorem d125_22 : decode (mB 125) 22 = .ok (.dup, 1) := by decide +kernel
theorem d125_23 : decode (mB 125) 23 = .ok (.getfield 170, 3) := by decide +kernel
theorem d125_26 : decode (mB 125) 26 = .ok (.bipush 20, 2) := by decide +kernel
theorem d125_28 : decode (mB 125) 28 = .ok (.iload_n 1, 1) := by decide +kernel
theorem d125_29 : decode (mB 125) 29 = .ok (.isub, 1) := by decide +kernel
theorem d125_30 : decode (mB 125) 30 = .ok (.isub, 1) := by decide +kernel
theorem d125_31 : decode (mB 125) 31 = .ok (.putfield 170, 3) := by decide +kernel
theorem d125_34 : decode (mB 125) 34 = .ok (.aload_n 0, 1) := by decide +kernel
theorem d125_35 : decode (mB 125) 35 = .ok (.getfield 170, 3) := by decide +kernel
theorem d125_38 : decode (mB 125) 38 = .ok (.ireturn, 1) := by decide +kernel
theorem d126_0 : decode (mB 126) 0 = .ok (.aload_n 0, 1) := by decide +kernel
theorem d126_1 : decode (mB 126) 1 = .ok (.getfield 344, 3) := by decide +kernel
theorem d126_4 : decode (mB 126) 4 = .ok (.bipush 12, 2) := by decide +kernel
theorem d126_6 : decode (mB 126) 6 = .ok (.if_icmp .ne 5, 3) := by decide +kernel
theorem d126_9 : decode (mB 126) 9 = .ok (.iconst (-1), 1) := by decide +kernel
theorem d126_10 : decode (mB 126) 10 = .ok (.ireturn, 1) := by decide +kernel
theorem d126_11 : decode (mB 126) 11 = .ok (.aload_n 0, 1) := by decide +kernel
theorem d126_12 : decode (mB 126) 12 = .ok (.iconst (-1), 1) := by decide +kernel
theorem d126_13 : decode (mB 126) 13 = .ok (.putfield 13, 3) := by decide +kernel
theorem d126_16 : decode (mB 126) 16 = .ok (.aload_n 0, 1) := by decide +kernel
theorem d126_17 : decode (mB 126) 17 = .ok (.aload_n 0, 1) := by decide +kernel
theorem d126_18 : decode (mB 126) 18 = .ok (.getfield 344, 3) := by decide +kernel
theorem d126_21 : decode (mB 126) 21 = .ok (.putfield 265, 3) := by decide +kernel
theorem d126_24 : decode (mB 126) 24 = .ok (.aload_n 0, 1) := by decide +kernel
theorem d126_25 : decode (mB 126) 25 = .ok (.getfield 17, 3) := by decide +kernel
theorem d126_28 : decode (mB 126) 28 = .ok (.aload_n 0, 1) := by decide +kernel
theorem d126_29 : decode (mB 126) 29 = .ok (.getfield 265, 3) := by decide +kernel
theorem d126_32 : decode (mB 126) 32 = .ok (.iconst 0, 1) := by decide +kernel
theorem d126_33 : decode (mB 126) 33 = .ok (.iastore, 1) := by decide +kernel
theorem d126_34 : decode (mB 126) 34 = .ok (.aload_n 0, 1) := by decide +kernel
theorem d126_35 : decode (mB 126) 35 = .ok (.getfield 21, 3) := by decide +kernel
theorem d126_38 : decode (mB 126) 38 = .ok (.aload_n 0, 1) := by decide +kernel
theorem d126_39 : decode (mB 126) 39 = .ok (.getfield 265, 3) := by decide +kernel
theorem d126_42 : decode (mB 126) 42 = .ok (.iconst 0, 1) := by decide +kernel
theorem d126_43 : decode (mB 126) 43 = .ok (.iastore, 1) := by decide +kernel
theorem d126_44 : decode (mB 126) 44 = .ok (.aload_n 0, 1) := by decide +kernel
theorem d126_45 : decode (mB 126) 45 = .ok (.getfield 24, 3) := by decide +kernel
theorem d126_48 : decode (mB 126) 48 = .ok (.aload_n 0, 1) := by decide +kernel
theorem d126_49 : decode (mB 126) 49 = .ok (.getfield 265, 3) := by decide +kernel
theorem d126_52 : decode (mB 126) 52 = .ok (.iconst 0, 1) := by decide +kernel
theorem d126_53 : decode (mB 126) 53 = .ok (.iastore, 1) := by decide +kernel
theorem d126_54 : decode (mB 126) 54 = .ok (.aload_n 0, 1) := by decide +kernel
theorem d126_55 : decode (mB 126) 55 = .ok (.getfield 30, 3) := by decide +kernel
theorem d126_58 : decode (mB 126) 58 = .ok (.aload_n 0, 1) := by decide +kernel
theorem d126_59 : decode (mB 126) 59 = .ok (.getfield 265, 3) := by decide +kernel
theorem d126_62 : decode (mB 126) 62 = .ok (.iconst 0, 1) := by decide +kernel
theorem d126_63 : decode (mB 126) 63 = .ok (.iastore, 1) := by decide +kernel
theorem d126_64 : decode (mB 126) 64 = .ok (.aload_n 0, 1) := by decide +kernel
theorem d126_65 : decode (mB 126) 65 = .ok (.iconst 0, 1) := by decide +kernel
theorem d126_66 : decode (mB 126) 66 = .ok (.putfield 211, 3) := by decide +kernel
theorem d126_69 : decode (mB 126) 69 = .ok (.aload_n 0, 1) := by decide +kernel
theorem d126_70 : decode (mB 126) 70 = .ok (.iconst 0, 1) := by decide +kernel
theorem d126_71 : decode (mB 126) 71 = .ok (.putfield 252, 3) := by decide +kernel
theorem d126_74 : decode (mB 126) 74 = .ok (.aload_n 0, 1) := by decide +kernel
theorem d126_75 : decode (mB 126) 75 = .ok (.invokevirtual 347, 3) := by decide +kernel
theorem d126_78 : decode (mB 126) 78 = .ok (.aload_n 0, 1) := by decide +kernel
theorem d126_79 : decode (mB 126) 79 = .ok (.iconst 0, 1) := by decide +kernel
theorem d126_80 : decode (mB 126) 80 = .ok (.putfield 170, 3) := by decide +kernel
theorem d126_83 : decode (mB 126) 83 = .ok (.aload_n 0, 1) := by decide +kernel
theorem d126_84 : decode (mB 126) 84 = .ok (.getfield 252, 3) := by decide +kernel
theorem d126_87 : decode (mB 126) 87 = .ok (.ifCond .eq 6, 3) := by decide +kernel
theorem d126_90 : decode (mB 126) 90 = .ok (.bipush (-2), 2) := by decide +kernel
theorem d126_92 : decode (mB 126) 92 = .ok (.ireturn, 1) := by decide +kernel
theorem d126_93 : decode (mB 126) 93 = .ok (.aload_n 0, 1) := by decide +kernel
theorem d126_94 : decode (mB 126) 94 = .ok (.dup, 1) := by decide +kernel
theorem d126_95 : decode (mB 126) 95 = .ok (.getfield 344, 3) := by decide +kernel
theorem d126_98 : decode (mB 126) 98 = .ok (.iconst 1, 1) := by decide +kernel
theorem d126_99 : decode (mB 126) 99 = .ok (.iadd, 1) := by decide +kernel
theorem d126_100 : decode (mB 126) 100 = .ok (.putfield 344, 3) := by decide +kernel
theorem d126_103 : decode (mB 126) 103 = .ok (.aload_n 0, 1) := by decide +kernel
theorem d126_104 : decode (mB 126) 104 = .ok (.getfield 344, 3) := by decide +kernel
theorem d126_107 : decode (mB 126) 107 = .ok (.iconst 1, 1) := by decide +kernel
theorem d126_108 : decode (mB 126) 108 = .ok (.isub, 1) := by decide +kernel
theorem d126_109 : decode (mB 126) 109 = .ok (.ireturn, 1) := by decide +kernel
theorem d154_0 : decode (mB 154) 0 = .ok (.aload_n 0, 1) := by decide +kernel
theorem d154_1 : decode (mB 154) 1 = .ok (.getfield 13, 3) := by decide +kernel
theorem d154_4 : decode (mB 154) 4 = .ok (.ireturn, 1) := by decide +kernel
theorem d155_0 : decode (mB 155) 0 = .ok (.iload_n 1, 1) := by decide +kernel
theorem d155_1 : decode (mB 155) 1 = .ok (.ifCond .lt 11, 3) := by decide +kernel
theorem d155_4 : decode (mB 155) 4 = .ok (.iload_n 1, 1) := by decide +kernel
theorem d155_5 : decode (mB 155) 5 = .ok (.aload_n 0, 1) := by decide +kernel
theorem d155_6 : decode (mB 155) 6 = .ok (.getfield 344, 3) := by decide +kernel
theorem d155_9 : decode (mB 155) 9 = .ok (.if_icmp .lt 5, 3) := by decide +kernel
theorem d155_12 : decode (mB 155) 12 = .ok (.iconst (-1), 1) := by decide +kernel
theorem d155_13 : decode (mB 155) 13 = .ok (.ireturn, 1) := by decide +kernel
theorem d155_14 : decode (mB 155) 14 = .ok (.iload_n 2, 1) := by decide +kernel
theorem d155_15 : decode (mB 155) 15 = .ok (.ifCond .ne 12, 3) := by decide +kernel
theorem d155_18 : decode (mB 155) 18 = .ok (.aload_n 0, 1) := by decide +kernel
theorem d155_19 : decode (mB 155) 19 = .ok (.getfield 17, 3) := by decide +kernel
theorem d155_22 : decode (mB 155) 22 = .ok (.iload_n 1, 1) := by decide +kernel
theorem d155_23 : decode (mB 155) 23 = .ok (.iaload, 1) := by decide +kernel
theorem d155_24 : decode (mB 155) 24 = .ok (.goto 32, 3) := by decide +kernel
theorem d155_27 : decode (mB 155) 27 = .ok (.iload_n 2, 1) := by decide +kernel
theorem d155_28 : decode (mB 155) 28 = .ok (.iconst 1, 1) := by decide +kernel
theorem d155_29 : decode (mB 155) 29 = .ok (.if_icmp .ne 12, 3) := by decide +kernel
theorem d155_32 : decode (mB 155) 32 = .ok (.aload_n 0, 1) := by decide +kernel
theorem d155_33 : decode (mB 155) 33 = .ok (.getfield 21, 3) := by decide +kernel
theorem d155_36 : decode (mB 155) 36 = .ok (.iload_n 1, 1) := by decide +kernel
theorem d155_37 : decode (mB 155) 37 = .ok (.iaload, 1) := by decide +kernel
theorem d155_38 : decode (mB 155) 38 = .ok (.goto 18, 3) := by decide +kernel
theorem d155_41 : decode (mB 155) 41 = .ok (.iload_n 2, 1) := by decide +kernel
theorem d155_42 : decode (mB 155) 42 = .ok (.iconst 2, 1) := by decide +kernel
theorem d155_43 : decode (mB 155) 43 = .ok (.if_icmp .ne 12, 3) := by decide +kernel
theorem d155_46 : decode (mB 155) 46 = .ok (.aload_n 0, 1) := by decide +kernel
theorem d155_47 : decode (mB 155) 47 = .ok (.getfield 24, 3) := by decide +kernel
theorem d155_50 : decode (mB 155) 50 = .ok (.iload_n 1, 1) := by decide +kernel
theorem d155_51 : decode (mB 155) 51 = .ok (.iaload, 1) := by decide +kernel
theorem d155_52 : decode (mB 155) 52 = .ok (.goto 4, 3) := by decide +kernel
theorem d155_55 : decode (mB 155) 55 = .ok (.iconst (-1), 1) := by decide +kernel
theorem d155_56 : decode (mB 155) 56 = .ok (.ireturn, 1) := by decide +kernel
theorem d166_0 : decode (mB 166) 0 = .ok (.aload_n 0, 1) := by decide +kernel
theorem d166_1 : decode (mB 166) 1 = .ok (.getfield 350, 3) := by decide +kernel
theorem d166_4 : decode (mB 166) 4 = .ok (.sipush 400, 3) := by decide +kernel
theorem d166_7 : decode (mB 166) 7 = .ok (.if_icmp .ge 62, 3) := by decide +kernel
theorem d166_10 : decode (mB 166) 10 = .ok (.iload_n 2, 1) := by decide +kernel
theorem d166_11 : decode (mB 166) 11 = .ok (.bipush 6, 2) := by decide +kernel
theorem d166_13 : decode (mB 166) 13 = .ok (.if_icmp .eq 56, 3) := by decide +kernel
theorem d166_16 : decode (mB 166) 16 = .ok (.aload_n 0, 1) := by decide +kernel
theorem d166_17 : decode (mB 166) 17 = .ok (.getfield 155, 3) := by decide +kernel
theorem d166_20 : decode (mB 166) 20 = .ok (.aload_n 0, 1) := by decide +kernel
theorem d166_21 : decode (mB 166) 21 = .ok (.getfield 350, 3) := by decide +kernel
theorem d166_24 : decode (mB 166) 24 = .ok (.iload_n 1, 1) := by decide +kernel
theorem d166_25 : decode (mB 166) 25 = .ok (.iastore, 1) := by decide +kernel
theorem d166_26 : decode (mB 166) 26 = .ok (.aload_n 0, 1) := by decide +kernel
theorem d166_27 : decode (mB 166) 27 = .ok (.getfield 158, 3) := by decide +kernel
theorem d166_30 : decode (mB 166) 30 = .ok (.aload_n 0, 1) := by decide +kernel
theorem d166_31 : decode (mB 166) 31 = .ok (.getfield 350, 3) := by decide +kernel
theorem d166_34 : decode (mB 166) 34 = .ok (.iload_n 2, 1) := by decide +kernel
theorem d166_35 : decode (mB 166) 35 = .ok (.iastore, 1) := by decide +kernel
theorem d166_36 : decode (mB 166) 36 = .ok (.aload_n 0, 1) := by decide +kernel
theorem d166_37 : decode (mB 166) 37 = .ok (.getfield 161, 3) := by decide +kernel
theorem d166_40 : decode (mB 166) 40 = .ok (.aload_n 0, 1) := by decide +kernel
theorem d166_41 : decode (mB 166) 41 = .ok (.getfield 350, 3) := by decide +kernel
theorem d166_44 : decode (mB 166) 44 = .ok (.aload_n 0, 1) := by decide +kernel
theorem d166_45 : decode (mB 166) 45 = .ok (.getfield 353, 3) := by decide +kernel
theorem d166_48 : decode (mB 166) 48 = .ok (.iastore, 1) := by decide +kernel
theorem d166_49 : decode (mB 166) 49 = .ok (.aload_n 0, 1) := by decide +kernel
theorem d166_50 : decode (mB 166) 50 = .ok (.getfield 164, 3) := by decide +kernel
theorem d166_53 : decode (mB 166) 53 = .ok (.aload_n 0, 1) := by decide +kernel
theorem d166_54 : decode (mB 166) 54 = .ok (.getfield 350, 3) := by decide +kernel
theorem d166_57 : decode (mB 166) 57 = .ok (.lload_n 3, 1) := by decide +kernel
theorem d166_58 : decode (mB 166) 58 = .ok (.lastore, 1) := by decide +kernel
theorem d166_59 : decode (mB 166) 59 = .ok (.aload_n 0, 1) := by decide +kernel
theorem d166_60 : decode (mB 166) 60 = .ok (.dup, 1) := by decide +kernel
theorem d166_61 : decode (mB 166) 61 = .ok (.getfield 350, 3) := by decide +kernel
theorem d166_64 : decode (mB 166) 64 = .ok (.iconst 1, 1) := by decide +kernel
theorem d166_65 : decode (mB 166) 65 = .ok (.iadd, 1) := by decide +kernel
theorem d166_66 : decode (mB 166) 66 = .ok (.putfield 350, 3) := by decide +kernel
theorem d166_69 : decode (mB 166) 69 = .ok (.return_, 1) := by decide +kernel
theorem d173_0 : decode (mB 173) 0 = .ok (.iconst 0, 1) := by decide +kernel
theorem d173_1 : decode (mB 173) 1 = .ok (.istore_n 3, 1) := by decide +kernel
theorem d173_2 : decode (mB 173) 2 = .ok (.iload_n 2, 1) := by decide +kernel
theorem d173_3 : decode (mB 173) 3 = .ok (.istore 4, 2) := by decide +kernel
theorem d173_5 : decode (mB 173) 5 = .ok (.aload_n 0, 1) := by decide +kernel
theorem d173_6 : decode (mB 173) 6 = .ok (.getfield 58, 3) := by decide +kernel
theorem d173_9 : decode (mB 173) 9 = .ok (.iload 4, 2) := by decide +kernel
theorem d173_11 : decode (mB 173) 11 = .ok (.iaload, 1) := by decide +kernel
theorem d173_12 : decode (mB 173) 12 = .ok (.iconst 4, 1) := by decide +kernel
theorem d173_13 : decode (mB 173) 13 = .ok (.if_icmp .eq 240, 3) := by decide +kernel
theorem d173_16 : decode (mB 173) 16 = .ok (.aload_n 0, 1) := by decide +kernel
theorem d173_17 : decode (mB 173) 17 = .ok (.getfield 58, 3) := by decide +kernel
theorem d173_20 : decode (mB 173) 20 = .ok (.iload 4, 2) := by decide +kernel
theorem d173_22 : decode (mB 173) 22 = .ok (.iaload, 1) := by decide +kernel
theorem d173_23 : decode (mB 173) 23 = .ok (.istore 5, 2) := by decide +kernel
theorem d173_25 : decode (mB 173) 25 = .ok (.iload 5, 2) := by decide +kernel
theorem d173_27 : decode (mB 173) 27 = .ok (.iconst 1, 1) := by decide +kernel
theorem d173_28 : decode (mB 173) 28 = .ok (.if_icmp .ne 22, 3) := by decide +kernel
theorem d173_31 : decode (mB 173) 31 = .ok (.aload_n 0, 1) := by decide +kernel
theorem d173_32 : decode (mB 173) 32 = .ok (.getfield 167, 3) := by decide +kernel
theorem d173_35 : decode (mB 173) 35 = .ok (.iload_n 3, 1) := by decide +kernel
theorem d173_36 : decode (mB 173) 36 = .ok (.aload_n 0, 1) := by decide +kernel
theorem d173_37 : decode (mB 173) 37 = .ok (.getfield 64, 3) := by decide +kernel
theorem d173_40 : decode (mB 173) 40 = .ok (.iload 4, 2) := by decide +kernel
theorem d173_42 : decode (mB 173) 42 = .ok (.laload, 1) := by decide +kernel
theorem d173_43 : decode (mB 173) 43 = .ok (.lastore, 1) := by decide +kernel
theorem d173_44 : decode (mB 173) 44 = .ok (.iinc 3 1, 3) := by decide +kernel
theorem d173_47 : decode (mB 173) 47 = .ok (.goto 200, 3) := by decide +kernel
theorem d173_50 : decode (mB 173) 50 = .ok (.iload 5, 2) := by decide +kernel
theorem d173_52 : decode (mB 173) 52 = .ok (.iconst 2, 1) := by decide +kernel
theorem d173_53 : decode (mB 173) 53 = .ok (.if_icmp .ne 35, 3) := by decide +kernel
theorem d173_56 : decode (mB 173) 56 = .ok (.aload_n 0, 1) := by decide +kernel
theorem d173_57 : decode (mB 173) 57 = .ok (.getfield 167, 3) := by decide +kernel
theorem d173_60 : decode (mB 173) 60 = .ok (.iload_n 3, 1) := by decide +kernel
theorem d173_61 : decode (mB 173) 61 = .ok (.aload_n 0, 1) := by decide +kernel
theorem d173_62 : decode (mB 173) 62 = .ok (.getfield 104, 3) := by decide +kernel
theorem d173_65 : decode (mB 173) 65 = .ok (.bipush 10, 2) := by decide +kernel
theorem d173_67 : decode (mB 173) 67 = .ok (.iload_n 1, 1) := by decide +kernel
theorem d173_68 : decode (mB 173) 68 = .ok (.imul, 1) := by decide +kernel
theorem d173_69 : decode (mB 173) 69 = .ok (.aload_n 0, 1) := by decide +kernel
theorem d173_70 : decode (mB 173) 70 = .ok (.getfield 61, 3) := by decide +kernel
theorem d173_73 : decode (mB 173) 73 = .ok (.iload 4, 2) := by decide +kernel
theorem d173_75 : decode (mB 173) 75 = .ok (.iaload, 1) := by decide +kernel
theorem d173_76 : decode (mB 173) 76 = .ok (.iadd, 1) := by decide +kernel
theorem d173_77 : decode (mB 173) 77 = .ok (.bipush 16, 2) := by decide +kernel
theorem d173_79 : decode (mB 173) 79 = .ok (.isub, 1) := by decide +kernel
theorem d173_80 : decode (mB 173) 80 = .ok (.laload, 1) := by decide +kernel
theorem d173_81 : decode (mB 173) 81 = .ok (.lastore, 1) := by decide +kernel
theorem d173_82 : decode (mB 173) 82 = .ok (.iinc 3 1, 3) := by decide +kernel
theorem d173_85 : decode (mB 173) 85 = .ok (.goto 162, 3) := by decide +kernel
theorem d173_88 : decode (mB 173) 88 = .ok (.iload 5, 2) := by decide +kernel
theorem d173_90 : decode (mB 173) 90 = .ok (.iconst 3, 1) := by decide +kernel
theorem d173_91 : decode (mB 173) 91 = .ok (.if_icmp .ne 23, 3) := by decide +kernel
theorem d173_94 : decode (mB 173) 94 = .ok (.aload_n 0, 1) := by decide +kernel
theorem d173_95 : decode (mB 173) 95 = .ok (.getfield 167, 3) := by decide +kernel
theorem d173_98 : decode (mB 173) 98 = .ok (.iload_n 3, 1) := by decide +kernel
theorem d173_99 : decode (mB 173) 99 = .ok (.iconst 1, 1) := by decide +kernel
theorem d173_100 : decode (mB 173) 100 = .ok (.isub, 1) := by decide +kernel
theorem d173_101 : decode (mB 173) 101 = .ok (.aload_n 0, 1) := by decide +kernel
theorem d173_102 : decode (mB 173) 102 = .ok (.getfield 167, 3) := by decide +kernel
theorem d173_105 : decode (mB 173) 105 = .ok (.iload_n 3, 1) := by decide +kernel
theorem d173_106 : decode (mB 173) 106 = .ok (.iconst 1, 1) := by decide +kernel
theorem d173_107 : decode (mB 173) 107 = .ok (.isub, 1) := by decide +kernel
theorem d173_108 : decode (mB 173) 108 = .ok (.laload, 1) := by decide +kernel
theorem d173_109 : decode (mB 173) 109 = .ok (.lneg, 1) := by decide +kernel
theorem d173_110 : decode (mB 173) 110 = .ok (.lastore, 1) := by decide +kernel
theorem d173_111 : decode (mB 173) 111 = .ok (.goto 136, 3) := by decide +kernel
theorem d173_114 : decode (mB 173) 114 = .ok (.iinc 3 (-1), 3) := by decide +kernel
theorem d173_117 : decode (mB 173) 117 = .ok (.aload_n 0, 1) := by decide +kernel
theorem d173_118 : decode (mB 173) 118 = .ok (.getfield 167, 3) := by decide +kernel
theorem d173_121 : decode (mB 173) 121 = .ok (.iload_n 3, 1) := by decide +kernel
theorem d173_122 : decode (mB 173) 122 = .ok (.iconst 1, 1) := by decide +kernel
theorem d173_123 : decode (mB 173) 123 = .ok (.isub, 1) := by decide +kernel
theorem d173_124 : decode (mB 173) 124 = .ok (.laload, 1) := by decide +kernel
theorem d173_125 : decode (mB 173) 125 = .ok (.lstore 6, 2) := by decide +kernel
theorem d173_127 : decode (mB 173) 127 = .ok (.aload_n 0, 1) := by decide +kernel
theorem d173_128 : decode (mB 173) 128 = .ok (.getfield 167, 3) := by decide +kernel
theorem d173_131 : decode (mB 173) 131 = .ok (.iload_n 3, 1) := by decide +kernel
theorem d173_132 : decode (mB 173) 132 = .ok (.laload, 1) := by decide +kernel
theorem d173_133 : decode (mB 173) 133 = .ok (.lstore 8, 2) := by decide +kernel
theorem d173_135 : decode (mB 173) 135 = .ok (.aload_n 0, 1) := by decide +kernel
theorem d173_136 : decode (mB 173) 136 = .ok (.getfield 167, 3) := by decide +kernel
theorem d173_139 : decode (mB 173) 139 = .ok (.iload_n 3, 1) := by decide +kernel
theorem d173_140 : decode (mB 173) 140 = .ok (.iconst 1, 1) := by decide +kernel
theorem d173_141 : decode (mB 173) 141 = .ok (.isub, 1) := by decide +kernel
theorem d173_142 : decode (mB 173) 142 = .ok (.iload 5, 2) := by decide +kernel
theorem d173_144 : decode (mB 173) 144 = .ok (.bipush 60, 2) := by decide +kernel
theorem d173_146 : decode (mB 173) 146 = .ok (.if_icmp .ne 19, 3) := by decide +kernel
theorem d173_149 : decode (mB 173) 149 = .ok (.lload 6, 2) := by decide +kernel
theorem d173_151 : decode (mB 173) 151 = .ok (.lload 8, 2) := by decide +kernel
theorem d173_153 : decode (mB 173) 153 = .ok (.lcmp, 1) := by decide +kernel
theorem d173_154 : decode (mB 173) 154 = .ok (.ifCond .ge 7, 3) := by decide +kernel
theorem d173_157 : decode (mB 173) 157 = .ok (.lconst 1, 1) := by decide +kernel
theorem d173_158 : decode (mB 173) 158 = .ok (.goto 88, 3) := by decide +kernel
theorem d173_161 : decode (mB 173) 161 = .ok (.lconst 0, 1) := by decide +kernel
theorem d173_162 : decode (mB 173) 162 = .ok (.goto 84, 3) := by decide +kernel
theorem d173_165 : decode (mB 173) 165 = .ok (.iload 5, 2) := by decide +kernel
theorem d173_167 : decode (mB 173) 167 = .ok (.bipush 61, 2) := by decide +kernel
theorem d173_169 : decode (mB 173) 169 = .ok (.if_icmp .ne 19, 3) := by decide +kernel
theorem d173_172 : decode (mB 173) 172 = .ok (.lload 6, 2) := by decide +kernel
theorem d173_174 : decode (mB 173) 174 = .ok (.lload 8, 2) := by decide +kernel
theorem d173_176 : decode (mB 173) 176 = .ok (.lcmp, 1) := by decide +kernel
theorem d173_177 : decode (mB 173) 177 = .ok (.ifCond .ne 7, 3) := by decide +kernel
theorem d173_180 : decode (mB 173) 180 = .ok (.lconst 1, 1) := by decide +kernel
theorem d173_181 : decode (mB 173) 181 = .ok (.goto 65, 3) := by decide +kernel
theorem d173_184 : decode (mB 173) 184 = .ok (.lconst 0, 1) := by decide +kernel
theorem d173_185 : decode (mB 173) 185 = .ok (.goto 61, 3) := by decide +kernel
theorem d173_188 : decode (mB 173) 188 = .ok (.iload 5, 2) := by decide +kernel
theorem d173_190 : decode (mB 173) 190 = .ok (.bipush 35, 2) := by decide +kernel
theorem d173_192 : decode (mB 173) 192 = .ok (.if_icmp .ne 19, 3) := by decide +kernel
theorem d173_195 : decode (mB 173) 195 = .ok (.lload 6, 2) := by decide +kernel
theorem d173_197 : decode (mB 173) 197 = .ok (.lload 8, 2) := by decide +kernel
theorem d173_199 : decode (mB 173) 199 = .ok (.lcmp, 1) := by decide +kernel
theorem d173_200 : decode (mB 173) 200 = .ok (.ifCond .eq 7, 3) := by decide +kernel
theorem d173_203 : decode (mB 173) 203 = .ok (.lconst 1, 1) := by decide +kernel
theorem d173_204 : decode (mB 173) 204 = .ok (.goto 42, 3) := by decide +kernel
theorem d173_207 : decode (mB 173) 207 = .ok (.lconst 0, 1) := by decide +kernel
theorem d173_208 : decode (mB 173) 208 = .ok (.goto 38, 3) := by decide +kernel
theorem d173_211 : decode (mB 173) 211 = .ok (.iload 5, 2) := by decide +kernel
theorem d173_213 : decode (mB 173) 213 = .ok (.bipush 43, 2) := by decide +kernel
theorem d173_215 : decode (mB 173) 215 = .ok (.if_icmp .ne 11, 3) := by decide +kernel
theorem d173_218 : decode (mB 173) 218 = .ok (.lload 6, 2) := by decide +kernel
theorem d173_220 : decode (mB 173) 220 = .ok (.lload 8, 2) := by decide +kernel
theorem d173_222 : decode (mB 173) 222 = .ok (.ladd, 1) := by decide +kernel
theorem d173_223 : decode (mB 173) 223 = .ok (.goto 23, 3) := by decide +kernel
theorem d173_226 : decode (mB 173) 226 = .ok (.iload 5, 2) := by decide +kernel
theorem d173_228 : decode (mB 173) 228 = .ok (.bipush 45, 2) := by decide +kernel
theorem d173_230 : decode (mB 173) 230 = .ok (.if_icmp .ne 11, 3) := by decide +kernel
theorem d173_233 : decode (mB 173) 233 = .ok (.lload 6, 2) := by decide +kernel
theorem d173_235 : decode (mB 173) 235 = .ok (.lload 8, 2) := by decide +kernel
theorem d173_237 : decode (mB 173) 237 = .ok (.lsub, 1) := by decide +kernel
theorem d173_238 : decode (mB 173) 238 = .ok (.goto 8, 3) := by decide +kernel
theorem d173_241 : decode (mB 173) 241 = .ok (.lload 6, 2) := by decide +kernel
theorem d173_243 : decode (mB 173) 243 = .ok (.lload 8, 2) := by decide +kernel
theorem d173_245 : decode (mB 173) 245 = .ok (.lmul, 1) := by decide +kernel
theorem d173_246 : decode (mB 173) 246 = .ok (.lastore, 1) := by decide +kernel
theorem d173_247 : decode (mB 173) 247 = .ok (.iinc 4 1, 3) := by decide +kernel
theorem d173_250 : decode (mB 173) 250 = .ok (.goto (-245), 3) := by decide +kernel
theorem d173_253 : decode (mB 173) 253 = .ok (.aload_n 0, 1) := by decide +kernel
theorem d173_254 : decode (mB 173) 254 = .ok (.getfield 167, 3) := by decide +kernel
theorem d173_257 : decode (mB 173) 257 = .ok (.iconst 0, 1) := by decide +kernel
theorem d173_258 : decode (mB 173) 258 = .ok (.laload, 1) := by decide +kernel
theorem d173_259 : decode (mB 173) 259 = .ok (.lreturn, 1) := by decide +kernel
theorem d161_0 : decode (mB 161) 0 = .ok (.bipush 32, 2) := by decide +kernel
theorem d161_2 : decode (mB 161) 2 = .ok (.iload_n 1, 1) := by decide +kernel
theorem d161_3 : decode (mB 161) 3 = .ok (.imul, 1) := by decide +kernel
theorem d161_4 : decode (mB 161) 4 = .ok (.aload_n 0, 1) := by decide +kernel
theorem d161_5 : decode (mB 161) 5 = .ok (.getfield 134, 3) := by decide +kernel
theorem d161_8 : decode (mB 161) 8 = .ok (.iload_n 1, 1) := by decide +kernel
theorem d161_9 : decode (mB 161) 9 = .ok (.iaload, 1) := by decide +kernel
theorem d161_10 : decode (mB 161) 10 = .ok (.iadd, 1) := by decide +kernel
theorem d161_11 : decode (mB 161) 11 = .ok (.istore 7, 2) := by decide +kernel
theorem d161_13 : decode (mB 161) 13 = .ok (.aload_n 0, 1) := by decide +kernel
theorem d161_14 : decode (mB 161) 14 = .ok (.getfield 137, 3) := by decide +kernel
theorem d161_17 : decode (mB 161) 17 = .ok (.iload 7, 2) := by decide +kernel
theorem d161_19 : decode (mB 161) 19 = .ok (.iload_n 2, 1) := by decide +kernel
theorem d161_20 : decode (mB 161) 20 = .ok (.iastore, 1) := by decide +kernel
theorem d161_21 : decode (mB 161) 21 = .ok (.aload_n 0, 1) := by decide +kernel
theorem d161_22 : decode (mB 161) 22 = .ok (.getfield 140, 3) := by decide +kernel
theorem d161_25 : decode (mB 161) 25 = .ok (.iload 7, 2) := by decide +kernel
theorem d161_27 : decode (mB 161) 27 = .ok (.lload_n 3, 1) := by decide +kernel
theorem d161_28 : decode (mB 161) 28 = .ok (.lastore, 1) := by decide +kernel
theorem d161_29 : decode (mB 161) 29 = .ok (.aload_n 0, 1) := by decide +kernel
theorem d161_30 : decode (mB 161) 30 = .ok (.getfield 143, 3) := by decide +kernel
theorem d161_33 : decode (mB 161) 33 = .ok (.iload 7, 2) := by decide +kernel
theorem d161_35 : decode (mB 161) 35 = .ok (.iload 5, 2) := by decide +kernel
theorem d161_37 : decode (mB 161) 37 = .ok (.iastore, 1) := by decide +kernel
theorem d161_38 : decode (mB 161) 38 = .ok (.aload_n 0, 1) := by decide +kernel
theorem d161_39 : decode (mB 161) 39 = .ok (.getfield 146, 3) := by decide +kernel
theorem d161_42 : decode (mB 161) 42 = .ok (.iload 7, 2) := by decide +kernel
theorem d161_44 : decode (mB 161) 44 = .ok (.iload 6, 2) := by decide +kernel
theorem d161_46 : decode (mB 161) 46 = .ok (.iastore, 1) := by decide +kernel
theorem d161_47 : decode (mB 161) 47 = .ok (.aload_n 0, 1) := by decide +kernel
theorem d161_48 : decode (mB 161) 48 = .ok (.getfield 134, 3) := by decide +kernel
theorem d161_51 : decode (mB 161) 51 = .ok (.iload_n 1, 1) := by decide +kernel
theorem d161_52 : decode (mB 161) 52 = .ok (.dup2, 1) := by decide +kernel
theorem d161_53 : decode (mB 161) 53 = .ok (.iaload, 1) := by decide +kernel
theorem d161_54 : decode (mB 161) 54 = .ok (.iconst 1, 1) := by decide +kernel
theorem d161_55 : decode (mB 161) 55 = .ok (.iadd, 1) := by decide +kernel
theorem d161_56 : decode (mB 161) 56 = .ok (.iastore, 1) := by decide +kernel
theorem d161_57 : decode (mB 161) 57 = .ok (.return_, 1) := by decide +kernel
theorem d165_0 : decode (mB 165) 0 = .ok (.aload_n 0, 1) := by decide +kernel
theorem d165_1 : decode (mB 165) 1 = .ok (.getfield 134, 3) := by decide +kernel
theorem d165_4 : decode (mB 165) 4 = .ok (.iload_n 1, 1) := by decide +kernel
theorem d165_5 : decode (mB 165) 5 = .ok (.dup2, 1) := by decide +kernel
theorem d165_6 : decode (mB 165) 6 = .ok (.iaload, 1) := by decide +kernel
theorem d165_7 : decode (mB 165) 7 = .ok (.iconst 1, 1) := by decide +kernel
theorem d165_8 : decode (mB 165) 8 = .ok (.isub, 1) := by decide +kernel
theorem d165_9 : decode (mB 165) 9 = .ok (.iastore, 1) := by decide +kernel
theorem d165_10 : decode (mB 165) 10 = .ok (.iload_n 2, 1) := by decide +kernel
theorem d165_11 : decode (mB 165) 11 = .ok (.istore_n 3, 1) := by decide +kernel
theorem d165_12 : decode (mB 165) 12 = .ok (.iload_n 3, 1) := by decide +kernel
theorem d165_13 : decode (mB 165) 13 = .ok (.aload_n 0, 1) := by decide +kernel
theorem d165_14 : decode (mB 165) 14 = .ok (.getfield 134, 3) := by decide +kernel
theorem d165_17 : decode (mB 165) 17 = .ok (.iload_n 1, 1) := by decide +kernel
theorem d165_18 : decode (mB 165) 18 = .ok (.iaload, 1) := by decide +kernel
theorem d165_19 : decode (mB 165) 19 = .ok (.if_icmp .ge 81, 3) := by decide +kernel
theorem d165_22 : decode (mB 165) 22 = .ok (.bipush 32, 2) := by decide +kernel
theorem d165_24 : decode (mB 165) 24 = .ok (.iload_n 1, 1) := by decide +kernel
theorem d165_25 : decode (mB 165) 25 = .ok (.imul, 1) := by decide +kernel
theorem d165_26 : decode (mB 165) 26 = .ok (.iload_n 3, 1) := by decide +kernel
theorem d165_27 : decode (mB 165) 27 = .ok (.iadd, 1) := by decide +kernel
theorem d165_28 : decode (mB 165) 28 = .ok (.istore 4, 2) := by decide +kernel
theorem d165_30 : decode (mB 165) 30 = .ok (.aload_n 0, 1) := by decide +kernel
theorem d165_31 : decode (mB 165) 31 = .ok (.getfield 137, 3) := by decide +kernel
theorem d165_34 : decode (mB 165) 34 = .ok (.iload 4, 2) := by decide +kernel
theorem d165_36 : decode (mB 165) 36 = .ok (.aload_n 0, 1) := by decide +kernel
theorem d165_37 : decode (mB 165) 37 = .ok (.getfield 137, 3) := by decide +kernel
theorem d165_40 : decode (mB 165) 40 = .ok (.iload 4, 2) := by decide +kernel
theorem d165_42 : decode (mB 165) 42 = .ok (.iconst 1, 1) := by decide +kernel
theorem d165_43 : decode (mB 165) 43 = .ok (.iadd, 1) := by decide +kernel
theorem d165_44 : decode (mB 165) 44 = .ok (.iaload, 1) := by decide +kernel
theorem d165_45 : decode (mB 165) 45 = .ok (.iastore, 1) := by decide +kernel
theorem d165_46 : decode (mB 165) 46 = .ok (.aload_n 0, 1) := by decide +kernel
theorem d165_47 : decode (mB 165) 47 = .ok (.getfield 140, 3) := by decide +kernel
theorem d165_50 : decode (mB 165) 50 = .ok (.iload 4, 2) := by decide +kernel
theorem d165_52 : decode (mB 165) 52 = .ok (.aload_n 0, 1) := by decide +kernel
theorem d165_53 : decode (mB 165) 53 = .ok (.getfield 140, 3) := by decide +kernel
theorem d165_56 : decode (mB 165) 56 = .ok (.iload 4, 2) := by decide +kernel
theorem d165_58 : decode (mB 165) 58 = .ok (.iconst 1, 1) := by decide +kernel
theorem d165_59 : decode (mB 165) 59 = .ok (.iadd, 1) := by decide +kernel
theorem d165_60 : decode (mB 165) 60 = .ok (.laload, 1) := by decide +kernel
theorem d165_61 : decode (mB 165) 61 = .ok (.lastore, 1) := by decide +kernel
theorem d165_62 : decode (mB 165) 62 = .ok (.aload_n 0, 1) := by decide +kernel
theorem d165_63 : decode (mB 165) 63 = .ok (.getfield 143, 3) := by decide +kernel
theorem d165_66 : decode (mB 165) 66 = .ok (.iload 4, 2) := by decide +kernel
theorem d165_68 : decode (mB 165) 68 = .ok (.aload_n 0, 1) := by decide +kernel
theorem d165_69 : decode (mB 165) 69 = .ok (.getfield 143, 3) := by decide +kernel
theorem d165_72 : decode (mB 165) 72 = .ok (.iload 4, 2) := by decide +kernel
theorem d165_74 : decode (mB 165) 74 = .ok (.iconst 1, 1) := by decide +kernel
theorem d165_75 : decode (mB 165) 75 = .ok (.iadd, 1) := by decide +kernel
theorem d165_76 : decode (mB 165) 76 = .ok (.iaload, 1) := by decide +kernel
theorem d165_77 : decode (mB 165) 77 = .ok (.iastore, 1) := by decide +kernel
theorem d165_78 : decode (mB 165) 78 = .ok (.aload_n 0, 1) := by decide +kernel
theorem d165_79 : decode (mB 165) 79 = .ok (.getfield 146, 3) := by decide +kernel
theorem d165_82 : decode (mB 165) 82 = .ok (.iload 4, 2) := by decide +kernel
theorem d165_84 : decode (mB 165) 84 = .ok (.aload_n 0, 1) := by decide +kernel
theorem d165_85 : decode (mB 165) 85 = .ok (.getfield 146, 3) := by decide +kernel
theorem d165_88 : decode (mB 165) 88 = .ok (.iload 4, 2) := by decide +kernel
theorem d165_90 : decode (mB 165) 90 = .ok (.iconst 1, 1) := by decide +kernel
theorem d165_91 : decode (mB 165) 91 = .ok (.iadd, 1) := by decide +kernel
theorem d165_92 : decode (mB 165) 92 = .ok (.iaload, 1) := by decide +kernel
theorem d165_93 : decode (mB 165) 93 = .ok (.iastore, 1) := by decide +kernel
theorem d165_94 : decode (mB 165) 94 = .ok (.iinc 3 1, 3) := by decide +kernel
theorem d165_97 : decode (mB 165) 97 = .ok (.goto (-85), 3) := by decide +kernel
theorem d165_100 : decode (mB 165) 100 = .ok (.return_, 1) := by decide +kernel
theorem d176_0 : decode (mB 176) 0 = .ok (.iconst 0, 1) := by decide +kernel
theorem d176_1 : decode (mB 176) 1 = .ok (.istore_n 3, 1) := by decide +kernel
theorem d176_2 : decode (mB 176) 2 = .ok (.iconst 0, 1) := by decide +kernel
theorem d176_3 : decode (mB 176) 3 = .ok (.istore 4, 2) := by decide +kernel
theorem d176_5 : decode (mB 176) 5 = .ok (.iload 4, 2) := by decide +kernel
theorem d176_7 : decode (mB 176) 7 = .ok (.aload_n 0, 1) := by decide +kernel
theorem d176_8 : decode (mB 176) 8 = .ok (.getfield 134, 3) := by decide +kernel
theorem d176_11 : decode (mB 176) 11 = .ok (.iload_n 1, 1) := by decide +kernel
theorem d176_12 : decode (mB 176) 12 = .ok (.iaload, 1) := by decide +kernel
theorem d176_13 : decode (mB 176) 13 = .ok (.if_icmp .ge 35, 3) := by decide +kernel
theorem d176_16 : decode (mB 176) 16 = .ok (.iload_n 3, 1) := by decide +kernel
theorem d176_17 : decode (mB 176) 17 = .ok (.ifCond .ne 19, 3) := by decide +kernel
theorem d176_20 : decode (mB 176) 20 = .ok (.aload_n 0, 1) := by decide +kernel
theorem d176_21 : decode (mB 176) 21 = .ok (.getfield 146, 3) := by decide +kernel
theorem d176_24 : decode (mB 176) 24 = .ok (.bipush 32, 2) := by decide +kernel
theorem d176_26 : decode (mB 176) 26 = .ok (.iload_n 1, 1) := by decide +kernel
theorem d176_27 : decode (mB 176) 27 = .ok (.imul, 1) := by decide +kernel
theorem d176_28 : decode (mB 176) 28 = .ok (.iload 4, 2) := by decide +kernel
theorem d176_30 : decode (mB 176) 30 = .ok (.iadd, 1) := by decide +kernel
theorem d176_31 : decode (mB 176) 31 = .ok (.iaload, 1) := by decide +kernel
theorem d176_32 : decode (mB 176) 32 = .ok (.iload_n 2, 1) := by decide +kernel
theorem d176_33 : decode (mB 176) 33 = .ok (.if_icmp .ne 7, 3) := by decide +kernel
theorem d176_36 : decode (mB 176) 36 = .ok (.iconst 1, 1) := by decide +kernel
theorem d176_37 : decode (mB 176) 37 = .ok (.goto 4, 3) := by decide +kernel
theorem d176_40 : decode (mB 176) 40 = .ok (.iconst 0, 1) := by decide +kernel
theorem d176_41 : decode (mB 176) 41 = .ok (.istore_n 3, 1) := by decide +kernel
theorem d176_42 : decode (mB 176) 42 = .ok (.iinc 4 1, 3) := by decide +kernel
theorem d176_45 : decode (mB 176) 45 = .ok (.goto (-40), 3) := by decide +kernel
theorem d176_48 : decode (mB 176) 48 = .ok (.iload_n 3, 1) := by decide +kernel
theorem d176_49 : decode (mB 176) 49 = .ok (.ireturn, 1) := by decide +kernel
theorem d170_0 : decode (mB 170) 0 = .ok (.aload_n 0, 1) := by decide +kernel
theorem d170_1 : decode (mB 170) 1 = .ok (.getfield 134, 3) := by decide +kernel
theorem d170_4 : decode (mB 170) 4 = .ok (.iload_n 1, 1) := by decide +kernel
theorem d170_5 : decode (mB 170) 5 = .ok (.iaload, 1) := by decide +kernel
theorem d170_6 : decode (mB 170) 6 = .ok (.iconst 1, 1) := by decide +kernel
theorem d170_7 : decode (mB 170) 7 = .ok (.isub, 1) := by decide +kernel
theorem d170_8 : decode (mB 170) 8 = .ok (.istore_n 3, 1) := by decide +kernel
theorem d170_9 : decode (mB 170) 9 = .ok (.iload_n 3, 1) := by decide +kernel
theorem d170_10 : decode (mB 170) 10 = .ok (.ifCond .lt 30, 3) := by decide +kernel
theorem d170_13 : decode (mB 170) 13 = .ok (.aload_n 0, 1) := by decide +kernel
theorem d170_14 : decode (mB 170) 14 = .ok (.getfield 146, 3) := by decide +kernel
theorem d170_17 : decode (mB 170) 17 = .ok (.bipush 32, 2) := by decide +kernel
theorem d170_19 : decode (mB 170) 19 = .ok (.iload_n 1, 1) := by decide +kernel
theorem d170_20 : decode (mB 170) 20 = .ok (.imul, 1) := by decide +kernel
theorem d170_21 : decode (mB 170) 21 = .ok (.iload_n 3, 1) := by decide +kernel
theorem d170_22 : decode (mB 170) 22 = .ok (.iadd, 1) := by decide +kernel
theorem d170_23 : decode (mB 170) 23 = .ok (.iaload, 1) := by decide +kernel
theorem d170_24 : decode (mB 170) 24 = .ok (.iload_n 2, 1) := by decide +kernel
theorem d170_25 : decode (mB 170) 25 = .ok (.if_icmp .ne 9, 3) := by decide +kernel
theorem d170_28 : decode (mB 170) 28 = .ok (.aload_n 0, 1) := by decide +kernel
theorem d170_29 : decode (mB 170) 29 = .ok (.iload_n 1, 1) := by decide +kernel
theorem d170_30 : decode (mB 170) 30 = .ok (.iload_n 3, 1) := by decide +kernel
theorem d170_31 : decode (mB 170) 31 = .ok (.invokevirtual 356, 3) := by decide +kernel
theorem d170_34 : decode (mB 170) 34 = .ok (.iinc 3 (-1), 3) := by decide +kernel
theorem d170_37 : decode (mB 170) 37 = .ok (.goto (-28), 3) := by decide +kernel
theorem d170_40 : decode (mB 170) 40 = .ok (.return_, 1) := by decide +kernel
theorem d167_0 : decode (mB 167) 0 = .ok (.bipush 9, 2) := by decide +kernel
theorem d167_2 : decode (mB 167) 2 = .ok (.iload_n 1, 1) := by decide +kernel
theorem d167_3 : decode (mB 167) 3 = .ok (.imul, 1) := by decide +kernel
theorem d167_4 : decode (mB 167) 4 = .ok (.aload_n 0, 1) := by decide +kernel
theorem d167_5 : decode (mB 167) 5 = .ok (.getfield 107, 3) := by decide +kernel
theorem d167_8 : decode (mB 167) 8 = .ok (.iload_n 1, 1) := by decide +kernel
theorem d167_9 : decode (mB 167) 9 = .ok (.iaload, 1) := by decide +kernel
theorem d167_10 : decode (mB 167) 10 = .ok (.iadd, 1) := by decide +kernel
theorem d167_11 : decode (mB 167) 11 = .ok (.istore 5, 2) := by decide +kernel
theorem d167_13 : decode (mB 167) 13 = .ok (.aload_n 0, 1) := by decide +kernel
theorem d167_14 : decode (mB 167) 14 = .ok (.getfield 107, 3) := by decide +kernel
theorem d167_17 : decode (mB 167) 17 = .ok (.iload_n 1, 1) := by decide +kernel
theorem d167_18 : decode (mB 167) 18 = .ok (.dup2, 1) := by decide +kernel
theorem d167_19 : decode (mB 167) 19 = .ok (.iaload, 1) := by decide +kernel
theorem d167_20 : decode (mB 167) 20 = .ok (.iconst 1, 1) := by decide +kernel
theorem d167_21 : decode (mB 167) 21 = .ok (.iadd, 1) := by decide +kernel
theorem d167_22 : decode (mB 167) 22 = .ok (.iastore, 1) := by decide +kernel
theorem d167_23 : decode (mB 167) 23 = .ok (.aload_n 0, 1) := by decide +kernel
theorem d167_24 : decode (mB 167) 24 = .ok (.getfield 110, 3) := by decide +kernel
theorem d167_27 : decode (mB 167) 27 = .ok (.iload 5, 2) := by decide +kernel
theorem d167_29 : decode (mB 167) 29 = .ok (.iload_n 2, 1) := by decide +kernel
theorem d167_30 : decode (mB 167) 30 = .ok (.iastore, 1) := by decide +kernel
theorem d167_31 : decode (mB 167) 31 = .ok (.aload_n 0, 1) := by decide +kernel
theorem d167_32 : decode (mB 167) 32 = .ok (.getfield 113, 3) := by decide +kernel
theorem d167_35 : decode (mB 167) 35 = .ok (.iload 5, 2) := by decide +kernel
theorem d167_37 : decode (mB 167) 37 = .ok (.iload_n 3, 1) := by decide +kernel
theorem d167_38 : decode (mB 167) 38 = .ok (.iastore, 1) := by decide +kernel
theorem d167_39 : decode (mB 167) 39 = .ok (.aload_n 0, 1) := by decide +kernel
theorem d167_40 : decode (mB 167) 40 = .ok (.getfield 116, 3) := by decide +kernel
theorem d167_43 : decode (mB 167) 43 = .ok (.iload 5, 2) := by decide +kernel
theorem d167_45 : decode (mB 167) 45 = .ok (.aload_n 0, 1) := by decide +kernel
theorem d167_46 : decode (mB 167) 46 = .ok (.getfield 95, 3) := by decide +kernel
theorem d167_49 : decode (mB 167) 49 = .ok (.iload_n 1, 1) := by decide +kernel
theorem d167_50 : decode (mB 167) 50 = .ok (.iaload, 1) := by decide +kernel
theorem d167_51 : decode (mB 167) 51 = .ok (.iastore, 1) := by decide +kernel
theorem d167_52 : decode (mB 167) 52 = .ok (.aload_n 0, 1) := by decide +kernel
theorem d167_53 : decode (mB 167) 53 = .ok (.getfield 119, 3) := by decide +kernel
theorem d167_56 : decode (mB 167) 56 = .ok (.iload 5, 2) := by decide +kernel
theorem d167_58 : decode (mB 167) 58 = .ok (.aload_n 0, 1) := by decide +kernel
theorem d167_59 : decode (mB 167) 59 = .ok (.getfield 33, 3) := by decide +kernel
theorem d167_62 : decode (mB 167) 62 = .ok (.iload_n 2, 1) := by decide +kernel
theorem d167_63 : decode (mB 167) 63 = .ok (.iaload, 1) := by decide +kernel
theorem d167_64 : decode (mB 167) 64 = .ok (.bipush 18, 2) := by decide +kernel
theorem d167_66 : decode (mB 167) 66 = .ok (.if_icmp .ne 23, 3) := by decide +kernel
theorem d167_69 : decode (mB 167) 69 = .ok (.iload_n 3, 1) := by decide +kernel
theorem d167_70 : decode (mB 167) 70 = .ok (.ifCond .ne 19, 3) := by decide +kernel
theorem d167_73 : decode (mB 167) 73 = .ok (.aload_n 0, 1) := by decide +kernel
theorem d167_74 : decode (mB 167) 74 = .ok (.getfield 353, 3) := by decide +kernel
theorem d167_77 : decode (mB 167) 77 = .ok (.i2l, 1) := by decide +kernel
theorem d167_78 : decode (mB 167) 78 = .ok (.aload_n 0, 1) := by decide +kernel
theorem d167_79 : decode (mB 167) 79 = .ok (.getfield 55, 3) := by decide +kernel
theorem d167_82 : decode (mB 167) 82 = .ok (.iload_n 2, 1) := by decide +kernel
theorem d167_83 : decode (mB 167) 83 = .ok (.iaload, 1) := by decide +kernel
theorem d167_84 : decode (mB 167) 84 = .ok (.i2l, 1) := by decide +kernel
theorem d167_85 : decode (mB 167) 85 = .ok (.ladd, 1) := by decide +kernel
theorem d167_86 : decode (mB 167) 86 = .ok (.goto 6, 3) := by decide +kernel
theorem d167_89 : decode (mB 167) 89 = .ok (.ldc2_w 359, 3) := by decide +kernel
theorem d167_92 : decode (mB 167) 92 = .ok (.lastore, 1) := by decide +kernel
theorem d167_93 : decode (mB 167) 93 = .ok (.aload_n 0, 1) := by decide +kernel
theorem d167_94 : decode (mB 167) 94 = .ok (.getfield 122, 3) := by decide +kernel
theorem d167_97 : decode (mB 167) 97 = .ok (.iload 5, 2) := by decide +kernel
theorem d167_99 : decode (mB 167) 99 = .ok (.iconst 0, 1) := by decide +kernel
theorem d167_100 : decode (mB 167) 100 = .ok (.bastore, 1) := by decide +kernel
theorem d167_101 : decode (mB 167) 101 = .ok (.aload_n 0, 1) := by decide +kernel
theorem d167_102 : decode (mB 167) 102 = .ok (.getfield 125, 3) := by decide +kernel
theorem d167_105 : decode (mB 167) 105 = .ok (.iload 5, 2) := by decide +kernel
theorem d167_107 : decode (mB 167) 107 = .ok (.iconst 0, 1) := by decide +kernel
theorem d167_108 : decode (mB 167) 108 = .ok (.iastore, 1) := by decide +kernel
theorem d167_109 : decode (mB 167) 109 = .ok (.aload_n 0, 1) := by decide +kernel
theorem d167_110 : decode (mB 167) 110 = .ok (.getfield 95, 3) := by decide +kernel
theorem d167_113 : decode (mB 167) 113 = .ok (.iload_n 1, 1) := by decide +kernel
theorem d167_114 : decode (mB 167) 114 = .ok (.iload 4, 2) := by decide +kernel
theorem d167_116 : decode (mB 167) 116 = .ok (.iastore, 1) := by decide +kernel
theorem d167_117 : decode (mB 167) 117 = .ok (.aload_n 0, 1) := by decide +kernel
theorem d167_118 : decode (mB 167) 118 = .ok (.getfield 92, 3) := by decide +kernel
theorem d167_121 : decode (mB 167) 121 = .ok (.iload_n 1, 1) := by decide +kernel
theorem d167_122 : decode (mB 167) 122 = .ok (.aload_n 0, 1) := by decide +kernel
theorem d167_123 : decode (mB 167) 123 = .ok (.getfield 42, 3) := by decide +kernel
theorem d167_126 : decode (mB 167) 126 = .ok (.iconst 3, 1) := by decide +kernel
theorem d167_127 : decode (mB 167) 127 = .ok (.iload_n 2, 1) := by decide +kernel
theorem d167_128 : decode (mB 167) 128 = .ok (.imul, 1) := by decide +kernel
theorem d167_129 : decode (mB 167) 129 = .ok (.iload_n 3, 1) := by decide +kernel
theorem d167_130 : decode (mB 167) 130 = .ok (.iadd, 1) := by decide +kernel
theorem d167_131 : decode (mB 167) 131 = .ok (.iaload, 1) := by decide +kernel
theorem d167_132 : decode (mB 167) 132 = .ok (.iastore, 1) := by decide +kernel
theorem d167_133 : decode (mB 167) 133 = .ok (.return_, 1) := by decide +kernel
theorem d164_0 : decode (mB 164) 0 = .ok (.aload_n 0, 1) := by decide +kernel
theorem d164_1 : decode (mB 164) 1 = .ok (.getfield 107, 3) := by decide +kernel
theorem d164_4 : decode (mB 164) 4 = .ok (.iload_n 1, 1) := by decide +kernel
theorem d164_5 : decode (mB 164) 5 = .ok (.dup2, 1) := by decide +kernel
theorem d164_6 : decode (mB 164) 6 = .ok (.iaload, 1) := by decide +kernel
theorem d164_7 : decode (mB 164) 7 = .ok (.iconst 1, 1) := by decide +kernel
theorem d164_8 : decode (mB 164) 8 = .ok (.isub, 1) := by decide +kernel
theorem d164_9 : decode (mB 164) 9 = .ok (.iastore, 1) := by decide +kernel
theorem d164_10 : decode (mB 164) 10 = .ok (.bipush 9, 2) := by decide +kernel
theorem d164_12 : decode (mB 164) 12 = .ok (.iload_n 1, 1) := by decide +kernel
theorem d164_13 : decode (mB 164) 13 = .ok (.imul, 1) := by decide +kernel
theorem d164_14 : decode (mB 164) 14 = .ok (.aload_n 0, 1) := by decide +kernel
theorem d164_15 : decode (mB 164) 15 = .ok (.getfield 107, 3) := by decide +kernel
theorem d164_18 : decode (mB 164) 18 = .ok (.iload_n 1, 1) := by decide +kernel
theorem d164_19 : decode (mB 164) 19 = .ok (.iaload, 1) := by decide +kernel
theorem d164_20 : decode (mB 164) 20 = .ok (.iadd, 1) := by decide +kernel
theorem d164_21 : decode (mB 164) 21 = .ok (.istore_n 2, 1) := by decide +kernel
theorem d164_22 : decode (mB 164) 22 = .ok (.aload_n 0, 1) := by decide +kernel
theorem d164_23 : decode (mB 164) 23 = .ok (.getfield 95, 3) := by decide +kernel
theorem d164_26 : decode (mB 164) 26 = .ok (.iload_n 1, 1) := by decide +kernel
theorem d164_27 : decode (mB 164) 27 = .ok (.aload_n 0, 1) := by decide +kernel
theorem d164_28 : decode (mB 164) 28 = .ok (.getfield 116, 3) := by decide +kernel
theorem d164_31 : decode (mB 164) 31 = .ok (.iload_n 2, 1) := by decide +kernel
theorem d164_32 : decode (mB 164) 32 = .ok (.iaload, 1) := by decide +kernel
theorem d164_33 : decode (mB 164) 33 = .ok (.iastore, 1) := by decide +kernel
theorem d164_34 : decode (mB 164) 34 = .ok (.aload_n 0, 1) := by decide +kernel
theorem d164_35 : decode (mB 164) 35 = .ok (.getfield 33, 3) := by decide +kernel
theorem d164_38 : decode (mB 164) 38 = .ok (.aload_n 0, 1) := by decide +kernel
theorem d164_39 : decode (mB 164) 39 = .ok (.getfield 110, 3) := by decide +kernel
theorem d164_42 : decode (mB 164) 42 = .ok (.iload_n 2, 1) := by decide +kernel
theorem d164_43 : decode (mB 164) 43 = .ok (.iaload, 1) := by decide +kernel
theorem d164_44 : decode (mB 164) 44 = .ok (.iaload, 1) := by decide +kernel
theorem d164_45 : decode (mB 164) 45 = .ok (.bipush 18, 2) := by decide +kernel
theorem d164_47 : decode (mB 164) 47 = .ok (.if_icmp .ne 73, 3) := by decide +kernel
theorem d164_50 : decode (mB 164) 50 = .ok (.aload_n 0, 1) := by decide +kernel
theorem d164_51 : decode (mB 164) 51 = .ok (.getfield 113, 3) := by decide +kernel
theorem d164_54 : decode (mB 164) 54 = .ok (.iload_n 2, 1) := by decide +kernel
theorem d164_55 : decode (mB 164) 55 = .ok (.iaload, 1) := by decide +kernel
theorem d164_56 : decode (mB 164) 56 = .ok (.ifCond .ne 64, 3) := by decide +kernel
theorem d164_59 : decode (mB 164) 59 = .ok (.aload_n 0, 1) := by decide +kernel
theorem d164_60 : decode (mB 164) 60 = .ok (.getfield 134, 3) := by decide +kernel
theorem d164_63 : decode (mB 164) 63 = .ok (.iload_n 1, 1) := by decide +kernel
theorem d164_64 : decode (mB 164) 64 = .ok (.iaload, 1) := by decide +kernel
theorem d164_65 : decode (mB 164) 65 = .ok (.iconst 1, 1) := by decide +kernel
theorem d164_66 : decode (mB 164) 66 = .ok (.isub, 1) := by decide +kernel
theorem d164_67 : decode (mB 164) 67 = .ok (.istore_n 3, 1) := by decide +kernel
theorem d164_68 : decode (mB 164) 68 = .ok (.iload_n 3, 1) := by decide +kernel
theorem d164_69 : decode (mB 164) 69 = .ok (.ifCond .lt 51, 3) := by decide +kernel
theorem d164_72 : decode (mB 164) 72 = .ok (.aload_n 0, 1) := by decide +kernel
theorem d164_73 : decode (mB 164) 73 = .ok (.getfield 137, 3) := by decide +kernel
theorem d164_76 : decode (mB 164) 76 = .ok (.bipush 32, 2) := by decide +kernel
theorem d164_78 : decode (mB 164) 78 = .ok (.iload_n 1, 1) := by decide +kernel
theorem d164_79 : decode (mB 164) 79 = .ok (.imul, 1) := by decide +kernel
theorem d164_80 : decode (mB 164) 80 = .ok (.iload_n 3, 1) := by decide +kernel
theorem d164_81 : decode (mB 164) 81 = .ok (.iadd, 1) := by decide +kernel
theorem d164_82 : decode (mB 164) 82 = .ok (.iaload, 1) := by decide +kernel
theorem d164_83 : decode (mB 164) 83 = .ok (.bipush 7, 2) := by decide +kernel
theorem d164_85 : decode (mB 164) 85 = .ok (.if_icmp .ne 29, 3) := by decide +kernel
theorem d164_88 : decode (mB 164) 88 = .ok (.aload_n 0, 1) := by decide +kernel
theorem d164_89 : decode (mB 164) 89 = .ok (.getfield 143, 3) := by decide +kernel
theorem d164_92 : decode (mB 164) 92 = .ok (.bipush 32, 2) := by decide +kernel
theorem d164_94 : decode (mB 164) 94 = .ok (.iload_n 1, 1) := by decide +kernel
theorem d164_95 : decode (mB 164) 95 = .ok (.imul, 1) := by decide +kernel
theorem d164_96 : decode (mB 164) 96 = .ok (.iload_n 3, 1) := by decide +kernel
theorem d164_97 : decode (mB 164) 97 = .ok (.iadd, 1) := by decide +kernel
theorem d164_98 : decode (mB 164) 98 = .ok (.iaload, 1) := by decide +kernel
theorem d164_99 : decode (mB 164) 99 = .ok (.aload_n 0, 1) := by decide +kernel
theorem d164_100 : decode (mB 164) 100 = .ok (.getfield 107, 3) := by decide +kernel
theorem d164_103 : decode (mB 164) 103 = .ok (.iload_n 1, 1) := by decide +kernel
theorem d164_104 : decode (mB 164) 104 = .ok (.iaload, 1) := by decide +kernel
theorem d164_105 : decode (mB 164) 105 = .ok (.if_icmp .ne 9, 3) := by decide +kernel
theorem d164_108 : decode (mB 164) 108 = .ok (.aload_n 0, 1) := by decide +kernel
theorem d164_109 : decode (mB 164) 109 = .ok (.iload_n 1, 1) := by decide +kernel
theorem d164_110 : decode (mB 164) 110 = .ok (.iload_n 3, 1) := by decide +kernel
theorem d164_111 : decode (mB 164) 111 = .ok (.invokevirtual 356, 3) := by decide +kernel
theorem d164_114 : decode (mB 164) 114 = .ok (.iinc 3 (-1), 3) := by decide +kernel
theorem d164_117 : decode (mB 164) 117 = .ok (.goto (-49), 3) := by decide +kernel
theorem d164_120 : decode (mB 164) 120 = .ok (.return_, 1) := by decide +kernel
theorem d168_0 : decode (mB 168) 0 = .ok (.iload_n 0, 1) := by decide +kernel
theorem d168_1 : decode (mB 168) 1 = .ok (.iload_n 1, 1) := by decide +kernel
theorem d168_2 : decode (mB 168) 2 = .ok (.if_icmp .le 7, 3) := by decide +kernel
theorem d168_5 : decode (mB 168) 5 = .ok (.iload_n 0, 1) := by decide +kernel
theorem d168_6 : decode (mB 168) 6 = .ok (.goto 4, 3) := by decide +kernel
theorem d168_9 : decode (mB 168) 9 = .ok (.iload_n 1, 1) := by decide +kernel
theorem d168_10 : decode (mB 168) 10 = .ok (.ireturn, 1) := by decide +kernel
theorem d163_0 : decode (mB 163) 0 = .ok (.aload_n 0, 1) := by decide +kernel
theorem d163_1 : decode (mB 163) 1 = .ok (.getfield 92, 3) := by decide +kernel
theorem d163_4 : decode (mB 163) 4 = .ok (.iload_n 1, 1) := by decide +kernel
theorem d163_5 : decode (mB 163) 5 = .ok (.iaload, 1) := by decide +kernel
theorem d163_6 : decode (mB 163) 6 = .ok (.ifCond .ge 186, 3) := by decide +kernel
theorem d163_9 : decode (mB 163) 9 = .ok (.aload_n 0, 1) := by decide +kernel
theorem d163_10 : decode (mB 163) 10 = .ok (.getfield 107, 3) := by decide +kernel
theorem d163_13 : decode (mB 163) 13 = .ok (.iload_n 1, 1) := by decide +kernel
theorem d163_14 : decode (mB 163) 14 = .ok (.iaload, 1) := by decide +kernel
theorem d163_15 : decode (mB 163) 15 = .ok (.ifCond .le 177, 3) := by decide +kernel
theorem d163_18 : decode (mB 163) 18 = .ok (.bipush 9, 2) := by decide +kernel
theorem d163_20 : decode (mB 163) 20 = .ok (.iload_n 1, 1) := by decide +kernel
theorem d163_21 : decode (mB 163) 21 = .ok (.imul, 1) := by decide +kernel
theorem d163_22 : decode (mB 163) 22 = .ok (.aload_n 0, 1) := by decide +kernel
theorem d163_23 : decode (mB 163) 23 = .ok (.getfield 107, 3) := by decide +kernel
theorem d163_26 : decode (mB 163) 26 = .ok (.iload_n 1, 1) := by decide +kernel
theorem d163_27 : decode (mB 163) 27 = .ok (.iaload, 1) := by decide +kernel
theorem d163_28 : decode (mB 163) 28 = .ok (.iadd, 1) := by decide +kernel
theorem d163_29 : decode (mB 163) 29 = .ok (.iconst 1, 1) := by decide +kernel
theorem d163_30 : decode (mB 163) 30 = .ok (.isub, 1) := by decide +kernel
theorem d163_31 : decode (mB 163) 31 = .ok (.istore_n 2, 1) := by decide +kernel
theorem d163_32 : decode (mB 163) 32 = .ok (.aload_n 0, 1) := by decide +kernel
theorem d163_33 : decode (mB 163) 33 = .ok (.getfield 110, 3) := by decide +kernel
theorem d163_36 : decode (mB 163) 36 = .ok (.iload_n 2, 1) := by decide +kernel
theorem d163_37 : decode (mB 163) 37 = .ok (.iaload, 1) := by decide +kernel
theorem d163_38 : decode (mB 163) 38 = .ok (.istore_n 3, 1) := by decide +kernel
theorem d163_39 : decode (mB 163) 39 = .ok (.aload_n 0, 1) := by decide +kernel
theorem d163_40 : decode (mB 163) 40 = .ok (.getfield 113, 3) := by decide +kernel
theorem d163_43 : decode (mB 163) 43 = .ok (.iload_n 2, 1) := by decide +kernel
theorem d163_44 : decode (mB 163) 44 = .ok (.iaload, 1) := by decide +kernel
theorem d163_45 : decode (mB 163) 45 = .ok (.istore 4, 2) := by decide +kernel
theorem d163_47 : decode (mB 163) 47 = .ok (.aload_n 0, 1) := by decide +kernel
theorem d163_48 : decode (mB 163) 48 = .ok (.iload_n 1, 1) := by decide +kernel
theorem d163_49 : decode (mB 163) 49 = .ok (.invokevirtual 361, 3) := by decide +kernel
theorem d163_52 : decode (mB 163) 52 = .ok (.aload_n 0, 1) := by decide +kernel
theorem d163_53 : decode (mB 163) 53 = .ok (.getfield 33, 3) := by decide +kernel
theorem d163_56 : decode (mB 163) 56 = .ok (.iload_n 3, 1) := by decide +kernel
theorem d163_57 : decode (mB 163) 57 = .ok (.iaload, 1) := by decide +kernel
theorem d163_58 : decode (mB 163) 58 = .ok (.iconst 3, 1) := by decide +kernel
theorem d163_59 : decode (mB 163) 59 = .ok (.if_icmp .ne 13, 3) := by decide +kernel
theorem d163_62 : decode (mB 163) 62 = .ok (.aload_n 0, 1) := by decide +kernel
theorem d163_63 : decode (mB 163) 63 = .ok (.getfield 92, 3) := by decide +kernel
theorem d163_66 : decode (mB 163) 66 = .ok (.iload_n 1, 1) := by decide +kernel
theorem d163_67 : decode (mB 163) 67 = .ok (.iload_n 3, 1) := by decide +kernel
theorem d163_68 : decode (mB 163) 68 = .ok (.iastore, 1) := by decide +kernel
theorem d163_69 : decode (mB 163) 69 = .ok (.goto 120, 3) := by decide +kernel
theorem d163_72 : decode (mB 163) 72 = .ok (.aload_n 0, 1) := by decide +kernel
theorem d163_73 : decode (mB 163) 73 = .ok (.getfield 33, 3) := by decide +kernel
theorem d163_76 : decode (mB 163) 76 = .ok (.iload_n 3, 1) := by decide +kernel
theorem d163_77 : decode (mB 163) 77 = .ok (.iaload, 1) := by decide +kernel
theorem d163_78 : decode (mB 163) 78 = .ok (.bipush 15, 2) := by decide +kernel
theorem d163_80 : decode (mB 163) 80 = .ok (.if_icmp .ne 31, 3) := by decide +kernel
theorem d163_83 : decode (mB 163) 83 = .ok (.iload 4, 2) := by decide +kernel
theorem d163_85 : decode (mB 163) 85 = .ok (.ifCond .ne 26, 3) := by decide +kernel
theorem d163_88 : decode (mB 163) 88 = .ok (.aload_n 0, 1) := by decide +kernel
theorem d163_89 : decode (mB 163) 89 = .ok (.iconst 2, 1) := by decide +kernel
theorem d163_90 : decode (mB 163) 90 = .ok (.iload_n 1, 1) := by decide +kernel
theorem d163_91 : decode (mB 163) 91 = .ok (.lconst 0, 1) := by decide +kernel
theorem d163_92 : decode (mB 163) 92 = .ok (.invokevirtual 364, 3) := by decide +kernel
theorem d163_95 : decode (mB 163) 95 = .ok (.aload_n 0, 1) := by decide +kernel
theorem d163_96 : decode (mB 163) 96 = .ok (.iload_n 1, 1) := by decide +kernel
theorem d163_97 : decode (mB 163) 97 = .ok (.iload_n 3, 1) := by decide +kernel
theorem d163_98 : decode (mB 163) 98 = .ok (.iconst 1, 1) := by decide +kernel
theorem d163_99 : decode (mB 163) 99 = .ok (.aload_n 0, 1) := by decide +kernel
theorem d163_100 : decode (mB 163) 100 = .ok (.getfield 95, 3) := by decide +kernel
theorem d163_103 : decode (mB 163) 103 = .ok (.iload_n 1, 1) := by decide +kernel
theorem d163_104 : decode (mB 163) 104 = .ok (.iaload, 1) := by decide +kernel
theorem d163_105 : decode (mB 163) 105 = .ok (.invokevirtual 367, 3) := by decide +kernel
theorem d163_108 : decode (mB 163) 108 = .ok (.goto 81, 3) := by decide +kernel
theorem d163_111 : decode (mB 163) 111 = .ok (.aload_n 0, 1) := by decide +kernel
theorem d163_112 : decode (mB 163) 112 = .ok (.getfield 33, 3) := by decide +kernel
theorem d163_115 : decode (mB 163) 115 = .ok (.iload_n 3, 1) := by decide +kernel
theorem d163_116 : decode (mB 163) 116 = .ok (.iaload, 1) := by decide +kernel
theorem d163_117 : decode (mB 163) 117 = .ok (.bipush 15, 2) := by decide +kernel
theorem d163_119 : decode (mB 163) 119 = .ok (.if_icmp .ne 36, 3) := by decide +kernel
theorem d163_122 : decode (mB 163) 122 = .ok (.iload 4, 2) := by decide +kernel
theorem d163_124 : decode (mB 163) 124 = .ok (.iconst 1, 1) := by decide +kernel
theorem d163_125 : decode (mB 163) 125 = .ok (.if_icmp .ne 30, 3) := by decide +kernel
theorem d163_128 : decode (mB 163) 128 = .ok (.aload_n 0, 1) := by decide +kernel
theorem d163_129 : decode (mB 163) 129 = .ok (.iconst 3, 1) := by decide +kernel
theorem d163_130 : decode (mB 163) 130 = .ok (.iload_n 1, 1) := by decide +kernel
theorem d163_131 : decode (mB 163) 131 = .ok (.lconst 0, 1) := by decide +kernel
theorem d163_132 : decode (mB 163) 132 = .ok (.invokevirtual 364, 3) := by decide +kernel
theorem d163_135 : decode (mB 163) 135 = .ok (.aload_n 0, 1) := by decide +kernel
theorem d163_136 : decode (mB 163) 136 = .ok (.iload_n 1, 1) := by decide +kernel
theorem d163_137 : decode (mB 163) 137 = .ok (.iload_n 3, 1) := by decide +kernel
theorem d163_138 : decode (mB 163) 138 = .ok (.iconst 2, 1) := by decide +kernel
theorem d163_139 : decode (mB 163) 139 = .ok (.aload_n 0, 1) := by decide +kernel
theorem d163_140 : decode (mB 163) 140 = .ok (.getfield 95, 3) := by decide +kernel
theorem d163_143 : decode (mB 163) 143 = .ok (.iload_n 1, 1) := by decide +kernel
theorem d163_144 : decode (mB 163) 144 = .ok (.iaload, 1) := by decide +kernel
theorem d163_145 : decode (mB 163) 145 = .ok (.iconst 1, 1) := by decide +kernel
theorem d163_146 : decode (mB 163) 146 = .ok (.invokestatic 371, 3) := by decide +kernel
theorem d163_149 : decode (mB 163) 149 = .ok (.invokevirtual 367, 3) := by decide +kernel
theorem d163_152 : decode (mB 163) 152 = .ok (.goto 37, 3) := by decide +kernel
theorem d163_155 : decode (mB 163) 155 = .ok (.aload_n 0, 1) := by decide +kernel
theorem d163_156 : decode (mB 163) 156 = .ok (.getfield 33, 3) := by decide +kernel
theorem d163_159 : decode (mB 163) 159 = .ok (.iload_n 3, 1) := by decide +kernel
theorem d163_160 : decode (mB 163) 160 = .ok (.iaload, 1) := by decide +kernel
theorem d163_161 : decode (mB 163) 161 = .ok (.bipush 15, 2) := by decide +kernel
theorem d163_163 : decode (mB 163) 163 = .ok (.if_icmp .ne 14, 3) := by decide +kernel
theorem d163_166 : decode (mB 163) 166 = .ok (.aload_n 0, 1) := by decide +kernel
theorem d163_167 : decode (mB 163) 167 = .ok (.getfield 125, 3) := by decide +kernel
theorem d163_170 : decode (mB 163) 170 = .ok (.iload_n 2, 1) := by decide +kernel
theorem d163_171 : decode (mB 163) 171 = .ok (.iaload, 1) := by decide +kernel
theorem d163_172 : decode (mB 163) 172 = .ok (.ifCond .le 5, 3) := by decide +kernel
theorem d163_175 : decode (mB 163) 175 = .ok (.iconst 1, 1) := by decide +kernel
theorem d163_176 : decode (mB 163) 176 = .ok (.ireturn, 1) := by decide +kernel
theorem d163_177 : decode (mB 163) 177 = .ok (.aload_n 0, 1) := by decide +kernel
theorem d163_178 : decode (mB 163) 178 = .ok (.getfield 92, 3) := by decide +kernel
theorem d163_181 : decode (mB 163) 181 = .ok (.iload_n 1, 1) := by decide +kernel
theorem d163_182 : decode (mB 163) 182 = .ok (.aload_n 0, 1) := by decide +kernel
theorem d163_183 : decode (mB 163) 183 = .ok (.getfield 36, 3) := by decide +kernel
theorem d163_186 : decode (mB 163) 186 = .ok (.iload_n 3, 1) := by decide +kernel
theorem d163_187 : decode (mB 163) 187 = .ok (.iaload, 1) := by decide +kernel
theorem d163_188 : decode (mB 163) 188 = .ok (.iastore, 1) := by decide +kernel
theorem d163_189 : decode (mB 163) 189 = .ok (.goto (-189), 3) := by decide +kernel
theorem d163_192 : decode (mB 163) 192 = .ok (.iconst 0, 1) := by decide +kernel
theorem d163_193 : decode (mB 163) 193 = .ok (.ireturn, 1) := by decide +kernel
theorem d169_0 : decode (mB 169) 0 = .ok (.aload_n 0, 1) := by decide +kernel
theorem d169_1 : decode (mB 169) 1 = .ok (.getfield 149, 3) := by decide +kernel
theorem d169_4 : decode (mB 169) 4 = .ok (.iload_n 1, 1) := by decide +kernel
theorem d169_5 : decode (mB 169) 5 = .ok (.iaload, 1) := by decide +kernel
theorem d169_6 : decode (mB 169) 6 = .ok (.ifCond .le 26, 3) := by decide +kernel
theorem d169_9 : decode (mB 169) 9 = .ok (.aload_n 0, 1) := by decide +kernel
theorem d169_10 : decode (mB 169) 10 = .ok (.aload_n 0, 1) := by decide +kernel
theorem d169_11 : decode (mB 169) 11 = .ok (.getfield 152, 3) := by decide +kernel
theorem d169_14 : decode (mB 169) 14 = .ok (.iload_n 1, 1) := by decide +kernel
theorem d169_15 : decode (mB 169) 15 = .ok (.iaload, 1) := by decide +kernel
theorem d169_16 : decode (mB 169) 16 = .ok (.aload_n 0, 1) := by decide +kernel
theorem d169_17 : decode (mB 169) 17 = .ok (.getfield 149, 3) := by decide +kernel
theorem d169_20 : decode (mB 169) 20 = .ok (.iload_n 1, 1) := by decide +kernel
theorem d169_21 : decode (mB 169) 21 = .ok (.iaload, 1) := by decide +kernel
theorem d169_22 : decode (mB 169) 22 = .ok (.invokevirtual 375, 3) := by decide +kernel
theorem d169_25 : decode (mB 169) 25 = .ok (.aload_n 0, 1) := by decide +kernel
theorem d169_26 : decode (mB 169) 26 = .ok (.getfield 149, 3) := by decide +kernel
theorem d169_29 : decode (mB 169) 29 = .ok (.iload_n 1, 1) := by decide +kernel
theorem d169_30 : decode (mB 169) 30 = .ok (.iconst 0, 1) := by decide +kernel
theorem d169_31 : decode (mB 169) 31 = .ok (.iastore, 1) := by decide +kernel
theorem d169_32 : decode (mB 169) 32 = .ok (.aload_n 0, 1) := by decide +kernel
theorem d169_33 : decode (mB 169) 33 = .ok (.getfield 107, 3) := by decide +kernel
theorem d169_36 : decode (mB 169) 36 = .ok (.iload_n 1, 1) := by decide +kernel
theorem d169_37 : decode (mB 169) 37 = .ok (.iaload, 1) := by decide +kernel
theorem d169_38 : decode (mB 169) 38 = .ok (.ifCond .le 262, 3) := by decide +kernel
theorem d169_41 : decode (mB 169) 41 = .ok (.aload_n 0, 1) := by decide +kernel
theorem d169_42 : decode (mB 169) 42 = .ok (.getfield 107, 3) := by decide +kernel
theorem d169_45 : decode (mB 169) 45 = .ok (.iload_n 1, 1) := by decide +kernel
theorem d169_46 : decode (mB 169) 46 = .ok (.iaload, 1) := by decide +kernel
theorem d169_47 : decode (mB 169) 47 = .ok (.iconst 1, 1) := by decide +kernel
theorem d169_48 : decode (mB 169) 48 = .ok (.isub, 1) := by decide +kernel
theorem d169_49 : decode (mB 169) 49 = .ok (.istore 6, 2) := by decide +kernel
theorem d169_51 : decode (mB 169) 51 = .ok (.bipush 9, 2) := by decide +kernel
theorem d169_53 : decode (mB 169) 53 = .ok (.iload_n 1, 1) := by decide +kernel
theorem d169_54 : decode (mB 169) 54 = .ok (.imul, 1) := by decide +kernel
theorem d169_55 : decode (mB 169) 55 = .ok (.iload 6, 2) := by decide +kernel
theorem d169_57 : decode (mB 169) 57 = .ok (.iadd, 1) := by decide +kernel
theorem d169_58 : decode (mB 169) 58 = .ok (.istore 7, 2) := by decide +kernel
theorem d169_60 : decode (mB 169) 60 = .ok (.aload_n 0, 1) := by decide +kernel
theorem d169_61 : decode (mB 169) 61 = .ok (.getfield 110, 3) := by decide +kernel
theorem d169_64 : decode (mB 169) 64 = .ok (.iload 7, 2) := by decide +kernel
theorem d169_66 : decode (mB 169) 66 = .ok (.iaload, 1) := by decide +kernel
theorem d169_67 : decode (mB 169) 67 = .ok (.istore 8, 2) := by decide +kernel
theorem d169_69 : decode (mB 169) 69 = .ok (.aload_n 0, 1) := by decide +kernel
theorem d169_70 : decode (mB 169) 70 = .ok (.getfield 113, 3) := by decide +kernel
theorem d169_73 : decode (mB 169) 73 = .ok (.iload 7, 2) := by decide +kernel
theorem d169_75 : decode (mB 169) 75 = .ok (.iaload, 1) := by decide +kernel
theorem d169_76 : decode (mB 169) 76 = .ok (.istore 9, 2) := by decide +kernel
theorem d169_78 : decode (mB 169) 78 = .ok (.aload_n 0, 1) := by decide +kernel
theorem d169_79 : decode (mB 169) 79 = .ok (.iload_n 1, 1) := by decide +kernel
theorem d169_80 : decode (mB 169) 80 = .ok (.invokevirtual 361, 3) := by decide +kernel
theorem d169_83 : decode (mB 169) 83 = .ok (.aload_n 0, 1) := by decide +kernel
theorem d169_84 : decode (mB 169) 84 = .ok (.getfield 33, 3) := by decide +kernel
theorem d169_87 : decode (mB 169) 87 = .ok (.iload 8, 2) := by decide +kernel
theorem d169_89 : decode (mB 169) 89 = .ok (.iaload, 1) := by decide +kernel
theorem d169_90 : decode (mB 169) 90 = .ok (.bipush 13, 2) := by decide +kernel
theorem d169_92 : decode (mB 169) 92 = .ok (.if_icmp .ne 53, 3) := by decide +kernel
theorem d169_95 : decode (mB 169) 95 = .ok (.iload 9, 2) := by decide +kernel
theorem d169_97 : decode (mB 169) 97 = .ok (.ifCond .ne 48, 3) := by decide +kernel
theorem d169_100 : decode (mB 169) 100 = .ok (.iload_n 2, 1) := by decide +kernel
theorem d169_101 : decode (mB 169) 101 = .ok (.ifCond .ne 44, 3) := by decide +kernel
theorem d169_104 : decode (mB 169) 104 = .ok (.aload_n 0, 1) := by decide +kernel
theorem d169_105 : decode (mB 169) 105 = .ok (.getfield 104, 3) := by decide +kernel
theorem d169_108 : decode (mB 169) 108 = .ok (.bipush 10, 2) := by decide +kernel
theorem d169_110 : decode (mB 169) 110 = .ok (.iload_n 1, 1) := by decide +kernel
theorem d169_111 : decode (mB 169) 111 = .ok (.imul, 1) := by decide +kernel
theorem d169_112 : decode (mB 169) 112 = .ok (.aload_n 0, 1) := by decide +kernel
theorem d169_113 : decode (mB 169) 113 = .ok (.getfield 49, 3) := by decide +kernel
theorem d169_116 : decode (mB 169) 116 = .ok (.iload 8, 2) := by decide +kernel
theorem d169_118 : decode (mB 169) 118 = .ok (.iaload, 1) := by decide +kernel
theorem d169_119 : decode (mB 169) 119 = .ok (.iadd, 1) := by decide +kernel
theorem d169_120 : decode (mB 169) 120 = .ok (.bipush 16, 2) := by decide +kernel
theorem d169_122 : decode (mB 169) 122 = .ok (.isub, 1) := by decide +kernel
theorem d169_123 : decode (mB 169) 123 = .ok (.lload_n 3, 1) := by decide +kernel
theorem d169_124 : decode (mB 169) 124 = .ok (.lastore, 1) := by decide +kernel
theorem d169_125 : decode (mB 169) 125 = .ok (.aload_n 0, 1) := by decide +kernel
theorem d169_126 : decode (mB 169) 126 = .ok (.iload_n 1, 1) := by decide +kernel
theorem d169_127 : decode (mB 169) 127 = .ok (.iload 8, 2) := by decide +kernel
theorem d169_129 : decode (mB 169) 129 = .ok (.iconst 1, 1) := by decide +kernel
theorem d169_130 : decode (mB 169) 130 = .ok (.aload_n 0, 1) := by decide +kernel
theorem d169_131 : decode (mB 169) 131 = .ok (.getfield 95, 3) := by decide +kernel
theorem d169_134 : decode (mB 169) 134 = .ok (.iload_n 1, 1) := by decide +kernel
theorem d169_135 : decode (mB 169) 135 = .ok (.iaload, 1) := by decide +kernel
theorem d169_136 : decode (mB 169) 136 = .ok (.iconst 1, 1) := by decide +kernel
theorem d169_137 : decode (mB 169) 137 = .ok (.invokestatic 371, 3) := by decide +kernel
theorem d169_140 : decode (mB 169) 140 = .ok (.invokevirtual 367, 3) := by decide +kernel
theorem d169_143 : decode (mB 169) 143 = .ok (.iconst 1, 1) := by decide +kernel
theorem d169_144 : decode (mB 169) 144 = .ok (.ireturn, 1) := by decide +kernel
theorem d169_145 : decode (mB 169) 145 = .ok (.aload_n 0, 1) := by decide +kernel
theorem d169_146 : decode (mB 169) 146 = .ok (.getfield 33, 3) := by decide +kernel
theorem d169_149 : decode (mB 169) 149 = .ok (.iload 8, 2) := by decide +kernel
theorem d169_151 : decode (mB 169) 151 = .ok (.iaload, 1) := by decide +kernel
theorem d169_152 : decode (mB 169) 152 = .ok (.bipush 15, 2) := by decide +kernel
theorem d169_154 : decode (mB 169) 154 = .ok (.if_icmp .ne 69, 3) := by decide +kernel
theorem d169_157 : decode (mB 169) 157 = .ok (.iload 9, 2) := by decide +kernel
theorem d169_159 : decode (mB 169) 159 = .ok (.iconst 1, 1) := by decide +kernel
theorem d169_160 : decode (mB 169) 160 = .ok (.if_icmp .ne 63, 3) := by decide +kernel
theorem d169_163 : decode (mB 169) 163 = .ok (.aload_n 0, 1) := by decide +kernel
theorem d169_164 : decode (mB 169) 164 = .ok (.iconst 3, 1) := by decide +kernel
theorem d169_165 : decode (mB 169) 165 = .ok (.iload_n 1, 1) := by decide +kernel
theorem d169_166 : decode (mB 169) 166 = .ok (.lconst 0, 1) := by decide +kernel
theorem d169_167 : decode (mB 169) 167 = .ok (.invokevirtual 364, 3) := by decide +kernel
theorem d169_170 : decode (mB 169) 170 = .ok (.aload_n 0, 1) := by decide +kernel
theorem d169_171 : decode (mB 169) 171 = .ok (.iload_n 1, 1) := by decide +kernel
theorem d169_172 : decode (mB 169) 172 = .ok (.iload 8, 2) := by decide +kernel
theorem d169_174 : decode (mB 169) 174 = .ok (.iconst 2, 1) := by decide +kernel
theorem d169_175 : decode (mB 169) 175 = .ok (.aload_n 0, 1) := by decide +kernel
theorem d169_176 : decode (mB 169) 176 = .ok (.getfield 95, 3) := by decide +kernel
theorem d169_179 : decode (mB 169) 179 = .ok (.iload_n 1, 1) := by decide +kernel
theorem d169_180 : decode (mB 169) 180 = .ok (.iaload, 1) := by decide +kernel
theorem d169_181 : decode (mB 169) 181 = .ok (.iconst 1, 1) := by decide +kernel
theorem d169_182 : decode (mB 169) 182 = .ok (.invokestatic 371, 3) := by decide +kernel
theorem d169_185 : decode (mB 169) 185 = .ok (.invokevirtual 367, 3) := by decide +kernel
theorem d169_188 : decode (mB 169) 188 = .ok (.aload_n 0, 1) := by decide +kernel
theorem d169_189 : decode (mB 169) 189 = .ok (.getfield 125, 3) := by decide +kernel
theorem d169_192 : decode (mB 169) 192 = .ok (.iload 7, 2) := by decide +kernel
theorem d169_194 : decode (mB 169) 194 = .ok (.iload_n 2, 1) := by decide +kernel
theorem d169_195 : decode (mB 169) 195 = .ok (.ifCond .eq 7, 3) := by decide +kernel
theorem d169_198 : decode (mB 169) 198 = .ok (.iconst 2, 1) := by decide +kernel
theorem d169_199 : decode (mB 169) 199 = .ok (.goto 4, 3) := by decide +kernel
theorem d169_202 : decode (mB 169) 202 = .ok (.iconst 1, 1) := by decide +kernel
theorem d169_203 : decode (mB 169) 203 = .ok (.iastore, 1) := by decide +kernel
theorem d169_204 : decode (mB 169) 204 = .ok (.aload_n 0, 1) := by decide +kernel
theorem d169_205 : decode (mB 169) 205 = .ok (.getfield 128, 3) := by decide +kernel
theorem d169_208 : decode (mB 169) 208 = .ok (.iload 7, 2) := by decide +kernel
theorem d169_210 : decode (mB 169) 210 = .ok (.lload_n 3, 1) := by decide +kernel
theorem d169_211 : decode (mB 169) 211 = .ok (.lastore, 1) := by decide +kernel
theorem d169_212 : decode (mB 169) 212 = .ok (.aload_n 0, 1) := by decide +kernel
theorem d169_213 : decode (mB 169) 213 = .ok (.getfield 131, 3) := by decide +kernel
theorem d169_216 : decode (mB 169) 216 = .ok (.iload 7, 2) := by decide +kernel
theorem d169_218 : decode (mB 169) 218 = .ok (.iload 5, 2) := by decide +kernel
theorem d169_220 : decode (mB 169) 220 = .ok (.iastore, 1) := by decide +kernel
theorem d169_221 : decode (mB 169) 221 = .ok (.iconst 1, 1) := by decide +kernel
theorem d169_222 : decode (mB 169) 222 = .ok (.ireturn, 1) := by decide +kernel
theorem d169_223 : decode (mB 169) 223 = .ok (.aload_n 0, 1) := by decide +kernel
theorem d169_224 : decode (mB 169) 224 = .ok (.getfield 33, 3) := by decide +kernel
theorem d169_227 : decode (mB 169) 227 = .ok (.iload 8, 2) := by decide +kernel
theorem d169_229 : decode (mB 169) 229 = .ok (.iaload, 1) := by decide +kernel
theorem d169_230 : decode (mB 169) 230 = .ok (.bipush 18, 2) := by decide +kernel
theorem d169_232 : decode (mB 169) 232 = .ok (.if_icmp .ne 65, 3) := by decide +kernel
theorem d169_235 : decode (mB 169) 235 = .ok (.iload 9, 2) := by decide +kernel
theorem d169_237 : decode (mB 169) 237 = .ok (.ifCond .ne 60, 3) := by decide +kernel
theorem d169_240 : decode (mB 169) 240 = .ok (.iload_n 2, 1) := by decide +kernel
theorem d169_241 : decode (mB 169) 241 = .ok (.ifCond .eq 56, 3) := by decide +kernel
theorem d169_244 : decode (mB 169) 244 = .ok (.iload 5, 2) := by decide +kernel
theorem d169_246 : decode (mB 169) 246 = .ok (.iload 6, 2) := by decide +kernel
theorem d169_248 : decode (mB 169) 248 = .ok (.if_icmp .ne 49, 3) := by decide +kernel
theorem d169_251 : decode (mB 169) 251 = .ok (.aload_n 0, 1) := by decide +kernel
theorem d169_252 : decode (mB 169) 252 = .ok (.getfield 45, 3) := by decide +kernel
theorem d169_255 : decode (mB 169) 255 = .ok (.iconst 3, 1) := by decide +kernel
theorem d169_256 : decode (mB 169) 256 = .ok (.iload 8, 2) := by decide +kernel
theorem d169_258 : decode (mB 169) 258 = .ok (.imul, 1) := by decide +kernel
theorem d169_259 : decode (mB 169) 259 = .ok (.iconst 1, 1) := by decide +kernel
theorem d169_260 : decode (mB 169) 260 = .ok (.iadd, 1) := by decide +kernel
theorem d169_261 : decode (mB 169) 261 = .ok (.baload, 1) := by decide +kernel
theorem d169_262 : decode (mB 169) 262 = .ok (.ifCond .eq 20, 3) := by decide +kernel
theorem d169_265 : decode (mB 169) 265 = .ok (.aload_n 0, 1) := by decide +kernel
theorem d169_266 : decode (mB 169) 266 = .ok (.iload_n 1, 1) := by decide +kernel
theorem d169_267 : decode (mB 169) 267 = .ok (.iload 8, 2) := by decide +kernel
theorem d169_269 : decode (mB 169) 269 = .ok (.iconst 1, 1) := by decide +kernel
theorem d169_270 : decode (mB 169) 270 = .ok (.aload_n 0, 1) := by decide +kernel
theorem d169_271 : decode (mB 169) 271 = .ok (.getfield 95, 3) := by decide +kernel
theorem d169_274 : decode (mB 169) 274 = .ok (.iload_n 1, 1) := by decide +kernel
theorem d169_275 : decode (mB 169) 275 = .ok (.iaload, 1) := by decide +kernel
theorem d169_276 : decode (mB 169) 276 = .ok (.invokevirtual 367, 3) := by decide +kernel
theorem d169_279 : decode (mB 169) 279 = .ok (.goto 16, 3) := by decide +kernel
theorem d169_282 : decode (mB 169) 282 = .ok (.aload_n 0, 1) := by decide +kernel
theorem d169_283 : decode (mB 169) 283 = .ok (.getfield 92, 3) := by decide +kernel
theorem d169_286 : decode (mB 169) 286 = .ok (.iload_n 1, 1) := by decide +kernel
theorem d169_287 : decode (mB 169) 287 = .ok (.aload_n 0, 1) := by decide +kernel
theorem d169_288 : decode (mB 169) 288 = .ok (.getfield 36, 3) := by decide +kernel
theorem d169_291 : decode (mB 169) 291 = .ok (.iload 8, 2) := by decide +kernel
theorem d169_293 : decode (mB 169) 293 = .ok (.iaload, 1) := by decide +kernel
theorem d169_294 : decode (mB 169) 294 = .ok (.iastore, 1) := by decide +kernel
theorem d169_295 : decode (mB 169) 295 = .ok (.iconst 1, 1) := by decide +kernel
theorem d169_296 : decode (mB 169) 296 = .ok (.ireturn, 1) := by decide +kernel
theorem d169_297 : decode (mB 169) 297 = .ok (.goto (-265), 3) := by decide +kernel
theorem d169_300 : decode (mB 169) 300 = .ok (.aload_n 0, 1) := by decide +kernel
theorem d169_301 : decode (mB 169) 301 = .ok (.getfield 89, 3) := by decide +kernel
theorem d169_304 : decode (mB 169) 304 = .ok (.iload_n 1, 1) := by decide +kernel
theorem d169_305 : decode (mB 169) 305 = .ok (.iconst 3, 1) := by decide +kernel
theorem d169_306 : decode (mB 169) 306 = .ok (.iastore, 1) := by decide +kernel
theorem d169_307 : decode (mB 169) 307 = .ok (.aload_n 0, 1) := by decide +kernel
theorem d169_308 : decode (mB 169) 308 = .ok (.getfield 134, 3) := by decide +kernel
theorem d169_311 : decode (mB 169) 311 = .ok (.iload_n 1, 1) := by decide +kernel
theorem d169_312 : decode (mB 169) 312 = .ok (.iconst 0, 1) := by decide +kernel
theorem d169_313 : decode (mB 169) 313 = .ok (.iastore, 1) := by decide +kernel
theorem d169_314 : decode (mB 169) 314 = .ok (.aload_n 0, 1) := by decide +kernel
theorem d169_315 : decode (mB 169) 315 = .ok (.getfield 101, 3) := by decide +kernel
theorem d169_318 : decode (mB 169) 318 = .ok (.iload_n 1, 1) := by decide +kernel
theorem d169_319 : decode (mB 169) 319 = .ok (.lload_n 3, 1) := by decide +kernel
theorem d169_320 : decode (mB 169) 320 = .ok (.lastore, 1) := by decide +kernel
theorem d169_321 : decode (mB 169) 321 = .ok (.aload_n 0, 1) := by decide +kernel
theorem d169_322 : decode (mB 169) 322 = .ok (.iconst 5, 1) := by decide +kernel
theorem d169_323 : decode (mB 169) 323 = .ok (.iload_n 1, 1) := by decide +kernel
theorem d169_324 : decode (mB 169) 324 = .ok (.lload_n 3, 1) := by decide +kernel
theorem d169_325 : decode (mB 169) 325 = .ok (.invokevirtual 364, 3) := by decide +kernel
theorem d169_328 : decode (mB 169) 328 = .ok (.iconst 0, 1) := by decide +kernel
theorem d169_329 : decode (mB 169) 329 = .ok (.ireturn, 1) := by decide +kernel
theorem d171_0 : decode (mB 171) 0 = .ok (.iload_n 1, 1) := by decide +kernel
theorem d171_1 : decode (mB 171) 1 = .ok (.ifCond .eq 7, 3) := by decide +kernel
theorem d171_4 : decode (mB 171) 4 = .ok (.iconst 1, 1) := by decide +kernel
theorem d171_5 : decode (mB 171) 5 = .ok (.goto 4, 3) := by decide +kernel
theorem d171_8 : decode (mB 171) 8 = .ok (.iconst 3, 1) := by decide +kernel
theorem d171_9 : decode (mB 171) 9 = .ok (.ireturn, 1) := by decide +kernel
theorem d172_0 : decode (mB 172) 0 = .ok (.bipush 32, 2) := by decide +kernel
theorem d172_2 : decode (mB 172) 2 = .ok (.iload_n 1, 1) := by decide +kernel
theorem d172_3 : decode (mB 172) 3 = .ok (.imul, 1) := by decide +kernel
theorem d172_4 : decode (mB 172) 4 = .ok (.istore_n 2, 1) := by decide +kernel
theorem d172_5 : decode (mB 172) 5 = .ok (.aload_n 0, 1) := by decide +kernel
theorem d172_6 : decode (mB 172) 6 = .ok (.getfield 137, 3) := by decide +kernel
theorem d172_9 : decode (mB 172) 9 = .ok (.iload_n 2, 1) := by decide +kernel
theorem d172_10 : decode (mB 172) 10 = .ok (.iaload, 1) := by decide +kernel
theorem d172_11 : decode (mB 172) 11 = .ok (.bipush 7, 2) := by decide +kernel
theorem d172_13 : decode (mB 172) 13 = .ok (.if_icmp .ne 7, 3) := by decide +kernel
theorem d172_16 : decode (mB 172) 16 = .ok (.iconst 1, 1) := by decide +kernel
theorem d172_17 : decode (mB 172) 17 = .ok (.goto 4, 3) := by decide +kernel
theorem d172_20 : decode (mB 172) 20 = .ok (.iconst 0, 1) := by decide +kernel
theorem d172_21 : decode (mB 172) 21 = .ok (.istore_n 3, 1) := by decide +kernel
theorem d172_22 : decode (mB 172) 22 = .ok (.aload_n 0, 1) := by decide +kernel
theorem d172_23 : decode (mB 172) 23 = .ok (.getfield 140, 3) := by decide +kernel
theorem d172_26 : decode (mB 172) 26 = .ok (.iload_n 2, 1) := by decide +kernel
theorem d172_27 : decode (mB 172) 27 = .ok (.laload, 1) := by decide +kernel
theorem d172_28 : decode (mB 172) 28 = .ok (.lstore 4, 2) := by decide +kernel
theorem d172_30 : decode (mB 172) 30 = .ok (.aload_n 0, 1) := by decide +kernel
theorem d172_31 : decode (mB 172) 31 = .ok (.getfield 143, 3) := by decide +kernel
theorem d172_34 : decode (mB 172) 34 = .ok (.iload_n 2, 1) := by decide +kernel
theorem d172_35 : decode (mB 172) 35 = .ok (.iaload, 1) := by decide +kernel
theorem d172_36 : decode (mB 172) 36 = .ok (.istore 6, 2) := by decide +kernel
theorem d172_38 : decode (mB 172) 38 = .ok (.aload_n 0, 1) := by decide +kernel
theorem d172_39 : decode (mB 172) 39 = .ok (.iload_n 1, 1) := by decide +kernel
theorem d172_40 : decode (mB 172) 40 = .ok (.iconst 0, 1) := by decide +kernel
theorem d172_41 : decode (mB 172) 41 = .ok (.invokevirtual 356, 3) := by decide +kernel
theorem d172_44 : decode (mB 172) 44 = .ok (.aload_n 0, 1) := by decide +kernel
theorem d172_45 : decode (mB 172) 45 = .ok (.iconst 1, 1) := by decide +kernel
theorem d172_46 : decode (mB 172) 46 = .ok (.iload_n 1, 1) := by decide +kernel
theorem d172_47 : decode (mB 172) 47 = .ok (.lload 4, 2) := by decide +kernel
theorem d172_49 : decode (mB 172) 49 = .ok (.invokevirtual 364, 3) := by decide +kernel
theorem d172_52 : decode (mB 172) 52 = .ok (.aload_n 0, 1) := by decide +kernel
theorem d172_53 : decode (mB 172) 53 = .ok (.aload_n 0, 1) := by decide +kernel
theorem d172_54 : decode (mB 172) 54 = .ok (.iload_n 1, 1) := by decide +kernel
theorem d172_55 : decode (mB 172) 55 = .ok (.iload_n 3, 1) := by decide +kernel
theorem d172_56 : decode (mB 172) 56 = .ok (.lload 4, 2) := by decide +kernel
theorem d172_58 : decode (mB 172) 58 = .ok (.iload 6, 2) := by decide +kernel
theorem d172_60 : decode (mB 172) 60 = .ok (.invokevirtual 378, 3) := by decide +kernel
theorem d172_63 : decode (mB 172) 63 = .ok (.invokevirtual 382, 3) := by decide +kernel
theorem d172_66 : decode (mB 172) 66 = .ok (.ireturn, 1) := by decide +kernel
theorem d160_0 : decode (mB 160) 0 = .ok (.iconst 0, 1) := by decide +kernel
theorem d160_1 : decode (mB 160) 1 = .ok (.istore_n 1, 1) := by decide +kernel
theorem d160_2 : decode (mB 160) 2 = .ok (.iload_n 1, 1) := by decide +kernel
theorem d160_3 : decode (mB 160) 3 = .ok (.bipush 6, 2) := by decide +kernel
theorem d160_5 : decode (mB 160) 5 = .ok (.if_icmp .ge 96, 3) := by decide +kernel
theorem d160_8 : decode (mB 160) 8 = .ok (.iconst 0, 1) := by decide +kernel
theorem d160_9 : decode (mB 160) 9 = .ok (.istore_n 2, 1) := by decide +kernel
theorem d160_10 : decode (mB 160) 10 = .ok (.iload_n 2, 1) := by decide +kernel
theorem d160_11 : decode (mB 160) 11 = .ok (.aload_n 0, 1) := by decide +kernel
theorem d160_12 : decode (mB 160) 12 = .ok (.getfield 107, 3) := by decide +kernel
theorem d160_15 : decode (mB 160) 15 = .ok (.iload_n 1, 1) := by decide +kernel
theorem d160_16 : decode (mB 160) 16 = .ok (.iaload, 1) := by decide +kernel
theorem d160_17 : decode (mB 160) 17 = .ok (.if_icmp .ge 78, 3) := by decide +kernel
theorem d160_20 : decode (mB 160) 20 = .ok (.aload_n 0, 1) := by decide +kernel
theorem d160_21 : decode (mB 160) 21 = .ok (.getfield 89, 3) := by decide +kernel
theorem d160_24 : decode (mB 160) 24 = .ok (.iload_n 1, 1) := by decide +kernel
theorem d160_25 : decode (mB 160) 25 = .ok (.iaload, 1) := by decide +kernel
theorem d160_26 : decode (mB 160) 26 = .ok (.iconst 1, 1) := by decide +kernel
theorem d160_27 : decode (mB 160) 27 = .ok (.if_icmp .ne 68, 3) := by decide +kernel
theorem d160_30 : decode (mB 160) 30 = .ok (.bipush 9, 2) := by decide +kernel
theorem d160_32 : decode (mB 160) 32 = .ok (.iload_n 1, 1) := by decide +kernel
theorem d160_33 : decode (mB 160) 33 = .ok (.imul, 1) := by decide +kernel
theorem d160_34 : decode (mB 160) 34 = .ok (.iload_n 2, 1) := by decide +kernel
theorem d160_35 : decode (mB 160) 35 = .ok (.iadd, 1) := by decide +kernel
theorem d160_36 : decode (mB 160) 36 = .ok (.istore_n 3, 1) := by decide +kernel
theorem d160_37 : decode (mB 160) 37 = .ok (.aload_n 0, 1) := by decide +kernel
theorem d160_38 : decode (mB 160) 38 = .ok (.getfield 119, 3) := by decide +kernel
theorem d160_41 : decode (mB 160) 41 = .ok (.iload_n 3, 1) := by decide +kernel
theorem d160_42 : decode (mB 160) 42 = .ok (.laload, 1) := by decide +kernel
theorem d160_43 : decode (mB 160) 43 = .ok (.lconst 0, 1) := by decide +kernel
theorem d160_44 : decode (mB 160) 44 = .ok (.lcmp, 1) := by decide +kernel
theorem d160_45 : decode (mB 160) 45 = .ok (.ifCond .lt 44, 3) := by decide +kernel
theorem d160_48 : decode (mB 160) 48 = .ok (.aload_n 0, 1) := by decide +kernel
theorem d160_49 : decode (mB 160) 49 = .ok (.getfield 122, 3) := by decide +kernel
theorem d160_52 : decode (mB 160) 52 = .ok (.iload_n 3, 1) := by decide +kernel
theorem d160_53 : decode (mB 160) 53 = .ok (.baload, 1) := by decide +kernel
theorem d160_54 : decode (mB 160) 54 = .ok (.ifCond .ne 35, 3) := by decide +kernel
theorem d160_57 : decode (mB 160) 57 = .ok (.aload_n 0, 1) := by decide +kernel
theorem d160_58 : decode (mB 160) 58 = .ok (.getfield 353, 3) := by decide +kernel
theorem d160_61 : decode (mB 160) 61 = .ok (.i2l, 1) := by decide +kernel
theorem d160_62 : decode (mB 160) 62 = .ok (.aload_n 0, 1) := by decide +kernel
theorem d160_63 : decode (mB 160) 63 = .ok (.getfield 119, 3) := by decide +kernel
theorem d160_66 : decode (mB 160) 66 = .ok (.iload_n 3, 1) := by decide +kernel
theorem d160_67 : decode (mB 160) 67 = .ok (.laload, 1) := by decide +kernel
theorem d160_68 : decode (mB 160) 68 = .ok (.lcmp, 1) := by decide +kernel
theorem d160_69 : decode (mB 160) 69 = .ok (.ifCond .lt 20, 3) := by decide +kernel
theorem d160_72 : decode (mB 160) 72 = .ok (.aload_n 0, 1) := by decide +kernel
theorem d160_73 : decode (mB 160) 73 = .ok (.getfield 122, 3) := by decide +kernel
theorem d160_76 : decode (mB 160) 76 = .ok (.iload_n 3, 1) := by decide +kernel
theorem d160_77 : decode (mB 160) 77 = .ok (.iconst 1, 1) := by decide +kernel
theorem d160_78 : decode (mB 160) 78 = .ok (.bastore, 1) := by decide +kernel
theorem d160_79 : decode (mB 160) 79 = .ok (.aload_n 0, 1) := by decide +kernel
theorem d160_80 : decode (mB 160) 80 = .ok (.iload_n 1, 1) := by decide +kernel
theorem d160_81 : decode (mB 160) 81 = .ok (.bipush 7, 2) := by decide +kernel
theorem d160_83 : decode (mB 160) 83 = .ok (.lconst 0, 1) := by decide +kernel
theorem d160_84 : decode (mB 160) 84 = .ok (.iload_n 2, 1) := by decide +kernel
theorem d160_85 : decode (mB 160) 85 = .ok (.iconst 0, 1) := by decide +kernel
theorem d160_86 : decode (mB 160) 86 = .ok (.invokevirtual 386, 3) := by decide +kernel
theorem d160_89 : decode (mB 160) 89 = .ok (.iinc 2 1, 3) := by decide +kernel
theorem d160_92 : decode (mB 160) 92 = .ok (.goto (-82), 3) := by decide +kernel
theorem d160_95 : decode (mB 160) 95 = .ok (.iinc 1 1, 3) := by decide +kernel
theorem d160_98 : decode (mB 160) 98 = .ok (.goto (-96), 3) := by decide +kernel
theorem d160_101 : decode (mB 160) 101 = .ok (.return_, 1) := by decide +kernel
theorem d174_0 : decode (mB 174) 0 = .ok (.aload_n 0, 1) := by decide +kernel
theorem d174_1 : decode (mB 174) 1 = .ok (.getfield 95, 3) := by decide +kernel
theorem d174_4 : decode (mB 174) 4 = .ok (.iload_n 1, 1) := by decide +kernel
theorem d174_5 : decode (mB 174) 5 = .ok (.iaload, 1) := by decide +kernel
theorem d174_6 : decode (mB 174) 6 = .ok (.iconst 1, 1) := by decide +kernel
theorem d174_7 : decode (mB 174) 7 = .ok (.if_icmp .ne 20, 3) := by decide +kernel
theorem d174_10 : decode (mB 174) 10 = .ok (.aload_n 0, 1) := by decide +kernel
theorem d174_11 : decode (mB 174) 11 = .ok (.getfield 134, 3) := by decide +kernel
theorem d174_14 : decode (mB 174) 14 = .ok (.iload_n 1, 1) := by decide +kernel
theorem d174_15 : decode (mB 174) 15 = .ok (.iaload, 1) := by decide +kernel
theorem d174_16 : decode (mB 174) 16 = .ok (.ifCond .le 11, 3) := by decide +kernel
theorem d174_19 : decode (mB 174) 19 = .ok (.aload_n 0, 1) := by decide +kernel
theorem d174_20 : decode (mB 174) 20 = .ok (.iload_n 1, 1) := by decide +kernel
theorem d174_21 : decode (mB 174) 21 = .ok (.invokevirtual 390, 3) := by decide +kernel
theorem d174_24 : decode (mB 174) 24 = .ok (.goto 4, 3) := by decide +kernel
theorem d174_27 : decode (mB 174) 27 = .ok (.iconst 4, 1) := by decide +kernel
theorem d174_28 : decode (mB 174) 28 = .ok (.ireturn, 1) := by decide +kernel
theorem d162_0 : decode (mB 162) 0 = .ok (.aload_n 0, 1) := by decide +kernel
theorem d162_1 : decode (mB 162) 1 = .ok (.iload_n 1, 1) := by decide +kernel
theorem d162_2 : decode (mB 162) 2 = .ok (.invokevirtual 393, 3) := by decide +kernel
theorem d162_5 : decode (mB 162) 5 = .ok (.ifCond .eq 52, 3) := by decide +kernel
theorem d162_8 : decode (mB 162) 8 = .ok (.bipush 9, 2) := by decide +kernel
theorem d162_10 : decode (mB 162) 10 = .ok (.iload_n 1, 1) := by decide +kernel
theorem d162_11 : decode (mB 162) 11 = .ok (.imul, 1) := by decide +kernel
theorem d162_12 : decode (mB 162) 12 = .ok (.aload_n 0, 1) := by decide +kernel
theorem d162_13 : decode (mB 162) 13 = .ok (.getfield 107, 3) := by decide +kernel
theorem d162_16 : decode (mB 162) 16 = .ok (.iload_n 1, 1) := by decide +kernel
theorem d162_17 : decode (mB 162) 17 = .ok (.iaload, 1) := by decide +kernel
theorem d162_18 : decode (mB 162) 18 = .ok (.iadd, 1) := by decide +kernel
theorem d162_19 : decode (mB 162) 19 = .ok (.istore_n 2, 1) := by decide +kernel
theorem d162_20 : decode (mB 162) 20 = .ok (.aload_n 0, 1) := by decide +kernel
theorem d162_21 : decode (mB 162) 21 = .ok (.aload_n 0, 1) := by decide +kernel
theorem d162_22 : decode (mB 162) 22 = .ok (.iload_n 1, 1) := by decide +kernel
theorem d162_23 : decode (mB 162) 23 = .ok (.aload_n 0, 1) := by decide +kernel
theorem d162_24 : decode (mB 162) 24 = .ok (.getfield 125, 3) := by decide +kernel
theorem d162_27 : decode (mB 162) 27 = .ok (.iload_n 2, 1) := by decide +kernel
theorem d162_28 : decode (mB 162) 28 = .ok (.iaload, 1) := by decide +kernel
theorem d162_29 : decode (mB 162) 29 = .ok (.iconst 2, 1) := by decide +kernel
theorem d162_30 : decode (mB 162) 30 = .ok (.if_icmp .ne 7, 3) := by decide +kernel
theorem d162_33 : decode (mB 162) 33 = .ok (.iconst 1, 1) := by decide +kernel
theorem d162_34 : decode (mB 162) 34 = .ok (.goto 4, 3) := by decide +kernel
theorem d162_37 : decode (mB 162) 37 = .ok (.iconst 0, 1) := by decide +kernel
theorem d162_38 : decode (mB 162) 38 = .ok (.aload_n 0, 1) := by decide +kernel
theorem d162_39 : decode (mB 162) 39 = .ok (.getfield 128, 3) := by decide +kernel
theorem d162_42 : decode (mB 162) 42 = .ok (.iload_n 2, 1) := by decide +kernel
theorem d162_43 : decode (mB 162) 43 = .ok (.laload, 1) := by decide +kernel
theorem d162_44 : decode (mB 162) 44 = .ok (.aload_n 0, 1) := by decide +kernel
theorem d162_45 : decode (mB 162) 45 = .ok (.getfield 131, 3) := by decide +kernel
theorem d162_48 : decode (mB 162) 48 = .ok (.iload_n 2, 1) := by decide +kernel
theorem d162_49 : decode (mB 162) 49 = .ok (.iaload, 1) := by decide +kernel
theorem d162_50 : decode (mB 162) 50 = .ok (.invokevirtual 378, 3) := by decide +kernel
theorem d162_53 : decode (mB 162) 53 = .ok (.invokevirtual 382, 3) := by decide +kernel
theorem d162_56 : decode (mB 162) 56 = .ok (.ireturn, 1) := by decide +kernel
theorem d162_57 : decode (mB 162) 57 = .ok (.aload_n 0, 1) := by decide +kernel
theorem d162_58 : decode (mB 162) 58 = .ok (.getfield 95, 3) := by decide +kernel
theorem d162_61 : decode (mB 162) 61 = .ok (.iload_n 1, 1) := by decide +kernel
theorem d162_62 : decode (mB 162) 62 = .ok (.iaload, 1) := by decide +kernel
theorem d162_63 : decode (mB 162) 63 = .ok (.ifCond .ne 18, 3) := by decide +kernel
theorem d162_66 : decode (mB 162) 66 = .ok (.aload_n 0, 1) := by decide +kernel
theorem d162_67 : decode (mB 162) 67 = .ok (.getfield 134, 3) := by decide +kernel
theorem d162_70 : decode (mB 162) 70 = .ok (.iload_n 1, 1) := by decide +kernel
theorem d162_71 : decode (mB 162) 71 = .ok (.iaload, 1) := by decide +kernel
theorem d162_72 : decode (mB 162) 72 = .ok (.ifCond .le 9, 3) := by decide +kernel
theorem d162_75 : decode (mB 162) 75 = .ok (.aload_n 0, 1) := by decide +kernel
theorem d162_76 : decode (mB 162) 76 = .ok (.iload_n 1, 1) := by decide +kernel
theorem d162_77 : decode (mB 162) 77 = .ok (.invokevirtual 390, 3) := by decide +kernel
theorem d162_80 : decode (mB 162) 80 = .ok (.ireturn, 1) := by decide +kernel
theorem d162_81 : decode (mB 162) 81 = .ok (.aload_n 0, 1) := by decide +kernel
theorem d162_82 : decode (mB 162) 82 = .ok (.getfield 92, 3) := by decide +kernel
theorem d162_85 : decode (mB 162) 85 = .ok (.iload_n 1, 1) := by decide +kernel
theorem d162_86 : decode (mB 162) 86 = .ok (.iaload, 1) := by decide +kernel
theorem d162_87 : decode (mB 162) 87 = .ok (.istore_n 2, 1) := by decide +kernel
theorem d162_88 : decode (mB 162) 88 = .ok (.iload_n 2, 1) := by decide +kernel
theorem d162_89 : decode (mB 162) 89 = .ok (.ifCond .ge 26, 3) := by decide +kernel
theorem d162_92 : decode (mB 162) 92 = .ok (.aload_n 0, 1) := by decide +kernel
theorem d162_93 : decode (mB 162) 93 = .ok (.getfield 89, 3) := by decide +kernel
theorem d162_96 : decode (mB 162) 96 = .ok (.iload_n 1, 1) := by decide +kernel
theorem d162_97 : decode (mB 162) 97 = .ok (.iconst 2, 1) := by decide +kernel
theorem d162_98 : decode (mB 162) 98 = .ok (.iastore, 1) := by decide +kernel
theorem d162_99 : decode (mB 162) 99 = .ok (.aload_n 0, 1) := by decide +kernel
theorem d162_100 : decode (mB 162) 100 = .ok (.getfield 134, 3) := by decide +kernel
theorem d162_103 : decode (mB 162) 103 = .ok (.iload_n 1, 1) := by decide +kernel
theorem d162_104 : decode (mB 162) 104 = .ok (.iconst 0, 1) := by decide +kernel
theorem d162_105 : decode (mB 162) 105 = .ok (.iastore, 1) := by decide +kernel
theorem d162_106 : decode (mB 162) 106 = .ok (.aload_n 0, 1) := by decide +kernel
theorem d162_107 : decode (mB 162) 107 = .ok (.iconst 4, 1) := by decide +kernel
theorem d162_108 : decode (mB 162) 108 = .ok (.iload_n 1, 1) := by decide +kernel
theorem d162_109 : decode (mB 162) 109 = .ok (.lconst 0, 1) := by decide +kernel
theorem d162_110 : decode (mB 162) 110 = .ok (.invokevirtual 364, 3) := by decide +kernel
theorem d162_113 : decode (mB 162) 113 = .ok (.iconst 2, 1) := by decide +kernel
theorem d162_114 : decode (mB 162) 114 = .ok (.ireturn, 1) := by decide +kernel
theorem d162_115 : decode (mB 162) 115 = .ok (.aload_n 0, 1) := by decide +kernel
theorem d162_116 : decode (mB 162) 116 = .ok (.getfield 95, 3) := by decide +kernel
theorem d162_119 : decode (mB 162) 119 = .ok (.iload_n 1, 1) := by decide +kernel
theorem d162_120 : decode (mB 162) 120 = .ok (.iaload, 1) := by decide +kernel
theorem d162_121 : decode (mB 162) 121 = .ok (.istore_n 3, 1) := by decide +kernel
theorem d162_122 : decode (mB 162) 122 = .ok (.aload_n 0, 1) := by decide +kernel
theorem d162_123 : decode (mB 162) 123 = .ok (.getfield 33, 3) := by decide +kernel
theorem d162_126 : decode (mB 162) 126 = .ok (.iload_n 2, 1) := by decide +kernel
theorem d162_127 : decode (mB 162) 127 = .ok (.iaload, 1) := by decide +kernel
theorem d162_128 : decode (mB 162) 128 = .ok (.tableswitch 518 0 30 #[173, 193, 518, 241, 267, 518, 332, 518, 389, 412, 470, 484, 494, 518, 518, 504, 518, 518, 518, 518, 518, 518, 518, 518, 518, 518, 518, 518, 518, 518, 140], 140) := by decide +kernel
theorem d162_268 : decode (mB 162) 268 = .ok (.aload_n 0, 1) := by decide +kernel
theorem d162_269 : decode (mB 162) 269 = .ok (.getfield 104, 3) := by decide +kernel
theorem d162_272 : decode (mB 162) 272 = .ok (.bipush 10, 2) := by decide +kernel
theorem d162_274 : decode (mB 162) 274 = .ok (.iload_n 1, 1) := by decide +kernel
theorem d162_275 : decode (mB 162) 275 = .ok (.imul, 1) := by decide +kernel
theorem d162_276 : decode (mB 162) 276 = .ok (.aload_n 0, 1) := by decide +kernel
theorem d162_277 : decode (mB 162) 277 = .ok (.getfield 49, 3) := by decide +kernel
theorem d162_280 : decode (mB 162) 280 = .ok (.iload_n 2, 1) := by decide +kernel
theorem d162_281 : decode (mB 162) 281 = .ok (.iaload, 1) := by decide +kernel
theorem d162_282 : decode (mB 162) 282 = .ok (.iadd, 1) := by decide +kernel
theorem d162_283 : decode (mB 162) 283 = .ok (.bipush 16, 2) := by decide +kernel
theorem d162_285 : decode (mB 162) 285 = .ok (.isub, 1) := by decide +kernel
theorem d162_286 : decode (mB 162) 286 = .ok (.aload_n 0, 1) := by decide +kernel
theorem d162_287 : decode (mB 162) 287 = .ok (.iload_n 1, 1) := by decide +kernel
theorem d162_288 : decode (mB 162) 288 = .ok (.aload_n 0, 1) := by decide +kernel
theorem d162_289 : decode (mB 162) 289 = .ok (.getfield 39, 3) := by decide +kernel
theorem d162_292 : decode (mB 162) 292 = .ok (.iload_n 2, 1) := by decide +kernel
theorem d162_293 : decode (mB 162) 293 = .ok (.iaload, 1) := by decide +kernel
theorem d162_294 : decode (mB 162) 294 = .ok (.invokevirtual 396, 3) := by decide +kernel
theorem d162_297 : decode (mB 162) 297 = .ok (.lastore, 1) := by decide +kernel
theorem d162_298 : decode (mB 162) 298 = .ok (.goto 358, 3) := by decide +kernel
theorem d162_301 : decode (mB 162) 301 = .ok (.aload_n 0, 1) := by decide +kernel
theorem d162_302 : decode (mB 162) 302 = .ok (.iconst 0, 1) := by decide +kernel
theorem d162_303 : decode (mB 162) 303 = .ok (.iload_n 1, 1) := by decide +kernel
theorem d162_304 : decode (mB 162) 304 = .ok (.aload_n 0, 1) := by decide +kernel
theorem d162_305 : decode (mB 162) 305 = .ok (.iload_n 1, 1) := by decide +kernel
theorem d162_306 : decode (mB 162) 306 = .ok (.aload_n 0, 1) := by decide +kernel
theorem d162_307 : decode (mB 162) 307 = .ok (.getfield 39, 3) := by decide +kernel
theorem d162_310 : decode (mB 162) 310 = .ok (.iload_n 2, 1) := by decide +kernel
theorem d162_311 : decode (mB 162) 311 = .ok (.iaload, 1) := by decide +kernel
theorem d162_312 : decode (mB 162) 312 = .ok (.invokevirtual 396, 3) := by decide +kernel
theorem d162_315 : decode (mB 162) 315 = .ok (.invokevirtual 364, 3) := by decide +kernel
theorem d162_318 : decode (mB 162) 318 = .ok (.goto 338, 3) := by decide +kernel
theorem d162_321 : decode (mB 162) 321 = .ok (.aload_n 0, 1) := by decide +kernel
theorem d162_322 : decode (mB 162) 322 = .ok (.iload_n 1, 1) := by decide +kernel
theorem d162_323 : decode (mB 162) 323 = .ok (.aload_n 0, 1) := by decide +kernel
theorem d162_324 : decode (mB 162) 324 = .ok (.getfield 39, 3) := by decide +kernel
theorem d162_327 : decode (mB 162) 327 = .ok (.iload_n 2, 1) := by decide +kernel
theorem d162_328 : decode (mB 162) 328 = .ok (.iaload, 1) := by decide +kernel
theorem d162_329 : decode (mB 162) 329 = .ok (.invokevirtual 396, 3) := by decide +kernel
theorem d162_332 : decode (mB 162) 332 = .ok (.lconst 0, 1) := by decide +kernel
theorem d162_333 : decode (mB 162) 333 = .ok (.lcmp, 1) := by decide +kernel
theorem d162_334 : decode (mB 162) 334 = .ok (.ifCond .eq 7, 3) := by decide +kernel
theorem d162_337 : decode (mB 162) 337 = .ok (.iconst 0, 1) := by decide +kernel
theorem d162_338 : decode (mB 162) 338 = .ok (.goto 4, 3) := by decide +kernel
theorem d162_341 : decode (mB 162) 341 = .ok (.iconst 1, 1) := by decide +kernel
theorem d162_342 : decode (mB 162) 342 = .ok (.istore 4, 2) := by decide +kernel
theorem d162_344 : decode (mB 162) 344 = .ok (.aload_n 0, 1) := by decide +kernel
theorem d162_345 : decode (mB 162) 345 = .ok (.getfield 45, 3) := by decide +kernel
theorem d162_348 : decode (mB 162) 348 = .ok (.iconst 3, 1) := by decide +kernel
theorem d162_349 : decode (mB 162) 349 = .ok (.iload_n 2, 1) := by decide +kernel
theorem d162_350 : decode (mB 162) 350 = .ok (.imul, 1) := by decide +kernel
theorem d162_351 : decode (mB 162) 351 = .ok (.iload 4, 2) := by decide +kernel
theorem d162_353 : decode (mB 162) 353 = .ok (.iadd, 1) := by decide +kernel
theorem d162_354 : decode (mB 162) 354 = .ok (.baload, 1) := by decide +kernel
theorem d162_355 : decode (mB 162) 355 = .ok (.ifCond .eq 301, 3) := by decide +kernel
theorem d162_358 : decode (mB 162) 358 = .ok (.aload_n 0, 1) := by decide +kernel
theorem d162_359 : decode (mB 162) 359 = .ok (.iload_n 1, 1) := by decide +kernel
theorem d162_360 : decode (mB 162) 360 = .ok (.iload_n 2, 1) := by decide +kernel
theorem d162_361 : decode (mB 162) 361 = .ok (.iload 4, 2) := by decide +kernel
theorem d162_363 : decode (mB 162) 363 = .ok (.iload_n 3, 1) := by decide +kernel
theorem d162_364 : decode (mB 162) 364 = .ok (.invokevirtual 367, 3) := by decide +kernel
theorem d162_367 : decode (mB 162) 367 = .ok (.iconst 0, 1) := by decide +kernel
theorem d162_368 : decode (mB 162) 368 = .ok (.ireturn, 1) := by decide +kernel
theorem d162_369 : decode (mB 162) 369 = .ok (.aload_n 0, 1) := by decide +kernel
theorem d162_370 : decode (mB 162) 370 = .ok (.iload_n 1, 1) := by decide +kernel
theorem d162_371 : decode (mB 162) 371 = .ok (.aload_n 0, 1) := by decide +kernel
theorem d162_372 : decode (mB 162) 372 = .ok (.getfield 39, 3) := by decide +kernel
theorem d162_375 : decode (mB 162) 375 = .ok (.iload_n 2, 1) := by decide +kernel
theorem d162_376 : decode (mB 162) 376 = .ok (.iaload, 1) := by decide +kernel
theorem d162_377 : decode (mB 162) 377 = .ok (.invokevirtual 396, 3) := by decide +kernel
theorem d162_380 : decode (mB 162) 380 = .ok (.lconst 0, 1) := by decide +kernel
theorem d162_381 : decode (mB 162) 381 = .ok (.lcmp, 1) := by decide +kernel
theorem d162_382 : decode (mB 162) 382 = .ok (.ifCond .eq 274, 3) := by decide +kernel
theorem d162_385 : decode (mB 162) 385 = .ok (.aload_n 0, 1) := by decide +kernel
theorem d162_386 : decode (mB 162) 386 = .ok (.iload_n 1, 1) := by decide +kernel
theorem d162_387 : decode (mB 162) 387 = .ok (.iload_n 2, 1) := by decide +kernel
theorem d162_388 : decode (mB 162) 388 = .ok (.iconst 0, 1) := by decide +kernel
theorem d162_389 : decode (mB 162) 389 = .ok (.iload_n 3, 1) := by decide +kernel
theorem d162_390 : decode (mB 162) 390 = .ok (.invokevirtual 367, 3) := by decide +kernel
theorem d162_393 : decode (mB 162) 393 = .ok (.iconst 0, 1) := by decide +kernel
theorem d162_394 : decode (mB 162) 394 = .ok (.ireturn, 1) := by decide +kernel
theorem d162_395 : decode (mB 162) 395 = .ok (.aload_n 0, 1) := by decide +kernel
theorem d162_396 : decode (mB 162) 396 = .ok (.getfield 83, 3) := by decide +kernel
theorem d162_399 : decode (mB 162) 399 = .ok (.aload_n 0, 1) := by decide +kernel
theorem d162_400 : decode (mB 162) 400 = .ok (.getfield 52, 3) := by decide +kernel
theorem d162_403 : decode (mB 162) 403 = .ok (.iload_n 2, 1) := by decide +kernel
theorem d162_404 : decode (mB 162) 404 = .ok (.iaload, 1) := by decide +kernel
theorem d162_405 : decode (mB 162) 405 = .ok (.baload, 1) := by decide +kernel
theorem d162_406 : decode (mB 162) 406 = .ok (.ifCond .ne 9, 3) := by decide +kernel
theorem d162_409 : decode (mB 162) 409 = .ok (.aload_n 0, 1) := by decide +kernel
theorem d162_410 : decode (mB 162) 410 = .ok (.iload_n 1, 1) := by decide +kernel
theorem d162_411 : decode (mB 162) 411 = .ok (.invokevirtual 400, 3) := by decide +kernel
theorem d162_414 : decode (mB 162) 414 = .ok (.ireturn, 1) := by decide +kernel
theorem d162_415 : decode (mB 162) 415 = .ok (.aload_n 0, 1) := by decide +kernel
theorem d162_416 : decode (mB 162) 416 = .ok (.getfield 104, 3) := by decide +kernel
theorem d162_419 : decode (mB 162) 419 = .ok (.bipush 10, 2) := by decide +kernel
theorem d162_421 : decode (mB 162) 421 = .ok (.iload_n 1, 1) := by decide +kernel
theorem d162_422 : decode (mB 162) 422 = .ok (.imul, 1) := by decide +kernel
theorem d162_423 : decode (mB 162) 423 = .ok (.aload_n 0, 1) := by decide +kernel
theorem d162_424 : decode (mB 162) 424 = .ok (.getfield 49, 3) := by decide +kernel
theorem d162_427 : decode (mB 162) 427 = .ok (.iload_n 2, 1) := by decide +kernel
theorem d162_428 : decode (mB 162) 428 = .ok (.iaload, 1) := by decide +kernel
theorem d162_429 : decode (mB 162) 429 = .ok (.iadd, 1) := by decide +kernel
theorem d162_430 : decode (mB 162) 430 = .ok (.bipush 16, 2) := by decide +kernel
theorem d162_432 : decode (mB 162) 432 = .ok (.isub, 1) := by decide +kernel
theorem d162_433 : decode (mB 162) 433 = .ok (.aload_n 0, 1) := by decide +kernel
theorem d162_434 : decode (mB 162) 434 = .ok (.getfield 86, 3) := by decide +kernel
theorem d162_437 : decode (mB 162) 437 = .ok (.aload_n 0, 1) := by decide +kernel
theorem d162_438 : decode (mB 162) 438 = .ok (.getfield 52, 3) := by decide +kernel
theorem d162_441 : decode (mB 162) 441 = .ok (.iload_n 2, 1) := by decide +kernel
theorem d162_442 : decode (mB 162) 442 = .ok (.iaload, 1) := by decide +kernel
theorem d162_443 : decode (mB 162) 443 = .ok (.laload, 1) := by decide +kernel
theorem d162_444 : decode (mB 162) 444 = .ok (.lastore, 1) := by decide +kernel
theorem d162_445 : decode (mB 162) 445 = .ok (.aload_n 0, 1) := by decide +kernel
theorem d162_446 : decode (mB 162) 446 = .ok (.getfield 83, 3) := by decide +kernel
theorem d162_449 : decode (mB 162) 449 = .ok (.aload_n 0, 1) := by decide +kernel
theorem d162_450 : decode (mB 162) 450 = .ok (.getfield 52, 3) := by decide +kernel
theorem d162_453 : decode (mB 162) 453 = .ok (.iload_n 2, 1) := by decide +kernel
theorem d162_454 : decode (mB 162) 454 = .ok (.iaload, 1) := by decide +kernel
theorem d162_455 : decode (mB 162) 455 = .ok (.iconst 0, 1) := by decide +kernel
theorem d162_456 : decode (mB 162) 456 = .ok (.bastore, 1) := by decide +kernel
theorem d162_457 : decode (mB 162) 457 = .ok (.goto 199, 3) := by decide +kernel
theorem d162_460 : decode (mB 162) 460 = .ok (.aload_n 0, 1) := by decide +kernel
theorem d162_461 : decode (mB 162) 461 = .ok (.getfield 83, 3) := by decide +kernel
theorem d162_464 : decode (mB 162) 464 = .ok (.aload_n 0, 1) := by decide +kernel
theorem d162_465 : decode (mB 162) 465 = .ok (.getfield 52, 3) := by decide +kernel
theorem d162_468 : decode (mB 162) 468 = .ok (.iload_n 2, 1) := by decide +kernel
theorem d162_469 : decode (mB 162) 469 = .ok (.iaload, 1) := by decide +kernel
theorem d162_470 : decode (mB 162) 470 = .ok (.baload, 1) := by decide +kernel
theorem d162_471 : decode (mB 162) 471 = .ok (.ifCond .eq 9, 3) := by decide +kernel
theorem d162_474 : decode (mB 162) 474 = .ok (.aload_n 0, 1) := by decide +kernel
theorem d162_475 : decode (mB 162) 475 = .ok (.iload_n 1, 1) := by decide +kernel
theorem d162_476 : decode (mB 162) 476 = .ok (.invokevirtual 400, 3) := by decide +kernel
theorem d162_479 : decode (mB 162) 479 = .ok (.ireturn, 1) := by decide +kernel
theorem d162_480 : decode (mB 162) 480 = .ok (.aload_n 0, 1) := by decide +kernel
theorem d162_481 : decode (mB 162) 481 = .ok (.getfield 86, 3) := by decide +kernel
theorem d162_484 : decode (mB 162) 484 = .ok (.aload_n 0, 1) := by decide +kernel
theorem d162_485 : decode (mB 162) 485 = .ok (.getfield 52, 3) := by decide +kernel
theorem d162_488 : decode (mB 162) 488 = .ok (.iload_n 2, 1) := by decide +kernel
theorem d162_489 : decode (mB 162) 489 = .ok (.iaload, 1) := by decide +kernel
theorem d162_490 : decode (mB 162) 490 = .ok (.aload_n 0, 1) := by decide +kernel
theorem d162_491 : decode (mB 162) 491 = .ok (.iload_n 1, 1) := by decide +kernel
theorem d162_492 : decode (mB 162) 492 = .ok (.aload_n 0, 1) := by decide +kernel
theorem d162_493 : decode (mB 162) 493 = .ok (.getfield 39, 3) := by decide +kernel
theorem d162_496 : decode (mB 162) 496 = .ok (.iload_n 2, 1) := by decide +kernel
theorem d162_497 : decode (mB 162) 497 = .ok (.iaload, 1) := by decide +kernel
theorem d162_498 : decode (mB 162) 498 = .ok (.invokevirtual 396, 3) := by decide +kernel
theorem d162_501 : decode (mB 162) 501 = .ok (.lastore, 1) := by decide +kernel
theorem d162_502 : decode (mB 162) 502 = .ok (.aload_n 0, 1) := by decide +kernel
theorem d162_503 : decode (mB 162) 503 = .ok (.getfield 83, 3) := by decide +kernel
theorem d162_506 : decode (mB 162) 506 = .ok (.aload_n 0, 1) := by decide +kernel
theorem d162_507 : decode (mB 162) 507 = .ok (.getfield 52, 3) := by decide +kernel
theorem d162_510 : decode (mB 162) 510 = .ok (.iload_n 2, 1) := by decide +kernel
theorem d162_511 : decode (mB 162) 511 = .ok (.iaload, 1) := by decide +kernel
theorem d162_512 : decode (mB 162) 512 = .ok (.iconst 1, 1) := by decide +kernel
theorem d162_513 : decode (mB 162) 513 = .ok (.bastore, 1) := by decide +kernel
theorem d162_514 : decode (mB 162) 514 = .ok (.goto 142, 3) := by decide +kernel
theorem d162_517 : decode (mB 162) 517 = .ok (.aload_n 0, 1) := by decide +kernel
theorem d162_518 : decode (mB 162) 518 = .ok (.aload_n 0, 1) := by decide +kernel
theorem d162_519 : decode (mB 162) 519 = .ok (.iload_n 1, 1) := by decide +kernel
theorem d162_520 : decode (mB 162) 520 = .ok (.iconst 0, 1) := by decide +kernel
theorem d162_521 : decode (mB 162) 521 = .ok (.aload_n 0, 1) := by decide +kernel
theorem d162_522 : decode (mB 162) 522 = .ok (.iload_n 1, 1) := by decide +kernel
theorem d162_523 : decode (mB 162) 523 = .ok (.aload_n 0, 1) := by decide +kernel
theorem d162_524 : decode (mB 162) 524 = .ok (.getfield 39, 3) := by decide +kernel
theorem d162_527 : decode (mB 162) 527 = .ok (.iload_n 2, 1) := by decide +kernel
theorem d162_528 : decode (mB 162) 528 = .ok (.iaload, 1) := by decide +kernel
theorem d162_529 : decode (mB 162) 529 = .ok (.invokevirtual 396, 3) := by decide +kernel
theorem d162_532 : decode (mB 162) 532 = .ok (.iconst (-1), 1) := by decide +kernel
theorem d162_533 : decode (mB 162) 533 = .ok (.invokevirtual 378, 3) := by decide +kernel
theorem d162_536 : decode (mB 162) 536 = .ok (.invokevirtual 382, 3) := by decide +kernel
theorem d162_539 : decode (mB 162) 539 = .ok (.ireturn, 1) := by decide +kernel
theorem d162_540 : decode (mB 162) 540 = .ok (.aload_n 0, 1) := by decide +kernel
theorem d162_541 : decode (mB 162) 541 = .ok (.getfield 55, 3) := by decide +kernel
theorem d162_544 : decode (mB 162) 544 = .ok (.iload_n 2, 1) := by decide +kernel
theorem d162_545 : decode (mB 162) 545 = .ok (.iaload, 1) := by decide +kernel
theorem d162_546 : decode (mB 162) 546 = .ok (.iload_n 1, 1) := by decide +kernel
theorem d162_547 : decode (mB 162) 547 = .ok (.if_icmp .ne 26, 3) := by decide +kernel
theorem d162_550 : decode (mB 162) 550 = .ok (.aload_n 0, 1) := by decide +kernel
theorem d162_551 : decode (mB 162) 551 = .ok (.aload_n 0, 1) := by decide +kernel
theorem d162_552 : decode (mB 162) 552 = .ok (.iload_n 1, 1) := by decide +kernel
theorem d162_553 : decode (mB 162) 553 = .ok (.iconst 0, 1) := by decide +kernel
theorem d162_554 : decode (mB 162) 554 = .ok (.aload_n 0, 1) := by decide +kernel
theorem d162_555 : decode (mB 162) 555 = .ok (.iload_n 1, 1) := by decide +kernel
theorem d162_556 : decode (mB 162) 556 = .ok (.aload_n 0, 1) := by decide +kernel
theorem d162_557 : decode (mB 162) 557 = .ok (.getfield 39, 3) := by decide +kernel
theorem d162_560 : decode (mB 162) 560 = .ok (.iload_n 2, 1) := by decide +kernel
theorem d162_561 : decode (mB 162) 561 = .ok (.iaload, 1) := by decide +kernel
theorem d162_562 : decode (mB 162) 562 = .ok (.invokevirtual 396, 3) := by decide +kernel
theorem d162_565 : decode (mB 162) 565 = .ok (.iconst (-1), 1) := by decide +kernel
theorem d162_566 : decode (mB 162) 566 = .ok (.invokevirtual 378, 3) := by decide +kernel
theorem d162_569 : decode (mB 162) 569 = .ok (.invokevirtual 382, 3) := by decide +kernel
theorem d162_572 : decode (mB 162) 572 = .ok (.ireturn, 1) := by decide +kernel
theorem d162_573 : decode (mB 162) 573 = .ok (.aload_n 0, 1) := by decide +kernel
theorem d162_574 : decode (mB 162) 574 = .ok (.iload_n 1, 1) := by decide +kernel
theorem d162_575 : decode (mB 162) 575 = .ok (.iload_n 2, 1) := by decide +kernel
theorem d162_576 : decode (mB 162) 576 = .ok (.invokevirtual 403, 3) := by decide +kernel
theorem d162_579 : decode (mB 162) 579 = .ok (.ifCond .eq 9, 3) := by decide +kernel
theorem d162_582 : decode (mB 162) 582 = .ok (.aload_n 0, 1) := by decide +kernel
theorem d162_583 : decode (mB 162) 583 = .ok (.iload_n 1, 1) := by decide +kernel
theorem d162_584 : decode (mB 162) 584 = .ok (.invokevirtual 400, 3) := by decide +kernel
theorem d162_587 : decode (mB 162) 587 = .ok (.ireturn, 1) := by decide +kernel
theorem d162_588 : decode (mB 162) 588 = .ok (.aload_n 0, 1) := by decide +kernel
theorem d162_589 : decode (mB 162) 589 = .ok (.getfield 149, 3) := by decide +kernel
theorem d162_592 : decode (mB 162) 592 = .ok (.iload_n 1, 1) := by decide +kernel
theorem d162_593 : decode (mB 162) 593 = .ok (.iconst 0, 1) := by decide +kernel
theorem d162_594 : decode (mB 162) 594 = .ok (.iastore, 1) := by decide +kernel
theorem d162_595 : decode (mB 162) 595 = .ok (.goto 61, 3) := by decide +kernel
theorem d162_598 : decode (mB 162) 598 = .ok (.aload_n 0, 1) := by decide +kernel
theorem d162_599 : decode (mB 162) 599 = .ok (.iload_n 1, 1) := by decide +kernel
theorem d162_600 : decode (mB 162) 600 = .ok (.iload_n 2, 1) := by decide +kernel
theorem d162_601 : decode (mB 162) 601 = .ok (.iconst 0, 1) := by decide +kernel
theorem d162_602 : decode (mB 162) 602 = .ok (.iload_n 3, 1) := by decide +kernel
theorem d162_603 : decode (mB 162) 603 = .ok (.iconst 1, 1) := by decide +kernel
theorem d162_604 : decode (mB 162) 604 = .ok (.invokestatic 371, 3) := by decide +kernel
theorem d162_607 : decode (mB 162) 607 = .ok (.invokevirtual 367, 3) := by decide +kernel
theorem d162_610 : decode (mB 162) 610 = .ok (.iconst 0, 1) := by decide +kernel
theorem d162_611 : decode (mB 162) 611 = .ok (.ireturn, 1) := by decide +kernel
theorem d162_612 : decode (mB 162) 612 = .ok (.aload_n 0, 1) := by decide +kernel
theorem d162_613 : decode (mB 162) 613 = .ok (.iload_n 1, 1) := by decide +kernel
theorem d162_614 : decode (mB 162) 614 = .ok (.iload_n 2, 1) := by decide +kernel
theorem d162_615 : decode (mB 162) 615 = .ok (.iconst 0, 1) := by decide +kernel
theorem d162_616 : decode (mB 162) 616 = .ok (.iconst 2, 1) := by decide +kernel
theorem d162_617 : decode (mB 162) 617 = .ok (.invokevirtual 367, 3) := by decide +kernel
theorem d162_620 : decode (mB 162) 620 = .ok (.iconst 0, 1) := by decide +kernel
theorem d162_621 : decode (mB 162) 621 = .ok (.ireturn, 1) := by decide +kernel
theorem d162_622 : decode (mB 162) 622 = .ok (.aload_n 0, 1) := by decide +kernel
theorem d162_623 : decode (mB 162) 623 = .ok (.iload_n 1, 1) := by decide +kernel
theorem d162_624 : decode (mB 162) 624 = .ok (.iload_n 2, 1) := by decide +kernel
theorem d162_625 : decode (mB 162) 625 = .ok (.iconst 0, 1) := by decide +kernel
theorem d162_626 : decode (mB 162) 626 = .ok (.iconst 0, 1) := by decide +kernel
theorem d162_627 : decode (mB 162) 627 = .ok (.invokevirtual 367, 3) := by decide +kernel
theorem d162_630 : decode (mB 162) 630 = .ok (.iconst 0, 1) := by decide +kernel
theorem d162_631 : decode (mB 162) 631 = .ok (.ireturn, 1) := by decide +kernel
theorem d162_632 : decode (mB 162) 632 = .ok (.aload_n 0, 1) := by decide +kernel
theorem d162_633 : decode (mB 162) 633 = .ok (.iload_n 1, 1) := by decide +kernel
theorem d162_634 : decode (mB 162) 634 = .ok (.iload_n 2, 1) := by decide +kernel
theorem d162_635 : decode (mB 162) 635 = .ok (.iconst 0, 1) := by decide +kernel
theorem d162_636 : decode (mB 162) 636 = .ok (.iload_n 3, 1) := by decide +kernel
theorem d162_637 : decode (mB 162) 637 = .ok (.iconst 1, 1) := by decide +kernel
theorem d162_638 : decode (mB 162) 638 = .ok (.invokestatic 371, 3) := by decide +kernel
theorem d162_641 : decode (mB 162) 641 = .ok (.invokevirtual 367, 3) := by decide +kernel
theorem d162_644 : decode (mB 162) 644 = .ok (.iconst 0, 1) := by decide +kernel
theorem d162_645 : decode (mB 162) 645 = .ok (.ireturn, 1) := by decide +kernel
theorem d162_646 : decode (mB 162) 646 = .ok (.aload_n 0, 1) := by decide +kernel
theorem d162_647 : decode (mB 162) 647 = .ok (.iload_n 1, 1) := by decide +kernel
theorem d162_648 : decode (mB 162) 648 = .ok (.iload_n 2, 1) := by decide +kernel
theorem d162_649 : decode (mB 162) 649 = .ok (.iconst 0, 1) := by decide +kernel
theorem d162_650 : decode (mB 162) 650 = .ok (.iload_n 3, 1) := by decide +kernel
theorem d162_651 : decode (mB 162) 651 = .ok (.invokevirtual 367, 3) := by decide +kernel
theorem d162_654 : decode (mB 162) 654 = .ok (.iconst 0, 1) := by decide +kernel
theorem d162_655 : decode (mB 162) 655 = .ok (.ireturn, 1) := by decide +kernel
theorem d162_656 : decode (mB 162) 656 = .ok (.aload_n 0, 1) := by decide +kernel
theorem d162_657 : decode (mB 162) 657 = .ok (.getfield 92, 3) := by decide +kernel
theorem d162_660 : decode (mB 162) 660 = .ok (.iload_n 1, 1) := by decide +kernel
theorem d162_661 : decode (mB 162) 661 = .ok (.aload_n 0, 1) := by decide +kernel
theorem d162_662 : decode (mB 162) 662 = .ok (.getfield 36, 3) := by decide +kernel
theorem d162_665 : decode (mB 162) 665 = .ok (.iload_n 2, 1) := by decide +kernel
theorem d162_666 : decode (mB 162) 666 = .ok (.iaload, 1) := by decide +kernel
theorem d162_667 : decode (mB 162) 667 = .ok (.iastore, 1) := by decide +kernel
theorem d162_668 : decode (mB 162) 668 = .ok (.iconst 0, 1) := by decide +kernel
theorem d162_669 : decode (mB 162) 669 = .ok (.ireturn, 1) := by decide +kernel
theorem d175_0 : decode (mB 175) 0 = .ok (.aload_n 0, 1) := by decide +kernel
theorem d175_1 : decode (mB 175) 1 = .ok (.getfield 55, 3) := by decide +kernel
theorem d175_4 : decode (mB 175) 4 = .ok (.iload_n 2, 1) := by decide +kernel
theorem d175_5 : decode (mB 175) 5 = .ok (.iaload, 1) := by decide +kernel
theorem d175_6 : decode (mB 175) 6 = .ok (.istore_n 3, 1) := by decide +kernel
theorem d175_7 : decode (mB 175) 7 = .ok (.aload_n 0, 1) := by decide +kernel
theorem d175_8 : decode (mB 175) 8 = .ok (.getfield 89, 3) := by decide +kernel
theorem d175_11 : decode (mB 175) 11 = .ok (.iload_n 3, 1) := by decide +kernel
theorem d175_12 : decode (mB 175) 12 = .ok (.iaload, 1) := by decide +kernel
theorem d175_13 : decode (mB 175) 13 = .ok (.iconst 1, 1) := by decide +kernel
theorem d175_14 : decode (mB 175) 14 = .ok (.if_icmp .eq 5, 3) := by decide +kernel
theorem d175_17 : decode (mB 175) 17 = .ok (.iconst 0, 1) := by decide +kernel
theorem d175_18 : decode (mB 175) 18 = .ok (.ireturn, 1) := by decide +kernel
theorem d175_19 : decode (mB 175) 19 = .ok (.aload_n 0, 1) := by decide +kernel
theorem d175_20 : decode (mB 175) 20 = .ok (.getfield 149, 3) := by decide +kernel
theorem d175_23 : decode (mB 175) 23 = .ok (.iload_n 1, 1) := by decide +kernel
theorem d175_24 : decode (mB 175) 24 = .ok (.iaload, 1) := by decide +kernel
theorem d175_25 : decode (mB 175) 25 = .ok (.ifCond .ne 54, 3) := by decide +kernel
theorem d175_28 : decode (mB 175) 28 = .ok (.aload_n 0, 1) := by decide +kernel
theorem d175_29 : decode (mB 175) 29 = .ok (.dup, 1) := by decide +kernel
theorem d175_30 : decode (mB 175) 30 = .ok (.getfield 407, 3) := by decide +kernel
theorem d175_33 : decode (mB 175) 33 = .ok (.iconst 1, 1) := by decide +kernel
theorem d175_34 : decode (mB 175) 34 = .ok (.iadd, 1) := by decide +kernel
theorem d175_35 : decode (mB 175) 35 = .ok (.putfield 407, 3) := by decide +kernel
theorem d175_38 : decode (mB 175) 38 = .ok (.aload_n 0, 1) := by decide +kernel
theorem d175_39 : decode (mB 175) 39 = .ok (.getfield 149, 3) := by decide +kernel
theorem d175_42 : decode (mB 175) 42 = .ok (.iload_n 1, 1) := by decide +kernel
theorem d175_43 : decode (mB 175) 43 = .ok (.aload_n 0, 1) := by decide +kernel
theorem d175_44 : decode (mB 175) 44 = .ok (.getfield 407, 3) := by decide +kernel
theorem d175_47 : decode (mB 175) 47 = .ok (.iastore, 1) := by decide +kernel
theorem d175_48 : decode (mB 175) 48 = .ok (.aload_n 0, 1) := by decide +kernel
theorem d175_49 : decode (mB 175) 49 = .ok (.getfield 152, 3) := by decide +kernel
theorem d175_52 : decode (mB 175) 52 = .ok (.iload_n 1, 1) := by decide +kernel
theorem d175_53 : decode (mB 175) 53 = .ok (.iload_n 3, 1) := by decide +kernel
theorem d175_54 : decode (mB 175) 54 = .ok (.iastore, 1) := by decide +kernel
theorem d175_55 : decode (mB 175) 55 = .ok (.aload_n 0, 1) := by decide +kernel
theorem d175_56 : decode (mB 175) 56 = .ok (.iload_n 3, 1) := by decide +kernel
theorem d175_57 : decode (mB 175) 57 = .ok (.iload_n 1, 1) := by decide +kernel
theorem d175_58 : decode (mB 175) 58 = .ok (.aload_n 0, 1) := by decide +kernel
theorem d175_59 : decode (mB 175) 59 = .ok (.iload_n 1, 1) := by decide +kernel
theorem d175_60 : decode (mB 175) 60 = .ok (.aload_n 0, 1) := by decide +kernel
theorem d175_61 : decode (mB 175) 61 = .ok (.getfield 39, 3) := by decide +kernel
theorem d175_64 : decode (mB 175) 64 = .ok (.iload_n 2, 1) := by decide +kernel
theorem d175_65 : decode (mB 175) 65 = .ok (.iaload, 1) := by decide +kernel
theorem d175_66 : decode (mB 175) 66 = .ok (.invokevirtual 396, 3) := by decide +kernel
theorem d175_69 : decode (mB 175) 69 = .ok (.iconst (-1), 1) := by decide +kernel
theorem d175_70 : decode (mB 175) 70 = .ok (.aload_n 0, 1) := by decide +kernel
theorem d175_71 : decode (mB 175) 71 = .ok (.getfield 407, 3) := by decide +kernel
theorem d175_74 : decode (mB 175) 74 = .ok (.invokevirtual 386, 3) := by decide +kernel
theorem d175_77 : decode (mB 175) 77 = .ok (.iconst 1, 1) := by decide +kernel
theorem d175_78 : decode (mB 175) 78 = .ok (.ireturn, 1) := by decide +kernel
theorem d175_79 : decode (mB 175) 79 = .ok (.aload_n 0, 1) := by decide +kernel
theorem d175_80 : decode (mB 175) 80 = .ok (.iload_n 3, 1) := by decide +kernel
theorem d175_81 : decode (mB 175) 81 = .ok (.aload_n 0, 1) := by decide +kernel
theorem d175_82 : decode (mB 175) 82 = .ok (.getfield 149, 3) := by decide +kernel
theorem d175_85 : decode (mB 175) 85 = .ok (.iload_n 1, 1) := by decide +kernel
theorem d175_86 : decode (mB 175) 86 = .ok (.iaload, 1) := by decide +kernel
theorem d175_87 : decode (mB 175) 87 = .ok (.invokevirtual 410, 3) := by decide +kernel
theorem d175_90 : decode (mB 175) 90 = .ok (.ireturn, 1) := by decide +kernel
theorem d159_0 : decode (mB 159) 0 = .ok (.aload_n 0, 1) := by decide +kernel
theorem d159_1 : decode (mB 159) 1 = .ok (.dup, 1) := by decide +kernel
theorem d159_2 : decode (mB 159) 2 = .ok (.getfield 353, 3) := by decide +kernel
theorem d159_5 : decode (mB 159) 5 = .ok (.iconst 1, 1) := by decide +kernel
theorem d159_6 : decode (mB 159) 6 = .ok (.iadd, 1) := by decide +kernel
theorem d159_7 : decode (mB 159) 7 = .ok (.putfield 353, 3) := by decide +kernel
theorem d159_10 : decode (mB 159) 10 = .ok (.aload_n 0, 1) := by decide +kernel
theorem d159_11 : decode (mB 159) 11 = .ok (.invokevirtual 413, 3) := by decide +kernel
theorem d159_14 : decode (mB 159) 14 = .ok (.aload_n 0, 1) := by decide +kernel
theorem d159_15 : decode (mB 159) 15 = .ok (.iload_n 1, 1) := by decide +kernel
theorem d159_16 : decode (mB 159) 16 = .ok (.invokevirtual 416, 3) := by decide +kernel
theorem d159_19 : decode (mB 159) 19 = .ok (.istore_n 2, 1) := by decide +kernel
theorem d159_20 : decode (mB 159) 20 = .ok (.aload_n 0, 1) := by decide +kernel
theorem d159_21 : decode (mB 159) 21 = .ok (.getfield 98, 3) := by decide +kernel
theorem d159_24 : decode (mB 159) 24 = .ok (.iload_n 1, 1) := by decide +kernel
theorem d159_25 : decode (mB 159) 25 = .ok (.dup2, 1) := by decide +kernel
theorem d159_26 : decode (mB 159) 26 = .ok (.iaload, 1) := by decide +kernel
theorem d159_27 : decode (mB 159) 27 = .ok (.iload_n 2, 1) := by decide +kernel
theorem d159_28 : decode (mB 159) 28 = .ok (.iconst 4, 1) := by decide +kernel
theorem d159_29 : decode (mB 159) 29 = .ok (.if_icmp .ge 7, 3) := by decide +kernel
theorem d159_32 : decode (mB 159) 32 = .ok (.iconst 1, 1) := by decide +kernel
theorem d159_33 : decode (mB 159) 33 = .ok (.goto 4, 3) := by decide +kernel
theorem d159_36 : decode (mB 159) 36 = .ok (.iconst 0, 1) := by decide +kernel
theorem d159_37 : decode (mB 159) 37 = .ok (.iadd, 1) := by decide +kernel
theorem d159_38 : decode (mB 159) 38 = .ok (.iastore, 1) := by decide +kernel
theorem d159_39 : decode (mB 159) 39 = .ok (.iload_n 2, 1) := by decide +kernel
theorem d159_40 : decode (mB 159) 40 = .ok (.ireturn, 1) := by decide +kernel
theorem d157_0 : decode (mB 157) 0 = .ok (.iload_n 0, 1) := by decide +kernel
theorem d157_1 : decode (mB 157) 1 = .ok (.ifCond .lt 13, 3) := by decide +kernel
theorem d157_4 : decode (mB 157) 4 = .ok (.iload_n 0, 1) := by decide +kernel
theorem d157_5 : decode (mB 157) 5 = .ok (.bipush 6, 2) := by decide +kernel
theorem d157_7 : decode (mB 157) 7 = .ok (.if_icmp .ge 7, 3) := by decide +kernel
theorem d157_10 : decode (mB 157) 10 = .ok (.iconst 1, 1) := by decide +kernel
theorem d157_11 : decode (mB 157) 11 = .ok (.goto 4, 3) := by decide +kernel
theorem d157_14 : decode (mB 157) 14 = .ok (.iconst 0, 1) := by decide +kernel
theorem d157_15 : decode (mB 157) 15 = .ok (.ireturn, 1) := by decide +kernel
theorem d156_0 : decode (mB 156) 0 = .ok (.iload_n 1, 1) := by decide +kernel
theorem d156_1 : decode (mB 156) 1 = .ok (.invokestatic 419, 3) := by decide +kernel
theorem d156_4 : decode (mB 156) 4 = .ok (.ifCond .eq 25, 3) := by decide +kernel
theorem d156_7 : decode (mB 156) 7 = .ok (.iload_n 2, 1) := by decide +kernel
theorem d156_8 : decode (mB 156) 8 = .ok (.ifCond .lt 21, 3) := by decide +kernel
theorem d156_11 : decode (mB 156) 11 = .ok (.iload_n 2, 1) := by decide +kernel
theorem d156_12 : decode (mB 156) 12 = .ok (.aload_n 0, 1) := by decide +kernel
theorem d156_13 : decode (mB 156) 13 = .ok (.getfield 344, 3) := by decide +kernel
theorem d156_16 : decode (mB 156) 16 = .ok (.if_icmp .ge 13, 3) := by decide +kernel
theorem d156_19 : decode (mB 156) 19 = .ok (.aload_n 0, 1) := by decide +kernel
theorem d156_20 : decode (mB 156) 20 = .ok (.getfield 89, 3) := by decide +kernel
theorem d156_23 : decode (mB 156) 23 = .ok (.iload_n 1, 1) := by decide +kernel
theorem d156_24 : decode (mB 156) 24 = .ok (.iaload, 1) := by decide +kernel
theorem d156_25 : decode (mB 156) 25 = .ok (.iconst 1, 1) := by decide +kernel
theorem d156_26 : decode (mB 156) 26 = .ok (.if_icmp .ne 5, 3) := by decide +kernel
theorem d156_29 : decode (mB 156) 29 = .ok (.iconst (-1), 1) := by decide +kernel
theorem d156_30 : decode (mB 156) 30 = .ok (.ireturn, 1) := by decide +kernel
theorem d156_31 : decode (mB 156) 31 = .ok (.aload_n 0, 1) := by decide +kernel
theorem d156_32 : decode (mB 156) 32 = .ok (.getfield 89, 3) := by decide +kernel
theorem d156_35 : decode (mB 156) 35 = .ok (.iload_n 1, 1) := by decide +kernel
theorem d156_36 : decode (mB 156) 36 = .ok (.iconst 1, 1) := by decide +kernel
theorem d156_37 : decode (mB 156) 37 = .ok (.iastore, 1) := by decide +kernel
theorem d156_38 : decode (mB 156) 38 = .ok (.aload_n 0, 1) := by decide +kernel
theorem d156_39 : decode (mB 156) 39 = .ok (.getfield 92, 3) := by decide +kernel
theorem d156_42 : decode (mB 156) 42 = .ok (.iload_n 1, 1) := by decide +kernel
theorem d156_43 : decode (mB 156) 43 = .ok (.aload_n 0, 1) := by decide +kernel
theorem d156_44 : decode (mB 156) 44 = .ok (.getfield 27, 3) := by decide +kernel
theorem d156_47 : decode (mB 156) 47 = .ok (.iload_n 2, 1) := by decide +kernel
theorem d156_48 : decode (mB 156) 48 = .ok (.iaload, 1) := by decide +kernel
theorem d156_49 : decode (mB 156) 49 = .ok (.iastore, 1) := by decide +kernel
theorem d156_50 : decode (mB 156) 50 = .ok (.aload_n 0, 1) := by decide +kernel
theorem d156_51 : decode (mB 156) 51 = .ok (.getfield 95, 3) := by decide +kernel
theorem d156_54 : decode (mB 156) 54 = .ok (.iload_n 1, 1) := by decide +kernel
theorem d156_55 : decode (mB 156) 55 = .ok (.iconst 0, 1) := by decide +kernel
theorem d156_56 : decode (mB 156) 56 = .ok (.iastore, 1) := by decide +kernel
theorem d156_57 : decode (mB 156) 57 = .ok (.aload_n 0, 1) := by decide +kernel
theorem d156_58 : decode (mB 156) 58 = .ok (.getfield 98, 3) := by decide +kernel
theorem d156_61 : decode (mB 156) 61 = .ok (.iload_n 1, 1) := by decide +kernel
theorem d156_62 : decode (mB 156) 62 = .ok (.iconst 0, 1) := by decide +kernel
theorem d156_63 : decode (mB 156) 63 = .ok (.iastore, 1) := by decide +kernel
theorem d156_64 : decode (mB 156) 64 = .ok (.aload_n 0, 1) := by decide +kernel
theorem d156_65 : decode (mB 156) 65 = .ok (.getfield 101, 3) := by decide +kernel
theorem d156_68 : decode (mB 156) 68 = .ok (.iload_n 1, 1) := by decide +kernel
theorem d156_69 : decode (mB 156) 69 = .ok (.lconst 0, 1) := by decide +kernel
theorem d156_70 : decode (mB 156) 70 = .ok (.lastore, 1) := by decide +kernel
theorem d156_71 : decode (mB 156) 71 = .ok (.aload_n 0, 1) := by decide +kernel
theorem d156_72 : decode (mB 156) 72 = .ok (.getfield 107, 3) := by decide +kernel
theorem d156_75 : decode (mB 156) 75 = .ok (.iload_n 1, 1) := by decide +kernel
theorem d156_76 : decode (mB 156) 76 = .ok (.iconst 0, 1) := by decide +kernel
theorem d156_77 : decode (mB 156) 77 = .ok (.iastore, 1) := by decide +kernel
theorem d156_78 : decode (mB 156) 78 = .ok (.aload_n 0, 1) := by decide +kernel
theorem d156_79 : decode (mB 156) 79 = .ok (.getfield 134, 3) := by decide +kernel
theorem d156_82 : decode (mB 156) 82 = .ok (.iload_n 1, 1) := by decide +kernel
theorem d156_83 : decode (mB 156) 83 = .ok (.iconst 0, 1) := by decide +kernel
theorem d156_84 : decode (mB 156) 84 = .ok (.iastore, 1) := by decide +kernel
theorem d156_85 : decode (mB 156) 85 = .ok (.aload_n 0, 1) := by decide +kernel
theorem d156_86 : decode (mB 156) 86 = .ok (.getfield 149, 3) := by decide +kernel
theorem d156_89 : decode (mB 156) 89 = .ok (.iload_n 1, 1) := by decide +kernel
theorem d156_90 : decode (mB 156) 90 = .ok (.iconst 0, 1) := by decide +kernel
theorem d156_91 : decode (mB 156) 91 = .ok (.iastore, 1) := by decide +kernel
theorem d156_92 : decode (mB 156) 92 = .ok (.iconst 0, 1) := by decide +kernel
theorem d156_93 : decode (mB 156) 93 = .ok (.istore_n 3, 1) := by decide +kernel
theorem d156_94 : decode (mB 156) 94 = .ok (.iload_n 3, 1) := by decide +kernel
theorem d156_95 : decode (mB 156) 95 = .ok (.bipush 10, 2) := by decide +kernel
theorem d156_97 : decode (mB 156) 97 = .ok (.if_icmp .ge 21, 3) := by decide +kernel
theorem d156_100 : decode (mB 156) 100 = .ok (.aload_n 0, 1) := by decide +kernel
theorem d156_101 : decode (mB 156) 101 = .ok (.getfield 104, 3) := by decide +kernel
theorem d156_104 : decode (mB 156) 104 = .ok (.bipush 10, 2) := by decide +kernel
theorem d156_106 : decode (mB 156) 106 = .ok (.iload_n 1, 1) := by decide +kernel
theorem d156_107 : decode (mB 156) 107 = .ok (.imul, 1) := by decide +kernel
theorem d156_108 : decode (mB 156) 108 = .ok (.iload_n 3, 1) := by decide +kernel
theorem d156_109 : decode (mB 156) 109 = .ok (.iadd, 1) := by decide +kernel
theorem d156_110 : decode (mB 156) 110 = .ok (.lconst 0, 1) := by decide +kernel
theorem d156_111 : decode (mB 156) 111 = .ok (.lastore, 1) := by decide +kernel
theorem d156_112 : decode (mB 156) 112 = .ok (.iinc 3 1, 3) := by decide +kernel
theorem d156_115 : decode (mB 156) 115 = .ok (.goto (-21), 3) := by decide +kernel
theorem d156_118 : decode (mB 156) 118 = .ok (.iconst 1, 1) := by decide +kernel
theorem d156_119 : decode (mB 156) 119 = .ok (.ireturn, 1) := by decide +kernel
theorem d158_0 : decode (mB 158) 0 = .ok (.iload_n 1, 1) := by decide +kernel
theorem d158_1 : decode (mB 158) 1 = .ok (.invokestatic 419, 3) := by decide +kernel
theorem d158_4 : decode (mB 158) 4 = .ok (.ifCond .eq 21, 3) := by decide +kernel
theorem d158_7 : decode (mB 158) 7 = .ok (.aload_n 0, 1) := by decide +kernel
theorem d158_8 : decode (mB 158) 8 = .ok (.getfield 89, 3) := by decide +kernel
theorem d158_11 : decode (mB 158) 11 = .ok (.iload_n 1, 1) := by decide +kernel
theorem d158_12 : decode (mB 158) 12 = .ok (.iaload, 1) := by decide +kernel
theorem d158_13 : decode (mB 158) 13 = .ok (.iconst 1, 1) := by decide +kernel
theorem d158_14 : decode (mB 158) 14 = .ok (.if_icmp .ne 11, 3) := by decide +kernel
theorem d158_17 : decode (mB 158) 17 = .ok (.aload_n 0, 1) := by decide +kernel
theorem d158_18 : decode (mB 158) 18 = .ok (.iload_n 1, 1) := by decide +kernel
theorem d158_19 : decode (mB 158) 19 = .ok (.invokevirtual 422, 3) := by decide +kernel
theorem d158_22 : decode (mB 158) 22 = .ok (.goto 4, 3) := by decide +kernel
theorem d158_25 : decode (mB 158) 25 = .ok (.iconst (-1), 1) := by decide +kernel
theorem d158_26 : decode (mB 158) 26 = .ok (.ireturn, 1) := by decide +kernel
theorem d177_0 : decode (mB 177) 0 = .ok (.iload_n 3, 1) := by decide +kernel
theorem d177_1 : decode (mB 177) 1 = .ok (.ifCond .lt 10, 3) := by decide +kernel
theorem d177_4 : decode (mB 177) 4 = .ok (.iload_n 3, 1) := by decide +kernel
theorem d177_5 : decode (mB 177) 5 = .ok (.sipush 2000, 3) := by decide +kernel
theorem d177_8 : decode (mB 177) 8 = .ok (.if_icmp .le 5, 3) := by decide +kernel
theorem d177_11 : decode (mB 177) 11 = .ok (.iconst (-1), 1) := by decide +kernel
theorem d177_12 : decode (mB 177) 12 = .ok (.ireturn, 1) := by decide +kernel
theorem d177_13 : decode (mB 177) 13 = .ok (.lload_n 1, 1) := by decide +kernel
theorem d177_14 : decode (mB 177) 14 = .ok (.lstore 4, 2) := by decide +kernel
theorem d177_16 : decode (mB 177) 16 = .ok (.iconst 0, 1) := by decide +kernel
theorem d177_17 : decode (mB 177) 17 = .ok (.istore 6, 2) := by decide +kernel
theorem d177_19 : decode (mB 177) 19 = .ok (.iconst 0, 1) := by decide +kernel
theorem d177_20 : decode (mB 177) 20 = .ok (.istore 7, 2) := by decide +kernel
theorem d177_22 : decode (mB 177) 22 = .ok (.iload 7, 2) := by decide +kernel
theorem d177_24 : decode (mB 177) 24 = .ok (.iload_n 3, 1) := by decide +kernel
theorem d177_25 : decode (mB 177) 25 = .ok (.if_icmp .ge 68, 3) := by decide +kernel
theorem d177_28 : decode (mB 177) 28 = .ok (.lload 4, 2) := by decide +kernel
theorem d177_30 : decode (mB 177) 30 = .ok (.ldc2_w 425, 3) := by decide +kernel
theorem d177_33 : decode (mB 177) 33 = .ok (.lmul, 1) := by decide +kernel
theorem d177_34 : decode (mB 177) 34 = .ok (.ldc2_w 427, 3) := by decide +kernel
theorem d177_37 : decode (mB 177) 37 = .ok (.ladd, 1) := by decide +kernel
theorem d177_38 : decode (mB 177) 38 = .ok (.lstore 4, 2) := by decide +kernel
theorem d177_40 : decode (mB 177) 40 = .ok (.lload 4, 2) := by decide +kernel
theorem d177_42 : decode (mB 177) 42 = .ok (.bipush 61, 2) := by decide +kernel
theorem d177_44 : decode (mB 177) 44 = .ok (.lushr, 1) := by decide +kernel
theorem d177_45 : decode (mB 177) 45 = .ok (.l2i, 1) := by decide +kernel
theorem d177_46 : decode (mB 177) 46 = .ok (.istore 8, 2) := by decide +kernel
theorem d177_48 : decode (mB 177) 48 = .ok (.iload 8, 2) := by decide +kernel
theorem d177_50 : decode (mB 177) 50 = .ok (.invokestatic 419, 3) := by decide +kernel
theorem d177_53 : decode (mB 177) 53 = .ok (.ifCond .eq 34, 3) := by decide +kernel
theorem d177_56 : decode (mB 177) 56 = .ok (.aload_n 0, 1) := by decide +kernel
theorem d177_57 : decode (mB 177) 57 = .ok (.getfield 89, 3) := by decide +kernel
theorem d177_60 : decode (mB 177) 60 = .ok (.iload 8, 2) := by decide +kernel
theorem d177_62 : decode (mB 177) 62 = .ok (.iaload, 1) := by decide +kernel
theorem d177_63 : decode (mB 177) 63 = .ok (.iconst 1, 1) := by decide +kernel
theorem d177_64 : decode (mB 177) 64 = .ok (.if_icmp .ne 23, 3) := by decide +kernel
theorem d177_67 : decode (mB 177) 67 = .ok (.iload 6, 2) := by decide +kernel
theorem d177_69 : decode (mB 177) 69 = .ok (.aload_n 0, 1) := by decide +kernel
theorem d177_70 : decode (mB 177) 70 = .ok (.iload 8, 2) := by decide +kernel
theorem d177_72 : decode (mB 177) 72 = .ok (.invokevirtual 422, 3) := by decide +kernel
theorem d177_75 : decode (mB 177) 75 = .ok (.iconst 4, 1) := by decide +kernel
theorem d177_76 : decode (mB 177) 76 = .ok (.if_icmp .ge 7, 3) := by decide +kernel
theorem d177_79 : decode (mB 177) 79 = .ok (.iconst 1, 1) := by decide +kernel
theorem d177_80 : decode (mB 177) 80 = .ok (.goto 4, 3) := by decide +kernel
theorem d177_83 : decode (mB 177) 83 = .ok (.iconst 0, 1) := by decide +kernel
theorem d177_84 : decode (mB 177) 84 = .ok (.iadd, 1) := by decide +kernel
theorem d177_85 : decode (mB 177) 85 = .ok (.istore 6, 2) := by decide +kernel
theorem d177_87 : decode (mB 177) 87 = .ok (.iinc 7 1, 3) := by decide +kernel
theorem d177_90 : decode (mB 177) 90 = .ok (.goto (-68), 3) := by decide +kernel
theorem d177_93 : decode (mB 177) 93 = .ok (.iload 6, 2) := by decide +kernel
theorem d177_95 : decode (mB 177) 95 = .ok (.ireturn, 1) := by decide +kernel
theorem d178_0 : decode (mB 178) 0 = .ok (.iload_n 1, 1) := by decide +kernel
theorem d178_1 : decode (mB 178) 1 = .ok (.invokestatic 419, 3) := by decide +kernel
theorem d178_4 : decode (mB 178) 4 = .ok (.ifCond .eq 13, 3) := by decide +kernel
theorem d178_7 : decode (mB 178) 7 = .ok (.aload_n 0, 1) := by decide +kernel
theorem d178_8 : decode (mB 178) 8 = .ok (.getfield 89, 3) := by decide +kernel
theorem d178_11 : decode (mB 178) 11 = .ok (.iload_n 1, 1) := by decide +kernel
theorem d178_12 : decode (mB 178) 12 = .ok (.iaload, 1) := by decide +kernel
theorem d178_13 : decode (mB 178) 13 = .ok (.iconst 1, 1) := by decide +kernel
theorem d178_14 : decode (mB 178) 14 = .ok (.if_icmp .eq 5, 3) := by decide +kernel
theorem d178_17 : decode (mB 178) 17 = .ok (.iconst (-1), 1) := by decide +kernel
theorem d178_18 : decode (mB 178) 18 = .ok (.ireturn, 1) := by decide +kernel
theorem d178_19 : decode (mB 178) 19 = .ok (.iconst 0, 1) := by decide +kernel
theorem d178_20 : decode (mB 178) 20 = .ok (.istore 4, 2) := by decide +kernel
theorem d178_22 : decode (mB 178) 22 = .ok (.iconst 0, 1) := by decide +kernel
theorem d178_23 : decode (mB 178) 23 = .ok (.istore 5, 2) := by decide +kernel
theorem d178_25 : decode (mB 178) 25 = .ok (.iload 5, 2) := by decide +kernel
theorem d178_27 : decode (mB 178) 27 = .ok (.aload_n 0, 1) := by decide +kernel
theorem d178_28 : decode (mB 178) 28 = .ok (.getfield 134, 3) := by decide +kernel
theorem d178_31 : decode (mB 178) 31 = .ok (.iload_n 1, 1) := by decide +kernel
theorem d178_32 : decode (mB 178) 32 = .ok (.iaload, 1) := by decide +kernel
theorem d178_33 : decode (mB 178) 33 = .ok (.if_icmp .ge 36, 3) := by decide +kernel
theorem d178_36 : decode (mB 178) 36 = .ok (.iload 4, 2) := by decide +kernel
theorem d178_38 : decode (mB 178) 38 = .ok (.aload_n 0, 1) := by decide +kernel
theorem d178_39 : decode (mB 178) 39 = .ok (.getfield 137, 3) := by decide +kernel
theorem d178_42 : decode (mB 178) 42 = .ok (.bipush 32, 2) := by decide +kernel
theorem d178_44 : decode (mB 178) 44 = .ok (.iload_n 1, 1) := by decide +kernel
theorem d178_45 : decode (mB 178) 45 = .ok (.imul, 1) := by decide +kernel
theorem d178_46 : decode (mB 178) 46 = .ok (.iload 5, 2) := by decide +kernel
theorem d178_48 : decode (mB 178) 48 = .ok (.iadd, 1) := by decide +kernel
theorem d178_49 : decode (mB 178) 49 = .ok (.iaload, 1) := by decide +kernel
theorem d178_50 : decode (mB 178) 50 = .ok (.bipush 6, 2) := by decide +kernel
theorem d178_52 : decode (mB 178) 52 = .ok (.if_icmp .ne 7, 3) := by decide +kernel
theorem d178_55 : decode (mB 178) 55 = .ok (.iconst 1, 1) := by decide +kernel
theorem d178_56 : decode (mB 178) 56 = .ok (.goto 4, 3) := by decide +kernel
theorem d178_59 : decode (mB 178) 59 = .ok (.iconst 0, 1) := by decide +kernel
theorem d178_60 : decode (mB 178) 60 = .ok (.iadd, 1) := by decide +kernel
theorem d178_61 : decode (mB 178) 61 = .ok (.istore 4, 2) := by decide +kernel
theorem d178_63 : decode (mB 178) 63 = .ok (.iinc 5 1, 3) := by decide +kernel
theorem d178_66 : decode (mB 178) 66 = .ok (.goto (-41), 3) := by decide +kernel
theorem d178_69 : decode (mB 178) 69 = .ok (.iload 4, 2) := by decide +kernel
theorem d178_71 : decode (mB 178) 71 = .ok (.bipush 8, 2) := by decide +kernel
theorem d178_73 : decode (mB 178) 73 = .ok (.if_icmp .ne 5, 3) := by decide +kernel
theorem d178_76 : decode (mB 178) 76 = .ok (.iconst (-1), 1) := by decide +kernel
theorem d178_77 : decode (mB 178) 77 = .ok (.ireturn, 1) := by decide +kernel
theorem d178_78 : decode (mB 178) 78 = .ok (.aload_n 0, 1) := by decide +kernel
theorem d178_79 : decode (mB 178) 79 = .ok (.iload_n 1, 1) := by decide +kernel
theorem d178_80 : decode (mB 178) 80 = .ok (.bipush 6, 2) := by decide +kernel
theorem d178_82 : decode (mB 178) 82 = .ok (.lload_n 2, 1) := by decide +kernel
theorem d178_83 : decode (mB 178) 83 = .ok (.iconst (-1), 1) := by decide +kernel
theorem d178_84 : decode (mB 178) 84 = .ok (.iconst 0, 1) := by decide +kernel
theorem d178_85 : decode (mB 178) 85 = .ok (.invokevirtual 386, 3) := by decide +kernel
theorem d178_88 : decode (mB 178) 88 = .ok (.aload_n 0, 1) := by decide +kernel
theorem d178_89 : decode (mB 178) 89 = .ok (.getfield 134, 3) := by decide +kernel
theorem d178_92 : decode (mB 178) 92 = .ok (.iload_n 1, 1) := by decide +kernel
theorem d178_93 : decode (mB 178) 93 = .ok (.iaload, 1) := by decide +kernel
theorem d178_94 : decode (mB 178) 94 = .ok (.ireturn, 1) := by decide +kernel
theorem d180_0 : decode (mB 180) 0 = .ok (.iload_n 0, 1) := by decide +kernel
theorem d180_1 : decode (mB 180) 1 = .ok (.ifCond .lt 13, 3) := by decide +kernel
theorem d180_4 : decode (mB 180) 4 = .ok (.iload_n 0, 1) := by decide +kernel
theorem d180_5 : decode (mB 180) 5 = .ok (.bipush 8, 2) := by decide +kernel
theorem d180_7 : decode (mB 180) 7 = .ok (.if_icmp .ge 7, 3) := by decide +kernel
theorem d180_10 : decode (mB 180) 10 = .ok (.iconst 1, 1) := by decide +kernel
theorem d180_11 : decode (mB 180) 11 = .ok (.goto 4, 3) := by decide +kernel
theorem d180_14 : decode (mB 180) 14 = .ok (.iconst 0, 1) := by decide +kernel
theorem d180_15 : decode (mB 180) 15 = .ok (.ireturn, 1) := by decide +kernel
theorem d179_0 : decode (mB 179) 0 = .ok (.iload_n 1, 1) := by decide +kernel
theorem d179_1 : decode (mB 179) 1 = .ok (.invokestatic 429, 3) := by decide +kernel
theorem d179_4 : decode (mB 179) 4 = .ok (.ifCond .eq 12, 3) := by decide +kernel
theorem d179_7 : decode (mB 179) 7 = .ok (.aload_n 0, 1) := by decide +kernel
theorem d179_8 : decode (mB 179) 8 = .ok (.getfield 83, 3) := by decide +kernel
theorem d179_11 : decode (mB 179) 11 = .ok (.iload_n 1, 1) := by decide +kernel
theorem d179_12 : decode (mB 179) 12 = .ok (.baload, 1) := by decide +kernel
theorem d179_13 : decode (mB 179) 13 = .ok (.ifCond .eq 5, 3) := by decide +kernel
theorem d179_16 : decode (mB 179) 16 = .ok (.iconst (-1), 1) := by decide +kernel
theorem d179_17 : decode (mB 179) 17 = .ok (.ireturn, 1) := by decide +kernel
theorem d179_18 : decode (mB 179) 18 = .ok (.aload_n 0, 1) := by decide +kernel
theorem d179_19 : decode (mB 179) 19 = .ok (.getfield 83, 3) := by decide +kernel
theorem d179_22 : decode (mB 179) 22 = .ok (.iload_n 1, 1) := by decide +kernel
theorem d179_23 : decode (mB 179) 23 = .ok (.iconst 1, 1) := by decide +kernel
theorem d179_24 : decode (mB 179) 24 = .ok (.bastore, 1) := by decide +kernel
theorem d179_25 : decode (mB 179) 25 = .ok (.aload_n 0, 1) := by decide +kernel
theorem d179_26 : decode (mB 179) 26 = .ok (.getfield 86, 3) := by decide +kernel
theorem d179_29 : decode (mB 179) 29 = .ok (.iload_n 1, 1) := by decide +kernel
theorem d179_30 : decode (mB 179) 30 = .ok (.lload_n 2, 1) := by decide +kernel
theorem d179_31 : decode (mB 179) 31 = .ok (.lastore, 1) := by decide +kernel
theorem d179_32 : decode (mB 179) 32 = .ok (.iconst 1, 1) := by decide +kernel
theorem d179_33 : decode (mB 179) 33 = .ok (.ireturn, 1) := by decide +kernel
theorem d181_0 : decode (mB 181) 0 = .ok (.iload_n 1, 1) := by decide +kernel
theorem d181_1 : decode (mB 181) 1 = .ok (.invokestatic 429, 3) := by decide +kernel
theorem d181_4 : decode (mB 181) 4 = .ok (.ifCond .ne 7, 3) := by decide +kernel
theorem d181_7 : decode (mB 181) 7 = .ok (.iconst (-1), 1) := by decide +kernel
theorem d181_8 : decode (mB 181) 8 = .ok (.goto 17, 3) := by decide +kernel
theorem d181_11 : decode (mB 181) 11 = .ok (.aload_n 0, 1) := by decide +kernel
theorem d181_12 : decode (mB 181) 12 = .ok (.getfield 83, 3) := by decide +kernel
theorem d181_15 : decode (mB 181) 15 = .ok (.iload_n 1, 1) := by decide +kernel
theorem d181_16 : decode (mB 181) 16 = .ok (.baload, 1) := by decide +kernel
theorem d181_17 : decode (mB 181) 17 = .ok (.ifCond .eq 7, 3) := by decide +kernel
theorem d181_20 : decode (mB 181) 20 = .ok (.iconst 1, 1) := by decide +kernel
theorem d181_21 : decode (mB 181) 21 = .ok (.goto 4, 3) := by decide +kernel
theorem d181_24 : decode (mB 181) 24 = .ok (.iconst 0, 1) := by decide +kernel
theorem d181_25 : decode (mB 181) 25 = .ok (.ireturn, 1) := by decide +kernel
theorem d182_0 : decode (mB 182) 0 = .ok (.iload_n 1, 1) := by decide +kernel
theorem d182_1 : decode (mB 182) 1 = .ok (.invokestatic 429, 3) := by decide +kernel
theorem d182_4 : decode (mB 182) 4 = .ok (.ifCond .eq 21, 3) := by decide +kernel
theorem d182_7 : decode (mB 182) 7 = .ok (.aload_n 0, 1) := by decide +kernel
theorem d182_8 : decode (mB 182) 8 = .ok (.getfield 83, 3) := by decide +kernel
theorem d182_11 : decode (mB 182) 11 = .ok (.iload_n 1, 1) := by decide +kernel
theorem d182_12 : decode (mB 182) 12 = .ok (.baload, 1) := by decide +kernel
theorem d182_13 : decode (mB 182) 13 = .ok (.ifCond .eq 12, 3) := by decide +kernel
theorem d182_16 : decode (mB 182) 16 = .ok (.aload_n 0, 1) := by decide +kernel
theorem d182_17 : decode (mB 182) 17 = .ok (.getfield 86, 3) := by decide +kernel
theorem d182_20 : decode (mB 182) 20 = .ok (.iload_n 1, 1) := by decide +kernel
theorem d182_21 : decode (mB 182) 21 = .ok (.laload, 1) := by decide +kernel
theorem d182_22 : decode (mB 182) 22 = .ok (.goto 4, 3) := by decide +kernel
theorem d182_25 : decode (mB 182) 25 = .ok (.lconst 0, 1) := by decide +kernel
theorem d182_26 : decode (mB 182) 26 = .ok (.lreturn, 1) := by decide +kernel
theorem d183_0 : decode (mB 183) 0 = .ok (.iload_n 1, 1) := by decide +kernel
theorem d183_1 : decode (mB 183) 1 = .ok (.invokestatic 419, 3) := by decide +kernel
theorem d183_4 : decode (mB 183) 4 = .ok (.ifCond .eq 13, 3) := by decide +kernel
theorem d183_7 : decode (mB 183) 7 = .ok (.iload_n 2, 1) := by decide +kernel
theorem d183_8 : decode (mB 183) 8 = .ok (.ifCond .lt 9, 3) := by decide +kernel
theorem d183_11 : decode (mB 183) 11 = .ok (.iload_n 2, 1) := by decide +kernel
theorem d183_12 : decode (mB 183) 12 = .ok (.bipush 6, 2) := by decide +kernel
theorem d183_14 : decode (mB 183) 14 = .ok (.if_icmp .le 5, 3) := by decide +kernel
theorem d183_17 : decode (mB 183) 17 = .ok (.iconst (-1), 1) := by decide +kernel
theorem d183_18 : decode (mB 183) 18 = .ok (.ireturn, 1) := by decide +kernel
theorem d183_19 : decode (mB 183) 19 = .ok (.aload_n 0, 1) := by decide +kernel
theorem d183_20 : decode (mB 183) 20 = .ok (.getfield 89, 3) := by decide +kernel
theorem d183_23 : decode (mB 183) 23 = .ok (.iload_n 1, 1) := by decide +kernel
theorem d183_24 : decode (mB 183) 24 = .ok (.iaload, 1) := by decide +kernel
theorem d183_25 : decode (mB 183) 25 = .ok (.iconst 1, 1) := by decide +kernel
theorem d183_26 : decode (mB 183) 26 = .ok (.if_icmp .ne 7, 3) := by decide +kernel
theorem d183_29 : decode (mB 183) 29 = .ok (.iconst 1, 1) := by decide +kernel
theorem d183_30 : decode (mB 183) 30 = .ok (.goto 4, 3) := by decide +kernel
theorem d183_33 : decode (mB 183) 33 = .ok (.iconst 0, 1) := by decide +kernel
theorem d183_34 : decode (mB 183) 34 = .ok (.istore_n 3, 1) := by decide +kernel
theorem d183_35 : decode (mB 183) 35 = .ok (.iload_n 2, 1) := by decide +kernel
theorem d183_36 : decode (mB 183) 36 = .ok (.tableswitch 87 0 4 #[36, 43, 58, 65, 72], 36) := by decide +kernel
theorem d183_72 : decode (mB 183) 72 = .ok (.aload_n 0, 1) := by decide +kernel
theorem d183_73 : decode (mB 183) 73 = .ok (.getfield 89, 3) := by decide +kernel
theorem d183_76 : decode (mB 183) 76 = .ok (.iload_n 1, 1) := by decide +kernel
theorem d183_77 : decode (mB 183) 77 = .ok (.iaload, 1) := by decide +kernel
theorem d183_78 : decode (mB 183) 78 = .ok (.ireturn, 1) := by decide +kernel
theorem d183_79 : decode (mB 183) 79 = .ok (.iload_n 3, 1) := by decide +kernel
theorem d183_80 : decode (mB 183) 80 = .ok (.ifCond .eq 12, 3) := by decide +kernel
theorem d183_83 : decode (mB 183) 83 = .ok (.aload_n 0, 1) := by decide +kernel
theorem d183_84 : decode (mB 183) 84 = .ok (.getfield 95, 3) := by decide +kernel
theorem d183_87 : decode (mB 183) 87 = .ok (.iload_n 1, 1) := by decide +kernel
theorem d183_88 : decode (mB 183) 88 = .ok (.iaload, 1) := by decide +kernel
theorem d183_89 : decode (mB 183) 89 = .ok (.goto 4, 3) := by decide +kernel
theorem d183_92 : decode (mB 183) 92 = .ok (.iconst 0, 1) := by decide +kernel
theorem d183_93 : decode (mB 183) 93 = .ok (.ireturn, 1) := by decide +kernel
theorem d183_94 : decode (mB 183) 94 = .ok (.aload_n 0, 1) := by decide +kernel
theorem d183_95 : decode (mB 183) 95 = .ok (.getfield 98, 3) := by decide +kernel
theorem d183_98 : decode (mB 183) 98 = .ok (.iload_n 1, 1) := by decide +kernel
theorem d183_99 : decode (mB 183) 99 = .ok (.iaload, 1) := by decide +kernel
theorem d183_100 : decode (mB 183) 100 = .ok (.ireturn, 1) := by decide +kernel
theorem d183_101 : decode (mB 183) 101 = .ok (.aload_n 0, 1) := by decide +kernel
theorem d183_102 : decode (mB 183) 102 = .ok (.getfield 134, 3) := by decide +kernel
theorem d183_105 : decode (mB 183) 105 = .ok (.iload_n 1, 1) := by decide +kernel
theorem d183_106 : decode (mB 183) 106 = .ok (.iaload, 1) := by decide +kernel
theorem d183_107 : decode (mB 183) 107 = .ok (.ireturn, 1) := by decide +kernel
theorem d183_108 : decode (mB 183) 108 = .ok (.iload_n 3, 1) := by decide +kernel
theorem d183_109 : decode (mB 183) 109 = .ok (.ifCond .eq 12, 3) := by decide +kernel
theorem d183_112 : decode (mB 183) 112 = .ok (.aload_n 0, 1) := by decide +kernel
theorem d183_113 : decode (mB 183) 113 = .ok (.getfield 107, 3) := by decide +kernel
theorem d183_116 : decode (mB 183) 116 = .ok (.iload_n 1, 1) := by decide +kernel
theorem d183_117 : decode (mB 183) 117 = .ok (.iaload, 1) := by decide +kernel
theorem d183_118 : decode (mB 183) 118 = .ok (.goto 4, 3) := by decide +kernel
theorem d183_121 : decode (mB 183) 121 = .ok (.iconst 0, 1) := by decide +kernel
theorem d183_122 : decode (mB 183) 122 = .ok (.ireturn, 1) := by decide +kernel
theorem d183_123 : decode (mB 183) 123 = .ok (.iconst 0, 1) := by decide +kernel
theorem d183_124 : decode (mB 183) 124 = .ok (.istore 4, 2) := by decide +kernel
theorem d183_126 : decode (mB 183) 126 = .ok (.iconst 0, 1) := by decide +kernel
theorem d183_127 : decode (mB 183) 127 = .ok (.istore 5, 2) := by decide +kernel
theorem d183_129 : decode (mB 183) 129 = .ok (.iload 5, 2) := by decide +kernel
theorem d183_131 : decode (mB 183) 131 = .ok (.aload_n 0, 1) := by decide +kernel
theorem d183_132 : decode (mB 183) 132 = .ok (.getfield 107, 3) := by decide +kernel
theorem d183_135 : decode (mB 183) 135 = .ok (.iload_n 1, 1) := by decide +kernel
theorem d183_136 : decode (mB 183) 136 = .ok (.iaload, 1) := by decide +kernel
theorem d183_137 : decode (mB 183) 137 = .ok (.if_icmp .ge 72, 3) := by decide +kernel
theorem d183_140 : decode (mB 183) 140 = .ok (.iload_n 3, 1) := by decide +kernel
theorem d183_141 : decode (mB 183) 141 = .ok (.ifCond .eq 68, 3) := by decide +kernel
theorem d183_144 : decode (mB 183) 144 = .ok (.bipush 9, 2) := by decide +kernel
theorem d183_146 : decode (mB 183) 146 = .ok (.iload_n 1, 1) := by decide +kernel
theorem d183_147 : decode (mB 183) 147 = .ok (.imul, 1) := by decide +kernel
theorem d183_148 : decode (mB 183) 148 = .ok (.iload 5, 2) := by decide +kernel
theorem d183_150 : decode (mB 183) 150 = .ok (.iadd, 1) := by decide +kernel
theorem d183_151 : decode (mB 183) 151 = .ok (.istore 6, 2) := by decide +kernel
theorem d183_153 : decode (mB 183) 153 = .ok (.iload 4, 2) := by decide +kernel
theorem d183_155 : decode (mB 183) 155 = .ok (.iload_n 2, 1) := by decide +kernel
theorem d183_156 : decode (mB 183) 156 = .ok (.iconst 5, 1) := by decide +kernel
theorem d183_157 : decode (mB 183) 157 = .ok (.if_icmp .ne 28, 3) := by decide +kernel
theorem d183_160 : decode (mB 183) 160 = .ok (.aload_n 0, 1) := by decide +kernel
theorem d183_161 : decode (mB 183) 161 = .ok (.getfield 119, 3) := by decide +kernel
theorem d183_164 : decode (mB 183) 164 = .ok (.iload 6, 2) := by decide +kernel
theorem d183_166 : decode (mB 183) 166 = .ok (.laload, 1) := by decide +kernel
theorem d183_167 : decode (mB 183) 167 = .ok (.lconst 0, 1) := by decide +kernel
theorem d183_168 : decode (mB 183) 168 = .ok (.lcmp, 1) := by decide +kernel
theorem d183_169 : decode (mB 183) 169 = .ok (.ifCond .lt 30, 3) := by decide +kernel
theorem d183_172 : decode (mB 183) 172 = .ok (.aload_n 0, 1) := by decide +kernel
theorem d183_173 : decode (mB 183) 173 = .ok (.getfield 122, 3) := by decide +kernel
theorem d183_176 : decode (mB 183) 176 = .ok (.iload 6, 2) := by decide +kernel
theorem d183_178 : decode (mB 183) 178 = .ok (.baload, 1) := by decide +kernel
theorem d183_179 : decode (mB 183) 179 = .ok (.ifCond .ne 20, 3) := by decide +kernel
theorem d183_182 : decode (mB 183) 182 = .ok (.goto 13, 3) := by decide +kernel
theorem d183_185 : decode (mB 183) 185 = .ok (.aload_n 0, 1) := by decide +kernel
theorem d183_186 : decode (mB 183) 186 = .ok (.getfield 125, 3) := by decide +kernel
theorem d183_189 : decode (mB 183) 189 = .ok (.iload 6, 2) := by decide +kernel
theorem d183_191 : decode (mB 183) 191 = .ok (.iaload, 1) := by decide +kernel
theorem d183_192 : decode (mB 183) 192 = .ok (.ifCond .le 7, 3) := by decide +kernel
theorem d183_195 : decode (mB 183) 195 = .ok (.iconst 1, 1) := by decide +kernel
theorem d183_196 : decode (mB 183) 196 = .ok (.goto 4, 3) := by decide +kernel
theorem d183_199 : decode (mB 183) 199 = .ok (.iconst 0, 1) := by decide +kernel
theorem d183_200 : decode (mB 183) 200 = .ok (.iadd, 1) := by decide +kernel
theorem d183_201 : decode (mB 183) 201 = .ok (.istore 4, 2) := by decide +kernel
theorem d183_203 : decode (mB 183) 203 = .ok (.iinc 5 1, 3) := by decide +kernel
theorem d183_206 : decode (mB 183) 206 = .ok (.goto (-77), 3) := by decide +kernel
theorem d183_209 : decode (mB 183) 209 = .ok (.iload_n 2, 1) := by decide +kernel
theorem d183_210 : decode (mB 183) 210 = .ok (.iconst 5, 1) := by decide +kernel
theorem d183_211 : decode (mB 183) 211 = .ok (.if_icmp .eq 8, 3) := by decide +kernel
theorem d183_214 : decode (mB 183) 214 = .ok (.iload 4, 2) := by decide +kernel
theorem d183_216 : decode (mB 183) 216 = .ok (.ifCond .ne 8, 3) := by decide +kernel
theorem d183_219 : decode (mB 183) 219 = .ok (.iload 4, 2) := by decide +kernel
theorem d183_221 : decode (mB 183) 221 = .ok (.goto 4, 3) := by decide +kernel
theorem d183_224 : decode (mB 183) 224 = .ok (.iconst 1, 1) := by decide +kernel
theorem d183_225 : decode (mB 183) 225 = .ok (.ireturn, 1) := by decide +kernel
theorem d184_0 : decode (mB 184) 0 = .ok (.iload_n 1, 1) := by decide +kernel
