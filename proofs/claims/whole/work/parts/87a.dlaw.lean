theorem dL_law_0 : decode code 0 = .ok (.new 8, 3) := decode_sh lwA0 (q := 0) (by decide +kernel) 187 ⟨by decide +kernel, by decide +kernel⟩ rfl
theorem dL_law_3 : decode code 3 = .ok (.dup, 1) := decode_sh lwA0 (q := 3) (by decide +kernel) 89 ⟨by decide +kernel, by decide +kernel⟩ rfl
theorem dL_law_4 : decode code 4 = .ok (.invokespecial 198, 3) := decode_sh lwA0 (q := 4) (by decide +kernel) 183 ⟨by decide +kernel, by decide +kernel⟩ rfl
theorem dL_law_7 : decode code 7 = .ok (.astore_n 1, 1) := decode_sh lwA0 (q := 7) (by decide +kernel) 76 ⟨by decide +kernel, by decide +kernel⟩ rfl
theorem dL_law_8 : decode code 8 = .ok (.new 199, 3) := decode_sh lwA0 (q := 8) (by decide +kernel) 187 ⟨by decide +kernel, by decide +kernel⟩ rfl
theorem dL_law_11 : decode code 11 = .ok (.dup, 1) := decode_sh lwA0 (q := 11) (by decide +kernel) 89 ⟨by decide +kernel, by decide +kernel⟩ rfl
theorem dL_law_12 : decode code 12 = .ok (.invokespecial 201, 3) := decode_sh lwA0 (q := 12) (by decide +kernel) 183 ⟨by decide +kernel, by decide +kernel⟩ rfl
theorem dL_law_15 : decode code 15 = .ok (.astore_n 2, 1) := decode_sh lwA0 (q := 15) (by decide +kernel) 77 ⟨by decide +kernel, by decide +kernel⟩ rfl
theorem dL_law_16 : decode code 16 = .ok (.iconst 1, 1) := decode_sh lwA0 (q := 16) (by decide +kernel) 4 ⟨by decide +kernel, by decide +kernel⟩ rfl
theorem dL_law_17 : decode code 17 = .ok (.newarray .long, 2) := by decide +kernel
theorem dL_law_19 : decode code 19 = .ok (.astore_n 3, 1) := decode_sh lwA0 (q := 19) (by decide +kernel) 78 ⟨by decide +kernel, by decide +kernel⟩ rfl
theorem dL_law_20 : decode code 20 = .ok (.iconst 1, 1) := decode_sh lwA0 (q := 20) (by decide +kernel) 4 ⟨by decide +kernel, by decide +kernel⟩ rfl
theorem dL_law_21 : decode code 21 = .ok (.newarray .double, 2) := by decide +kernel
theorem dL_law_23 : decode code 23 = .ok (.astore 4, 2) := decode_sh lwA0 (q := 23) (by decide +kernel) 58 ⟨by decide +kernel, by decide +kernel⟩ rfl
theorem dL_law_25 : decode code 25 = .ok (.iconst 0, 1) := decode_sh lwA0 (q := 25) (by decide +kernel) 3 ⟨by decide +kernel, by decide +kernel⟩ rfl
theorem dL_law_26 : decode code 26 = .ok (.istore 5, 2) := decode_sh lwA0 (q := 26) (by decide +kernel) 54 ⟨by decide +kernel, by decide +kernel⟩ rfl
theorem dL_law_28 : decode code 28 = .ok (.iload 5, 2) := decode_sh lwA0 (q := 28) (by decide +kernel) 21 ⟨by decide +kernel, by decide +kernel⟩ rfl
theorem dL_law_30 : decode code 30 = .ok (.aload_n 0, 1) := decode_sh lwA0 (q := 30) (by decide +kernel) 42 ⟨by decide +kernel, by decide +kernel⟩ rfl
theorem dL_law_31 : decode code 31 = .ok (.arraylength, 1) := decode_sh lwA0 (q := 31) (by decide +kernel) 190 ⟨by decide +kernel, by decide +kernel⟩ rfl
theorem dL_law_32 : decode code 32 = .ok (.bipush 6, 2) := decode_sh lwA0 (q := 32) (by decide +kernel) 16 ⟨by decide +kernel, by decide +kernel⟩ rfl
theorem dL_law_34 : decode code 34 = .ok (.isub, 1) := decode_sh lwA0 (q := 34) (by decide +kernel) 100 ⟨by decide +kernel, by decide +kernel⟩ rfl
theorem dL_law_35 : decode code 35 = .ok (.if_icmp .gt 3766, 3) := decode_sh lwA0 (q := 35) (by decide +kernel) 163 ⟨by decide +kernel, by decide +kernel⟩ rfl
theorem dL_law_38 : decode code 38 = .ok (.aload_n 0, 1) := decode_sh lwA0 (q := 38) (by decide +kernel) 42 ⟨by decide +kernel, by decide +kernel⟩ rfl
theorem dL_law_39 : decode code 39 = .ok (.iload 5, 2) := decode_sh lwA0 (q := 39) (by decide +kernel) 21 ⟨by decide +kernel, by decide +kernel⟩ rfl
theorem dL_law_41 : decode code 41 = .ok (.iaload, 1) := decode_sh lwA0 (q := 41) (by decide +kernel) 46 ⟨by decide +kernel, by decide +kernel⟩ rfl
theorem dL_law_42 : decode code 42 = .ok (.bipush 63, 2) := decode_sh lwA0 (q := 42) (by decide +kernel) 16 ⟨by decide +kernel, by decide +kernel⟩ rfl
theorem dL_law_44 : decode code 44 = .ok (.iand, 1) := decode_sh lwA0 (q := 44) (by decide +kernel) 126 ⟨by decide +kernel, by decide +kernel⟩ rfl
theorem dL_law_45 : decode code 45 = .ok (.tableswitch 3750 0 63 #[271, 344, 400, 413, 426, 439, 483, 527, 571, 615, 659, 703, 768, 834, 878, 946, 1002, 1058, 1114, 1170, 1226, 1282, 1338, 1382, 1438, 1494, 1550, 1606, 1674, 1730, 1786, 1842, 1898, 1954, 2010, 2073, 2129, 2185, 2241, 2309, 2365, 2433, 2501, 2557, 2613, 2669, 2725, 2781, 2849, 2917, 2973, 3029, 3085, 3141, 3197, 3265, 3333, 3389, 3445, 3513, 3581, 3625, 3638, 3694], 271) := by decide +kernel
theorem dL_law_316 : decode code 316 = .ok (.aload_n 1, 1) := decode_sh lwA4 (q := 60) (by decide +kernel) 43 ⟨by decide +kernel, by decide +kernel⟩ rfl
theorem dL_law_317 : decode code 317 = .ok (.aload_n 0, 1) := decode_sh lwA4 (q := 61) (by decide +kernel) 42 ⟨by decide +kernel, by decide +kernel⟩ rfl
theorem dL_law_318 : decode code 318 = .ok (.iload 5, 2) := decode_sh lwA4 (q := 62) (by decide +kernel) 21 ⟨by decide +kernel, by decide +kernel⟩ rfl
theorem dL_law_320 : decode code 320 = .ok (.iconst 1, 1) := decode_sh lwA5 (q := 0) (by decide +kernel) 4 ⟨by decide +kernel, by decide +kernel⟩ rfl
theorem dL_law_321 : decode code 321 = .ok (.iadd, 1) := decode_sh lwA5 (q := 1) (by decide +kernel) 96 ⟨by decide +kernel, by decide +kernel⟩ rfl
theorem dL_law_322 : decode code 322 = .ok (.iaload, 1) := decode_sh lwA5 (q := 2) (by decide +kernel) 46 ⟨by decide +kernel, by decide +kernel⟩ rfl
theorem dL_law_323 : decode code 323 = .ok (.aload_n 0, 1) := decode_sh lwA5 (q := 3) (by decide +kernel) 42 ⟨by decide +kernel, by decide +kernel⟩ rfl
theorem dL_law_324 : decode code 324 = .ok (.iload 5, 2) := decode_sh lwA5 (q := 4) (by decide +kernel) 21 ⟨by decide +kernel, by decide +kernel⟩ rfl
theorem dL_law_326 : decode code 326 = .ok (.iconst 2, 1) := decode_sh lwA5 (q := 6) (by decide +kernel) 5 ⟨by decide +kernel, by decide +kernel⟩ rfl
theorem dL_law_327 : decode code 327 = .ok (.iadd, 1) := decode_sh lwA5 (q := 7) (by decide +kernel) 96 ⟨by decide +kernel, by decide +kernel⟩ rfl
theorem dL_law_328 : decode code 328 = .ok (.iaload, 1) := decode_sh lwA5 (q := 8) (by decide +kernel) 46 ⟨by decide +kernel, by decide +kernel⟩ rfl
theorem dL_law_329 : decode code 329 = .ok (.aload_n 0, 1) := decode_sh lwA5 (q := 9) (by decide +kernel) 42 ⟨by decide +kernel, by decide +kernel⟩ rfl
theorem dL_law_330 : decode code 330 = .ok (.iload 5, 2) := decode_sh lwA5 (q := 10) (by decide +kernel) 21 ⟨by decide +kernel, by decide +kernel⟩ rfl
theorem dL_law_332 : decode code 332 = .ok (.iconst 3, 1) := decode_sh lwA5 (q := 12) (by decide +kernel) 6 ⟨by decide +kernel, by decide +kernel⟩ rfl
theorem dL_law_333 : decode code 333 = .ok (.iadd, 1) := decode_sh lwA5 (q := 13) (by decide +kernel) 96 ⟨by decide +kernel, by decide +kernel⟩ rfl
theorem dL_law_334 : decode code 334 = .ok (.iaload, 1) := decode_sh lwA5 (q := 14) (by decide +kernel) 46 ⟨by decide +kernel, by decide +kernel⟩ rfl
theorem dL_law_335 : decode code 335 = .ok (.aload_n 0, 1) := decode_sh lwA5 (q := 15) (by decide +kernel) 42 ⟨by decide +kernel, by decide +kernel⟩ rfl
theorem dL_law_336 : decode code 336 = .ok (.iload 5, 2) := decode_sh lwA5 (q := 16) (by decide +kernel) 21 ⟨by decide +kernel, by decide +kernel⟩ rfl
theorem dL_law_338 : decode code 338 = .ok (.iconst 4, 1) := decode_sh lwA5 (q := 18) (by decide +kernel) 7 ⟨by decide +kernel, by decide +kernel⟩ rfl
theorem dL_law_339 : decode code 339 = .ok (.iadd, 1) := decode_sh lwA5 (q := 19) (by decide +kernel) 96 ⟨by decide +kernel, by decide +kernel⟩ rfl
theorem dL_law_340 : decode code 340 = .ok (.iaload, 1) := decode_sh lwA5 (q := 20) (by decide +kernel) 46 ⟨by decide +kernel, by decide +kernel⟩ rfl
theorem dL_law_341 : decode code 341 = .ok (.aload_n 0, 1) := decode_sh lwA5 (q := 21) (by decide +kernel) 42 ⟨by decide +kernel, by decide +kernel⟩ rfl
theorem dL_law_342 : decode code 342 = .ok (.iload 5, 2) := decode_sh lwA5 (q := 22) (by decide +kernel) 21 ⟨by decide +kernel, by decide +kernel⟩ rfl
theorem dL_law_344 : decode code 344 = .ok (.iconst 5, 1) := decode_sh lwA5 (q := 24) (by decide +kernel) 8 ⟨by decide +kernel, by decide +kernel⟩ rfl
theorem dL_law_345 : decode code 345 = .ok (.iadd, 1) := decode_sh lwA5 (q := 25) (by decide +kernel) 96 ⟨by decide +kernel, by decide +kernel⟩ rfl
theorem dL_law_346 : decode code 346 = .ok (.iaload, 1) := decode_sh lwA5 (q := 26) (by decide +kernel) 46 ⟨by decide +kernel, by decide +kernel⟩ rfl
theorem dL_law_347 : decode code 347 = .ok (.invokevirtual 202, 3) := decode_sh lwA5 (q := 27) (by decide +kernel) 182 ⟨by decide +kernel, by decide +kernel⟩ rfl
theorem dL_law_350 : decode code 350 = .ok (.aload_n 2, 1) := decode_sh lwA5 (q := 30) (by decide +kernel) 44 ⟨by decide +kernel, by decide +kernel⟩ rfl
theorem dL_law_351 : decode code 351 = .ok (.aload_n 0, 1) := decode_sh lwA5 (q := 31) (by decide +kernel) 42 ⟨by decide +kernel, by decide +kernel⟩ rfl
theorem dL_law_352 : decode code 352 = .ok (.iload 5, 2) := decode_sh lwA5 (q := 32) (by decide +kernel) 21 ⟨by decide +kernel, by decide +kernel⟩ rfl
theorem dL_law_354 : decode code 354 = .ok (.iconst 1, 1) := decode_sh lwA5 (q := 34) (by decide +kernel) 4 ⟨by decide +kernel, by decide +kernel⟩ rfl
theorem dL_law_355 : decode code 355 = .ok (.iadd, 1) := decode_sh lwA5 (q := 35) (by decide +kernel) 96 ⟨by decide +kernel, by decide +kernel⟩ rfl
theorem dL_law_356 : decode code 356 = .ok (.iaload, 1) := decode_sh lwA5 (q := 36) (by decide +kernel) 46 ⟨by decide +kernel, by decide +kernel⟩ rfl
theorem dL_law_357 : decode code 357 = .ok (.aload_n 0, 1) := decode_sh lwA5 (q := 37) (by decide +kernel) 42 ⟨by decide +kernel, by decide +kernel⟩ rfl
theorem dL_law_358 : decode code 358 = .ok (.iload 5, 2) := decode_sh lwA5 (q := 38) (by decide +kernel) 21 ⟨by decide +kernel, by decide +kernel⟩ rfl
theorem dL_law_360 : decode code 360 = .ok (.iconst 2, 1) := decode_sh lwA5 (q := 40) (by decide +kernel) 5 ⟨by decide +kernel, by decide +kernel⟩ rfl
theorem dL_law_361 : decode code 361 = .ok (.iadd, 1) := decode_sh lwA5 (q := 41) (by decide +kernel) 96 ⟨by decide +kernel, by decide +kernel⟩ rfl
theorem dL_law_362 : decode code 362 = .ok (.iaload, 1) := decode_sh lwA5 (q := 42) (by decide +kernel) 46 ⟨by decide +kernel, by decide +kernel⟩ rfl
theorem dL_law_363 : decode code 363 = .ok (.aload_n 0, 1) := decode_sh lwA5 (q := 43) (by decide +kernel) 42 ⟨by decide +kernel, by decide +kernel⟩ rfl
theorem dL_law_364 : decode code 364 = .ok (.iload 5, 2) := decode_sh lwA5 (q := 44) (by decide +kernel) 21 ⟨by decide +kernel, by decide +kernel⟩ rfl
theorem dL_law_366 : decode code 366 = .ok (.iconst 3, 1) := decode_sh lwA5 (q := 46) (by decide +kernel) 6 ⟨by decide +kernel, by decide +kernel⟩ rfl
theorem dL_law_367 : decode code 367 = .ok (.iadd, 1) := decode_sh lwA5 (q := 47) (by decide +kernel) 96 ⟨by decide +kernel, by decide +kernel⟩ rfl
theorem dL_law_368 : decode code 368 = .ok (.iaload, 1) := decode_sh lwA5 (q := 48) (by decide +kernel) 46 ⟨by decide +kernel, by decide +kernel⟩ rfl
theorem dL_law_369 : decode code 369 = .ok (.aload_n 0, 1) := decode_sh lwA5 (q := 49) (by decide +kernel) 42 ⟨by decide +kernel, by decide +kernel⟩ rfl
theorem dL_law_370 : decode code 370 = .ok (.iload 5, 2) := decode_sh lwA5 (q := 50) (by decide +kernel) 21 ⟨by decide +kernel, by decide +kernel⟩ rfl
theorem dL_law_372 : decode code 372 = .ok (.iconst 4, 1) := decode_sh lwA5 (q := 52) (by decide +kernel) 7 ⟨by decide +kernel, by decide +kernel⟩ rfl
theorem dL_law_373 : decode code 373 = .ok (.iadd, 1) := decode_sh lwA5 (q := 53) (by decide +kernel) 96 ⟨by decide +kernel, by decide +kernel⟩ rfl
theorem dL_law_374 : decode code 374 = .ok (.iaload, 1) := decode_sh lwA5 (q := 54) (by decide +kernel) 46 ⟨by decide +kernel, by decide +kernel⟩ rfl
theorem dL_law_375 : decode code 375 = .ok (.aload_n 0, 1) := decode_sh lwA5 (q := 55) (by decide +kernel) 42 ⟨by decide +kernel, by decide +kernel⟩ rfl
theorem dL_law_376 : decode code 376 = .ok (.iload 5, 2) := decode_sh lwA5 (q := 56) (by decide +kernel) 21 ⟨by decide +kernel, by decide +kernel⟩ rfl
theorem dL_law_378 : decode code 378 = .ok (.iconst 5, 1) := decode_sh lwA5 (q := 58) (by decide +kernel) 8 ⟨by decide +kernel, by decide +kernel⟩ rfl
theorem dL_law_379 : decode code 379 = .ok (.iadd, 1) := decode_sh lwA5 (q := 59) (by decide +kernel) 96 ⟨by decide +kernel, by decide +kernel⟩ rfl
theorem dL_law_380 : decode code 380 = .ok (.iaload, 1) := decode_sh lwA5 (q := 60) (by decide +kernel) 46 ⟨by decide +kernel, by decide +kernel⟩ rfl
theorem dL_law_381 : decode code 381 = .ok (.invokevirtual 206, 3) := decode_sh lwA5 (q := 61) (by decide +kernel) 182 ⟨by decide +kernel, by decide +kernel⟩ rfl
theorem dL_law_384 : decode code 384 = .ok (.if_icmp .eq 3411, 3) := decode_sh lwA6 (q := 0) (by decide +kernel) 159 ⟨by decide +kernel, by decide +kernel⟩ rfl
theorem dL_law_387 : decode code 387 = .ok (.iconst 0, 1) := decode_sh lwA6 (q := 3) (by decide +kernel) 3 ⟨by decide +kernel, by decide +kernel⟩ rfl
theorem dL_law_388 : decode code 388 = .ok (.ireturn, 1) := decode_sh lwA6 (q := 4) (by decide +kernel) 172 ⟨by decide +kernel, by decide +kernel⟩ rfl
theorem dL_law_389 : decode code 389 = .ok (.aload_n 1, 1) := decode_sh lwA6 (q := 5) (by decide +kernel) 43 ⟨by decide +kernel, by decide +kernel⟩ rfl
theorem dL_law_390 : decode code 390 = .ok (.aload_n 0, 1) := decode_sh lwA6 (q := 6) (by decide +kernel) 42 ⟨by decide +kernel, by decide +kernel⟩ rfl
theorem dL_law_391 : decode code 391 = .ok (.iload 5, 2) := decode_sh lwA6 (q := 7) (by decide +kernel) 21 ⟨by decide +kernel, by decide +kernel⟩ rfl
theorem dL_law_393 : decode code 393 = .ok (.iconst 1, 1) := decode_sh lwA6 (q := 9) (by decide +kernel) 4 ⟨by decide +kernel, by decide +kernel⟩ rfl
theorem dL_law_394 : decode code 394 = .ok (.iadd, 1) := decode_sh lwA6 (q := 10) (by decide +kernel) 96 ⟨by decide +kernel, by decide +kernel⟩ rfl
theorem dL_law_395 : decode code 395 = .ok (.iaload, 1) := decode_sh lwA6 (q := 11) (by decide +kernel) 46 ⟨by decide +kernel, by decide +kernel⟩ rfl
theorem dL_law_396 : decode code 396 = .ok (.aload_n 3, 1) := decode_sh lwA6 (q := 12) (by decide +kernel) 45 ⟨by decide +kernel, by decide +kernel⟩ rfl
theorem dL_law_397 : decode code 397 = .ok (.invokestatic 207, 3) := decode_sh lwA6 (q := 13) (by decide +kernel) 184 ⟨by decide +kernel, by decide +kernel⟩ rfl
theorem dL_law_400 : decode code 400 = .ok (.istore 6, 2) := decode_sh lwA6 (q := 16) (by decide +kernel) 54 ⟨by decide +kernel, by decide +kernel⟩ rfl
theorem dL_law_402 : decode code 402 = .ok (.aload_n 2, 1) := decode_sh lwA6 (q := 18) (by decide +kernel) 44 ⟨by decide +kernel, by decide +kernel⟩ rfl
theorem dL_law_403 : decode code 403 = .ok (.aload_n 0, 1) := decode_sh lwA6 (q := 19) (by decide +kernel) 42 ⟨by decide +kernel, by decide +kernel⟩ rfl
theorem dL_law_404 : decode code 404 = .ok (.iload 5, 2) := decode_sh lwA6 (q := 20) (by decide +kernel) 21 ⟨by decide +kernel, by decide +kernel⟩ rfl
theorem dL_law_406 : decode code 406 = .ok (.iconst 1, 1) := decode_sh lwA6 (q := 22) (by decide +kernel) 4 ⟨by decide +kernel, by decide +kernel⟩ rfl
theorem dL_law_407 : decode code 407 = .ok (.iadd, 1) := decode_sh lwA6 (q := 23) (by decide +kernel) 96 ⟨by decide +kernel, by decide +kernel⟩ rfl
theorem dL_law_408 : decode code 408 = .ok (.iaload, 1) := decode_sh lwA6 (q := 24) (by decide +kernel) 46 ⟨by decide +kernel, by decide +kernel⟩ rfl
theorem dL_law_409 : decode code 409 = .ok (.invokevirtual 212, 3) := decode_sh lwA6 (q := 25) (by decide +kernel) 182 ⟨by decide +kernel, by decide +kernel⟩ rfl
theorem dL_law_412 : decode code 412 = .ok (.istore 7, 2) := decode_sh lwA6 (q := 28) (by decide +kernel) 54 ⟨by decide +kernel, by decide +kernel⟩ rfl
theorem dL_law_414 : decode code 414 = .ok (.aload_n 2, 1) := decode_sh lwA6 (q := 30) (by decide +kernel) 44 ⟨by decide +kernel, by decide +kernel⟩ rfl
theorem dL_law_415 : decode code 415 = .ok (.invokevirtual 213, 3) := decode_sh lwA6 (q := 31) (by decide +kernel) 182 ⟨by decide +kernel, by decide +kernel⟩ rfl
theorem dL_law_418 : decode code 418 = .ok (.iload 6, 2) := decode_sh lwA6 (q := 34) (by decide +kernel) 21 ⟨by decide +kernel, by decide +kernel⟩ rfl
theorem dL_law_420 : decode code 420 = .ok (.if_icmp .eq 5, 3) := decode_sh lwA6 (q := 36) (by decide +kernel) 159 ⟨by decide +kernel, by decide +kernel⟩ rfl
theorem dL_law_423 : decode code 423 = .ok (.iconst 0, 1) := decode_sh lwA6 (q := 39) (by decide +kernel) 3 ⟨by decide +kernel, by decide +kernel⟩ rfl
theorem dL_law_424 : decode code 424 = .ok (.ireturn, 1) := decode_sh lwA6 (q := 40) (by decide +kernel) 172 ⟨by decide +kernel, by decide +kernel⟩ rfl
theorem dL_law_425 : decode code 425 = .ok (.iload 6, 2) := decode_sh lwA6 (q := 41) (by decide +kernel) 21 ⟨by decide +kernel, by decide +kernel⟩ rfl
theorem dL_law_427 : decode code 427 = .ok (.ifCond .ne 15, 3) := decode_sh lwA6 (q := 43) (by decide +kernel) 154 ⟨by decide +kernel, by decide +kernel⟩ rfl
theorem dL_law_430 : decode code 430 = .ok (.aload_n 3, 1) := decode_sh lwA6 (q := 46) (by decide +kernel) 45 ⟨by decide +kernel, by decide +kernel⟩ rfl
theorem dL_law_431 : decode code 431 = .ok (.iconst 0, 1) := decode_sh lwA6 (q := 47) (by decide +kernel) 3 ⟨by decide +kernel, by decide +kernel⟩ rfl
theorem dL_law_432 : decode code 432 = .ok (.laload, 1) := decode_sh lwA6 (q := 48) (by decide +kernel) 47 ⟨by decide +kernel, by decide +kernel⟩ rfl
theorem dL_law_433 : decode code 433 = .ok (.iload 7, 2) := decode_sh lwA6 (q := 49) (by decide +kernel) 21 ⟨by decide +kernel, by decide +kernel⟩ rfl
theorem dL_law_435 : decode code 435 = .ok (.i2l, 1) := decode_sh lwA6 (q := 51) (by decide +kernel) 133 ⟨by decide +kernel, by decide +kernel⟩ rfl
theorem dL_law_436 : decode code 436 = .ok (.lcmp, 1) := decode_sh lwA6 (q := 52) (by decide +kernel) 148 ⟨by decide +kernel, by decide +kernel⟩ rfl
theorem dL_law_437 : decode code 437 = .ok (.ifCond .eq 5, 3) := decode_sh lwA6 (q := 53) (by decide +kernel) 153 ⟨by decide +kernel, by decide +kernel⟩ rfl
theorem dL_law_440 : decode code 440 = .ok (.iconst 0, 1) := decode_sh lwA6 (q := 56) (by decide +kernel) 3 ⟨by decide +kernel, by decide +kernel⟩ rfl
theorem dL_law_441 : decode code 441 = .ok (.ireturn, 1) := decode_sh lwA6 (q := 57) (by decide +kernel) 172 ⟨by decide +kernel, by decide +kernel⟩ rfl
theorem dL_law_442 : decode code 442 = .ok (.goto 3353, 3) := decode_sh lwA6 (q := 58) (by decide +kernel) 167 ⟨by decide +kernel, by decide +kernel⟩ rfl
theorem dL_law_445 : decode code 445 = .ok (.aload_n 1, 1) := decode_sh lwA6 (q := 61) (by decide +kernel) 43 ⟨by decide +kernel, by decide +kernel⟩ rfl
theorem dL_law_446 : decode code 446 = .ok (.invokevirtual 216, 3) := decode_sh lwA6 (q := 62) (by decide +kernel) 182 ⟨by decide +kernel, by decide +kernel⟩ rfl
theorem dL_law_449 : decode code 449 = .ok (.aload_n 2, 1) := decode_sh lwA7 (q := 1) (by decide +kernel) 44 ⟨by decide +kernel, by decide +kernel⟩ rfl
theorem dL_law_450 : decode code 450 = .ok (.invokevirtual 219, 3) := decode_sh lwA7 (q := 2) (by decide +kernel) 182 ⟨by decide +kernel, by decide +kernel⟩ rfl
theorem dL_law_453 : decode code 453 = .ok (.if_icmp .eq 3342, 3) := decode_sh lwA7 (q := 5) (by decide +kernel) 159 ⟨by decide +kernel, by decide +kernel⟩ rfl
theorem dL_law_456 : decode code 456 = .ok (.iconst 0, 1) := decode_sh lwA7 (q := 8) (by decide +kernel) 3 ⟨by decide +kernel, by decide +kernel⟩ rfl
theorem dL_law_457 : decode code 457 = .ok (.ireturn, 1) := decode_sh lwA7 (q := 9) (by decide +kernel) 172 ⟨by decide +kernel, by decide +kernel⟩ rfl
theorem dL_law_458 : decode code 458 = .ok (.aload_n 1, 1) := decode_sh lwA7 (q := 10) (by decide +kernel) 43 ⟨by decide +kernel, by decide +kernel⟩ rfl
theorem dL_law_459 : decode code 459 = .ok (.invokevirtual 220, 3) := decode_sh lwA7 (q := 11) (by decide +kernel) 182 ⟨by decide +kernel, by decide +kernel⟩ rfl
theorem dL_law_462 : decode code 462 = .ok (.aload_n 2, 1) := decode_sh lwA7 (q := 14) (by decide +kernel) 44 ⟨by decide +kernel, by decide +kernel⟩ rfl
theorem dL_law_463 : decode code 463 = .ok (.invokevirtual 223, 3) := decode_sh lwA7 (q := 15) (by decide +kernel) 182 ⟨by decide +kernel, by decide +kernel⟩ rfl
theorem dL_law_466 : decode code 466 = .ok (.if_icmp .eq 3329, 3) := decode_sh lwA7 (q := 18) (by decide +kernel) 159 ⟨by decide +kernel, by decide +kernel⟩ rfl
theorem dL_law_469 : decode code 469 = .ok (.iconst 0, 1) := decode_sh lwA7 (q := 21) (by decide +kernel) 3 ⟨by decide +kernel, by decide +kernel⟩ rfl
theorem dL_law_470 : decode code 470 = .ok (.ireturn, 1) := decode_sh lwA7 (q := 22) (by decide +kernel) 172 ⟨by decide +kernel, by decide +kernel⟩ rfl
theorem dL_law_471 : decode code 471 = .ok (.aload_n 1, 1) := decode_sh lwA7 (q := 23) (by decide +kernel) 43 ⟨by decide +kernel, by decide +kernel⟩ rfl
theorem dL_law_472 : decode code 472 = .ok (.invokevirtual 224, 3) := decode_sh lwA7 (q := 24) (by decide +kernel) 182 ⟨by decide +kernel, by decide +kernel⟩ rfl
theorem dL_law_475 : decode code 475 = .ok (.aload_n 2, 1) := decode_sh lwA7 (q := 27) (by decide +kernel) 44 ⟨by decide +kernel, by decide +kernel⟩ rfl
theorem dL_law_476 : decode code 476 = .ok (.invokevirtual 227, 3) := decode_sh lwA7 (q := 28) (by decide +kernel) 182 ⟨by decide +kernel, by decide +kernel⟩ rfl
theorem dL_law_479 : decode code 479 = .ok (.if_icmp .eq 3316, 3) := decode_sh lwA7 (q := 31) (by decide +kernel) 159 ⟨by decide +kernel, by decide +kernel⟩ rfl
theorem dL_law_482 : decode code 482 = .ok (.iconst 0, 1) := decode_sh lwA7 (q := 34) (by decide +kernel) 3 ⟨by decide +kernel, by decide +kernel⟩ rfl
theorem dL_law_483 : decode code 483 = .ok (.ireturn, 1) := decode_sh lwA7 (q := 35) (by decide +kernel) 172 ⟨by decide +kernel, by decide +kernel⟩ rfl
theorem dL_law_484 : decode code 484 = .ok (.aload_n 1, 1) := decode_sh lwA7 (q := 36) (by decide +kernel) 43 ⟨by decide +kernel, by decide +kernel⟩ rfl
theorem dL_law_485 : decode code 485 = .ok (.aload_n 3, 1) := decode_sh lwA7 (q := 37) (by decide +kernel) 45 ⟨by decide +kernel, by decide +kernel⟩ rfl
theorem dL_law_486 : decode code 486 = .ok (.invokestatic 228, 3) := decode_sh lwA7 (q := 38) (by decide +kernel) 184 ⟨by decide +kernel, by decide +kernel⟩ rfl
theorem dL_law_489 : decode code 489 = .ok (.istore 6, 2) := decode_sh lwA7 (q := 41) (by decide +kernel) 54 ⟨by decide +kernel, by decide +kernel⟩ rfl
theorem dL_law_491 : decode code 491 = .ok (.aload_n 2, 1) := decode_sh lwA7 (q := 43) (by decide +kernel) 44 ⟨by decide +kernel, by decide +kernel⟩ rfl
theorem dL_law_492 : decode code 492 = .ok (.invokevirtual 231, 3) := decode_sh lwA7 (q := 44) (by decide +kernel) 182 ⟨by decide +kernel, by decide +kernel⟩ rfl
theorem dL_law_495 : decode code 495 = .ok (.istore 7, 2) := decode_sh lwA7 (q := 47) (by decide +kernel) 54 ⟨by decide +kernel, by decide +kernel⟩ rfl
theorem dL_law_497 : decode code 497 = .ok (.aload_n 2, 1) := decode_sh lwA7 (q := 49) (by decide +kernel) 44 ⟨by decide +kernel, by decide +kernel⟩ rfl
theorem dL_law_498 : decode code 498 = .ok (.invokevirtual 213, 3) := decode_sh lwA7 (q := 50) (by decide +kernel) 182 ⟨by decide +kernel, by decide +kernel⟩ rfl
theorem dL_law_501 : decode code 501 = .ok (.iload 6, 2) := decode_sh lwA7 (q := 53) (by decide +kernel) 21 ⟨by decide +kernel, by decide +kernel⟩ rfl
theorem dL_law_503 : decode code 503 = .ok (.if_icmp .eq 5, 3) := decode_sh lwA7 (q := 55) (by decide +kernel) 159 ⟨by decide +kernel, by decide +kernel⟩ rfl
theorem dL_law_506 : decode code 506 = .ok (.iconst 0, 1) := decode_sh lwA7 (q := 58) (by decide +kernel) 3 ⟨by decide +kernel, by decide +kernel⟩ rfl
theorem dL_law_507 : decode code 507 = .ok (.ireturn, 1) := decode_sh lwA7 (q := 59) (by decide +kernel) 172 ⟨by decide +kernel, by decide +kernel⟩ rfl
theorem dL_law_508 : decode code 508 = .ok (.iload 6, 2) := decode_sh lwA7 (q := 60) (by decide +kernel) 21 ⟨by decide +kernel, by decide +kernel⟩ rfl
theorem dL_law_510 : decode code 510 = .ok (.ifCond .ne 15, 3) := decode_sh lwA7 (q := 62) (by decide +kernel) 154 ⟨by decide +kernel, by decide +kernel⟩ rfl
theorem dL_law_513 : decode code 513 = .ok (.aload_n 3, 1) := decode_sh lwA8 (q := 1) (by decide +kernel) 45 ⟨by decide +kernel, by decide +kernel⟩ rfl
theorem dL_law_514 : decode code 514 = .ok (.iconst 0, 1) := decode_sh lwA8 (q := 2) (by decide +kernel) 3 ⟨by decide +kernel, by decide +kernel⟩ rfl
theorem dL_law_515 : decode code 515 = .ok (.laload, 1) := decode_sh lwA8 (q := 3) (by decide +kernel) 47 ⟨by decide +kernel, by decide +kernel⟩ rfl
theorem dL_law_516 : decode code 516 = .ok (.iload 7, 2) := decode_sh lwA8 (q := 4) (by decide +kernel) 21 ⟨by decide +kernel, by decide +kernel⟩ rfl
theorem dL_law_518 : decode code 518 = .ok (.i2l, 1) := decode_sh lwA8 (q := 6) (by decide +kernel) 133 ⟨by decide +kernel, by decide +kernel⟩ rfl
theorem dL_law_519 : decode code 519 = .ok (.lcmp, 1) := decode_sh lwA8 (q := 7) (by decide +kernel) 148 ⟨by decide +kernel, by decide +kernel⟩ rfl
theorem dL_law_520 : decode code 520 = .ok (.ifCond .eq 5, 3) := decode_sh lwA8 (q := 8) (by decide +kernel) 153 ⟨by decide +kernel, by decide +kernel⟩ rfl
theorem dL_law_523 : decode code 523 = .ok (.iconst 0, 1) := decode_sh lwA8 (q := 11) (by decide +kernel) 3 ⟨by decide +kernel, by decide +kernel⟩ rfl
theorem dL_law_524 : decode code 524 = .ok (.ireturn, 1) := decode_sh lwA8 (q := 12) (by decide +kernel) 172 ⟨by decide +kernel, by decide +kernel⟩ rfl
theorem dL_law_525 : decode code 525 = .ok (.goto 3270, 3) := decode_sh lwA8 (q := 13) (by decide +kernel) 167 ⟨by decide +kernel, by decide +kernel⟩ rfl
theorem dL_law_528 : decode code 528 = .ok (.aload_n 1, 1) := decode_sh lwA8 (q := 16) (by decide +kernel) 43 ⟨by decide +kernel, by decide +kernel⟩ rfl
theorem dL_law_529 : decode code 529 = .ok (.aload_n 3, 1) := decode_sh lwA8 (q := 17) (by decide +kernel) 45 ⟨by decide +kernel, by decide +kernel⟩ rfl
theorem dL_law_530 : decode code 530 = .ok (.invokestatic 232, 3) := decode_sh lwA8 (q := 18) (by decide +kernel) 184 ⟨by decide +kernel, by decide +kernel⟩ rfl
theorem dL_law_533 : decode code 533 = .ok (.istore 6, 2) := decode_sh lwA8 (q := 21) (by decide +kernel) 54 ⟨by decide +kernel, by decide +kernel⟩ rfl
theorem dL_law_535 : decode code 535 = .ok (.aload_n 2, 1) := decode_sh lwA8 (q := 23) (by decide +kernel) 44 ⟨by decide +kernel, by decide +kernel⟩ rfl
theorem dL_law_536 : decode code 536 = .ok (.invokevirtual 234, 3) := decode_sh lwA8 (q := 24) (by decide +kernel) 182 ⟨by decide +kernel, by decide +kernel⟩ rfl
theorem dL_law_539 : decode code 539 = .ok (.istore 7, 2) := decode_sh lwA8 (q := 27) (by decide +kernel) 54 ⟨by decide +kernel, by decide +kernel⟩ rfl
theorem dL_law_541 : decode code 541 = .ok (.aload_n 2, 1) := decode_sh lwA8 (q := 29) (by decide +kernel) 44 ⟨by decide +kernel, by decide +kernel⟩ rfl
theorem dL_law_542 : decode code 542 = .ok (.invokevirtual 213, 3) := decode_sh lwA8 (q := 30) (by decide +kernel) 182 ⟨by decide +kernel, by decide +kernel⟩ rfl
theorem dL_law_545 : decode code 545 = .ok (.iload 6, 2) := decode_sh lwA8 (q := 33) (by decide +kernel) 21 ⟨by decide +kernel, by decide +kernel⟩ rfl
theorem dL_law_547 : decode code 547 = .ok (.if_icmp .eq 5, 3) := decode_sh lwA8 (q := 35) (by decide +kernel) 159 ⟨by decide +kernel, by decide +kernel⟩ rfl
theorem dL_law_550 : decode code 550 = .ok (.iconst 0, 1) := decode_sh lwA8 (q := 38) (by decide +kernel) 3 ⟨by decide +kernel, by decide +kernel⟩ rfl
theorem dL_law_551 : decode code 551 = .ok (.ireturn, 1) := decode_sh lwA8 (q := 39) (by decide +kernel) 172 ⟨by decide +kernel, by decide +kernel⟩ rfl
theorem dL_law_552 : decode code 552 = .ok (.iload 6, 2) := decode_sh lwA8 (q := 40) (by decide +kernel) 21 ⟨by decide +kernel, by decide +kernel⟩ rfl
theorem dL_law_554 : decode code 554 = .ok (.ifCond .ne 15, 3) := decode_sh lwA8 (q := 42) (by decide +kernel) 154 ⟨by decide +kernel, by decide +kernel⟩ rfl
theorem dL_law_557 : decode code 557 = .ok (.aload_n 3, 1) := decode_sh lwA8 (q := 45) (by decide +kernel) 45 ⟨by decide +kernel, by decide +kernel⟩ rfl
theorem dL_law_558 : decode code 558 = .ok (.iconst 0, 1) := decode_sh lwA8 (q := 46) (by decide +kernel) 3 ⟨by decide +kernel, by decide +kernel⟩ rfl
theorem dL_law_559 : decode code 559 = .ok (.laload, 1) := decode_sh lwA8 (q := 47) (by decide +kernel) 47 ⟨by decide +kernel, by decide +kernel⟩ rfl
theorem dL_law_560 : decode code 560 = .ok (.iload 7, 2) := decode_sh lwA8 (q := 48) (by decide +kernel) 21 ⟨by decide +kernel, by decide +kernel⟩ rfl
theorem dL_law_562 : decode code 562 = .ok (.i2l, 1) := decode_sh lwA8 (q := 50) (by decide +kernel) 133 ⟨by decide +kernel, by decide +kernel⟩ rfl
theorem dL_law_563 : decode code 563 = .ok (.lcmp, 1) := decode_sh lwA8 (q := 51) (by decide +kernel) 148 ⟨by decide +kernel, by decide +kernel⟩ rfl
theorem dL_law_564 : decode code 564 = .ok (.ifCond .eq 5, 3) := decode_sh lwA8 (q := 52) (by decide +kernel) 153 ⟨by decide +kernel, by decide +kernel⟩ rfl
theorem dL_law_567 : decode code 567 = .ok (.iconst 0, 1) := decode_sh lwA8 (q := 55) (by decide +kernel) 3 ⟨by decide +kernel, by decide +kernel⟩ rfl
theorem dL_law_568 : decode code 568 = .ok (.ireturn, 1) := decode_sh lwA8 (q := 56) (by decide +kernel) 172 ⟨by decide +kernel, by decide +kernel⟩ rfl
theorem dL_law_569 : decode code 569 = .ok (.goto 3226, 3) := decode_sh lwA8 (q := 57) (by decide +kernel) 167 ⟨by decide +kernel, by decide +kernel⟩ rfl
theorem dL_law_572 : decode code 572 = .ok (.aload_n 1, 1) := decode_sh lwA8 (q := 60) (by decide +kernel) 43 ⟨by decide +kernel, by decide +kernel⟩ rfl
theorem dL_law_573 : decode code 573 = .ok (.aload_n 3, 1) := decode_sh lwA8 (q := 61) (by decide +kernel) 45 ⟨by decide +kernel, by decide +kernel⟩ rfl
theorem dL_law_574 : decode code 574 = .ok (.invokestatic 235, 3) := decode_sh lwA8 (q := 62) (by decide +kernel) 184 ⟨by decide +kernel, by decide +kernel⟩ rfl
theorem dL_law_577 : decode code 577 = .ok (.istore 6, 2) := decode_sh lwA9 (q := 1) (by decide +kernel) 54 ⟨by decide +kernel, by decide +kernel⟩ rfl
theorem dL_law_579 : decode code 579 = .ok (.aload_n 2, 1) := decode_sh lwA9 (q := 3) (by decide +kernel) 44 ⟨by decide +kernel, by decide +kernel⟩ rfl
theorem dL_law_580 : decode code 580 = .ok (.invokevirtual 237, 3) := decode_sh lwA9 (q := 4) (by decide +kernel) 182 ⟨by decide +kernel, by decide +kernel⟩ rfl
theorem dL_law_583 : decode code 583 = .ok (.istore 7, 2) := decode_sh lwA9 (q := 7) (by decide +kernel) 54 ⟨by decide +kernel, by decide +kernel⟩ rfl
theorem dL_law_585 : decode code 585 = .ok (.aload_n 2, 1) := decode_sh lwA9 (q := 9) (by decide +kernel) 44 ⟨by decide +kernel, by decide +kernel⟩ rfl
theorem dL_law_586 : decode code 586 = .ok (.invokevirtual 213, 3) := decode_sh lwA9 (q := 10) (by decide +kernel) 182 ⟨by decide +kernel, by decide +kernel⟩ rfl
theorem dL_law_589 : decode code 589 = .ok (.iload 6, 2) := decode_sh lwA9 (q := 13) (by decide +kernel) 21 ⟨by decide +kernel, by decide +kernel⟩ rfl
theorem dL_law_591 : decode code 591 = .ok (.if_icmp .eq 5, 3) := decode_sh lwA9 (q := 15) (by decide +kernel) 159 ⟨by decide +kernel, by decide +kernel⟩ rfl
theorem dL_law_594 : decode code 594 = .ok (.iconst 0, 1) := decode_sh lwA9 (q := 18) (by decide +kernel) 3 ⟨by decide +kernel, by decide +kernel⟩ rfl
theorem dL_law_595 : decode code 595 = .ok (.ireturn, 1) := decode_sh lwA9 (q := 19) (by decide +kernel) 172 ⟨by decide +kernel, by decide +kernel⟩ rfl
theorem dL_law_596 : decode code 596 = .ok (.iload 6, 2) := decode_sh lwA9 (q := 20) (by decide +kernel) 21 ⟨by decide +kernel, by decide +kernel⟩ rfl
theorem dL_law_598 : decode code 598 = .ok (.ifCond .ne 15, 3) := decode_sh lwA9 (q := 22) (by decide +kernel) 154 ⟨by decide +kernel, by decide +kernel⟩ rfl
theorem dL_law_601 : decode code 601 = .ok (.aload_n 3, 1) := decode_sh lwA9 (q := 25) (by decide +kernel) 45 ⟨by decide +kernel, by decide +kernel⟩ rfl
theorem dL_law_602 : decode code 602 = .ok (.iconst 0, 1) := decode_sh lwA9 (q := 26) (by decide +kernel) 3 ⟨by decide +kernel, by decide +kernel⟩ rfl
theorem dL_law_603 : decode code 603 = .ok (.laload, 1) := decode_sh lwA9 (q := 27) (by decide +kernel) 47 ⟨by decide +kernel, by decide +kernel⟩ rfl
theorem dL_law_604 : decode code 604 = .ok (.iload 7, 2) := decode_sh lwA9 (q := 28) (by decide +kernel) 21 ⟨by decide +kernel, by decide +kernel⟩ rfl
theorem dL_law_606 : decode code 606 = .ok (.i2l, 1) := decode_sh lwA9 (q := 30) (by decide +kernel) 133 ⟨by decide +kernel, by decide +kernel⟩ rfl
theorem dL_law_607 : decode code 607 = .ok (.lcmp, 1) := decode_sh lwA9 (q := 31) (by decide +kernel) 148 ⟨by decide +kernel, by decide +kernel⟩ rfl
theorem dL_law_608 : decode code 608 = .ok (.ifCond .eq 5, 3) := decode_sh lwA9 (q := 32) (by decide +kernel) 153 ⟨by decide +kernel, by decide +kernel⟩ rfl
theorem dL_law_611 : decode code 611 = .ok (.iconst 0, 1) := decode_sh lwA9 (q := 35) (by decide +kernel) 3 ⟨by decide +kernel, by decide +kernel⟩ rfl
theorem dL_law_612 : decode code 612 = .ok (.ireturn, 1) := decode_sh lwA9 (q := 36) (by decide +kernel) 172 ⟨by decide +kernel, by decide +kernel⟩ rfl
theorem dL_law_613 : decode code 613 = .ok (.goto 3182, 3) := decode_sh lwA9 (q := 37) (by decide +kernel) 167 ⟨by decide +kernel, by decide +kernel⟩ rfl
theorem dL_law_616 : decode code 616 = .ok (.aload_n 1, 1) := decode_sh lwA9 (q := 40) (by decide +kernel) 43 ⟨by decide +kernel, by decide +kernel⟩ rfl
theorem dL_law_617 : decode code 617 = .ok (.aload_n 3, 1) := decode_sh lwA9 (q := 41) (by decide +kernel) 45 ⟨by decide +kernel, by decide +kernel⟩ rfl
theorem dL_law_618 : decode code 618 = .ok (.invokestatic 238, 3) := decode_sh lwA9 (q := 42) (by decide +kernel) 184 ⟨by decide +kernel, by decide +kernel⟩ rfl
theorem dL_law_621 : decode code 621 = .ok (.istore 6, 2) := decode_sh lwA9 (q := 45) (by decide +kernel) 54 ⟨by decide +kernel, by decide +kernel⟩ rfl
theorem dL_law_623 : decode code 623 = .ok (.aload_n 2, 1) := decode_sh lwA9 (q := 47) (by decide +kernel) 44 ⟨by decide +kernel, by decide +kernel⟩ rfl
theorem dL_law_624 : decode code 624 = .ok (.invokevirtual 240, 3) := decode_sh lwA9 (q := 48) (by decide +kernel) 182 ⟨by decide +kernel, by decide +kernel⟩ rfl
theorem dL_law_627 : decode code 627 = .ok (.istore 7, 2) := decode_sh lwA9 (q := 51) (by decide +kernel) 54 ⟨by decide +kernel, by decide +kernel⟩ rfl
theorem dL_law_629 : decode code 629 = .ok (.aload_n 2, 1) := decode_sh lwA9 (q := 53) (by decide +kernel) 44 ⟨by decide +kernel, by decide +kernel⟩ rfl
theorem dL_law_630 : decode code 630 = .ok (.invokevirtual 213, 3) := decode_sh lwA9 (q := 54) (by decide +kernel) 182 ⟨by decide +kernel, by decide +kernel⟩ rfl
theorem dL_law_633 : decode code 633 = .ok (.iload 6, 2) := decode_sh lwA9 (q := 57) (by decide +kernel) 21 ⟨by decide +kernel, by decide +kernel⟩ rfl
theorem dL_law_635 : decode code 635 = .ok (.if_icmp .eq 5, 3) := decode_sh lwA9 (q := 59) (by decide +kernel) 159 ⟨by decide +kernel, by decide +kernel⟩ rfl
theorem dL_law_638 : decode code 638 = .ok (.iconst 0, 1) := decode_sh lwA9 (q := 62) (by decide +kernel) 3 ⟨by decide +kernel, by decide +kernel⟩ rfl
theorem dL_law_639 : decode code 639 = .ok (.ireturn, 1) := decode_sh lwA9 (q := 63) (by decide +kernel) 172 ⟨by decide +kernel, by decide +kernel⟩ rfl
theorem dL_law_640 : decode code 640 = .ok (.iload 6, 2) := decode_sh lwA10 (q := 0) (by decide +kernel) 21 ⟨by decide +kernel, by decide +kernel⟩ rfl
theorem dL_law_642 : decode code 642 = .ok (.ifCond .ne 15, 3) := decode_sh lwA10 (q := 2) (by decide +kernel) 154 ⟨by decide +kernel, by decide +kernel⟩ rfl
theorem dL_law_645 : decode code 645 = .ok (.aload_n 3, 1) := decode_sh lwA10 (q := 5) (by decide +kernel) 45 ⟨by decide +kernel, by decide +kernel⟩ rfl
theorem dL_law_646 : decode code 646 = .ok (.iconst 0, 1) := decode_sh lwA10 (q := 6) (by decide +kernel) 3 ⟨by decide +kernel, by decide +kernel⟩ rfl
theorem dL_law_647 : decode code 647 = .ok (.laload, 1) := decode_sh lwA10 (q := 7) (by decide +kernel) 47 ⟨by decide +kernel, by decide +kernel⟩ rfl
theorem dL_law_648 : decode code 648 = .ok (.iload 7, 2) := decode_sh lwA10 (q := 8) (by decide +kernel) 21 ⟨by decide +kernel, by decide +kernel⟩ rfl
theorem dL_law_650 : decode code 650 = .ok (.i2l, 1) := decode_sh lwA10 (q := 10) (by decide +kernel) 133 ⟨by decide +kernel, by decide +kernel⟩ rfl
theorem dL_law_651 : decode code 651 = .ok (.lcmp, 1) := decode_sh lwA10 (q := 11) (by decide +kernel) 148 ⟨by decide +kernel, by decide +kernel⟩ rfl
theorem dL_law_652 : decode code 652 = .ok (.ifCond .eq 5, 3) := decode_sh lwA10 (q := 12) (by decide +kernel) 153 ⟨by decide +kernel, by decide +kernel⟩ rfl
theorem dL_law_655 : decode code 655 = .ok (.iconst 0, 1) := decode_sh lwA10 (q := 15) (by decide +kernel) 3 ⟨by decide +kernel, by decide +kernel⟩ rfl
theorem dL_law_656 : decode code 656 = .ok (.ireturn, 1) := decode_sh lwA10 (q := 16) (by decide +kernel) 172 ⟨by decide +kernel, by decide +kernel⟩ rfl
theorem dL_law_657 : decode code 657 = .ok (.goto 3138, 3) := decode_sh lwA10 (q := 17) (by decide +kernel) 167 ⟨by decide +kernel, by decide +kernel⟩ rfl
theorem dL_law_660 : decode code 660 = .ok (.aload_n 1, 1) := decode_sh lwA10 (q := 20) (by decide +kernel) 43 ⟨by decide +kernel, by decide +kernel⟩ rfl
theorem dL_law_661 : decode code 661 = .ok (.aload_n 3, 1) := decode_sh lwA10 (q := 21) (by decide +kernel) 45 ⟨by decide +kernel, by decide +kernel⟩ rfl
theorem dL_law_662 : decode code 662 = .ok (.invokestatic 241, 3) := decode_sh lwA10 (q := 22) (by decide +kernel) 184 ⟨by decide +kernel, by decide +kernel⟩ rfl
theorem dL_law_665 : decode code 665 = .ok (.istore 6, 2) := decode_sh lwA10 (q := 25) (by decide +kernel) 54 ⟨by decide +kernel, by decide +kernel⟩ rfl
theorem dL_law_667 : decode code 667 = .ok (.aload_n 2, 1) := decode_sh lwA10 (q := 27) (by decide +kernel) 44 ⟨by decide +kernel, by decide +kernel⟩ rfl
theorem dL_law_668 : decode code 668 = .ok (.invokevirtual 243, 3) := decode_sh lwA10 (q := 28) (by decide +kernel) 182 ⟨by decide +kernel, by decide +kernel⟩ rfl
theorem dL_law_671 : decode code 671 = .ok (.istore 7, 2) := decode_sh lwA10 (q := 31) (by decide +kernel) 54 ⟨by decide +kernel, by decide +kernel⟩ rfl
theorem dL_law_673 : decode code 673 = .ok (.aload_n 2, 1) := decode_sh lwA10 (q := 33) (by decide +kernel) 44 ⟨by decide +kernel, by decide +kernel⟩ rfl
theorem dL_law_674 : decode code 674 = .ok (.invokevirtual 213, 3) := decode_sh lwA10 (q := 34) (by decide +kernel) 182 ⟨by decide +kernel, by decide +kernel⟩ rfl
theorem dL_law_677 : decode code 677 = .ok (.iload 6, 2) := decode_sh lwA10 (q := 37) (by decide +kernel) 21 ⟨by decide +kernel, by decide +kernel⟩ rfl
theorem dL_law_679 : decode code 679 = .ok (.if_icmp .eq 5, 3) := decode_sh lwA10 (q := 39) (by decide +kernel) 159 ⟨by decide +kernel, by decide +kernel⟩ rfl
theorem dL_law_682 : decode code 682 = .ok (.iconst 0, 1) := decode_sh lwA10 (q := 42) (by decide +kernel) 3 ⟨by decide +kernel, by decide +kernel⟩ rfl
theorem dL_law_683 : decode code 683 = .ok (.ireturn, 1) := decode_sh lwA10 (q := 43) (by decide +kernel) 172 ⟨by decide +kernel, by decide +kernel⟩ rfl
theorem dL_law_684 : decode code 684 = .ok (.iload 6, 2) := decode_sh lwA10 (q := 44) (by decide +kernel) 21 ⟨by decide +kernel, by decide +kernel⟩ rfl
theorem dL_law_686 : decode code 686 = .ok (.ifCond .ne 15, 3) := decode_sh lwA10 (q := 46) (by decide +kernel) 154 ⟨by decide +kernel, by decide +kernel⟩ rfl
theorem dL_law_689 : decode code 689 = .ok (.aload_n 3, 1) := decode_sh lwA10 (q := 49) (by decide +kernel) 45 ⟨by decide +kernel, by decide +kernel⟩ rfl
theorem dL_law_690 : decode code 690 = .ok (.iconst 0, 1) := decode_sh lwA10 (q := 50) (by decide +kernel) 3 ⟨by decide +kernel, by decide +kernel⟩ rfl
theorem dL_law_691 : decode code 691 = .ok (.laload, 1) := decode_sh lwA10 (q := 51) (by decide +kernel) 47 ⟨by decide +kernel, by decide +kernel⟩ rfl
theorem dL_law_692 : decode code 692 = .ok (.iload 7, 2) := decode_sh lwA10 (q := 52) (by decide +kernel) 21 ⟨by decide +kernel, by decide +kernel⟩ rfl
theorem dL_law_694 : decode code 694 = .ok (.i2l, 1) := decode_sh lwA10 (q := 54) (by decide +kernel) 133 ⟨by decide +kernel, by decide +kernel⟩ rfl
theorem dL_law_695 : decode code 695 = .ok (.lcmp, 1) := decode_sh lwA10 (q := 55) (by decide +kernel) 148 ⟨by decide +kernel, by decide +kernel⟩ rfl
theorem dL_law_696 : decode code 696 = .ok (.ifCond .eq 5, 3) := decode_sh lwA10 (q := 56) (by decide +kernel) 153 ⟨by decide +kernel, by decide +kernel⟩ rfl
theorem dL_law_699 : decode code 699 = .ok (.iconst 0, 1) := decode_sh lwA10 (q := 59) (by decide +kernel) 3 ⟨by decide +kernel, by decide +kernel⟩ rfl
theorem dL_law_700 : decode code 700 = .ok (.ireturn, 1) := decode_sh lwA10 (q := 60) (by decide +kernel) 172 ⟨by decide +kernel, by decide +kernel⟩ rfl
theorem dL_law_701 : decode code 701 = .ok (.goto 3094, 3) := decode_sh lwA10 (q := 61) (by decide +kernel) 167 ⟨by decide +kernel, by decide +kernel⟩ rfl
theorem dL_law_704 : decode code 704 = .ok (.aload_n 1, 1) := decode_sh lwA11 (q := 0) (by decide +kernel) 43 ⟨by decide +kernel, by decide +kernel⟩ rfl
theorem dL_law_705 : decode code 705 = .ok (.aload_n 3, 1) := decode_sh lwA11 (q := 1) (by decide +kernel) 45 ⟨by decide +kernel, by decide +kernel⟩ rfl
theorem dL_law_706 : decode code 706 = .ok (.invokestatic 244, 3) := decode_sh lwA11 (q := 2) (by decide +kernel) 184 ⟨by decide +kernel, by decide +kernel⟩ rfl
theorem dL_law_709 : decode code 709 = .ok (.istore 6, 2) := decode_sh lwA11 (q := 5) (by decide +kernel) 54 ⟨by decide +kernel, by decide +kernel⟩ rfl
theorem dL_law_711 : decode code 711 = .ok (.aload_n 2, 1) := decode_sh lwA11 (q := 7) (by decide +kernel) 44 ⟨by decide +kernel, by decide +kernel⟩ rfl
theorem dL_law_712 : decode code 712 = .ok (.invokevirtual 246, 3) := decode_sh lwA11 (q := 8) (by decide +kernel) 182 ⟨by decide +kernel, by decide +kernel⟩ rfl
theorem dL_law_715 : decode code 715 = .ok (.istore 7, 2) := decode_sh lwA11 (q := 11) (by decide +kernel) 54 ⟨by decide +kernel, by decide +kernel⟩ rfl
theorem dL_law_717 : decode code 717 = .ok (.aload_n 2, 1) := decode_sh lwA11 (q := 13) (by decide +kernel) 44 ⟨by decide +kernel, by decide +kernel⟩ rfl
theorem dL_law_718 : decode code 718 = .ok (.invokevirtual 213, 3) := decode_sh lwA11 (q := 14) (by decide +kernel) 182 ⟨by decide +kernel, by decide +kernel⟩ rfl
theorem dL_law_721 : decode code 721 = .ok (.iload 6, 2) := decode_sh lwA11 (q := 17) (by decide +kernel) 21 ⟨by decide +kernel, by decide +kernel⟩ rfl
theorem dL_law_723 : decode code 723 = .ok (.if_icmp .eq 5, 3) := decode_sh lwA11 (q := 19) (by decide +kernel) 159 ⟨by decide +kernel, by decide +kernel⟩ rfl
theorem dL_law_726 : decode code 726 = .ok (.iconst 0, 1) := decode_sh lwA11 (q := 22) (by decide +kernel) 3 ⟨by decide +kernel, by decide +kernel⟩ rfl
theorem dL_law_727 : decode code 727 = .ok (.ireturn, 1) := decode_sh lwA11 (q := 23) (by decide +kernel) 172 ⟨by decide +kernel, by decide +kernel⟩ rfl
theorem dL_law_728 : decode code 728 = .ok (.iload 6, 2) := decode_sh lwA11 (q := 24) (by decide +kernel) 21 ⟨by decide +kernel, by decide +kernel⟩ rfl
theorem dL_law_730 : decode code 730 = .ok (.ifCond .ne 15, 3) := decode_sh lwA11 (q := 26) (by decide +kernel) 154 ⟨by decide +kernel, by decide +kernel⟩ rfl
theorem dL_law_733 : decode code 733 = .ok (.aload_n 3, 1) := decode_sh lwA11 (q := 29) (by decide +kernel) 45 ⟨by decide +kernel, by decide +kernel⟩ rfl
theorem dL_law_734 : decode code 734 = .ok (.iconst 0, 1) := decode_sh lwA11 (q := 30) (by decide +kernel) 3 ⟨by decide +kernel, by decide +kernel⟩ rfl
theorem dL_law_735 : decode code 735 = .ok (.laload, 1) := decode_sh lwA11 (q := 31) (by decide +kernel) 47 ⟨by decide +kernel, by decide +kernel⟩ rfl
theorem dL_law_736 : decode code 736 = .ok (.iload 7, 2) := decode_sh lwA11 (q := 32) (by decide +kernel) 21 ⟨by decide +kernel, by decide +kernel⟩ rfl
theorem dL_law_738 : decode code 738 = .ok (.i2l, 1) := decode_sh lwA11 (q := 34) (by decide +kernel) 133 ⟨by decide +kernel, by decide +kernel⟩ rfl
theorem dL_law_739 : decode code 739 = .ok (.lcmp, 1) := decode_sh lwA11 (q := 35) (by decide +kernel) 148 ⟨by decide +kernel, by decide +kernel⟩ rfl
theorem dL_law_740 : decode code 740 = .ok (.ifCond .eq 5, 3) := decode_sh lwA11 (q := 36) (by decide +kernel) 153 ⟨by decide +kernel, by decide +kernel⟩ rfl
theorem dL_law_743 : decode code 743 = .ok (.iconst 0, 1) := decode_sh lwA11 (q := 39) (by decide +kernel) 3 ⟨by decide +kernel, by decide +kernel⟩ rfl
theorem dL_law_744 : decode code 744 = .ok (.ireturn, 1) := decode_sh lwA11 (q := 40) (by decide +kernel) 172 ⟨by decide +kernel, by decide +kernel⟩ rfl
theorem dL_law_745 : decode code 745 = .ok (.goto 3050, 3) := decode_sh lwA11 (q := 41) (by decide +kernel) 167 ⟨by decide +kernel, by decide +kernel⟩ rfl
theorem dL_law_748 : decode code 748 = .ok (.aload_n 1, 1) := decode_sh lwA11 (q := 44) (by decide +kernel) 43 ⟨by decide +kernel, by decide +kernel⟩ rfl
theorem dL_law_749 : decode code 749 = .ok (.aload 4, 2) := decode_sh lwA11 (q := 45) (by decide +kernel) 25 ⟨by decide +kernel, by decide +kernel⟩ rfl
theorem dL_law_751 : decode code 751 = .ok (.invokestatic 247, 3) := decode_sh lwA11 (q := 47) (by decide +kernel) 184 ⟨by decide +kernel, by decide +kernel⟩ rfl
theorem dL_law_754 : decode code 754 = .ok (.istore 6, 2) := decode_sh lwA11 (q := 50) (by decide +kernel) 54 ⟨by decide +kernel, by decide +kernel⟩ rfl
theorem dL_law_756 : decode code 756 = .ok (.aload_n 2, 1) := decode_sh lwA11 (q := 52) (by decide +kernel) 44 ⟨by decide +kernel, by decide +kernel⟩ rfl
theorem dL_law_757 : decode code 757 = .ok (.invokevirtual 250, 3) := decode_sh lwA11 (q := 53) (by decide +kernel) 182 ⟨by decide +kernel, by decide +kernel⟩ rfl
theorem dL_law_760 : decode code 760 = .ok (.dstore 7, 2) := decode_sh lwA11 (q := 56) (by decide +kernel) 57 ⟨by decide +kernel, by decide +kernel⟩ rfl
theorem dL_law_762 : decode code 762 = .ok (.aload_n 2, 1) := decode_sh lwA11 (q := 58) (by decide +kernel) 44 ⟨by decide +kernel, by decide +kernel⟩ rfl
theorem dL_law_763 : decode code 763 = .ok (.invokevirtual 213, 3) := decode_sh lwA11 (q := 59) (by decide +kernel) 182 ⟨by decide +kernel, by decide +kernel⟩ rfl
theorem dL_law_766 : decode code 766 = .ok (.iload 6, 2) := decode_sh lwA11 (q := 62) (by decide +kernel) 21 ⟨by decide +kernel, by decide +kernel⟩ rfl
theorem dL_law_768 : decode code 768 = .ok (.if_icmp .eq 5, 3) := decode_sh lwA12 (q := 0) (by decide +kernel) 159 ⟨by decide +kernel, by decide +kernel⟩ rfl
theorem dL_law_771 : decode code 771 = .ok (.iconst 0, 1) := decode_sh lwA12 (q := 3) (by decide +kernel) 3 ⟨by decide +kernel, by decide +kernel⟩ rfl
theorem dL_law_772 : decode code 772 = .ok (.ireturn, 1) := decode_sh lwA12 (q := 4) (by decide +kernel) 172 ⟨by decide +kernel, by decide +kernel⟩ rfl
theorem dL_law_773 : decode code 773 = .ok (.iload 6, 2) := decode_sh lwA12 (q := 5) (by decide +kernel) 21 ⟨by decide +kernel, by decide +kernel⟩ rfl
theorem dL_law_775 : decode code 775 = .ok (.ifCond .ne 35, 3) := decode_sh lwA12 (q := 7) (by decide +kernel) 154 ⟨by decide +kernel, by decide +kernel⟩ rfl
theorem dL_law_778 : decode code 778 = .ok (.aload 4, 2) := decode_sh lwA12 (q := 10) (by decide +kernel) 25 ⟨by decide +kernel, by decide +kernel⟩ rfl
theorem dL_law_780 : decode code 780 = .ok (.iconst 0, 1) := decode_sh lwA12 (q := 12) (by decide +kernel) 3 ⟨by decide +kernel, by decide +kernel⟩ rfl
theorem dL_law_781 : decode code 781 = .ok (.daload, 1) := decode_sh lwA12 (q := 13) (by decide +kernel) 49 ⟨by decide +kernel, by decide +kernel⟩ rfl
theorem dL_law_782 : decode code 782 = .ok (.dload 7, 2) := decode_sh lwA12 (q := 14) (by decide +kernel) 24 ⟨by decide +kernel, by decide +kernel⟩ rfl
theorem dL_law_784 : decode code 784 = .ok (.dcmp .l, 1) := decode_sh lwA12 (q := 16) (by decide +kernel) 151 ⟨by decide +kernel, by decide +kernel⟩ rfl
theorem dL_law_785 : decode code 785 = .ok (.ifCond .eq 25, 3) := decode_sh lwA12 (q := 17) (by decide +kernel) 153 ⟨by decide +kernel, by decide +kernel⟩ rfl
theorem dL_law_788 : decode code 788 = .ok (.aload 4, 2) := decode_sh lwA12 (q := 20) (by decide +kernel) 25 ⟨by decide +kernel, by decide +kernel⟩ rfl
theorem dL_law_790 : decode code 790 = .ok (.iconst 0, 1) := decode_sh lwA12 (q := 22) (by decide +kernel) 3 ⟨by decide +kernel, by decide +kernel⟩ rfl
theorem dL_law_791 : decode code 791 = .ok (.daload, 1) := decode_sh lwA12 (q := 23) (by decide +kernel) 49 ⟨by decide +kernel, by decide +kernel⟩ rfl
theorem dL_law_792 : decode code 792 = .ok (.aload 4, 2) := decode_sh lwA12 (q := 24) (by decide +kernel) 25 ⟨by decide +kernel, by decide +kernel⟩ rfl
theorem dL_law_794 : decode code 794 = .ok (.iconst 0, 1) := decode_sh lwA12 (q := 26) (by decide +kernel) 3 ⟨by decide +kernel, by decide +kernel⟩ rfl
theorem dL_law_795 : decode code 795 = .ok (.daload, 1) := decode_sh lwA12 (q := 27) (by decide +kernel) 49 ⟨by decide +kernel, by decide +kernel⟩ rfl
theorem dL_law_796 : decode code 796 = .ok (.dcmp .l, 1) := decode_sh lwA12 (q := 28) (by decide +kernel) 151 ⟨by decide +kernel, by decide +kernel⟩ rfl
theorem dL_law_797 : decode code 797 = .ok (.ifCond .eq 11, 3) := decode_sh lwA12 (q := 29) (by decide +kernel) 153 ⟨by decide +kernel, by decide +kernel⟩ rfl
theorem dL_law_800 : decode code 800 = .ok (.dload 7, 2) := decode_sh lwA12 (q := 32) (by decide +kernel) 24 ⟨by decide +kernel, by decide +kernel⟩ rfl
theorem dL_law_802 : decode code 802 = .ok (.dload 7, 2) := decode_sh lwA12 (q := 34) (by decide +kernel) 24 ⟨by decide +kernel, by decide +kernel⟩ rfl
theorem dL_law_804 : decode code 804 = .ok (.dcmp .l, 1) := decode_sh lwA12 (q := 36) (by decide +kernel) 151 ⟨by decide +kernel, by decide +kernel⟩ rfl
theorem dL_law_805 : decode code 805 = .ok (.ifCond .ne 5, 3) := decode_sh lwA12 (q := 37) (by decide +kernel) 154 ⟨by decide +kernel, by decide +kernel⟩ rfl
theorem dL_law_808 : decode code 808 = .ok (.iconst 0, 1) := decode_sh lwA12 (q := 40) (by decide +kernel) 3 ⟨by decide +kernel, by decide +kernel⟩ rfl
theorem dL_law_809 : decode code 809 = .ok (.ireturn, 1) := decode_sh lwA12 (q := 41) (by decide +kernel) 172 ⟨by decide +kernel, by decide +kernel⟩ rfl
theorem dL_law_810 : decode code 810 = .ok (.goto 2985, 3) := decode_sh lwA12 (q := 42) (by decide +kernel) 167 ⟨by decide +kernel, by decide +kernel⟩ rfl
theorem dL_law_813 : decode code 813 = .ok (.aload_n 1, 1) := decode_sh lwA12 (q := 45) (by decide +kernel) 43 ⟨by decide +kernel, by decide +kernel⟩ rfl
theorem dL_law_814 : decode code 814 = .ok (.aload 4, 2) := decode_sh lwA12 (q := 46) (by decide +kernel) 25 ⟨by decide +kernel, by decide +kernel⟩ rfl
theorem dL_law_816 : decode code 816 = .ok (.invokestatic 251, 3) := decode_sh lwA12 (q := 48) (by decide +kernel) 184 ⟨by decide +kernel, by decide +kernel⟩ rfl
theorem dL_law_819 : decode code 819 = .ok (.istore 6, 2) := decode_sh lwA12 (q := 51) (by decide +kernel) 54 ⟨by decide +kernel, by decide +kernel⟩ rfl
theorem dL_law_821 : decode code 821 = .ok (.aload_n 2, 1) := decode_sh lwA12 (q := 53) (by decide +kernel) 44 ⟨by decide +kernel, by decide +kernel⟩ rfl
theorem dL_law_822 : decode code 822 = .ok (.invokevirtual 253, 3) := decode_sh lwA12 (q := 54) (by decide +kernel) 182 ⟨by decide +kernel, by decide +kernel⟩ rfl
theorem dL_law_825 : decode code 825 = .ok (.fstore 7, 2) := decode_sh lwA12 (q := 57) (by decide +kernel) 56 ⟨by decide +kernel, by decide +kernel⟩ rfl
theorem dL_law_827 : decode code 827 = .ok (.aload_n 2, 1) := decode_sh lwA12 (q := 59) (by decide +kernel) 44 ⟨by decide +kernel, by decide +kernel⟩ rfl
theorem dL_law_828 : decode code 828 = .ok (.invokevirtual 213, 3) := decode_sh lwA12 (q := 60) (by decide +kernel) 182 ⟨by decide +kernel, by decide +kernel⟩ rfl
theorem dL_law_831 : decode code 831 = .ok (.iload 6, 2) := decode_sh lwA12 (q := 63) (by decide +kernel) 21 ⟨by decide +kernel, by decide +kernel⟩ rfl
theorem dL_law_833 : decode code 833 = .ok (.if_icmp .eq 5, 3) := decode_sh lwA13 (q := 1) (by decide +kernel) 159 ⟨by decide +kernel, by decide +kernel⟩ rfl
theorem dL_law_836 : decode code 836 = .ok (.iconst 0, 1) := decode_sh lwA13 (q := 4) (by decide +kernel) 3 ⟨by decide +kernel, by decide +kernel⟩ rfl
theorem dL_law_837 : decode code 837 = .ok (.ireturn, 1) := decode_sh lwA13 (q := 5) (by decide +kernel) 172 ⟨by decide +kernel, by decide +kernel⟩ rfl
theorem dL_law_838 : decode code 838 = .ok (.iload 6, 2) := decode_sh lwA13 (q := 6) (by decide +kernel) 21 ⟨by decide +kernel, by decide +kernel⟩ rfl
theorem dL_law_840 : decode code 840 = .ok (.ifCond .ne 36, 3) := decode_sh lwA13 (q := 8) (by decide +kernel) 154 ⟨by decide +kernel, by decide +kernel⟩ rfl
theorem dL_law_843 : decode code 843 = .ok (.aload 4, 2) := decode_sh lwA13 (q := 11) (by decide +kernel) 25 ⟨by decide +kernel, by decide +kernel⟩ rfl
theorem dL_law_845 : decode code 845 = .ok (.iconst 0, 1) := decode_sh lwA13 (q := 13) (by decide +kernel) 3 ⟨by decide +kernel, by decide +kernel⟩ rfl
theorem dL_law_846 : decode code 846 = .ok (.daload, 1) := decode_sh lwA13 (q := 14) (by decide +kernel) 49 ⟨by decide +kernel, by decide +kernel⟩ rfl
theorem dL_law_847 : decode code 847 = .ok (.fload 7, 2) := decode_sh lwA13 (q := 15) (by decide +kernel) 23 ⟨by decide +kernel, by decide +kernel⟩ rfl
theorem dL_law_849 : decode code 849 = .ok (.f2d, 1) := decode_sh lwA13 (q := 17) (by decide +kernel) 141 ⟨by decide +kernel, by decide +kernel⟩ rfl
theorem dL_law_850 : decode code 850 = .ok (.dcmp .l, 1) := decode_sh lwA13 (q := 18) (by decide +kernel) 151 ⟨by decide +kernel, by decide +kernel⟩ rfl
theorem dL_law_851 : decode code 851 = .ok (.ifCond .eq 25, 3) := decode_sh lwA13 (q := 19) (by decide +kernel) 153 ⟨by decide +kernel, by decide +kernel⟩ rfl
theorem dL_law_854 : decode code 854 = .ok (.aload 4, 2) := decode_sh lwA13 (q := 22) (by decide +kernel) 25 ⟨by decide +kernel, by decide +kernel⟩ rfl
theorem dL_law_856 : decode code 856 = .ok (.iconst 0, 1) := decode_sh lwA13 (q := 24) (by decide +kernel) 3 ⟨by decide +kernel, by decide +kernel⟩ rfl
theorem dL_law_857 : decode code 857 = .ok (.daload, 1) := decode_sh lwA13 (q := 25) (by decide +kernel) 49 ⟨by decide +kernel, by decide +kernel⟩ rfl
theorem dL_law_858 : decode code 858 = .ok (.aload 4, 2) := decode_sh lwA13 (q := 26) (by decide +kernel) 25 ⟨by decide +kernel, by decide +kernel⟩ rfl
theorem dL_law_860 : decode code 860 = .ok (.iconst 0, 1) := decode_sh lwA13 (q := 28) (by decide +kernel) 3 ⟨by decide +kernel, by decide +kernel⟩ rfl
theorem dL_law_861 : decode code 861 = .ok (.daload, 1) := decode_sh lwA13 (q := 29) (by decide +kernel) 49 ⟨by decide +kernel, by decide +kernel⟩ rfl
theorem dL_law_862 : decode code 862 = .ok (.dcmp .l, 1) := decode_sh lwA13 (q := 30) (by decide +kernel) 151 ⟨by decide +kernel, by decide +kernel⟩ rfl
theorem dL_law_863 : decode code 863 = .ok (.ifCond .eq 11, 3) := decode_sh lwA13 (q := 31) (by decide +kernel) 153 ⟨by decide +kernel, by decide +kernel⟩ rfl
theorem dL_law_866 : decode code 866 = .ok (.fload 7, 2) := decode_sh lwA13 (q := 34) (by decide +kernel) 23 ⟨by decide +kernel, by decide +kernel⟩ rfl
theorem dL_law_868 : decode code 868 = .ok (.fload 7, 2) := decode_sh lwA13 (q := 36) (by decide +kernel) 23 ⟨by decide +kernel, by decide +kernel⟩ rfl
theorem dL_law_870 : decode code 870 = .ok (.fcmp .l, 1) := decode_sh lwA13 (q := 38) (by decide +kernel) 149 ⟨by decide +kernel, by decide +kernel⟩ rfl
theorem dL_law_871 : decode code 871 = .ok (.ifCond .ne 5, 3) := decode_sh lwA13 (q := 39) (by decide +kernel) 154 ⟨by decide +kernel, by decide +kernel⟩ rfl
theorem dL_law_874 : decode code 874 = .ok (.iconst 0, 1) := decode_sh lwA13 (q := 42) (by decide +kernel) 3 ⟨by decide +kernel, by decide +kernel⟩ rfl
theorem dL_law_875 : decode code 875 = .ok (.ireturn, 1) := decode_sh lwA13 (q := 43) (by decide +kernel) 172 ⟨by decide +kernel, by decide +kernel⟩ rfl
theorem dL_law_876 : decode code 876 = .ok (.goto 2919, 3) := decode_sh lwA13 (q := 44) (by decide +kernel) 167 ⟨by decide +kernel, by decide +kernel⟩ rfl
theorem dL_law_879 : decode code 879 = .ok (.aload_n 1, 1) := decode_sh lwA13 (q := 47) (by decide +kernel) 43 ⟨by decide +kernel, by decide +kernel⟩ rfl
theorem dL_law_880 : decode code 880 = .ok (.aload_n 3, 1) := decode_sh lwA13 (q := 48) (by decide +kernel) 45 ⟨by decide +kernel, by decide +kernel⟩ rfl
theorem dL_law_881 : decode code 881 = .ok (.invokestatic 254, 3) := decode_sh lwA13 (q := 49) (by decide +kernel) 184 ⟨by decide +kernel, by decide +kernel⟩ rfl
theorem dL_law_884 : decode code 884 = .ok (.istore 6, 2) := decode_sh lwA13 (q := 52) (by decide +kernel) 54 ⟨by decide +kernel, by decide +kernel⟩ rfl
theorem dL_law_886 : decode code 886 = .ok (.aload_n 2, 1) := decode_sh lwA13 (q := 54) (by decide +kernel) 44 ⟨by decide +kernel, by decide +kernel⟩ rfl
theorem dL_law_887 : decode code 887 = .ok (.invokevirtual 256, 3) := decode_sh lwA13 (q := 55) (by decide +kernel) 182 ⟨by decide +kernel, by decide +kernel⟩ rfl
theorem dL_law_890 : decode code 890 = .ok (.istore 7, 2) := decode_sh lwA13 (q := 58) (by decide +kernel) 54 ⟨by decide +kernel, by decide +kernel⟩ rfl
theorem dL_law_892 : decode code 892 = .ok (.aload_n 2, 1) := decode_sh lwA13 (q := 60) (by decide +kernel) 44 ⟨by decide +kernel, by decide +kernel⟩ rfl
theorem dL_law_893 : decode code 893 = .ok (.invokevirtual 213, 3) := decode_sh lwA13 (q := 61) (by decide +kernel) 182 ⟨by decide +kernel, by decide +kernel⟩ rfl
theorem dL_law_896 : decode code 896 = .ok (.iload 6, 2) := decode_sh lwA14 (q := 0) (by decide +kernel) 21 ⟨by decide +kernel, by decide +kernel⟩ rfl
theorem dL_law_898 : decode code 898 = .ok (.if_icmp .eq 5, 3) := decode_sh lwA14 (q := 2) (by decide +kernel) 159 ⟨by decide +kernel, by decide +kernel⟩ rfl
theorem dL_law_901 : decode code 901 = .ok (.iconst 0, 1) := decode_sh lwA14 (q := 5) (by decide +kernel) 3 ⟨by decide +kernel, by decide +kernel⟩ rfl
theorem dL_law_902 : decode code 902 = .ok (.ireturn, 1) := decode_sh lwA14 (q := 6) (by decide +kernel) 172 ⟨by decide +kernel, by decide +kernel⟩ rfl
theorem dL_law_903 : decode code 903 = .ok (.iload 6, 2) := decode_sh lwA14 (q := 7) (by decide +kernel) 21 ⟨by decide +kernel, by decide +kernel⟩ rfl
theorem dL_law_905 : decode code 905 = .ok (.ifCond .ne 15, 3) := decode_sh lwA14 (q := 9) (by decide +kernel) 154 ⟨by decide +kernel, by decide +kernel⟩ rfl
theorem dL_law_908 : decode code 908 = .ok (.aload_n 3, 1) := decode_sh lwA14 (q := 12) (by decide +kernel) 45 ⟨by decide +kernel, by decide +kernel⟩ rfl
theorem dL_law_909 : decode code 909 = .ok (.iconst 0, 1) := decode_sh lwA14 (q := 13) (by decide +kernel) 3 ⟨by decide +kernel, by decide +kernel⟩ rfl
theorem dL_law_910 : decode code 910 = .ok (.laload, 1) := decode_sh lwA14 (q := 14) (by decide +kernel) 47 ⟨by decide +kernel, by decide +kernel⟩ rfl
theorem dL_law_911 : decode code 911 = .ok (.iload 7, 2) := decode_sh lwA14 (q := 15) (by decide +kernel) 21 ⟨by decide +kernel, by decide +kernel⟩ rfl
theorem dL_law_913 : decode code 913 = .ok (.i2l, 1) := decode_sh lwA14 (q := 17) (by decide +kernel) 133 ⟨by decide +kernel, by decide +kernel⟩ rfl
theorem dL_law_914 : decode code 914 = .ok (.lcmp, 1) := decode_sh lwA14 (q := 18) (by decide +kernel) 148 ⟨by decide +kernel, by decide +kernel⟩ rfl
theorem dL_law_915 : decode code 915 = .ok (.ifCond .eq 5, 3) := decode_sh lwA14 (q := 19) (by decide +kernel) 153 ⟨by decide +kernel, by decide +kernel⟩ rfl
theorem dL_law_918 : decode code 918 = .ok (.iconst 0, 1) := decode_sh lwA14 (q := 22) (by decide +kernel) 3 ⟨by decide +kernel, by decide +kernel⟩ rfl
theorem dL_law_919 : decode code 919 = .ok (.ireturn, 1) := decode_sh lwA14 (q := 23) (by decide +kernel) 172 ⟨by decide +kernel, by decide +kernel⟩ rfl
theorem dL_law_920 : decode code 920 = .ok (.goto 2875, 3) := decode_sh lwA14 (q := 24) (by decide +kernel) 167 ⟨by decide +kernel, by decide +kernel⟩ rfl
theorem dL_law_923 : decode code 923 = .ok (.aload_n 1, 1) := decode_sh lwA14 (q := 27) (by decide +kernel) 43 ⟨by decide +kernel, by decide +kernel⟩ rfl
theorem dL_law_924 : decode code 924 = .ok (.aload_n 0, 1) := decode_sh lwA14 (q := 28) (by decide +kernel) 42 ⟨by decide +kernel, by decide +kernel⟩ rfl
theorem dL_law_925 : decode code 925 = .ok (.iload 5, 2) := decode_sh lwA14 (q := 29) (by decide +kernel) 21 ⟨by decide +kernel, by decide +kernel⟩ rfl
theorem dL_law_927 : decode code 927 = .ok (.iconst 1, 1) := decode_sh lwA14 (q := 31) (by decide +kernel) 4 ⟨by decide +kernel, by decide +kernel⟩ rfl
theorem dL_law_928 : decode code 928 = .ok (.iadd, 1) := decode_sh lwA14 (q := 32) (by decide +kernel) 96 ⟨by decide +kernel, by decide +kernel⟩ rfl
theorem dL_law_929 : decode code 929 = .ok (.iaload, 1) := decode_sh lwA14 (q := 33) (by decide +kernel) 46 ⟨by decide +kernel, by decide +kernel⟩ rfl
theorem dL_law_930 : decode code 930 = .ok (.aload_n 0, 1) := decode_sh lwA14 (q := 34) (by decide +kernel) 42 ⟨by decide +kernel, by decide +kernel⟩ rfl
theorem dL_law_931 : decode code 931 = .ok (.iload 5, 2) := decode_sh lwA14 (q := 35) (by decide +kernel) 21 ⟨by decide +kernel, by decide +kernel⟩ rfl
theorem dL_law_933 : decode code 933 = .ok (.iconst 2, 1) := decode_sh lwA14 (q := 37) (by decide +kernel) 5 ⟨by decide +kernel, by decide +kernel⟩ rfl
theorem dL_law_934 : decode code 934 = .ok (.iadd, 1) := decode_sh lwA14 (q := 38) (by decide +kernel) 96 ⟨by decide +kernel, by decide +kernel⟩ rfl
theorem dL_law_935 : decode code 935 = .ok (.iaload, 1) := decode_sh lwA14 (q := 39) (by decide +kernel) 46 ⟨by decide +kernel, by decide +kernel⟩ rfl
theorem dL_law_936 : decode code 936 = .ok (.aload_n 3, 1) := decode_sh lwA14 (q := 40) (by decide +kernel) 45 ⟨by decide +kernel, by decide +kernel⟩ rfl
theorem dL_law_937 : decode code 937 = .ok (.invokestatic 257, 3) := decode_sh lwA14 (q := 41) (by decide +kernel) 184 ⟨by decide +kernel, by decide +kernel⟩ rfl
theorem dL_law_940 : decode code 940 = .ok (.istore 6, 2) := decode_sh lwA14 (q := 44) (by decide +kernel) 54 ⟨by decide +kernel, by decide +kernel⟩ rfl
theorem dL_law_942 : decode code 942 = .ok (.aload_n 2, 1) := decode_sh lwA14 (q := 46) (by decide +kernel) 44 ⟨by decide +kernel, by decide +kernel⟩ rfl
theorem dL_law_943 : decode code 943 = .ok (.aload_n 0, 1) := decode_sh lwA14 (q := 47) (by decide +kernel) 42 ⟨by decide +kernel, by decide +kernel⟩ rfl
theorem dL_law_944 : decode code 944 = .ok (.iload 5, 2) := decode_sh lwA14 (q := 48) (by decide +kernel) 21 ⟨by decide +kernel, by decide +kernel⟩ rfl
theorem dL_law_946 : decode code 946 = .ok (.iconst 1, 1) := decode_sh lwA14 (q := 50) (by decide +kernel) 4 ⟨by decide +kernel, by decide +kernel⟩ rfl
theorem dL_law_947 : decode code 947 = .ok (.iadd, 1) := decode_sh lwA14 (q := 51) (by decide +kernel) 96 ⟨by decide +kernel, by decide +kernel⟩ rfl
theorem dL_law_948 : decode code 948 = .ok (.iaload, 1) := decode_sh lwA14 (q := 52) (by decide +kernel) 46 ⟨by decide +kernel, by decide +kernel⟩ rfl
theorem dL_law_949 : decode code 949 = .ok (.aload_n 0, 1) := decode_sh lwA14 (q := 53) (by decide +kernel) 42 ⟨by decide +kernel, by decide +kernel⟩ rfl
theorem dL_law_950 : decode code 950 = .ok (.iload 5, 2) := decode_sh lwA14 (q := 54) (by decide +kernel) 21 ⟨by decide +kernel, by decide +kernel⟩ rfl
theorem dL_law_952 : decode code 952 = .ok (.iconst 2, 1) := decode_sh lwA14 (q := 56) (by decide +kernel) 5 ⟨by decide +kernel, by decide +kernel⟩ rfl
theorem dL_law_953 : decode code 953 = .ok (.iadd, 1) := decode_sh lwA14 (q := 57) (by decide +kernel) 96 ⟨by decide +kernel, by decide +kernel⟩ rfl
theorem dL_law_954 : decode code 954 = .ok (.iaload, 1) := decode_sh lwA14 (q := 58) (by decide +kernel) 46 ⟨by decide +kernel, by decide +kernel⟩ rfl
theorem dL_law_955 : decode code 955 = .ok (.invokevirtual 260, 3) := decode_sh lwA14 (q := 59) (by decide +kernel) 182 ⟨by decide +kernel, by decide +kernel⟩ rfl
theorem dL_law_958 : decode code 958 = .ok (.istore 7, 2) := decode_sh lwA14 (q := 62) (by decide +kernel) 54 ⟨by decide +kernel, by decide +kernel⟩ rfl
theorem dL_law_960 : decode code 960 = .ok (.aload_n 2, 1) := decode_sh lwA15 (q := 0) (by decide +kernel) 44 ⟨by decide +kernel, by decide +kernel⟩ rfl
theorem dL_law_961 : decode code 961 = .ok (.invokevirtual 213, 3) := decode_sh lwA15 (q := 1) (by decide +kernel) 182 ⟨by decide +kernel, by decide +kernel⟩ rfl
theorem dL_law_964 : decode code 964 = .ok (.iload 6, 2) := decode_sh lwA15 (q := 4) (by decide +kernel) 21 ⟨by decide +kernel, by decide +kernel⟩ rfl
theorem dL_law_966 : decode code 966 = .ok (.if_icmp .eq 5, 3) := decode_sh lwA15 (q := 6) (by decide +kernel) 159 ⟨by decide +kernel, by decide +kernel⟩ rfl
theorem dL_law_969 : decode code 969 = .ok (.iconst 0, 1) := decode_sh lwA15 (q := 9) (by decide +kernel) 3 ⟨by decide +kernel, by decide +kernel⟩ rfl
theorem dL_law_970 : decode code 970 = .ok (.ireturn, 1) := decode_sh lwA15 (q := 10) (by decide +kernel) 172 ⟨by decide +kernel, by decide +kernel⟩ rfl
theorem dL_law_971 : decode code 971 = .ok (.iload 6, 2) := decode_sh lwA15 (q := 11) (by decide +kernel) 21 ⟨by decide +kernel, by decide +kernel⟩ rfl
theorem dL_law_973 : decode code 973 = .ok (.ifCond .ne 15, 3) := decode_sh lwA15 (q := 13) (by decide +kernel) 154 ⟨by decide +kernel, by decide +kernel⟩ rfl
theorem dL_law_976 : decode code 976 = .ok (.aload_n 3, 1) := decode_sh lwA15 (q := 16) (by decide +kernel) 45 ⟨by decide +kernel, by decide +kernel⟩ rfl
theorem dL_law_977 : decode code 977 = .ok (.iconst 0, 1) := decode_sh lwA15 (q := 17) (by decide +kernel) 3 ⟨by decide +kernel, by decide +kernel⟩ rfl
theorem dL_law_978 : decode code 978 = .ok (.laload, 1) := decode_sh lwA15 (q := 18) (by decide +kernel) 47 ⟨by decide +kernel, by decide +kernel⟩ rfl
theorem dL_law_979 : decode code 979 = .ok (.iload 7, 2) := decode_sh lwA15 (q := 19) (by decide +kernel) 21 ⟨by decide +kernel, by decide +kernel⟩ rfl
theorem dL_law_981 : decode code 981 = .ok (.i2l, 1) := decode_sh lwA15 (q := 21) (by decide +kernel) 133 ⟨by decide +kernel, by decide +kernel⟩ rfl
theorem dL_law_982 : decode code 982 = .ok (.lcmp, 1) := decode_sh lwA15 (q := 22) (by decide +kernel) 148 ⟨by decide +kernel, by decide +kernel⟩ rfl
theorem dL_law_983 : decode code 983 = .ok (.ifCond .eq 5, 3) := decode_sh lwA15 (q := 23) (by decide +kernel) 153 ⟨by decide +kernel, by decide +kernel⟩ rfl
theorem dL_law_986 : decode code 986 = .ok (.iconst 0, 1) := decode_sh lwA15 (q := 26) (by decide +kernel) 3 ⟨by decide +kernel, by decide +kernel⟩ rfl
theorem dL_law_987 : decode code 987 = .ok (.ireturn, 1) := decode_sh lwA15 (q := 27) (by decide +kernel) 172 ⟨by decide +kernel, by decide +kernel⟩ rfl
theorem dL_law_988 : decode code 988 = .ok (.goto 2807, 3) := decode_sh lwA15 (q := 28) (by decide +kernel) 167 ⟨by decide +kernel, by decide +kernel⟩ rfl
theorem dL_law_991 : decode code 991 = .ok (.aload_n 1, 1) := decode_sh lwA15 (q := 31) (by decide +kernel) 43 ⟨by decide +kernel, by decide +kernel⟩ rfl
theorem dL_law_992 : decode code 992 = .ok (.aload_n 0, 1) := decode_sh lwA15 (q := 32) (by decide +kernel) 42 ⟨by decide +kernel, by decide +kernel⟩ rfl
theorem dL_law_993 : decode code 993 = .ok (.iload 5, 2) := decode_sh lwA15 (q := 33) (by decide +kernel) 21 ⟨by decide +kernel, by decide +kernel⟩ rfl
theorem dL_law_995 : decode code 995 = .ok (.iconst 1, 1) := decode_sh lwA15 (q := 35) (by decide +kernel) 4 ⟨by decide +kernel, by decide +kernel⟩ rfl
theorem dL_law_996 : decode code 996 = .ok (.iadd, 1) := decode_sh lwA15 (q := 36) (by decide +kernel) 96 ⟨by decide +kernel, by decide +kernel⟩ rfl
theorem dL_law_997 : decode code 997 = .ok (.iaload, 1) := decode_sh lwA15 (q := 37) (by decide +kernel) 46 ⟨by decide +kernel, by decide +kernel⟩ rfl
theorem dL_law_998 : decode code 998 = .ok (.aload_n 3, 1) := decode_sh lwA15 (q := 38) (by decide +kernel) 45 ⟨by decide +kernel, by decide +kernel⟩ rfl
theorem dL_law_999 : decode code 999 = .ok (.invokestatic 261, 3) := decode_sh lwA15 (q := 39) (by decide +kernel) 184 ⟨by decide +kernel, by decide +kernel⟩ rfl
theorem dL_law_1002 : decode code 1002 = .ok (.istore 6, 2) := decode_sh lwA15 (q := 42) (by decide +kernel) 54 ⟨by decide +kernel, by decide +kernel⟩ rfl
theorem dL_law_1004 : decode code 1004 = .ok (.aload_n 2, 1) := decode_sh lwA15 (q := 44) (by decide +kernel) 44 ⟨by decide +kernel, by decide +kernel⟩ rfl
theorem dL_law_1005 : decode code 1005 = .ok (.aload_n 0, 1) := decode_sh lwA15 (q := 45) (by decide +kernel) 42 ⟨by decide +kernel, by decide +kernel⟩ rfl
theorem dL_law_1006 : decode code 1006 = .ok (.iload 5, 2) := decode_sh lwA15 (q := 46) (by decide +kernel) 21 ⟨by decide +kernel, by decide +kernel⟩ rfl
theorem dL_law_1008 : decode code 1008 = .ok (.iconst 1, 1) := decode_sh lwA15 (q := 48) (by decide +kernel) 4 ⟨by decide +kernel, by decide +kernel⟩ rfl
theorem dL_law_1009 : decode code 1009 = .ok (.iadd, 1) := decode_sh lwA15 (q := 49) (by decide +kernel) 96 ⟨by decide +kernel, by decide +kernel⟩ rfl
theorem dL_law_1010 : decode code 1010 = .ok (.iaload, 1) := decode_sh lwA15 (q := 50) (by decide +kernel) 46 ⟨by decide +kernel, by decide +kernel⟩ rfl
theorem dL_law_1011 : decode code 1011 = .ok (.invokevirtual 263, 3) := decode_sh lwA15 (q := 51) (by decide +kernel) 182 ⟨by decide +kernel, by decide +kernel⟩ rfl
theorem dL_law_1014 : decode code 1014 = .ok (.istore 7, 2) := decode_sh lwA15 (q := 54) (by decide +kernel) 54 ⟨by decide +kernel, by decide +kernel⟩ rfl
theorem dL_law_1016 : decode code 1016 = .ok (.aload_n 2, 1) := decode_sh lwA15 (q := 56) (by decide +kernel) 44 ⟨by decide +kernel, by decide +kernel⟩ rfl
theorem dL_law_1017 : decode code 1017 = .ok (.invokevirtual 213, 3) := decode_sh lwA15 (q := 57) (by decide +kernel) 182 ⟨by decide +kernel, by decide +kernel⟩ rfl
theorem dL_law_1020 : decode code 1020 = .ok (.iload 6, 2) := decode_sh lwA15 (q := 60) (by decide +kernel) 21 ⟨by decide +kernel, by decide +kernel⟩ rfl
theorem dL_law_1022 : decode code 1022 = .ok (.if_icmp .eq 5, 3) := decode_sh lwA15 (q := 62) (by decide +kernel) 159 ⟨by decide +kernel, by decide +kernel⟩ rfl
theorem dL_law_1025 : decode code 1025 = .ok (.iconst 0, 1) := decode_sh lwA16 (q := 1) (by decide +kernel) 3 ⟨by decide +kernel, by decide +kernel⟩ rfl
theorem dL_law_1026 : decode code 1026 = .ok (.ireturn, 1) := decode_sh lwA16 (q := 2) (by decide +kernel) 172 ⟨by decide +kernel, by decide +kernel⟩ rfl
theorem dL_law_1027 : decode code 1027 = .ok (.iload 6, 2) := decode_sh lwA16 (q := 3) (by decide +kernel) 21 ⟨by decide +kernel, by decide +kernel⟩ rfl
theorem dL_law_1029 : decode code 1029 = .ok (.ifCond .ne 15, 3) := decode_sh lwA16 (q := 5) (by decide +kernel) 154 ⟨by decide +kernel, by decide +kernel⟩ rfl
theorem dL_law_1032 : decode code 1032 = .ok (.aload_n 3, 1) := decode_sh lwA16 (q := 8) (by decide +kernel) 45 ⟨by decide +kernel, by decide +kernel⟩ rfl
theorem dL_law_1033 : decode code 1033 = .ok (.iconst 0, 1) := decode_sh lwA16 (q := 9) (by decide +kernel) 3 ⟨by decide +kernel, by decide +kernel⟩ rfl
theorem dL_law_1034 : decode code 1034 = .ok (.laload, 1) := decode_sh lwA16 (q := 10) (by decide +kernel) 47 ⟨by decide +kernel, by decide +kernel⟩ rfl
theorem dL_law_1035 : decode code 1035 = .ok (.iload 7, 2) := decode_sh lwA16 (q := 11) (by decide +kernel) 21 ⟨by decide +kernel, by decide +kernel⟩ rfl
theorem dL_law_1037 : decode code 1037 = .ok (.i2l, 1) := decode_sh lwA16 (q := 13) (by decide +kernel) 133 ⟨by decide +kernel, by decide +kernel⟩ rfl
theorem dL_law_1038 : decode code 1038 = .ok (.lcmp, 1) := decode_sh lwA16 (q := 14) (by decide +kernel) 148 ⟨by decide +kernel, by decide +kernel⟩ rfl
theorem dL_law_1039 : decode code 1039 = .ok (.ifCond .eq 5, 3) := decode_sh lwA16 (q := 15) (by decide +kernel) 153 ⟨by decide +kernel, by decide +kernel⟩ rfl
theorem dL_law_1042 : decode code 1042 = .ok (.iconst 0, 1) := decode_sh lwA16 (q := 18) (by decide +kernel) 3 ⟨by decide +kernel, by decide +kernel⟩ rfl
theorem dL_law_1043 : decode code 1043 = .ok (.ireturn, 1) := decode_sh lwA16 (q := 19) (by decide +kernel) 172 ⟨by decide +kernel, by decide +kernel⟩ rfl
theorem dL_law_1044 : decode code 1044 = .ok (.goto 2751, 3) := decode_sh lwA16 (q := 20) (by decide +kernel) 167 ⟨by decide +kernel, by decide +kernel⟩ rfl
theorem dL_law_1047 : decode code 1047 = .ok (.aload_n 1, 1) := decode_sh lwA16 (q := 23) (by decide +kernel) 43 ⟨by decide +kernel, by decide +kernel⟩ rfl
theorem dL_law_1048 : decode code 1048 = .ok (.aload_n 0, 1) := decode_sh lwA16 (q := 24) (by decide +kernel) 42 ⟨by decide +kernel, by decide +kernel⟩ rfl
theorem dL_law_1049 : decode code 1049 = .ok (.iload 5, 2) := decode_sh lwA16 (q := 25) (by decide +kernel) 21 ⟨by decide +kernel, by decide +kernel⟩ rfl
theorem dL_law_1051 : decode code 1051 = .ok (.iconst 1, 1) := decode_sh lwA16 (q := 27) (by decide +kernel) 4 ⟨by decide +kernel, by decide +kernel⟩ rfl
theorem dL_law_1052 : decode code 1052 = .ok (.iadd, 1) := decode_sh lwA16 (q := 28) (by decide +kernel) 96 ⟨by decide +kernel, by decide +kernel⟩ rfl
theorem dL_law_1053 : decode code 1053 = .ok (.iaload, 1) := decode_sh lwA16 (q := 29) (by decide +kernel) 46 ⟨by decide +kernel, by decide +kernel⟩ rfl
theorem dL_law_1054 : decode code 1054 = .ok (.aload_n 3, 1) := decode_sh lwA16 (q := 30) (by decide +kernel) 45 ⟨by decide +kernel, by decide +kernel⟩ rfl
theorem dL_law_1055 : decode code 1055 = .ok (.invokestatic 264, 3) := decode_sh lwA16 (q := 31) (by decide +kernel) 184 ⟨by decide +kernel, by decide +kernel⟩ rfl
theorem dL_law_1058 : decode code 1058 = .ok (.istore 6, 2) := decode_sh lwA16 (q := 34) (by decide +kernel) 54 ⟨by decide +kernel, by decide +kernel⟩ rfl
theorem dL_law_1060 : decode code 1060 = .ok (.aload_n 2, 1) := decode_sh lwA16 (q := 36) (by decide +kernel) 44 ⟨by decide +kernel, by decide +kernel⟩ rfl
theorem dL_law_1061 : decode code 1061 = .ok (.aload_n 0, 1) := decode_sh lwA16 (q := 37) (by decide +kernel) 42 ⟨by decide +kernel, by decide +kernel⟩ rfl
theorem dL_law_1062 : decode code 1062 = .ok (.iload 5, 2) := decode_sh lwA16 (q := 38) (by decide +kernel) 21 ⟨by decide +kernel, by decide +kernel⟩ rfl
theorem dL_law_1064 : decode code 1064 = .ok (.iconst 1, 1) := decode_sh lwA16 (q := 40) (by decide +kernel) 4 ⟨by decide +kernel, by decide +kernel⟩ rfl
theorem dL_law_1065 : decode code 1065 = .ok (.iadd, 1) := decode_sh lwA16 (q := 41) (by decide +kernel) 96 ⟨by decide +kernel, by decide +kernel⟩ rfl
theorem dL_law_1066 : decode code 1066 = .ok (.iaload, 1) := decode_sh lwA16 (q := 42) (by decide +kernel) 46 ⟨by decide +kernel, by decide +kernel⟩ rfl
theorem dL_law_1067 : decode code 1067 = .ok (.invokevirtual 266, 3) := decode_sh lwA16 (q := 43) (by decide +kernel) 182 ⟨by decide +kernel, by decide +kernel⟩ rfl
theorem dL_law_1070 : decode code 1070 = .ok (.istore 7, 2) := decode_sh lwA16 (q := 46) (by decide +kernel) 54 ⟨by decide +kernel, by decide +kernel⟩ rfl
theorem dL_law_1072 : decode code 1072 = .ok (.aload_n 2, 1) := decode_sh lwA16 (q := 48) (by decide +kernel) 44 ⟨by decide +kernel, by decide +kernel⟩ rfl
theorem dL_law_1073 : decode code 1073 = .ok (.invokevirtual 213, 3) := decode_sh lwA16 (q := 49) (by decide +kernel) 182 ⟨by decide +kernel, by decide +kernel⟩ rfl
theorem dL_law_1076 : decode code 1076 = .ok (.iload 6, 2) := decode_sh lwA16 (q := 52) (by decide +kernel) 21 ⟨by decide +kernel, by decide +kernel⟩ rfl
theorem dL_law_1078 : decode code 1078 = .ok (.if_icmp .eq 5, 3) := decode_sh lwA16 (q := 54) (by decide +kernel) 159 ⟨by decide +kernel, by decide +kernel⟩ rfl
theorem dL_law_1081 : decode code 1081 = .ok (.iconst 0, 1) := decode_sh lwA16 (q := 57) (by decide +kernel) 3 ⟨by decide +kernel, by decide +kernel⟩ rfl
theorem dL_law_1082 : decode code 1082 = .ok (.ireturn, 1) := decode_sh lwA16 (q := 58) (by decide +kernel) 172 ⟨by decide +kernel, by decide +kernel⟩ rfl
theorem dL_law_1083 : decode code 1083 = .ok (.iload 6, 2) := decode_sh lwA16 (q := 59) (by decide +kernel) 21 ⟨by decide +kernel, by decide +kernel⟩ rfl
theorem dL_law_1085 : decode code 1085 = .ok (.ifCond .ne 15, 3) := decode_sh lwA16 (q := 61) (by decide +kernel) 154 ⟨by decide +kernel, by decide +kernel⟩ rfl
theorem dL_law_1088 : decode code 1088 = .ok (.aload_n 3, 1) := decode_sh lwA17 (q := 0) (by decide +kernel) 45 ⟨by decide +kernel, by decide +kernel⟩ rfl
theorem dL_law_1089 : decode code 1089 = .ok (.iconst 0, 1) := decode_sh lwA17 (q := 1) (by decide +kernel) 3 ⟨by decide +kernel, by decide +kernel⟩ rfl
theorem dL_law_1090 : decode code 1090 = .ok (.laload, 1) := decode_sh lwA17 (q := 2) (by decide +kernel) 47 ⟨by decide +kernel, by decide +kernel⟩ rfl
theorem dL_law_1091 : decode code 1091 = .ok (.iload 7, 2) := decode_sh lwA17 (q := 3) (by decide +kernel) 21 ⟨by decide +kernel, by decide +kernel⟩ rfl
theorem dL_law_1093 : decode code 1093 = .ok (.i2l, 1) := decode_sh lwA17 (q := 5) (by decide +kernel) 133 ⟨by decide +kernel, by decide +kernel⟩ rfl
theorem dL_law_1094 : decode code 1094 = .ok (.lcmp, 1) := decode_sh lwA17 (q := 6) (by decide +kernel) 148 ⟨by decide +kernel, by decide +kernel⟩ rfl
theorem dL_law_1095 : decode code 1095 = .ok (.ifCond .eq 5, 3) := decode_sh lwA17 (q := 7) (by decide +kernel) 153 ⟨by decide +kernel, by decide +kernel⟩ rfl
theorem dL_law_1098 : decode code 1098 = .ok (.iconst 0, 1) := decode_sh lwA17 (q := 10) (by decide +kernel) 3 ⟨by decide +kernel, by decide +kernel⟩ rfl
theorem dL_law_1099 : decode code 1099 = .ok (.ireturn, 1) := decode_sh lwA17 (q := 11) (by decide +kernel) 172 ⟨by decide +kernel, by decide +kernel⟩ rfl
theorem dL_law_1100 : decode code 1100 = .ok (.goto 2695, 3) := decode_sh lwA17 (q := 12) (by decide +kernel) 167 ⟨by decide +kernel, by decide +kernel⟩ rfl
theorem dL_law_1103 : decode code 1103 = .ok (.aload_n 1, 1) := decode_sh lwA17 (q := 15) (by decide +kernel) 43 ⟨by decide +kernel, by decide +kernel⟩ rfl
theorem dL_law_1104 : decode code 1104 = .ok (.aload_n 0, 1) := decode_sh lwA17 (q := 16) (by decide +kernel) 42 ⟨by decide +kernel, by decide +kernel⟩ rfl
theorem dL_law_1105 : decode code 1105 = .ok (.iload 5, 2) := decode_sh lwA17 (q := 17) (by decide +kernel) 21 ⟨by decide +kernel, by decide +kernel⟩ rfl
theorem dL_law_1107 : decode code 1107 = .ok (.iconst 1, 1) := decode_sh lwA17 (q := 19) (by decide +kernel) 4 ⟨by decide +kernel, by decide +kernel⟩ rfl
theorem dL_law_1108 : decode code 1108 = .ok (.iadd, 1) := decode_sh lwA17 (q := 20) (by decide +kernel) 96 ⟨by decide +kernel, by decide +kernel⟩ rfl
theorem dL_law_1109 : decode code 1109 = .ok (.iaload, 1) := decode_sh lwA17 (q := 21) (by decide +kernel) 46 ⟨by decide +kernel, by decide +kernel⟩ rfl
theorem dL_law_1110 : decode code 1110 = .ok (.aload_n 3, 1) := decode_sh lwA17 (q := 22) (by decide +kernel) 45 ⟨by decide +kernel, by decide +kernel⟩ rfl
theorem dL_law_1111 : decode code 1111 = .ok (.invokestatic 267, 3) := decode_sh lwA17 (q := 23) (by decide +kernel) 184 ⟨by decide +kernel, by decide +kernel⟩ rfl
theorem dL_law_1114 : decode code 1114 = .ok (.istore 6, 2) := decode_sh lwA17 (q := 26) (by decide +kernel) 54 ⟨by decide +kernel, by decide +kernel⟩ rfl
theorem dL_law_1116 : decode code 1116 = .ok (.aload_n 2, 1) := decode_sh lwA17 (q := 28) (by decide +kernel) 44 ⟨by decide +kernel, by decide +kernel⟩ rfl
theorem dL_law_1117 : decode code 1117 = .ok (.aload_n 0, 1) := decode_sh lwA17 (q := 29) (by decide +kernel) 42 ⟨by decide +kernel, by decide +kernel⟩ rfl
theorem dL_law_1118 : decode code 1118 = .ok (.iload 5, 2) := decode_sh lwA17 (q := 30) (by decide +kernel) 21 ⟨by decide +kernel, by decide +kernel⟩ rfl
theorem dL_law_1120 : decode code 1120 = .ok (.iconst 1, 1) := decode_sh lwA17 (q := 32) (by decide +kernel) 4 ⟨by decide +kernel, by decide +kernel⟩ rfl
theorem dL_law_1121 : decode code 1121 = .ok (.iadd, 1) := decode_sh lwA17 (q := 33) (by decide +kernel) 96 ⟨by decide +kernel, by decide +kernel⟩ rfl
theorem dL_law_1122 : decode code 1122 = .ok (.iaload, 1) := decode_sh lwA17 (q := 34) (by decide +kernel) 46 ⟨by decide +kernel, by decide +kernel⟩ rfl
theorem dL_law_1123 : decode code 1123 = .ok (.invokevirtual 269, 3) := decode_sh lwA17 (q := 35) (by decide +kernel) 182 ⟨by decide +kernel, by decide +kernel⟩ rfl
theorem dL_law_1126 : decode code 1126 = .ok (.istore 7, 2) := decode_sh lwA17 (q := 38) (by decide +kernel) 54 ⟨by decide +kernel, by decide +kernel⟩ rfl
theorem dL_law_1128 : decode code 1128 = .ok (.aload_n 2, 1) := decode_sh lwA17 (q := 40) (by decide +kernel) 44 ⟨by decide +kernel, by decide +kernel⟩ rfl
theorem dL_law_1129 : decode code 1129 = .ok (.invokevirtual 213, 3) := decode_sh lwA17 (q := 41) (by decide +kernel) 182 ⟨by decide +kernel, by decide +kernel⟩ rfl
theorem dL_law_1132 : decode code 1132 = .ok (.iload 6, 2) := decode_sh lwA17 (q := 44) (by decide +kernel) 21 ⟨by decide +kernel, by decide +kernel⟩ rfl
theorem dL_law_1134 : decode code 1134 = .ok (.if_icmp .eq 5, 3) := decode_sh lwA17 (q := 46) (by decide +kernel) 159 ⟨by decide +kernel, by decide +kernel⟩ rfl
theorem dL_law_1137 : decode code 1137 = .ok (.iconst 0, 1) := decode_sh lwA17 (q := 49) (by decide +kernel) 3 ⟨by decide +kernel, by decide +kernel⟩ rfl
theorem dL_law_1138 : decode code 1138 = .ok (.ireturn, 1) := decode_sh lwA17 (q := 50) (by decide +kernel) 172 ⟨by decide +kernel, by decide +kernel⟩ rfl
theorem dL_law_1139 : decode code 1139 = .ok (.iload 6, 2) := decode_sh lwA17 (q := 51) (by decide +kernel) 21 ⟨by decide +kernel, by decide +kernel⟩ rfl
theorem dL_law_1141 : decode code 1141 = .ok (.ifCond .ne 15, 3) := decode_sh lwA17 (q := 53) (by decide +kernel) 154 ⟨by decide +kernel, by decide +kernel⟩ rfl
theorem dL_law_1144 : decode code 1144 = .ok (.aload_n 3, 1) := decode_sh lwA17 (q := 56) (by decide +kernel) 45 ⟨by decide +kernel, by decide +kernel⟩ rfl
theorem dL_law_1145 : decode code 1145 = .ok (.iconst 0, 1) := decode_sh lwA17 (q := 57) (by decide +kernel) 3 ⟨by decide +kernel, by decide +kernel⟩ rfl
theorem dL_law_1146 : decode code 1146 = .ok (.laload, 1) := decode_sh lwA17 (q := 58) (by decide +kernel) 47 ⟨by decide +kernel, by decide +kernel⟩ rfl
theorem dL_law_1147 : decode code 1147 = .ok (.iload 7, 2) := decode_sh lwA17 (q := 59) (by decide +kernel) 21 ⟨by decide +kernel, by decide +kernel⟩ rfl
theorem dL_law_1149 : decode code 1149 = .ok (.i2l, 1) := decode_sh lwA17 (q := 61) (by decide +kernel) 133 ⟨by decide +kernel, by decide +kernel⟩ rfl
theorem dL_law_1150 : decode code 1150 = .ok (.lcmp, 1) := decode_sh lwA17 (q := 62) (by decide +kernel) 148 ⟨by decide +kernel, by decide +kernel⟩ rfl
theorem dL_law_1151 : decode code 1151 = .ok (.ifCond .eq 5, 3) := decode_sh lwA17 (q := 63) (by decide +kernel) 153 ⟨by decide +kernel, by decide +kernel⟩ rfl
theorem dL_law_1154 : decode code 1154 = .ok (.iconst 0, 1) := decode_sh lwA18 (q := 2) (by decide +kernel) 3 ⟨by decide +kernel, by decide +kernel⟩ rfl
theorem dL_law_1155 : decode code 1155 = .ok (.ireturn, 1) := decode_sh lwA18 (q := 3) (by decide +kernel) 172 ⟨by decide +kernel, by decide +kernel⟩ rfl
theorem dL_law_1156 : decode code 1156 = .ok (.goto 2639, 3) := decode_sh lwA18 (q := 4) (by decide +kernel) 167 ⟨by decide +kernel, by decide +kernel⟩ rfl
theorem dL_law_1159 : decode code 1159 = .ok (.aload_n 1, 1) := decode_sh lwA18 (q := 7) (by decide +kernel) 43 ⟨by decide +kernel, by decide +kernel⟩ rfl
theorem dL_law_1160 : decode code 1160 = .ok (.aload_n 0, 1) := decode_sh lwA18 (q := 8) (by decide +kernel) 42 ⟨by decide +kernel, by decide +kernel⟩ rfl
theorem dL_law_1161 : decode code 1161 = .ok (.iload 5, 2) := decode_sh lwA18 (q := 9) (by decide +kernel) 21 ⟨by decide +kernel, by decide +kernel⟩ rfl
theorem dL_law_1163 : decode code 1163 = .ok (.iconst 1, 1) := decode_sh lwA18 (q := 11) (by decide +kernel) 4 ⟨by decide +kernel, by decide +kernel⟩ rfl
theorem dL_law_1164 : decode code 1164 = .ok (.iadd, 1) := decode_sh lwA18 (q := 12) (by decide +kernel) 96 ⟨by decide +kernel, by decide +kernel⟩ rfl
theorem dL_law_1165 : decode code 1165 = .ok (.iaload, 1) := decode_sh lwA18 (q := 13) (by decide +kernel) 46 ⟨by decide +kernel, by decide +kernel⟩ rfl
theorem dL_law_1166 : decode code 1166 = .ok (.aload_n 3, 1) := decode_sh lwA18 (q := 14) (by decide +kernel) 45 ⟨by decide +kernel, by decide +kernel⟩ rfl
theorem dL_law_1167 : decode code 1167 = .ok (.invokestatic 270, 3) := decode_sh lwA18 (q := 15) (by decide +kernel) 184 ⟨by decide +kernel, by decide +kernel⟩ rfl
theorem dL_law_1170 : decode code 1170 = .ok (.istore 6, 2) := decode_sh lwA18 (q := 18) (by decide +kernel) 54 ⟨by decide +kernel, by decide +kernel⟩ rfl
theorem dL_law_1172 : decode code 1172 = .ok (.aload_n 2, 1) := decode_sh lwA18 (q := 20) (by decide +kernel) 44 ⟨by decide +kernel, by decide +kernel⟩ rfl
theorem dL_law_1173 : decode code 1173 = .ok (.aload_n 0, 1) := decode_sh lwA18 (q := 21) (by decide +kernel) 42 ⟨by decide +kernel, by decide +kernel⟩ rfl
theorem dL_law_1174 : decode code 1174 = .ok (.iload 5, 2) := decode_sh lwA18 (q := 22) (by decide +kernel) 21 ⟨by decide +kernel, by decide +kernel⟩ rfl
theorem dL_law_1176 : decode code 1176 = .ok (.iconst 1, 1) := decode_sh lwA18 (q := 24) (by decide +kernel) 4 ⟨by decide +kernel, by decide +kernel⟩ rfl
theorem dL_law_1177 : decode code 1177 = .ok (.iadd, 1) := decode_sh lwA18 (q := 25) (by decide +kernel) 96 ⟨by decide +kernel, by decide +kernel⟩ rfl
theorem dL_law_1178 : decode code 1178 = .ok (.iaload, 1) := decode_sh lwA18 (q := 26) (by decide +kernel) 46 ⟨by decide +kernel, by decide +kernel⟩ rfl
theorem dL_law_1179 : decode code 1179 = .ok (.invokevirtual 272, 3) := decode_sh lwA18 (q := 27) (by decide +kernel) 182 ⟨by decide +kernel, by decide +kernel⟩ rfl
theorem dL_law_1182 : decode code 1182 = .ok (.istore 7, 2) := decode_sh lwA18 (q := 30) (by decide +kernel) 54 ⟨by decide +kernel, by decide +kernel⟩ rfl
theorem dL_law_1184 : decode code 1184 = .ok (.aload_n 2, 1) := decode_sh lwA18 (q := 32) (by decide +kernel) 44 ⟨by decide +kernel, by decide +kernel⟩ rfl
theorem dL_law_1185 : decode code 1185 = .ok (.invokevirtual 213, 3) := decode_sh lwA18 (q := 33) (by decide +kernel) 182 ⟨by decide +kernel, by decide +kernel⟩ rfl
theorem dL_law_1188 : decode code 1188 = .ok (.iload 6, 2) := decode_sh lwA18 (q := 36) (by decide +kernel) 21 ⟨by decide +kernel, by decide +kernel⟩ rfl
theorem dL_law_1190 : decode code 1190 = .ok (.if_icmp .eq 5, 3) := decode_sh lwA18 (q := 38) (by decide +kernel) 159 ⟨by decide +kernel, by decide +kernel⟩ rfl
theorem dL_law_1193 : decode code 1193 = .ok (.iconst 0, 1) := decode_sh lwA18 (q := 41) (by decide +kernel) 3 ⟨by decide +kernel, by decide +kernel⟩ rfl
theorem dL_law_1194 : decode code 1194 = .ok (.ireturn, 1) := decode_sh lwA18 (q := 42) (by decide +kernel) 172 ⟨by decide +kernel, by decide +kernel⟩ rfl
theorem dL_law_1195 : decode code 1195 = .ok (.iload 6, 2) := decode_sh lwA18 (q := 43) (by decide +kernel) 21 ⟨by decide +kernel, by decide +kernel⟩ rfl
theorem dL_law_1197 : decode code 1197 = .ok (.ifCond .ne 15, 3) := decode_sh lwA18 (q := 45) (by decide +kernel) 154 ⟨by decide +kernel, by decide +kernel⟩ rfl
theorem dL_law_1200 : decode code 1200 = .ok (.aload_n 3, 1) := decode_sh lwA18 (q := 48) (by decide +kernel) 45 ⟨by decide +kernel, by decide +kernel⟩ rfl
theorem dL_law_1201 : decode code 1201 = .ok (.iconst 0, 1) := decode_sh lwA18 (q := 49) (by decide +kernel) 3 ⟨by decide +kernel, by decide +kernel⟩ rfl
theorem dL_law_1202 : decode code 1202 = .ok (.laload, 1) := decode_sh lwA18 (q := 50) (by decide +kernel) 47 ⟨by decide +kernel, by decide +kernel⟩ rfl
theorem dL_law_1203 : decode code 1203 = .ok (.iload 7, 2) := decode_sh lwA18 (q := 51) (by decide +kernel) 21 ⟨by decide +kernel, by decide +kernel⟩ rfl
theorem dL_law_1205 : decode code 1205 = .ok (.i2l, 1) := decode_sh lwA18 (q := 53) (by decide +kernel) 133 ⟨by decide +kernel, by decide +kernel⟩ rfl
theorem dL_law_1206 : decode code 1206 = .ok (.lcmp, 1) := decode_sh lwA18 (q := 54) (by decide +kernel) 148 ⟨by decide +kernel, by decide +kernel⟩ rfl
theorem dL_law_1207 : decode code 1207 = .ok (.ifCond .eq 5, 3) := decode_sh lwA18 (q := 55) (by decide +kernel) 153 ⟨by decide +kernel, by decide +kernel⟩ rfl
theorem dL_law_1210 : decode code 1210 = .ok (.iconst 0, 1) := decode_sh lwA18 (q := 58) (by decide +kernel) 3 ⟨by decide +kernel, by decide +kernel⟩ rfl
theorem dL_law_1211 : decode code 1211 = .ok (.ireturn, 1) := decode_sh lwA18 (q := 59) (by decide +kernel) 172 ⟨by decide +kernel, by decide +kernel⟩ rfl
theorem dL_law_1212 : decode code 1212 = .ok (.goto 2583, 3) := decode_sh lwA18 (q := 60) (by decide +kernel) 167 ⟨by decide +kernel, by decide +kernel⟩ rfl
theorem dL_law_1215 : decode code 1215 = .ok (.aload_n 1, 1) := decode_sh lwA18 (q := 63) (by decide +kernel) 43 ⟨by decide +kernel, by decide +kernel⟩ rfl
theorem dL_law_1216 : decode code 1216 = .ok (.aload_n 0, 1) := decode_sh lwA19 (q := 0) (by decide +kernel) 42 ⟨by decide +kernel, by decide +kernel⟩ rfl
theorem dL_law_1217 : decode code 1217 = .ok (.iload 5, 2) := decode_sh lwA19 (q := 1) (by decide +kernel) 21 ⟨by decide +kernel, by decide +kernel⟩ rfl
theorem dL_law_1219 : decode code 1219 = .ok (.iconst 1, 1) := decode_sh lwA19 (q := 3) (by decide +kernel) 4 ⟨by decide +kernel, by decide +kernel⟩ rfl
theorem dL_law_1220 : decode code 1220 = .ok (.iadd, 1) := decode_sh lwA19 (q := 4) (by decide +kernel) 96 ⟨by decide +kernel, by decide +kernel⟩ rfl
theorem dL_law_1221 : decode code 1221 = .ok (.iaload, 1) := decode_sh lwA19 (q := 5) (by decide +kernel) 46 ⟨by decide +kernel, by decide +kernel⟩ rfl
theorem dL_law_1222 : decode code 1222 = .ok (.aload_n 3, 1) := decode_sh lwA19 (q := 6) (by decide +kernel) 45 ⟨by decide +kernel, by decide +kernel⟩ rfl
theorem dL_law_1223 : decode code 1223 = .ok (.invokestatic 273, 3) := decode_sh lwA19 (q := 7) (by decide +kernel) 184 ⟨by decide +kernel, by decide +kernel⟩ rfl
theorem dL_law_1226 : decode code 1226 = .ok (.istore 6, 2) := decode_sh lwA19 (q := 10) (by decide +kernel) 54 ⟨by decide +kernel, by decide +kernel⟩ rfl
theorem dL_law_1228 : decode code 1228 = .ok (.aload_n 2, 1) := decode_sh lwA19 (q := 12) (by decide +kernel) 44 ⟨by decide +kernel, by decide +kernel⟩ rfl
theorem dL_law_1229 : decode code 1229 = .ok (.aload_n 0, 1) := decode_sh lwA19 (q := 13) (by decide +kernel) 42 ⟨by decide +kernel, by decide +kernel⟩ rfl
theorem dL_law_1230 : decode code 1230 = .ok (.iload 5, 2) := decode_sh lwA19 (q := 14) (by decide +kernel) 21 ⟨by decide +kernel, by decide +kernel⟩ rfl
theorem dL_law_1232 : decode code 1232 = .ok (.iconst 1, 1) := decode_sh lwA19 (q := 16) (by decide +kernel) 4 ⟨by decide +kernel, by decide +kernel⟩ rfl
theorem dL_law_1233 : decode code 1233 = .ok (.iadd, 1) := decode_sh lwA19 (q := 17) (by decide +kernel) 96 ⟨by decide +kernel, by decide +kernel⟩ rfl
theorem dL_law_1234 : decode code 1234 = .ok (.iaload, 1) := decode_sh lwA19 (q := 18) (by decide +kernel) 46 ⟨by decide +kernel, by decide +kernel⟩ rfl
theorem dL_law_1235 : decode code 1235 = .ok (.invokevirtual 275, 3) := decode_sh lwA19 (q := 19) (by decide +kernel) 182 ⟨by decide +kernel, by decide +kernel⟩ rfl
theorem dL_law_1238 : decode code 1238 = .ok (.istore 7, 2) := decode_sh lwA19 (q := 22) (by decide +kernel) 54 ⟨by decide +kernel, by decide +kernel⟩ rfl
theorem dL_law_1240 : decode code 1240 = .ok (.aload_n 2, 1) := decode_sh lwA19 (q := 24) (by decide +kernel) 44 ⟨by decide +kernel, by decide +kernel⟩ rfl
theorem dL_law_1241 : decode code 1241 = .ok (.invokevirtual 213, 3) := decode_sh lwA19 (q := 25) (by decide +kernel) 182 ⟨by decide +kernel, by decide +kernel⟩ rfl
theorem dL_law_1244 : decode code 1244 = .ok (.iload 6, 2) := decode_sh lwA19 (q := 28) (by decide +kernel) 21 ⟨by decide +kernel, by decide +kernel⟩ rfl
theorem dL_law_1246 : decode code 1246 = .ok (.if_icmp .eq 5, 3) := decode_sh lwA19 (q := 30) (by decide +kernel) 159 ⟨by decide +kernel, by decide +kernel⟩ rfl
theorem dL_law_1249 : decode code 1249 = .ok (.iconst 0, 1) := decode_sh lwA19 (q := 33) (by decide +kernel) 3 ⟨by decide +kernel, by decide +kernel⟩ rfl
theorem dL_law_1250 : decode code 1250 = .ok (.ireturn, 1) := decode_sh lwA19 (q := 34) (by decide +kernel) 172 ⟨by decide +kernel, by decide +kernel⟩ rfl
theorem dL_law_1251 : decode code 1251 = .ok (.iload 6, 2) := decode_sh lwA19 (q := 35) (by decide +kernel) 21 ⟨by decide +kernel, by decide +kernel⟩ rfl
theorem dL_law_1253 : decode code 1253 = .ok (.ifCond .ne 15, 3) := decode_sh lwA19 (q := 37) (by decide +kernel) 154 ⟨by decide +kernel, by decide +kernel⟩ rfl
theorem dL_law_1256 : decode code 1256 = .ok (.aload_n 3, 1) := decode_sh lwA19 (q := 40) (by decide +kernel) 45 ⟨by decide +kernel, by decide +kernel⟩ rfl
theorem dL_law_1257 : decode code 1257 = .ok (.iconst 0, 1) := decode_sh lwA19 (q := 41) (by decide +kernel) 3 ⟨by decide +kernel, by decide +kernel⟩ rfl
theorem dL_law_1258 : decode code 1258 = .ok (.laload, 1) := decode_sh lwA19 (q := 42) (by decide +kernel) 47 ⟨by decide +kernel, by decide +kernel⟩ rfl
theorem dL_law_1259 : decode code 1259 = .ok (.iload 7, 2) := decode_sh lwA19 (q := 43) (by decide +kernel) 21 ⟨by decide +kernel, by decide +kernel⟩ rfl
theorem dL_law_1261 : decode code 1261 = .ok (.i2l, 1) := decode_sh lwA19 (q := 45) (by decide +kernel) 133 ⟨by decide +kernel, by decide +kernel⟩ rfl
theorem dL_law_1262 : decode code 1262 = .ok (.lcmp, 1) := decode_sh lwA19 (q := 46) (by decide +kernel) 148 ⟨by decide +kernel, by decide +kernel⟩ rfl
theorem dL_law_1263 : decode code 1263 = .ok (.ifCond .eq 5, 3) := decode_sh lwA19 (q := 47) (by decide +kernel) 153 ⟨by decide +kernel, by decide +kernel⟩ rfl
theorem dL_law_1266 : decode code 1266 = .ok (.iconst 0, 1) := decode_sh lwA19 (q := 50) (by decide +kernel) 3 ⟨by decide +kernel, by decide +kernel⟩ rfl
theorem dL_law_1267 : decode code 1267 = .ok (.ireturn, 1) := decode_sh lwA19 (q := 51) (by decide +kernel) 172 ⟨by decide +kernel, by decide +kernel⟩ rfl
theorem dL_law_1268 : decode code 1268 = .ok (.goto 2527, 3) := decode_sh lwA19 (q := 52) (by decide +kernel) 167 ⟨by decide +kernel, by decide +kernel⟩ rfl
theorem dL_law_1271 : decode code 1271 = .ok (.aload_n 1, 1) := decode_sh lwA19 (q := 55) (by decide +kernel) 43 ⟨by decide +kernel, by decide +kernel⟩ rfl
theorem dL_law_1272 : decode code 1272 = .ok (.aload_n 0, 1) := decode_sh lwA19 (q := 56) (by decide +kernel) 42 ⟨by decide +kernel, by decide +kernel⟩ rfl
theorem dL_law_1273 : decode code 1273 = .ok (.iload 5, 2) := decode_sh lwA19 (q := 57) (by decide +kernel) 21 ⟨by decide +kernel, by decide +kernel⟩ rfl
theorem dL_law_1275 : decode code 1275 = .ok (.iconst 1, 1) := decode_sh lwA19 (q := 59) (by decide +kernel) 4 ⟨by decide +kernel, by decide +kernel⟩ rfl
theorem dL_law_1276 : decode code 1276 = .ok (.iadd, 1) := decode_sh lwA19 (q := 60) (by decide +kernel) 96 ⟨by decide +kernel, by decide +kernel⟩ rfl
theorem dL_law_1277 : decode code 1277 = .ok (.iaload, 1) := decode_sh lwA19 (q := 61) (by decide +kernel) 46 ⟨by decide +kernel, by decide +kernel⟩ rfl
theorem dL_law_1278 : decode code 1278 = .ok (.aload_n 3, 1) := decode_sh lwA19 (q := 62) (by decide +kernel) 45 ⟨by decide +kernel, by decide +kernel⟩ rfl
theorem dL_law_1279 : decode code 1279 = .ok (.invokestatic 276, 3) := decode_sh lwA19 (q := 63) (by decide +kernel) 184 ⟨by decide +kernel, by decide +kernel⟩ rfl
theorem dL_law_1282 : decode code 1282 = .ok (.istore 6, 2) := decode_sh lwA20 (q := 2) (by decide +kernel) 54 ⟨by decide +kernel, by decide +kernel⟩ rfl
theorem dL_law_1284 : decode code 1284 = .ok (.aload_n 2, 1) := decode_sh lwA20 (q := 4) (by decide +kernel) 44 ⟨by decide +kernel, by decide +kernel⟩ rfl
theorem dL_law_1285 : decode code 1285 = .ok (.aload_n 0, 1) := decode_sh lwA20 (q := 5) (by decide +kernel) 42 ⟨by decide +kernel, by decide +kernel⟩ rfl
theorem dL_law_1286 : decode code 1286 = .ok (.iload 5, 2) := decode_sh lwA20 (q := 6) (by decide +kernel) 21 ⟨by decide +kernel, by decide +kernel⟩ rfl
theorem dL_law_1288 : decode code 1288 = .ok (.iconst 1, 1) := decode_sh lwA20 (q := 8) (by decide +kernel) 4 ⟨by decide +kernel, by decide +kernel⟩ rfl
theorem dL_law_1289 : decode code 1289 = .ok (.iadd, 1) := decode_sh lwA20 (q := 9) (by decide +kernel) 96 ⟨by decide +kernel, by decide +kernel⟩ rfl
theorem dL_law_1290 : decode code 1290 = .ok (.iaload, 1) := decode_sh lwA20 (q := 10) (by decide +kernel) 46 ⟨by decide +kernel, by decide +kernel⟩ rfl
theorem dL_law_1291 : decode code 1291 = .ok (.invokevirtual 278, 3) := decode_sh lwA20 (q := 11) (by decide +kernel) 182 ⟨by decide +kernel, by decide +kernel⟩ rfl
theorem dL_law_1294 : decode code 1294 = .ok (.istore 7, 2) := decode_sh lwA20 (q := 14) (by decide +kernel) 54 ⟨by decide +kernel, by decide +kernel⟩ rfl
theorem dL_law_1296 : decode code 1296 = .ok (.aload_n 2, 1) := decode_sh lwA20 (q := 16) (by decide +kernel) 44 ⟨by decide +kernel, by decide +kernel⟩ rfl
theorem dL_law_1297 : decode code 1297 = .ok (.invokevirtual 213, 3) := decode_sh lwA20 (q := 17) (by decide +kernel) 182 ⟨by decide +kernel, by decide +kernel⟩ rfl
theorem dL_law_1300 : decode code 1300 = .ok (.iload 6, 2) := decode_sh lwA20 (q := 20) (by decide +kernel) 21 ⟨by decide +kernel, by decide +kernel⟩ rfl
theorem dL_law_1302 : decode code 1302 = .ok (.if_icmp .eq 5, 3) := decode_sh lwA20 (q := 22) (by decide +kernel) 159 ⟨by decide +kernel, by decide +kernel⟩ rfl
theorem dL_law_1305 : decode code 1305 = .ok (.iconst 0, 1) := decode_sh lwA20 (q := 25) (by decide +kernel) 3 ⟨by decide +kernel, by decide +kernel⟩ rfl
theorem dL_law_1306 : decode code 1306 = .ok (.ireturn, 1) := decode_sh lwA20 (q := 26) (by decide +kernel) 172 ⟨by decide +kernel, by decide +kernel⟩ rfl
theorem dL_law_1307 : decode code 1307 = .ok (.iload 6, 2) := decode_sh lwA20 (q := 27) (by decide +kernel) 21 ⟨by decide +kernel, by decide +kernel⟩ rfl
theorem dL_law_1309 : decode code 1309 = .ok (.ifCond .ne 15, 3) := decode_sh lwA20 (q := 29) (by decide +kernel) 154 ⟨by decide +kernel, by decide +kernel⟩ rfl
theorem dL_law_1312 : decode code 1312 = .ok (.aload_n 3, 1) := decode_sh lwA20 (q := 32) (by decide +kernel) 45 ⟨by decide +kernel, by decide +kernel⟩ rfl
theorem dL_law_1313 : decode code 1313 = .ok (.iconst 0, 1) := decode_sh lwA20 (q := 33) (by decide +kernel) 3 ⟨by decide +kernel, by decide +kernel⟩ rfl
theorem dL_law_1314 : decode code 1314 = .ok (.laload, 1) := decode_sh lwA20 (q := 34) (by decide +kernel) 47 ⟨by decide +kernel, by decide +kernel⟩ rfl
theorem dL_law_1315 : decode code 1315 = .ok (.iload 7, 2) := decode_sh lwA20 (q := 35) (by decide +kernel) 21 ⟨by decide +kernel, by decide +kernel⟩ rfl
theorem dL_law_1317 : decode code 1317 = .ok (.i2l, 1) := decode_sh lwA20 (q := 37) (by decide +kernel) 133 ⟨by decide +kernel, by decide +kernel⟩ rfl
theorem dL_law_1318 : decode code 1318 = .ok (.lcmp, 1) := decode_sh lwA20 (q := 38) (by decide +kernel) 148 ⟨by decide +kernel, by decide +kernel⟩ rfl
theorem dL_law_1319 : decode code 1319 = .ok (.ifCond .eq 5, 3) := decode_sh lwA20 (q := 39) (by decide +kernel) 153 ⟨by decide +kernel, by decide +kernel⟩ rfl
theorem dL_law_1322 : decode code 1322 = .ok (.iconst 0, 1) := decode_sh lwA20 (q := 42) (by decide +kernel) 3 ⟨by decide +kernel, by decide +kernel⟩ rfl
theorem dL_law_1323 : decode code 1323 = .ok (.ireturn, 1) := decode_sh lwA20 (q := 43) (by decide +kernel) 172 ⟨by decide +kernel, by decide +kernel⟩ rfl
theorem dL_law_1324 : decode code 1324 = .ok (.goto 2471, 3) := decode_sh lwA20 (q := 44) (by decide +kernel) 167 ⟨by decide +kernel, by decide +kernel⟩ rfl
theorem dL_law_1327 : decode code 1327 = .ok (.aload_n 1, 1) := decode_sh lwA20 (q := 47) (by decide +kernel) 43 ⟨by decide +kernel, by decide +kernel⟩ rfl
theorem dL_law_1328 : decode code 1328 = .ok (.aload_n 0, 1) := decode_sh lwA20 (q := 48) (by decide +kernel) 42 ⟨by decide +kernel, by decide +kernel⟩ rfl
theorem dL_law_1329 : decode code 1329 = .ok (.iload 5, 2) := decode_sh lwA20 (q := 49) (by decide +kernel) 21 ⟨by decide +kernel, by decide +kernel⟩ rfl
theorem dL_law_1331 : decode code 1331 = .ok (.iconst 1, 1) := decode_sh lwA20 (q := 51) (by decide +kernel) 4 ⟨by decide +kernel, by decide +kernel⟩ rfl
theorem dL_law_1332 : decode code 1332 = .ok (.iadd, 1) := decode_sh lwA20 (q := 52) (by decide +kernel) 96 ⟨by decide +kernel, by decide +kernel⟩ rfl
theorem dL_law_1333 : decode code 1333 = .ok (.iaload, 1) := decode_sh lwA20 (q := 53) (by decide +kernel) 46 ⟨by decide +kernel, by decide +kernel⟩ rfl
theorem dL_law_1334 : decode code 1334 = .ok (.aload_n 3, 1) := decode_sh lwA20 (q := 54) (by decide +kernel) 45 ⟨by decide +kernel, by decide +kernel⟩ rfl
theorem dL_law_1335 : decode code 1335 = .ok (.invokestatic 279, 3) := decode_sh lwA20 (q := 55) (by decide +kernel) 184 ⟨by decide +kernel, by decide +kernel⟩ rfl
theorem dL_law_1338 : decode code 1338 = .ok (.istore 6, 2) := decode_sh lwA20 (q := 58) (by decide +kernel) 54 ⟨by decide +kernel, by decide +kernel⟩ rfl
theorem dL_law_1340 : decode code 1340 = .ok (.aload_n 2, 1) := decode_sh lwA20 (q := 60) (by decide +kernel) 44 ⟨by decide +kernel, by decide +kernel⟩ rfl
theorem dL_law_1341 : decode code 1341 = .ok (.aload_n 0, 1) := decode_sh lwA20 (q := 61) (by decide +kernel) 42 ⟨by decide +kernel, by decide +kernel⟩ rfl
theorem dL_law_1342 : decode code 1342 = .ok (.iload 5, 2) := decode_sh lwA20 (q := 62) (by decide +kernel) 21 ⟨by decide +kernel, by decide +kernel⟩ rfl
theorem dL_law_1344 : decode code 1344 = .ok (.iconst 1, 1) := decode_sh lwA21 (q := 0) (by decide +kernel) 4 ⟨by decide +kernel, by decide +kernel⟩ rfl
theorem dL_law_1345 : decode code 1345 = .ok (.iadd, 1) := decode_sh lwA21 (q := 1) (by decide +kernel) 96 ⟨by decide +kernel, by decide +kernel⟩ rfl
theorem dL_law_1346 : decode code 1346 = .ok (.iaload, 1) := decode_sh lwA21 (q := 2) (by decide +kernel) 46 ⟨by decide +kernel, by decide +kernel⟩ rfl
theorem dL_law_1347 : decode code 1347 = .ok (.invokevirtual 281, 3) := decode_sh lwA21 (q := 3) (by decide +kernel) 182 ⟨by decide +kernel, by decide +kernel⟩ rfl
theorem dL_law_1350 : decode code 1350 = .ok (.istore 7, 2) := decode_sh lwA21 (q := 6) (by decide +kernel) 54 ⟨by decide +kernel, by decide +kernel⟩ rfl
theorem dL_law_1352 : decode code 1352 = .ok (.aload_n 2, 1) := decode_sh lwA21 (q := 8) (by decide +kernel) 44 ⟨by decide +kernel, by decide +kernel⟩ rfl
theorem dL_law_1353 : decode code 1353 = .ok (.invokevirtual 213, 3) := decode_sh lwA21 (q := 9) (by decide +kernel) 182 ⟨by decide +kernel, by decide +kernel⟩ rfl
theorem dL_law_1356 : decode code 1356 = .ok (.iload 6, 2) := decode_sh lwA21 (q := 12) (by decide +kernel) 21 ⟨by decide +kernel, by decide +kernel⟩ rfl
theorem dL_law_1358 : decode code 1358 = .ok (.if_icmp .eq 5, 3) := decode_sh lwA21 (q := 14) (by decide +kernel) 159 ⟨by decide +kernel, by decide +kernel⟩ rfl
theorem dL_law_1361 : decode code 1361 = .ok (.iconst 0, 1) := decode_sh lwA21 (q := 17) (by decide +kernel) 3 ⟨by decide +kernel, by decide +kernel⟩ rfl
theorem dL_law_1362 : decode code 1362 = .ok (.ireturn, 1) := decode_sh lwA21 (q := 18) (by decide +kernel) 172 ⟨by decide +kernel, by decide +kernel⟩ rfl
theorem dL_law_1363 : decode code 1363 = .ok (.iload 6, 2) := decode_sh lwA21 (q := 19) (by decide +kernel) 21 ⟨by decide +kernel, by decide +kernel⟩ rfl
theorem dL_law_1365 : decode code 1365 = .ok (.ifCond .ne 15, 3) := decode_sh lwA21 (q := 21) (by decide +kernel) 154 ⟨by decide +kernel, by decide +kernel⟩ rfl
theorem dL_law_1368 : decode code 1368 = .ok (.aload_n 3, 1) := decode_sh lwA21 (q := 24) (by decide +kernel) 45 ⟨by decide +kernel, by decide +kernel⟩ rfl
theorem dL_law_1369 : decode code 1369 = .ok (.iconst 0, 1) := decode_sh lwA21 (q := 25) (by decide +kernel) 3 ⟨by decide +kernel, by decide +kernel⟩ rfl
theorem dL_law_1370 : decode code 1370 = .ok (.laload, 1) := decode_sh lwA21 (q := 26) (by decide +kernel) 47 ⟨by decide +kernel, by decide +kernel⟩ rfl
theorem dL_law_1371 : decode code 1371 = .ok (.iload 7, 2) := decode_sh lwA21 (q := 27) (by decide +kernel) 21 ⟨by decide +kernel, by decide +kernel⟩ rfl
theorem dL_law_1373 : decode code 1373 = .ok (.i2l, 1) := decode_sh lwA21 (q := 29) (by decide +kernel) 133 ⟨by decide +kernel, by decide +kernel⟩ rfl
theorem dL_law_1374 : decode code 1374 = .ok (.lcmp, 1) := decode_sh lwA21 (q := 30) (by decide +kernel) 148 ⟨by decide +kernel, by decide +kernel⟩ rfl
theorem dL_law_1375 : decode code 1375 = .ok (.ifCond .eq 5, 3) := decode_sh lwA21 (q := 31) (by decide +kernel) 153 ⟨by decide +kernel, by decide +kernel⟩ rfl
theorem dL_law_1378 : decode code 1378 = .ok (.iconst 0, 1) := decode_sh lwA21 (q := 34) (by decide +kernel) 3 ⟨by decide +kernel, by decide +kernel⟩ rfl
theorem dL_law_1379 : decode code 1379 = .ok (.ireturn, 1) := decode_sh lwA21 (q := 35) (by decide +kernel) 172 ⟨by decide +kernel, by decide +kernel⟩ rfl
theorem dL_law_1380 : decode code 1380 = .ok (.goto 2415, 3) := decode_sh lwA21 (q := 36) (by decide +kernel) 167 ⟨by decide +kernel, by decide +kernel⟩ rfl
theorem dL_law_1383 : decode code 1383 = .ok (.aload_n 1, 1) := decode_sh lwA21 (q := 39) (by decide +kernel) 43 ⟨by decide +kernel, by decide +kernel⟩ rfl
theorem dL_law_1384 : decode code 1384 = .ok (.aload_n 3, 1) := decode_sh lwA21 (q := 40) (by decide +kernel) 45 ⟨by decide +kernel, by decide +kernel⟩ rfl
theorem dL_law_1385 : decode code 1385 = .ok (.invokestatic 282, 3) := decode_sh lwA21 (q := 41) (by decide +kernel) 184 ⟨by decide +kernel, by decide +kernel⟩ rfl
theorem dL_law_1388 : decode code 1388 = .ok (.istore 6, 2) := decode_sh lwA21 (q := 44) (by decide +kernel) 54 ⟨by decide +kernel, by decide +kernel⟩ rfl
theorem dL_law_1390 : decode code 1390 = .ok (.aload_n 2, 1) := decode_sh lwA21 (q := 46) (by decide +kernel) 44 ⟨by decide +kernel, by decide +kernel⟩ rfl
theorem dL_law_1391 : decode code 1391 = .ok (.invokevirtual 284, 3) := decode_sh lwA21 (q := 47) (by decide +kernel) 182 ⟨by decide +kernel, by decide +kernel⟩ rfl
theorem dL_law_1394 : decode code 1394 = .ok (.istore 7, 2) := decode_sh lwA21 (q := 50) (by decide +kernel) 54 ⟨by decide +kernel, by decide +kernel⟩ rfl
theorem dL_law_1396 : decode code 1396 = .ok (.aload_n 2, 1) := decode_sh lwA21 (q := 52) (by decide +kernel) 44 ⟨by decide +kernel, by decide +kernel⟩ rfl
theorem dL_law_1397 : decode code 1397 = .ok (.invokevirtual 213, 3) := decode_sh lwA21 (q := 53) (by decide +kernel) 182 ⟨by decide +kernel, by decide +kernel⟩ rfl
theorem dL_law_1400 : decode code 1400 = .ok (.iload 6, 2) := decode_sh lwA21 (q := 56) (by decide +kernel) 21 ⟨by decide +kernel, by decide +kernel⟩ rfl
theorem dL_law_1402 : decode code 1402 = .ok (.if_icmp .eq 5, 3) := decode_sh lwA21 (q := 58) (by decide +kernel) 159 ⟨by decide +kernel, by decide +kernel⟩ rfl
theorem dL_law_1405 : decode code 1405 = .ok (.iconst 0, 1) := decode_sh lwA21 (q := 61) (by decide +kernel) 3 ⟨by decide +kernel, by decide +kernel⟩ rfl
theorem dL_law_1406 : decode code 1406 = .ok (.ireturn, 1) := decode_sh lwA21 (q := 62) (by decide +kernel) 172 ⟨by decide +kernel, by decide +kernel⟩ rfl
theorem dL_law_1407 : decode code 1407 = .ok (.iload 6, 2) := decode_sh lwA21 (q := 63) (by decide +kernel) 21 ⟨by decide +kernel, by decide +kernel⟩ rfl
theorem dL_law_1409 : decode code 1409 = .ok (.ifCond .ne 15, 3) := decode_sh lwA22 (q := 1) (by decide +kernel) 154 ⟨by decide +kernel, by decide +kernel⟩ rfl
theorem dL_law_1412 : decode code 1412 = .ok (.aload_n 3, 1) := decode_sh lwA22 (q := 4) (by decide +kernel) 45 ⟨by decide +kernel, by decide +kernel⟩ rfl
theorem dL_law_1413 : decode code 1413 = .ok (.iconst 0, 1) := decode_sh lwA22 (q := 5) (by decide +kernel) 3 ⟨by decide +kernel, by decide +kernel⟩ rfl
theorem dL_law_1414 : decode code 1414 = .ok (.laload, 1) := decode_sh lwA22 (q := 6) (by decide +kernel) 47 ⟨by decide +kernel, by decide +kernel⟩ rfl
theorem dL_law_1415 : decode code 1415 = .ok (.iload 7, 2) := decode_sh lwA22 (q := 7) (by decide +kernel) 21 ⟨by decide +kernel, by decide +kernel⟩ rfl
theorem dL_law_1417 : decode code 1417 = .ok (.i2l, 1) := decode_sh lwA22 (q := 9) (by decide +kernel) 133 ⟨by decide +kernel, by decide +kernel⟩ rfl
theorem dL_law_1418 : decode code 1418 = .ok (.lcmp, 1) := decode_sh lwA22 (q := 10) (by decide +kernel) 148 ⟨by decide +kernel, by decide +kernel⟩ rfl
theorem dL_law_1419 : decode code 1419 = .ok (.ifCond .eq 5, 3) := decode_sh lwA22 (q := 11) (by decide +kernel) 153 ⟨by decide +kernel, by decide +kernel⟩ rfl
theorem dL_law_1422 : decode code 1422 = .ok (.iconst 0, 1) := decode_sh lwA22 (q := 14) (by decide +kernel) 3 ⟨by decide +kernel, by decide +kernel⟩ rfl
theorem dL_law_1423 : decode code 1423 = .ok (.ireturn, 1) := decode_sh lwA22 (q := 15) (by decide +kernel) 172 ⟨by decide +kernel, by decide +kernel⟩ rfl
theorem dL_law_1424 : decode code 1424 = .ok (.goto 2371, 3) := decode_sh lwA22 (q := 16) (by decide +kernel) 167 ⟨by decide +kernel, by decide +kernel⟩ rfl
theorem dL_law_1427 : decode code 1427 = .ok (.aload_n 1, 1) := decode_sh lwA22 (q := 19) (by decide +kernel) 43 ⟨by decide +kernel, by decide +kernel⟩ rfl
theorem dL_law_1428 : decode code 1428 = .ok (.aload_n 0, 1) := decode_sh lwA22 (q := 20) (by decide +kernel) 42 ⟨by decide +kernel, by decide +kernel⟩ rfl
theorem dL_law_1429 : decode code 1429 = .ok (.iload 5, 2) := decode_sh lwA22 (q := 21) (by decide +kernel) 21 ⟨by decide +kernel, by decide +kernel⟩ rfl
theorem dL_law_1431 : decode code 1431 = .ok (.iconst 1, 1) := decode_sh lwA22 (q := 23) (by decide +kernel) 4 ⟨by decide +kernel, by decide +kernel⟩ rfl
theorem dL_law_1432 : decode code 1432 = .ok (.iadd, 1) := decode_sh lwA22 (q := 24) (by decide +kernel) 96 ⟨by decide +kernel, by decide +kernel⟩ rfl
theorem dL_law_1433 : decode code 1433 = .ok (.iaload, 1) := decode_sh lwA22 (q := 25) (by decide +kernel) 46 ⟨by decide +kernel, by decide +kernel⟩ rfl
theorem dL_law_1434 : decode code 1434 = .ok (.aload_n 3, 1) := decode_sh lwA22 (q := 26) (by decide +kernel) 45 ⟨by decide +kernel, by decide +kernel⟩ rfl
theorem dL_law_1435 : decode code 1435 = .ok (.invokestatic 285, 3) := decode_sh lwA22 (q := 27) (by decide +kernel) 184 ⟨by decide +kernel, by decide +kernel⟩ rfl
theorem dL_law_1438 : decode code 1438 = .ok (.istore 6, 2) := decode_sh lwA22 (q := 30) (by decide +kernel) 54 ⟨by decide +kernel, by decide +kernel⟩ rfl
theorem dL_law_1440 : decode code 1440 = .ok (.aload_n 2, 1) := decode_sh lwA22 (q := 32) (by decide +kernel) 44 ⟨by decide +kernel, by decide +kernel⟩ rfl
theorem dL_law_1441 : decode code 1441 = .ok (.aload_n 0, 1) := decode_sh lwA22 (q := 33) (by decide +kernel) 42 ⟨by decide +kernel, by decide +kernel⟩ rfl
theorem dL_law_1442 : decode code 1442 = .ok (.iload 5, 2) := decode_sh lwA22 (q := 34) (by decide +kernel) 21 ⟨by decide +kernel, by decide +kernel⟩ rfl
theorem dL_law_1444 : decode code 1444 = .ok (.iconst 1, 1) := decode_sh lwA22 (q := 36) (by decide +kernel) 4 ⟨by decide +kernel, by decide +kernel⟩ rfl
theorem dL_law_1445 : decode code 1445 = .ok (.iadd, 1) := decode_sh lwA22 (q := 37) (by decide +kernel) 96 ⟨by decide +kernel, by decide +kernel⟩ rfl
theorem dL_law_1446 : decode code 1446 = .ok (.iaload, 1) := decode_sh lwA22 (q := 38) (by decide +kernel) 46 ⟨by decide +kernel, by decide +kernel⟩ rfl
theorem dL_law_1447 : decode code 1447 = .ok (.invokevirtual 287, 3) := decode_sh lwA22 (q := 39) (by decide +kernel) 182 ⟨by decide +kernel, by decide +kernel⟩ rfl
theorem dL_law_1450 : decode code 1450 = .ok (.istore 7, 2) := decode_sh lwA22 (q := 42) (by decide +kernel) 54 ⟨by decide +kernel, by decide +kernel⟩ rfl
theorem dL_law_1452 : decode code 1452 = .ok (.aload_n 2, 1) := decode_sh lwA22 (q := 44) (by decide +kernel) 44 ⟨by decide +kernel, by decide +kernel⟩ rfl
theorem dL_law_1453 : decode code 1453 = .ok (.invokevirtual 213, 3) := decode_sh lwA22 (q := 45) (by decide +kernel) 182 ⟨by decide +kernel, by decide +kernel⟩ rfl
theorem dL_law_1456 : decode code 1456 = .ok (.iload 6, 2) := decode_sh lwA22 (q := 48) (by decide +kernel) 21 ⟨by decide +kernel, by decide +kernel⟩ rfl
theorem dL_law_1458 : decode code 1458 = .ok (.if_icmp .eq 5, 3) := decode_sh lwA22 (q := 50) (by decide +kernel) 159 ⟨by decide +kernel, by decide +kernel⟩ rfl
theorem dL_law_1461 : decode code 1461 = .ok (.iconst 0, 1) := decode_sh lwA22 (q := 53) (by decide +kernel) 3 ⟨by decide +kernel, by decide +kernel⟩ rfl
theorem dL_law_1462 : decode code 1462 = .ok (.ireturn, 1) := decode_sh lwA22 (q := 54) (by decide +kernel) 172 ⟨by decide +kernel, by decide +kernel⟩ rfl
theorem dL_law_1463 : decode code 1463 = .ok (.iload 6, 2) := decode_sh lwA22 (q := 55) (by decide +kernel) 21 ⟨by decide +kernel, by decide +kernel⟩ rfl
theorem dL_law_1465 : decode code 1465 = .ok (.ifCond .ne 15, 3) := decode_sh lwA22 (q := 57) (by decide +kernel) 154 ⟨by decide +kernel, by decide +kernel⟩ rfl
theorem dL_law_1468 : decode code 1468 = .ok (.aload_n 3, 1) := decode_sh lwA22 (q := 60) (by decide +kernel) 45 ⟨by decide +kernel, by decide +kernel⟩ rfl
theorem dL_law_1469 : decode code 1469 = .ok (.iconst 0, 1) := decode_sh lwA22 (q := 61) (by decide +kernel) 3 ⟨by decide +kernel, by decide +kernel⟩ rfl
theorem dL_law_1470 : decode code 1470 = .ok (.laload, 1) := decode_sh lwA22 (q := 62) (by decide +kernel) 47 ⟨by decide +kernel, by decide +kernel⟩ rfl
theorem dL_law_1471 : decode code 1471 = .ok (.iload 7, 2) := decode_sh lwA22 (q := 63) (by decide +kernel) 21 ⟨by decide +kernel, by decide +kernel⟩ rfl
theorem dL_law_1473 : decode code 1473 = .ok (.i2l, 1) := decode_sh lwA23 (q := 1) (by decide +kernel) 133 ⟨by decide +kernel, by decide +kernel⟩ rfl
theorem dL_law_1474 : decode code 1474 = .ok (.lcmp, 1) := decode_sh lwA23 (q := 2) (by decide +kernel) 148 ⟨by decide +kernel, by decide +kernel⟩ rfl
theorem dL_law_1475 : decode code 1475 = .ok (.ifCond .eq 5, 3) := decode_sh lwA23 (q := 3) (by decide +kernel) 153 ⟨by decide +kernel, by decide +kernel⟩ rfl
