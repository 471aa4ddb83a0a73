/-! the law: decode rows -/
theorem dk_111_311 : decode code 311 = .ok (.lcmp, 1) := by decide +kernel
theorem dk_111_312 : decode code 312 = .ok (.ifCond .eq (5), 3) := by decide +kernel
theorem dk_111_315 : decode code 315 = .ok (.iconst (0), 1) := by decide +kernel
theorem dk_111_316 : decode code 316 = .ok (.ireturn, 1) := by decide +kernel
theorem dk_111_317 : decode code 317 = .ok (.goto (800), 3) := by decide +kernel
theorem dk_111_320 : decode code 320 = .ok (.aload_n 1, 1) := by decide +kernel
theorem dk_111_321 : decode code 321 = .ok (.aload_n 0, 1) := by decide +kernel
theorem dk_111_322 : decode code 322 = .ok (.iload 4, 2) := by decide +kernel
theorem dk_111_324 : decode code 324 = .ok (.iconst (1), 1) := by decide +kernel
theorem dk_111_325 : decode code 325 = .ok (.iadd, 1) := by decide +kernel
theorem dk_111_326 : decode code 326 = .ok (.iaload, 1) := by decide +kernel
theorem dk_111_327 : decode code 327 = .ok (.aload_n 3, 1) := by decide +kernel
theorem dk_111_328 : decode code 328 = .ok (.invokestatic 83, 3) := by decide +kernel
theorem dk_111_331 : decode code 331 = .ok (.istore 5, 2) := by decide +kernel
theorem dk_111_333 : decode code 333 = .ok (.aload_n 2, 1) := by decide +kernel
theorem dk_111_334 : decode code 334 = .ok (.aload_n 0, 1) := by decide +kernel
theorem dk_111_335 : decode code 335 = .ok (.iload 4, 2) := by decide +kernel
theorem dk_111_337 : decode code 337 = .ok (.iconst (1), 1) := by decide +kernel
theorem dk_111_338 : decode code 338 = .ok (.iadd, 1) := by decide +kernel
theorem dk_111_339 : decode code 339 = .ok (.iaload, 1) := by decide +kernel
theorem dk_111_340 : decode code 340 = .ok (.invokevirtual 86, 3) := by decide +kernel
theorem dk_111_343 : decode code 343 = .ok (.istore 6, 2) := by decide +kernel
theorem dk_111_345 : decode code 345 = .ok (.aload_n 2, 1) := by decide +kernel
theorem dk_111_346 : decode code 346 = .ok (.invokevirtual 75, 3) := by decide +kernel
theorem dk_111_349 : decode code 349 = .ok (.iload 5, 2) := by decide +kernel
theorem dk_111_351 : decode code 351 = .ok (.if_icmp .eq (5), 3) := by decide +kernel
theorem dk_111_354 : decode code 354 = .ok (.iconst (0), 1) := by decide +kernel
theorem dk_111_355 : decode code 355 = .ok (.ireturn, 1) := by decide +kernel
theorem dk_111_356 : decode code 356 = .ok (.iload 5, 2) := by decide +kernel
theorem dk_111_358 : decode code 358 = .ok (.ifCond .ne (15), 3) := by decide +kernel
theorem dk_111_361 : decode code 361 = .ok (.aload_n 3, 1) := by decide +kernel
theorem dk_111_362 : decode code 362 = .ok (.iconst (0), 1) := by decide +kernel
theorem dk_111_363 : decode code 363 = .ok (.laload, 1) := by decide +kernel
theorem dk_111_364 : decode code 364 = .ok (.iload 6, 2) := by decide +kernel
theorem dk_111_366 : decode code 366 = .ok (.i2l, 1) := by decide +kernel
theorem dk_111_367 : decode code 367 = .ok (.lcmp, 1) := by decide +kernel
theorem dk_111_368 : decode code 368 = .ok (.ifCond .eq (5), 3) := by decide +kernel
theorem dk_111_371 : decode code 371 = .ok (.iconst (0), 1) := by decide +kernel
theorem dk_111_372 : decode code 372 = .ok (.ireturn, 1) := by decide +kernel
theorem dk_111_373 : decode code 373 = .ok (.goto (744), 3) := by decide +kernel
theorem dk_111_376 : decode code 376 = .ok (.aload_n 1, 1) := by decide +kernel
theorem dk_111_377 : decode code 377 = .ok (.aload_n 0, 1) := by decide +kernel
theorem dk_111_378 : decode code 378 = .ok (.iload 4, 2) := by decide +kernel
theorem dk_111_380 : decode code 380 = .ok (.iconst (1), 1) := by decide +kernel
theorem dk_111_381 : decode code 381 = .ok (.iadd, 1) := by decide +kernel
theorem dk_111_382 : decode code 382 = .ok (.iaload, 1) := by decide +kernel
theorem dk_111_383 : decode code 383 = .ok (.aload_n 0, 1) := by decide +kernel
theorem dk_111_384 : decode code 384 = .ok (.iload 4, 2) := by decide +kernel
theorem dk_111_386 : decode code 386 = .ok (.iconst (2), 1) := by decide +kernel
theorem dk_111_387 : decode code 387 = .ok (.iadd, 1) := by decide +kernel
