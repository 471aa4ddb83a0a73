/-! the law: decode rows -/
theorem dk_111_388 : decode code 388 = .ok (.iaload, 1) := by decide +kernel
theorem dk_111_389 : decode code 389 = .ok (.aload_n 3, 1) := by decide +kernel
theorem dk_111_390 : decode code 390 = .ok (.invokestatic 87, 3) := by decide +kernel
theorem dk_111_393 : decode code 393 = .ok (.istore 5, 2) := by decide +kernel
theorem dk_111_395 : decode code 395 = .ok (.aload_n 2, 1) := by decide +kernel
theorem dk_111_396 : decode code 396 = .ok (.aload_n 0, 1) := by decide +kernel
theorem dk_111_397 : decode code 397 = .ok (.iload 4, 2) := by decide +kernel
theorem dk_111_399 : decode code 399 = .ok (.iconst (1), 1) := by decide +kernel
theorem dk_111_400 : decode code 400 = .ok (.iadd, 1) := by decide +kernel
theorem dk_111_401 : decode code 401 = .ok (.iaload, 1) := by decide +kernel
theorem dk_111_402 : decode code 402 = .ok (.aload_n 0, 1) := by decide +kernel
theorem dk_111_403 : decode code 403 = .ok (.iload 4, 2) := by decide +kernel
theorem dk_111_405 : decode code 405 = .ok (.iconst (2), 1) := by decide +kernel
theorem dk_111_406 : decode code 406 = .ok (.iadd, 1) := by decide +kernel
theorem dk_111_407 : decode code 407 = .ok (.iaload, 1) := by decide +kernel
theorem dk_111_408 : decode code 408 = .ok (.invokevirtual 90, 3) := by decide +kernel
theorem dk_111_411 : decode code 411 = .ok (.istore 6, 2) := by decide +kernel
theorem dk_111_413 : decode code 413 = .ok (.aload_n 2, 1) := by decide +kernel
theorem dk_111_414 : decode code 414 = .ok (.invokevirtual 75, 3) := by decide +kernel
theorem dk_111_417 : decode code 417 = .ok (.iload 5, 2) := by decide +kernel
theorem dk_111_419 : decode code 419 = .ok (.if_icmp .eq (5), 3) := by decide +kernel
theorem dk_111_422 : decode code 422 = .ok (.iconst (0), 1) := by decide +kernel
theorem dk_111_423 : decode code 423 = .ok (.ireturn, 1) := by decide +kernel
theorem dk_111_424 : decode code 424 = .ok (.iload 5, 2) := by decide +kernel
theorem dk_111_426 : decode code 426 = .ok (.ifCond .ne (15), 3) := by decide +kernel
theorem dk_111_429 : decode code 429 = .ok (.aload_n 3, 1) := by decide +kernel
theorem dk_111_430 : decode code 430 = .ok (.iconst (0), 1) := by decide +kernel
theorem dk_111_431 : decode code 431 = .ok (.laload, 1) := by decide +kernel
theorem dk_111_432 : decode code 432 = .ok (.iload 6, 2) := by decide +kernel
theorem dk_111_434 : decode code 434 = .ok (.i2l, 1) := by decide +kernel
theorem dk_111_435 : decode code 435 = .ok (.lcmp, 1) := by decide +kernel
theorem dk_111_436 : decode code 436 = .ok (.ifCond .eq (5), 3) := by decide +kernel
theorem dk_111_439 : decode code 439 = .ok (.iconst (0), 1) := by decide +kernel
theorem dk_111_440 : decode code 440 = .ok (.ireturn, 1) := by decide +kernel
theorem dk_111_441 : decode code 441 = .ok (.goto (676), 3) := by decide +kernel
theorem dk_111_444 : decode code 444 = .ok (.aload_n 1, 1) := by decide +kernel
theorem dk_111_445 : decode code 445 = .ok (.aload_n 0, 1) := by decide +kernel
theorem dk_111_446 : decode code 446 = .ok (.iload 4, 2) := by decide +kernel
theorem dk_111_448 : decode code 448 = .ok (.iconst (1), 1) := by decide +kernel
theorem dk_111_449 : decode code 449 = .ok (.iadd, 1) := by decide +kernel
theorem dk_111_450 : decode code 450 = .ok (.iaload, 1) := by decide +kernel
theorem dk_111_451 : decode code 451 = .ok (.aload_n 3, 1) := by decide +kernel
theorem dk_111_452 : decode code 452 = .ok (.invokestatic 91, 3) := by decide +kernel
theorem dk_111_455 : decode code 455 = .ok (.istore 5, 2) := by decide +kernel
theorem dk_111_457 : decode code 457 = .ok (.aload_n 2, 1) := by decide +kernel
theorem dk_111_458 : decode code 458 = .ok (.aload_n 0, 1) := by decide +kernel
theorem dk_111_459 : decode code 459 = .ok (.iload 4, 2) := by decide +kernel
theorem dk_111_461 : decode code 461 = .ok (.iconst (1), 1) := by decide +kernel
theorem dk_111_462 : decode code 462 = .ok (.iadd, 1) := by decide +kernel
theorem dk_111_463 : decode code 463 = .ok (.iaload, 1) := by decide +kernel
