/-! the law: decode rows -/
theorem dk_111_464 : decode code 464 = .ok (.invokevirtual 93, 3) := by decide +kernel
theorem dk_111_467 : decode code 467 = .ok (.istore 6, 2) := by decide +kernel
theorem dk_111_469 : decode code 469 = .ok (.aload_n 2, 1) := by decide +kernel
theorem dk_111_470 : decode code 470 = .ok (.invokevirtual 75, 3) := by decide +kernel
theorem dk_111_473 : decode code 473 = .ok (.iload 5, 2) := by decide +kernel
theorem dk_111_475 : decode code 475 = .ok (.if_icmp .eq (5), 3) := by decide +kernel
theorem dk_111_478 : decode code 478 = .ok (.iconst (0), 1) := by decide +kernel
theorem dk_111_479 : decode code 479 = .ok (.ireturn, 1) := by decide +kernel
theorem dk_111_480 : decode code 480 = .ok (.iload 5, 2) := by decide +kernel
theorem dk_111_482 : decode code 482 = .ok (.ifCond .ne (15), 3) := by decide +kernel
theorem dk_111_485 : decode code 485 = .ok (.aload_n 3, 1) := by decide +kernel
theorem dk_111_486 : decode code 486 = .ok (.iconst (0), 1) := by decide +kernel
theorem dk_111_487 : decode code 487 = .ok (.laload, 1) := by decide +kernel
theorem dk_111_488 : decode code 488 = .ok (.iload 6, 2) := by decide +kernel
theorem dk_111_490 : decode code 490 = .ok (.i2l, 1) := by decide +kernel
theorem dk_111_491 : decode code 491 = .ok (.lcmp, 1) := by decide +kernel
theorem dk_111_492 : decode code 492 = .ok (.ifCond .eq (5), 3) := by decide +kernel
theorem dk_111_495 : decode code 495 = .ok (.iconst (0), 1) := by decide +kernel
theorem dk_111_496 : decode code 496 = .ok (.ireturn, 1) := by decide +kernel
theorem dk_111_497 : decode code 497 = .ok (.goto (620), 3) := by decide +kernel
theorem dk_111_500 : decode code 500 = .ok (.aload_n 1, 1) := by decide +kernel
theorem dk_111_501 : decode code 501 = .ok (.aload_n 0, 1) := by decide +kernel
theorem dk_111_502 : decode code 502 = .ok (.iload 4, 2) := by decide +kernel
theorem dk_111_504 : decode code 504 = .ok (.iconst (1), 1) := by decide +kernel
theorem dk_111_505 : decode code 505 = .ok (.iadd, 1) := by decide +kernel
theorem dk_111_506 : decode code 506 = .ok (.iaload, 1) := by decide +kernel
theorem dk_111_507 : decode code 507 = .ok (.aload_n 0, 1) := by decide +kernel
theorem dk_111_508 : decode code 508 = .ok (.iload 4, 2) := by decide +kernel
theorem dk_111_510 : decode code 510 = .ok (.iconst (2), 1) := by decide +kernel
theorem dk_111_511 : decode code 511 = .ok (.iadd, 1) := by decide +kernel
theorem dk_111_512 : decode code 512 = .ok (.iaload, 1) := by decide +kernel
theorem dk_111_513 : decode code 513 = .ok (.aload_n 3, 1) := by decide +kernel
theorem dk_111_514 : decode code 514 = .ok (.invokestatic 94, 3) := by decide +kernel
theorem dk_111_517 : decode code 517 = .ok (.istore 5, 2) := by decide +kernel
theorem dk_111_519 : decode code 519 = .ok (.aload_n 2, 1) := by decide +kernel
theorem dk_111_520 : decode code 520 = .ok (.aload_n 0, 1) := by decide +kernel
theorem dk_111_521 : decode code 521 = .ok (.iload 4, 2) := by decide +kernel
theorem dk_111_523 : decode code 523 = .ok (.iconst (1), 1) := by decide +kernel
theorem dk_111_524 : decode code 524 = .ok (.iadd, 1) := by decide +kernel
theorem dk_111_525 : decode code 525 = .ok (.iaload, 1) := by decide +kernel
theorem dk_111_526 : decode code 526 = .ok (.aload_n 0, 1) := by decide +kernel
theorem dk_111_527 : decode code 527 = .ok (.iload 4, 2) := by decide +kernel
theorem dk_111_529 : decode code 529 = .ok (.iconst (2), 1) := by decide +kernel
theorem dk_111_530 : decode code 530 = .ok (.iadd, 1) := by decide +kernel
theorem dk_111_531 : decode code 531 = .ok (.iaload, 1) := by decide +kernel
theorem dk_111_532 : decode code 532 = .ok (.invokevirtual 96, 3) := by decide +kernel
theorem dk_111_535 : decode code 535 = .ok (.istore 6, 2) := by decide +kernel
theorem dk_111_537 : decode code 537 = .ok (.aload_n 2, 1) := by decide +kernel
theorem dk_111_538 : decode code 538 = .ok (.invokevirtual 75, 3) := by decide +kernel
theorem dk_111_541 : decode code 541 = .ok (.iload 5, 2) := by decide +kernel
