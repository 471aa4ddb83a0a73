/-! the law: decode rows -/
theorem dk_111_543 : decode code 543 = .ok (.if_icmp .eq (5), 3) := by decide +kernel
theorem dk_111_546 : decode code 546 = .ok (.iconst (0), 1) := by decide +kernel
theorem dk_111_547 : decode code 547 = .ok (.ireturn, 1) := by decide +kernel
theorem dk_111_548 : decode code 548 = .ok (.iload 5, 2) := by decide +kernel
theorem dk_111_550 : decode code 550 = .ok (.ifCond .ne (15), 3) := by decide +kernel
theorem dk_111_553 : decode code 553 = .ok (.aload_n 3, 1) := by decide +kernel
theorem dk_111_554 : decode code 554 = .ok (.iconst (0), 1) := by decide +kernel
theorem dk_111_555 : decode code 555 = .ok (.laload, 1) := by decide +kernel
theorem dk_111_556 : decode code 556 = .ok (.iload 6, 2) := by decide +kernel
theorem dk_111_558 : decode code 558 = .ok (.i2l, 1) := by decide +kernel
theorem dk_111_559 : decode code 559 = .ok (.lcmp, 1) := by decide +kernel
theorem dk_111_560 : decode code 560 = .ok (.ifCond .eq (5), 3) := by decide +kernel
theorem dk_111_563 : decode code 563 = .ok (.iconst (0), 1) := by decide +kernel
theorem dk_111_564 : decode code 564 = .ok (.ireturn, 1) := by decide +kernel
theorem dk_111_565 : decode code 565 = .ok (.goto (552), 3) := by decide +kernel
theorem dk_111_568 : decode code 568 = .ok (.aload_n 1, 1) := by decide +kernel
theorem dk_111_569 : decode code 569 = .ok (.invokevirtual 97, 3) := by decide +kernel
theorem dk_111_572 : decode code 572 = .ok (.aload_n 2, 1) := by decide +kernel
theorem dk_111_573 : decode code 573 = .ok (.invokevirtual 100, 3) := by decide +kernel
theorem dk_111_576 : decode code 576 = .ok (.if_icmp .eq (541), 3) := by decide +kernel
theorem dk_111_579 : decode code 579 = .ok (.iconst (0), 1) := by decide +kernel
theorem dk_111_580 : decode code 580 = .ok (.ireturn, 1) := by decide +kernel
theorem dk_111_581 : decode code 581 = .ok (.aload_n 1, 1) := by decide +kernel
theorem dk_111_582 : decode code 582 = .ok (.aload_n 0, 1) := by decide +kernel
theorem dk_111_583 : decode code 583 = .ok (.iload 4, 2) := by decide +kernel
theorem dk_111_585 : decode code 585 = .ok (.iconst (1), 1) := by decide +kernel
theorem dk_111_586 : decode code 586 = .ok (.iadd, 1) := by decide +kernel
theorem dk_111_587 : decode code 587 = .ok (.iaload, 1) := by decide +kernel
theorem dk_111_588 : decode code 588 = .ok (.aload_n 0, 1) := by decide +kernel
theorem dk_111_589 : decode code 589 = .ok (.iload 4, 2) := by decide +kernel
theorem dk_111_591 : decode code 591 = .ok (.iconst (2), 1) := by decide +kernel
theorem dk_111_592 : decode code 592 = .ok (.iadd, 1) := by decide +kernel
theorem dk_111_593 : decode code 593 = .ok (.iaload, 1) := by decide +kernel
theorem dk_111_594 : decode code 594 = .ok (.invokestatic 101, 3) := by decide +kernel
theorem dk_111_597 : decode code 597 = .ok (.istore 5, 2) := by decide +kernel
theorem dk_111_599 : decode code 599 = .ok (.aload_n 2, 1) := by decide +kernel
theorem dk_111_600 : decode code 600 = .ok (.aload_n 0, 1) := by decide +kernel
theorem dk_111_601 : decode code 601 = .ok (.iload 4, 2) := by decide +kernel
theorem dk_111_603 : decode code 603 = .ok (.iconst (1), 1) := by decide +kernel
theorem dk_111_604 : decode code 604 = .ok (.iadd, 1) := by decide +kernel
theorem dk_111_605 : decode code 605 = .ok (.iaload, 1) := by decide +kernel
theorem dk_111_606 : decode code 606 = .ok (.aload_n 0, 1) := by decide +kernel
theorem dk_111_607 : decode code 607 = .ok (.iload 4, 2) := by decide +kernel
theorem dk_111_609 : decode code 609 = .ok (.iconst (2), 1) := by decide +kernel
theorem dk_111_610 : decode code 610 = .ok (.iadd, 1) := by decide +kernel
theorem dk_111_611 : decode code 611 = .ok (.iaload, 1) := by decide +kernel
theorem dk_111_612 : decode code 612 = .ok (.invokevirtual 104, 3) := by decide +kernel
theorem dk_111_615 : decode code 615 = .ok (.aload_n 2, 1) := by decide +kernel
theorem dk_111_616 : decode code 616 = .ok (.invokevirtual 75, 3) := by decide +kernel
theorem dk_111_619 : decode code 619 = .ok (.iload 5, 2) := by decide +kernel
