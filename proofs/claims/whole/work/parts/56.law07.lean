/-! the law: decode rows -/
theorem dk_111_621 : decode code 621 = .ok (.if_icmp .eq (5), 3) := by decide +kernel
theorem dk_111_624 : decode code 624 = .ok (.iconst (0), 1) := by decide +kernel
theorem dk_111_625 : decode code 625 = .ok (.ireturn, 1) := by decide +kernel
theorem dk_111_626 : decode code 626 = .ok (.goto (491), 3) := by decide +kernel
theorem dk_111_629 : decode code 629 = .ok (.aload_n 1, 1) := by decide +kernel
theorem dk_111_630 : decode code 630 = .ok (.aload_n 0, 1) := by decide +kernel
theorem dk_111_631 : decode code 631 = .ok (.iload 4, 2) := by decide +kernel
theorem dk_111_633 : decode code 633 = .ok (.iconst (1), 1) := by decide +kernel
theorem dk_111_634 : decode code 634 = .ok (.iadd, 1) := by decide +kernel
theorem dk_111_635 : decode code 635 = .ok (.iaload, 1) := by decide +kernel
theorem dk_111_636 : decode code 636 = .ok (.aload_n 3, 1) := by decide +kernel
theorem dk_111_637 : decode code 637 = .ok (.invokestatic 105, 3) := by decide +kernel
theorem dk_111_640 : decode code 640 = .ok (.istore 5, 2) := by decide +kernel
theorem dk_111_642 : decode code 642 = .ok (.aload_n 2, 1) := by decide +kernel
theorem dk_111_643 : decode code 643 = .ok (.aload_n 0, 1) := by decide +kernel
theorem dk_111_644 : decode code 644 = .ok (.iload 4, 2) := by decide +kernel
theorem dk_111_646 : decode code 646 = .ok (.iconst (1), 1) := by decide +kernel
theorem dk_111_647 : decode code 647 = .ok (.iadd, 1) := by decide +kernel
theorem dk_111_648 : decode code 648 = .ok (.iaload, 1) := by decide +kernel
theorem dk_111_649 : decode code 649 = .ok (.invokevirtual 107, 3) := by decide +kernel
theorem dk_111_652 : decode code 652 = .ok (.istore 6, 2) := by decide +kernel
theorem dk_111_654 : decode code 654 = .ok (.aload_n 2, 1) := by decide +kernel
theorem dk_111_655 : decode code 655 = .ok (.invokevirtual 75, 3) := by decide +kernel
theorem dk_111_658 : decode code 658 = .ok (.iload 5, 2) := by decide +kernel
theorem dk_111_660 : decode code 660 = .ok (.if_icmp .eq (5), 3) := by decide +kernel
theorem dk_111_663 : decode code 663 = .ok (.iconst (0), 1) := by decide +kernel
theorem dk_111_664 : decode code 664 = .ok (.ireturn, 1) := by decide +kernel
theorem dk_111_665 : decode code 665 = .ok (.iload 5, 2) := by decide +kernel
theorem dk_111_667 : decode code 667 = .ok (.ifCond .ne (22), 3) := by decide +kernel
theorem dk_111_670 : decode code 670 = .ok (.aload_n 3, 1) := by decide +kernel
theorem dk_111_671 : decode code 671 = .ok (.iconst (0), 1) := by decide +kernel
theorem dk_111_672 : decode code 672 = .ok (.laload, 1) := by decide +kernel
theorem dk_111_673 : decode code 673 = .ok (.iload 6, 2) := by decide +kernel
theorem dk_111_675 : decode code 675 = .ok (.ifCond .eq (7), 3) := by decide +kernel
theorem dk_111_678 : decode code 678 = .ok (.lconst 1, 1) := by decide +kernel
theorem dk_111_679 : decode code 679 = .ok (.goto (4), 3) := by decide +kernel
theorem dk_111_682 : decode code 682 = .ok (.lconst 0, 1) := by decide +kernel
theorem dk_111_683 : decode code 683 = .ok (.lcmp, 1) := by decide +kernel
theorem dk_111_684 : decode code 684 = .ok (.ifCond .eq (5), 3) := by decide +kernel
theorem dk_111_687 : decode code 687 = .ok (.iconst (0), 1) := by decide +kernel
theorem dk_111_688 : decode code 688 = .ok (.ireturn, 1) := by decide +kernel
theorem dk_111_689 : decode code 689 = .ok (.goto (428), 3) := by decide +kernel
theorem dk_111_692 : decode code 692 = .ok (.aload_n 1, 1) := by decide +kernel
theorem dk_111_693 : decode code 693 = .ok (.invokevirtual 108, 3) := by decide +kernel
theorem dk_111_696 : decode code 696 = .ok (.aload_n 2, 1) := by decide +kernel
theorem dk_111_697 : decode code 697 = .ok (.invokevirtual 111, 3) := by decide +kernel
theorem dk_111_700 : decode code 700 = .ok (.if_icmp .eq (417), 3) := by decide +kernel
theorem dk_111_703 : decode code 703 = .ok (.iconst (0), 1) := by decide +kernel
theorem dk_111_704 : decode code 704 = .ok (.ireturn, 1) := by decide +kernel
theorem dk_111_705 : decode code 705 = .ok (.aload_n 1, 1) := by decide +kernel
