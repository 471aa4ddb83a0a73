/-! the law: decode rows -/
theorem dk_111_706 : decode code 706 = .ok (.aload_n 0, 1) := by decide +kernel
theorem dk_111_707 : decode code 707 = .ok (.iload 4, 2) := by decide +kernel
theorem dk_111_709 : decode code 709 = .ok (.iconst (1), 1) := by decide +kernel
theorem dk_111_710 : decode code 710 = .ok (.iadd, 1) := by decide +kernel
theorem dk_111_711 : decode code 711 = .ok (.iaload, 1) := by decide +kernel
theorem dk_111_712 : decode code 712 = .ok (.aload_n 0, 1) := by decide +kernel
theorem dk_111_713 : decode code 713 = .ok (.iload 4, 2) := by decide +kernel
theorem dk_111_715 : decode code 715 = .ok (.iconst (2), 1) := by decide +kernel
theorem dk_111_716 : decode code 716 = .ok (.iadd, 1) := by decide +kernel
theorem dk_111_717 : decode code 717 = .ok (.iaload, 1) := by decide +kernel
theorem dk_111_718 : decode code 718 = .ok (.aload_n 3, 1) := by decide +kernel
theorem dk_111_719 : decode code 719 = .ok (.invokestatic 112, 3) := by decide +kernel
theorem dk_111_722 : decode code 722 = .ok (.istore 5, 2) := by decide +kernel
theorem dk_111_724 : decode code 724 = .ok (.aload_n 2, 1) := by decide +kernel
theorem dk_111_725 : decode code 725 = .ok (.aload_n 0, 1) := by decide +kernel
theorem dk_111_726 : decode code 726 = .ok (.iload 4, 2) := by decide +kernel
theorem dk_111_728 : decode code 728 = .ok (.iconst (1), 1) := by decide +kernel
theorem dk_111_729 : decode code 729 = .ok (.iadd, 1) := by decide +kernel
theorem dk_111_730 : decode code 730 = .ok (.iaload, 1) := by decide +kernel
theorem dk_111_731 : decode code 731 = .ok (.aload_n 0, 1) := by decide +kernel
theorem dk_111_732 : decode code 732 = .ok (.iload 4, 2) := by decide +kernel
theorem dk_111_734 : decode code 734 = .ok (.iconst (2), 1) := by decide +kernel
theorem dk_111_735 : decode code 735 = .ok (.iadd, 1) := by decide +kernel
theorem dk_111_736 : decode code 736 = .ok (.iaload, 1) := by decide +kernel
theorem dk_111_737 : decode code 737 = .ok (.invokevirtual 114, 3) := by decide +kernel
theorem dk_111_740 : decode code 740 = .ok (.istore 6, 2) := by decide +kernel
theorem dk_111_742 : decode code 742 = .ok (.aload_n 2, 1) := by decide +kernel
theorem dk_111_743 : decode code 743 = .ok (.invokevirtual 75, 3) := by decide +kernel
theorem dk_111_746 : decode code 746 = .ok (.iload 5, 2) := by decide +kernel
theorem dk_111_748 : decode code 748 = .ok (.if_icmp .eq (5), 3) := by decide +kernel
theorem dk_111_751 : decode code 751 = .ok (.iconst (0), 1) := by decide +kernel
theorem dk_111_752 : decode code 752 = .ok (.ireturn, 1) := by decide +kernel
theorem dk_111_753 : decode code 753 = .ok (.iload 5, 2) := by decide +kernel
theorem dk_111_755 : decode code 755 = .ok (.ifCond .ne (15), 3) := by decide +kernel
theorem dk_111_758 : decode code 758 = .ok (.aload_n 3, 1) := by decide +kernel
theorem dk_111_759 : decode code 759 = .ok (.iconst (0), 1) := by decide +kernel
theorem dk_111_760 : decode code 760 = .ok (.laload, 1) := by decide +kernel
theorem dk_111_761 : decode code 761 = .ok (.iload 6, 2) := by decide +kernel
theorem dk_111_763 : decode code 763 = .ok (.i2l, 1) := by decide +kernel
theorem dk_111_764 : decode code 764 = .ok (.lcmp, 1) := by decide +kernel
theorem dk_111_765 : decode code 765 = .ok (.ifCond .eq (5), 3) := by decide +kernel
theorem dk_111_768 : decode code 768 = .ok (.iconst (0), 1) := by decide +kernel
theorem dk_111_769 : decode code 769 = .ok (.ireturn, 1) := by decide +kernel
theorem dk_111_770 : decode code 770 = .ok (.goto (347), 3) := by decide +kernel
theorem dk_111_773 : decode code 773 = .ok (.aload_n 1, 1) := by decide +kernel
theorem dk_111_774 : decode code 774 = .ok (.aload_n 0, 1) := by decide +kernel
theorem dk_111_775 : decode code 775 = .ok (.iload 4, 2) := by decide +kernel
theorem dk_111_777 : decode code 777 = .ok (.iconst (1), 1) := by decide +kernel
theorem dk_111_778 : decode code 778 = .ok (.iadd, 1) := by decide +kernel
theorem dk_111_779 : decode code 779 = .ok (.iaload, 1) := by decide +kernel
