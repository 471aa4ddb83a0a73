/-! the law: decode rows -/
theorem dk_111_780 : decode code 780 = .ok (.aload_n 3, 1) := by decide +kernel
theorem dk_111_781 : decode code 781 = .ok (.invokestatic 115, 3) := by decide +kernel
theorem dk_111_784 : decode code 784 = .ok (.istore 5, 2) := by decide +kernel
theorem dk_111_786 : decode code 786 = .ok (.aload_n 2, 1) := by decide +kernel
theorem dk_111_787 : decode code 787 = .ok (.aload_n 0, 1) := by decide +kernel
theorem dk_111_788 : decode code 788 = .ok (.iload 4, 2) := by decide +kernel
theorem dk_111_790 : decode code 790 = .ok (.iconst (1), 1) := by decide +kernel
theorem dk_111_791 : decode code 791 = .ok (.iadd, 1) := by decide +kernel
theorem dk_111_792 : decode code 792 = .ok (.iaload, 1) := by decide +kernel
theorem dk_111_793 : decode code 793 = .ok (.invokevirtual 117, 3) := by decide +kernel
theorem dk_111_796 : decode code 796 = .ok (.istore 6, 2) := by decide +kernel
theorem dk_111_798 : decode code 798 = .ok (.aload_n 2, 1) := by decide +kernel
theorem dk_111_799 : decode code 799 = .ok (.invokevirtual 75, 3) := by decide +kernel
theorem dk_111_802 : decode code 802 = .ok (.iload 5, 2) := by decide +kernel
theorem dk_111_804 : decode code 804 = .ok (.if_icmp .eq (5), 3) := by decide +kernel
theorem dk_111_807 : decode code 807 = .ok (.iconst (0), 1) := by decide +kernel
theorem dk_111_808 : decode code 808 = .ok (.ireturn, 1) := by decide +kernel
theorem dk_111_809 : decode code 809 = .ok (.iload 5, 2) := by decide +kernel
theorem dk_111_811 : decode code 811 = .ok (.ifCond .ne (15), 3) := by decide +kernel
theorem dk_111_814 : decode code 814 = .ok (.aload_n 3, 1) := by decide +kernel
theorem dk_111_815 : decode code 815 = .ok (.iconst (0), 1) := by decide +kernel
theorem dk_111_816 : decode code 816 = .ok (.laload, 1) := by decide +kernel
theorem dk_111_817 : decode code 817 = .ok (.iload 6, 2) := by decide +kernel
theorem dk_111_819 : decode code 819 = .ok (.i2l, 1) := by decide +kernel
theorem dk_111_820 : decode code 820 = .ok (.lcmp, 1) := by decide +kernel
theorem dk_111_821 : decode code 821 = .ok (.ifCond .eq (5), 3) := by decide +kernel
theorem dk_111_824 : decode code 824 = .ok (.iconst (0), 1) := by decide +kernel
theorem dk_111_825 : decode code 825 = .ok (.ireturn, 1) := by decide +kernel
theorem dk_111_826 : decode code 826 = .ok (.goto (291), 3) := by decide +kernel
theorem dk_111_829 : decode code 829 = .ok (.aload_n 1, 1) := by decide +kernel
theorem dk_111_830 : decode code 830 = .ok (.aload_n 0, 1) := by decide +kernel
theorem dk_111_831 : decode code 831 = .ok (.iload 4, 2) := by decide +kernel
theorem dk_111_833 : decode code 833 = .ok (.iconst (1), 1) := by decide +kernel
theorem dk_111_834 : decode code 834 = .ok (.iadd, 1) := by decide +kernel
theorem dk_111_835 : decode code 835 = .ok (.iaload, 1) := by decide +kernel
theorem dk_111_836 : decode code 836 = .ok (.aload_n 3, 1) := by decide +kernel
theorem dk_111_837 : decode code 837 = .ok (.invokestatic 118, 3) := by decide +kernel
theorem dk_111_840 : decode code 840 = .ok (.istore 5, 2) := by decide +kernel
theorem dk_111_842 : decode code 842 = .ok (.aload_n 2, 1) := by decide +kernel
theorem dk_111_843 : decode code 843 = .ok (.aload_n 0, 1) := by decide +kernel
theorem dk_111_844 : decode code 844 = .ok (.iload 4, 2) := by decide +kernel
theorem dk_111_846 : decode code 846 = .ok (.iconst (1), 1) := by decide +kernel
theorem dk_111_847 : decode code 847 = .ok (.iadd, 1) := by decide +kernel
theorem dk_111_848 : decode code 848 = .ok (.iaload, 1) := by decide +kernel
theorem dk_111_849 : decode code 849 = .ok (.invokevirtual 120, 3) := by decide +kernel
theorem dk_111_852 : decode code 852 = .ok (.istore 6, 2) := by decide +kernel
theorem dk_111_854 : decode code 854 = .ok (.aload_n 2, 1) := by decide +kernel
theorem dk_111_855 : decode code 855 = .ok (.invokevirtual 75, 3) := by decide +kernel
theorem dk_111_858 : decode code 858 = .ok (.iload 5, 2) := by decide +kernel
theorem dk_111_860 : decode code 860 = .ok (.if_icmp .eq (5), 3) := by decide +kernel
