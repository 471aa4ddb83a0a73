/-! the law: decode rows -/
theorem dk_111_0 : decode code 0 = .ok (.new 8, 3) := by decide +kernel
theorem dk_111_3 : decode code 3 = .ok (.dup, 1) := by decide +kernel
theorem dk_111_4 : decode code 4 = .ok (.invokespecial 65, 3) := by decide +kernel
theorem dk_111_7 : decode code 7 = .ok (.astore_n 1, 1) := by decide +kernel
theorem dk_111_8 : decode code 8 = .ok (.new 66, 3) := by decide +kernel
theorem dk_111_11 : decode code 11 = .ok (.dup, 1) := by decide +kernel
theorem dk_111_12 : decode code 12 = .ok (.invokespecial 68, 3) := by decide +kernel
theorem dk_111_15 : decode code 15 = .ok (.astore_n 2, 1) := by decide +kernel
theorem dk_111_16 : decode code 16 = .ok (.iconst (1), 1) := by decide +kernel
theorem dk_111_17 : decode code 17 = .ok (.newarray .long, 2) := by decide +kernel
theorem dk_111_19 : decode code 19 = .ok (.astore_n 3, 1) := by decide +kernel
theorem dk_111_20 : decode code 20 = .ok (.iconst (0), 1) := by decide +kernel
theorem dk_111_21 : decode code 21 = .ok (.istore 4, 2) := by decide +kernel
theorem dk_111_23 : decode code 23 = .ok (.iload 4, 2) := by decide +kernel
theorem dk_111_25 : decode code 25 = .ok (.aload_n 0, 1) := by decide +kernel
theorem dk_111_26 : decode code 26 = .ok (.arraylength, 1) := by decide +kernel
theorem dk_111_27 : decode code 27 = .ok (.bipush (6), 2) := by decide +kernel
theorem dk_111_29 : decode code 29 = .ok (.isub, 1) := by decide +kernel
theorem dk_111_30 : decode code 30 = .ok (.if_icmp .gt (1093), 3) := by decide +kernel
theorem dk_111_33 : decode code 33 = .ok (.aload_n 0, 1) := by decide +kernel
theorem dk_111_34 : decode code 34 = .ok (.iload 4, 2) := by decide +kernel
theorem dk_111_36 : decode code 36 = .ok (.iaload, 1) := by decide +kernel
theorem dk_111_37 : decode code 37 = .ok (.bipush (31), 2) := by decide +kernel
theorem dk_111_39 : decode code 39 = .ok (.iand, 1) := by decide +kernel
theorem dk_111_40 : decode code 40 = .ok (.tableswitch (1077) (0) (19) #[(96), (176), (280), (336), (404), (460), (528), (541), (589), (652), (665), (733), (789), (845), (901), (914), (927), (940), (996), (1009)], 96) := by decide +kernel
theorem dk_111_136 : decode code 136 = .ok (.aload_n 1, 1) := by decide +kernel
theorem dk_111_137 : decode code 137 = .ok (.aload_n 0, 1) := by decide +kernel
theorem dk_111_138 : decode code 138 = .ok (.iload 4, 2) := by decide +kernel
theorem dk_111_140 : decode code 140 = .ok (.iconst (1), 1) := by decide +kernel
theorem dk_111_141 : decode code 141 = .ok (.iadd, 1) := by decide +kernel
theorem dk_111_142 : decode code 142 = .ok (.iaload, 1) := by decide +kernel
theorem dk_111_143 : decode code 143 = .ok (.aload_n 0, 1) := by decide +kernel
theorem dk_111_144 : decode code 144 = .ok (.iload 4, 2) := by decide +kernel
theorem dk_111_146 : decode code 146 = .ok (.iconst (2), 1) := by decide +kernel
theorem dk_111_147 : decode code 147 = .ok (.iadd, 1) := by decide +kernel
theorem dk_111_148 : decode code 148 = .ok (.iaload, 1) := by decide +kernel
theorem dk_111_149 : decode code 149 = .ok (.aload_n 0, 1) := by decide +kernel
theorem dk_111_150 : decode code 150 = .ok (.iload 4, 2) := by decide +kernel
theorem dk_111_152 : decode code 152 = .ok (.iconst (3), 1) := by decide +kernel
theorem dk_111_153 : decode code 153 = .ok (.iadd, 1) := by decide +kernel
theorem dk_111_154 : decode code 154 = .ok (.iaload, 1) := by decide +kernel
theorem dk_111_155 : decode code 155 = .ok (.aload_n 3, 1) := by decide +kernel
theorem dk_111_156 : decode code 156 = .ok (.invokestatic 69, 3) := by decide +kernel
theorem dk_111_159 : decode code 159 = .ok (.istore 5, 2) := by decide +kernel
theorem dk_111_161 : decode code 161 = .ok (.aload_n 2, 1) := by decide +kernel
theorem dk_111_162 : decode code 162 = .ok (.aload_n 0, 1) := by decide +kernel
theorem dk_111_163 : decode code 163 = .ok (.iload 4, 2) := by decide +kernel
theorem dk_111_165 : decode code 165 = .ok (.iconst (1), 1) := by decide +kernel
theorem dk_111_166 : decode code 166 = .ok (.iadd, 1) := by decide +kernel
theorem dk_111_167 : decode code 167 = .ok (.iaload, 1) := by decide +kernel
