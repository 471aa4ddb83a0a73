/-! the law: decode rows -/
theorem dk_111_1105 : decode code 1105 = .ok (.iload 6, 2) := by decide +kernel
theorem dk_111_1107 : decode code 1107 = .ok (.i2l, 1) := by decide +kernel
theorem dk_111_1108 : decode code 1108 = .ok (.lcmp, 1) := by decide +kernel
theorem dk_111_1109 : decode code 1109 = .ok (.ifCond .eq (5), 3) := by decide +kernel
theorem dk_111_1112 : decode code 1112 = .ok (.iconst (0), 1) := by decide +kernel
theorem dk_111_1113 : decode code 1113 = .ok (.ireturn, 1) := by decide +kernel
theorem dk_111_1114 : decode code 1114 = .ok (.goto (3), 3) := by decide +kernel
theorem dk_111_1117 : decode code 1117 = .ok (.iinc 4 (6), 3) := by decide +kernel
theorem dk_111_1120 : decode code 1120 = .ok (.goto (-1097), 3) := by decide +kernel
theorem dk_111_1123 : decode code 1123 = .ok (.iconst (1), 1) := by decide +kernel
theorem dk_111_1124 : decode code 1124 = .ok (.ireturn, 1) := by decide +kernel
