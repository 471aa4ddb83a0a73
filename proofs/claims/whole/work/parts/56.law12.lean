/-! the law: decode rows -/
theorem dk_111_1027 : decode code 1027 = .ok (.lcmp, 1) := by decide +kernel
theorem dk_111_1028 : decode code 1028 = .ok (.ifCond .eq (5), 3) := by decide +kernel
theorem dk_111_1031 : decode code 1031 = .ok (.iconst (0), 1) := by decide +kernel
theorem dk_111_1032 : decode code 1032 = .ok (.ireturn, 1) := by decide +kernel
theorem dk_111_1033 : decode code 1033 = .ok (.goto (84), 3) := by decide +kernel
theorem dk_111_1036 : decode code 1036 = .ok (.aload_n 1, 1) := by decide +kernel
theorem dk_111_1037 : decode code 1037 = .ok (.invokevirtual 139, 3) := by decide +kernel
theorem dk_111_1040 : decode code 1040 = .ok (.aload_n 2, 1) := by decide +kernel
theorem dk_111_1041 : decode code 1041 = .ok (.invokevirtual 142, 3) := by decide +kernel
theorem dk_111_1044 : decode code 1044 = .ok (.if_icmp .eq (73), 3) := by decide +kernel
theorem dk_111_1047 : decode code 1047 = .ok (.iconst (0), 1) := by decide +kernel
theorem dk_111_1048 : decode code 1048 = .ok (.ireturn, 1) := by decide +kernel
theorem dk_111_1049 : decode code 1049 = .ok (.aload_n 1, 1) := by decide +kernel
theorem dk_111_1050 : decode code 1050 = .ok (.aload_n 0, 1) := by decide +kernel
theorem dk_111_1051 : decode code 1051 = .ok (.iload 4, 2) := by decide +kernel
theorem dk_111_1053 : decode code 1053 = .ok (.iconst (1), 1) := by decide +kernel
theorem dk_111_1054 : decode code 1054 = .ok (.iadd, 1) := by decide +kernel
theorem dk_111_1055 : decode code 1055 = .ok (.iaload, 1) := by decide +kernel
theorem dk_111_1056 : decode code 1056 = .ok (.aload_n 0, 1) := by decide +kernel
theorem dk_111_1057 : decode code 1057 = .ok (.iload 4, 2) := by decide +kernel
theorem dk_111_1059 : decode code 1059 = .ok (.iconst (2), 1) := by decide +kernel
theorem dk_111_1060 : decode code 1060 = .ok (.iadd, 1) := by decide +kernel
theorem dk_111_1061 : decode code 1061 = .ok (.iaload, 1) := by decide +kernel
theorem dk_111_1062 : decode code 1062 = .ok (.aload_n 3, 1) := by decide +kernel
theorem dk_111_1063 : decode code 1063 = .ok (.invokestatic 143, 3) := by decide +kernel
theorem dk_111_1066 : decode code 1066 = .ok (.istore 5, 2) := by decide +kernel
theorem dk_111_1068 : decode code 1068 = .ok (.aload_n 2, 1) := by decide +kernel
theorem dk_111_1069 : decode code 1069 = .ok (.aload_n 0, 1) := by decide +kernel
theorem dk_111_1070 : decode code 1070 = .ok (.iload 4, 2) := by decide +kernel
theorem dk_111_1072 : decode code 1072 = .ok (.iconst (1), 1) := by decide +kernel
theorem dk_111_1073 : decode code 1073 = .ok (.iadd, 1) := by decide +kernel
theorem dk_111_1074 : decode code 1074 = .ok (.iaload, 1) := by decide +kernel
theorem dk_111_1075 : decode code 1075 = .ok (.aload_n 0, 1) := by decide +kernel
theorem dk_111_1076 : decode code 1076 = .ok (.iload 4, 2) := by decide +kernel
theorem dk_111_1078 : decode code 1078 = .ok (.iconst (2), 1) := by decide +kernel
theorem dk_111_1079 : decode code 1079 = .ok (.iadd, 1) := by decide +kernel
theorem dk_111_1080 : decode code 1080 = .ok (.iaload, 1) := by decide +kernel
theorem dk_111_1081 : decode code 1081 = .ok (.invokevirtual 145, 3) := by decide +kernel
theorem dk_111_1084 : decode code 1084 = .ok (.istore 6, 2) := by decide +kernel
theorem dk_111_1086 : decode code 1086 = .ok (.aload_n 2, 1) := by decide +kernel
theorem dk_111_1087 : decode code 1087 = .ok (.invokevirtual 75, 3) := by decide +kernel
theorem dk_111_1090 : decode code 1090 = .ok (.iload 5, 2) := by decide +kernel
theorem dk_111_1092 : decode code 1092 = .ok (.if_icmp .eq (5), 3) := by decide +kernel
theorem dk_111_1095 : decode code 1095 = .ok (.iconst (0), 1) := by decide +kernel
theorem dk_111_1096 : decode code 1096 = .ok (.ireturn, 1) := by decide +kernel
theorem dk_111_1097 : decode code 1097 = .ok (.iload 5, 2) := by decide +kernel
theorem dk_111_1099 : decode code 1099 = .ok (.ifCond .ne (15), 3) := by decide +kernel
theorem dk_111_1102 : decode code 1102 = .ok (.aload_n 3, 1) := by decide +kernel
theorem dk_111_1103 : decode code 1103 = .ok (.iconst (0), 1) := by decide +kernel
theorem dk_111_1104 : decode code 1104 = .ok (.laload, 1) := by decide +kernel
