/-! the law: decode rows -/
theorem dk_111_942 : decode code 942 = .ok (.invokevirtual 124, 3) := by decide +kernel
theorem dk_111_945 : decode code 945 = .ok (.aload_n 2, 1) := by decide +kernel
theorem dk_111_946 : decode code 946 = .ok (.invokevirtual 127, 3) := by decide +kernel
theorem dk_111_949 : decode code 949 = .ok (.if_icmp .eq (168), 3) := by decide +kernel
theorem dk_111_952 : decode code 952 = .ok (.iconst (0), 1) := by decide +kernel
theorem dk_111_953 : decode code 953 = .ok (.ireturn, 1) := by decide +kernel
theorem dk_111_954 : decode code 954 = .ok (.aload_n 1, 1) := by decide +kernel
theorem dk_111_955 : decode code 955 = .ok (.invokevirtual 128, 3) := by decide +kernel
theorem dk_111_958 : decode code 958 = .ok (.aload_n 2, 1) := by decide +kernel
theorem dk_111_959 : decode code 959 = .ok (.invokevirtual 131, 3) := by decide +kernel
theorem dk_111_962 : decode code 962 = .ok (.if_icmp .eq (155), 3) := by decide +kernel
theorem dk_111_965 : decode code 965 = .ok (.iconst (0), 1) := by decide +kernel
theorem dk_111_966 : decode code 966 = .ok (.ireturn, 1) := by decide +kernel
theorem dk_111_967 : decode code 967 = .ok (.aload_n 1, 1) := by decide +kernel
theorem dk_111_968 : decode code 968 = .ok (.invokevirtual 132, 3) := by decide +kernel
theorem dk_111_971 : decode code 971 = .ok (.aload_n 2, 1) := by decide +kernel
theorem dk_111_972 : decode code 972 = .ok (.invokevirtual 135, 3) := by decide +kernel
theorem dk_111_975 : decode code 975 = .ok (.if_icmp .eq (142), 3) := by decide +kernel
theorem dk_111_978 : decode code 978 = .ok (.iconst (0), 1) := by decide +kernel
theorem dk_111_979 : decode code 979 = .ok (.ireturn, 1) := by decide +kernel
theorem dk_111_980 : decode code 980 = .ok (.aload_n 1, 1) := by decide +kernel
theorem dk_111_981 : decode code 981 = .ok (.aload_n 0, 1) := by decide +kernel
theorem dk_111_982 : decode code 982 = .ok (.iload 4, 2) := by decide +kernel
theorem dk_111_984 : decode code 984 = .ok (.iconst (1), 1) := by decide +kernel
theorem dk_111_985 : decode code 985 = .ok (.iadd, 1) := by decide +kernel
theorem dk_111_986 : decode code 986 = .ok (.iaload, 1) := by decide +kernel
theorem dk_111_987 : decode code 987 = .ok (.aload_n 3, 1) := by decide +kernel
theorem dk_111_988 : decode code 988 = .ok (.invokestatic 136, 3) := by decide +kernel
theorem dk_111_991 : decode code 991 = .ok (.istore 5, 2) := by decide +kernel
theorem dk_111_993 : decode code 993 = .ok (.aload_n 2, 1) := by decide +kernel
theorem dk_111_994 : decode code 994 = .ok (.aload_n 0, 1) := by decide +kernel
theorem dk_111_995 : decode code 995 = .ok (.iload 4, 2) := by decide +kernel
theorem dk_111_997 : decode code 997 = .ok (.iconst (1), 1) := by decide +kernel
theorem dk_111_998 : decode code 998 = .ok (.iadd, 1) := by decide +kernel
theorem dk_111_999 : decode code 999 = .ok (.iaload, 1) := by decide +kernel
theorem dk_111_1000 : decode code 1000 = .ok (.invokevirtual 138, 3) := by decide +kernel
theorem dk_111_1003 : decode code 1003 = .ok (.istore 6, 2) := by decide +kernel
theorem dk_111_1005 : decode code 1005 = .ok (.aload_n 2, 1) := by decide +kernel
theorem dk_111_1006 : decode code 1006 = .ok (.invokevirtual 75, 3) := by decide +kernel
theorem dk_111_1009 : decode code 1009 = .ok (.iload 5, 2) := by decide +kernel
theorem dk_111_1011 : decode code 1011 = .ok (.if_icmp .eq (5), 3) := by decide +kernel
theorem dk_111_1014 : decode code 1014 = .ok (.iconst (0), 1) := by decide +kernel
theorem dk_111_1015 : decode code 1015 = .ok (.ireturn, 1) := by decide +kernel
theorem dk_111_1016 : decode code 1016 = .ok (.iload 5, 2) := by decide +kernel
theorem dk_111_1018 : decode code 1018 = .ok (.ifCond .ne (15), 3) := by decide +kernel
theorem dk_111_1021 : decode code 1021 = .ok (.aload_n 3, 1) := by decide +kernel
theorem dk_111_1022 : decode code 1022 = .ok (.iconst (0), 1) := by decide +kernel
theorem dk_111_1023 : decode code 1023 = .ok (.laload, 1) := by decide +kernel
theorem dk_111_1024 : decode code 1024 = .ok (.iload 6, 2) := by decide +kernel
theorem dk_111_1026 : decode code 1026 = .ok (.i2l, 1) := by decide +kernel
