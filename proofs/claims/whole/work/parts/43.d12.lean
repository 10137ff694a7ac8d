/-! decode rows of the law -/
theorem d_law_978 : decode code 978 = .ok (.iadd, 1) := by decide +kernel
theorem d_law_979 : decode code 979 = .ok (.iaload, 1) := by decide +kernel
theorem d_law_980 : decode code 980 = .ok (.aload_n 0, 1) := by decide +kernel
theorem d_law_981 : decode code 981 = .ok (.iload_n 3, 1) := by decide +kernel
theorem d_law_982 : decode code 982 = .ok (.iconst 2, 1) := by decide +kernel
theorem d_law_983 : decode code 983 = .ok (.iadd, 1) := by decide +kernel
theorem d_law_984 : decode code 984 = .ok (.iaload, 1) := by decide +kernel
theorem d_law_985 : decode code 985 = .ok (.aload_n 0, 1) := by decide +kernel
theorem d_law_986 : decode code 986 = .ok (.iload_n 3, 1) := by decide +kernel
theorem d_law_987 : decode code 987 = .ok (.iconst 3, 1) := by decide +kernel
theorem d_law_988 : decode code 988 = .ok (.iadd, 1) := by decide +kernel
theorem d_law_989 : decode code 989 = .ok (.iaload, 1) := by decide +kernel
theorem d_law_990 : decode code 990 = .ok (.invokevirtual 148, 3) := by decide +kernel
theorem d_law_993 : decode code 993 = .ok (.if_icmp .eq 278, 3) := by decide +kernel
theorem d_law_996 : decode code 996 = .ok (.iconst 0, 1) := by decide +kernel
theorem d_law_997 : decode code 997 = .ok (.ireturn, 1) := by decide +kernel
theorem d_law_998 : decode code 998 = .ok (.aload_n 1, 1) := by decide +kernel
theorem d_law_999 : decode code 999 = .ok (.aload_n 0, 1) := by decide +kernel
theorem d_law_1000 : decode code 1000 = .ok (.iload_n 3, 1) := by decide +kernel
theorem d_law_1001 : decode code 1001 = .ok (.iconst 1, 1) := by decide +kernel
theorem d_law_1002 : decode code 1002 = .ok (.iadd, 1) := by decide +kernel
theorem d_law_1003 : decode code 1003 = .ok (.iaload, 1) := by decide +kernel
theorem d_law_1004 : decode code 1004 = .ok (.aload_n 0, 1) := by decide +kernel
theorem d_law_1005 : decode code 1005 = .ok (.iload_n 3, 1) := by decide +kernel
theorem d_law_1006 : decode code 1006 = .ok (.iconst 2, 1) := by decide +kernel
theorem d_law_1007 : decode code 1007 = .ok (.iadd, 1) := by decide +kernel
theorem d_law_1008 : decode code 1008 = .ok (.iaload, 1) := by decide +kernel
theorem d_law_1009 : decode code 1009 = .ok (.invokevirtual 149, 3) := by decide +kernel
theorem d_law_1012 : decode code 1012 = .ok (.aload_n 2, 1) := by decide +kernel
theorem d_law_1013 : decode code 1013 = .ok (.aload_n 0, 1) := by decide +kernel
theorem d_law_1014 : decode code 1014 = .ok (.iload_n 3, 1) := by decide +kernel
theorem d_law_1015 : decode code 1015 = .ok (.iconst 1, 1) := by decide +kernel
theorem d_law_1016 : decode code 1016 = .ok (.iadd, 1) := by decide +kernel
theorem d_law_1017 : decode code 1017 = .ok (.iaload, 1) := by decide +kernel
theorem d_law_1018 : decode code 1018 = .ok (.aload_n 0, 1) := by decide +kernel
theorem d_law_1019 : decode code 1019 = .ok (.iload_n 3, 1) := by decide +kernel
theorem d_law_1020 : decode code 1020 = .ok (.iconst 2, 1) := by decide +kernel
theorem d_law_1021 : decode code 1021 = .ok (.iadd, 1) := by decide +kernel
theorem d_law_1022 : decode code 1022 = .ok (.iaload, 1) := by decide +kernel
theorem d_law_1023 : decode code 1023 = .ok (.invokevirtual 152, 3) := by decide +kernel
theorem d_law_1026 : decode code 1026 = .ok (.if_icmp .eq 245, 3) := by decide +kernel
theorem d_law_1029 : decode code 1029 = .ok (.iconst 0, 1) := by decide +kernel
theorem d_law_1030 : decode code 1030 = .ok (.ireturn, 1) := by decide +kernel
theorem d_law_1031 : decode code 1031 = .ok (.aload_n 1, 1) := by decide +kernel
theorem d_law_1032 : decode code 1032 = .ok (.aload_n 0, 1) := by decide +kernel
theorem d_law_1033 : decode code 1033 = .ok (.iload_n 3, 1) := by decide +kernel
theorem d_law_1034 : decode code 1034 = .ok (.iconst 1, 1) := by decide +kernel
theorem d_law_1035 : decode code 1035 = .ok (.iadd, 1) := by decide +kernel
theorem d_law_1036 : decode code 1036 = .ok (.iaload, 1) := by decide +kernel
theorem d_law_1037 : decode code 1037 = .ok (.aload_n 0, 1) := by decide +kernel
