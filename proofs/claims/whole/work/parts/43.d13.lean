/-! decode rows of the law -/
theorem d_law_1038 : decode code 1038 = .ok (.iload_n 3, 1) := by decide +kernel
theorem d_law_1039 : decode code 1039 = .ok (.iconst 2, 1) := by decide +kernel
theorem d_law_1040 : decode code 1040 = .ok (.iadd, 1) := by decide +kernel
theorem d_law_1041 : decode code 1041 = .ok (.iaload, 1) := by decide +kernel
theorem d_law_1042 : decode code 1042 = .ok (.aload_n 0, 1) := by decide +kernel
theorem d_law_1043 : decode code 1043 = .ok (.iload_n 3, 1) := by decide +kernel
theorem d_law_1044 : decode code 1044 = .ok (.iconst 3, 1) := by decide +kernel
theorem d_law_1045 : decode code 1045 = .ok (.iadd, 1) := by decide +kernel
theorem d_law_1046 : decode code 1046 = .ok (.iaload, 1) := by decide +kernel
theorem d_law_1047 : decode code 1047 = .ok (.invokevirtual 153, 3) := by decide +kernel
theorem d_law_1050 : decode code 1050 = .ok (.aload_n 2, 1) := by decide +kernel
theorem d_law_1051 : decode code 1051 = .ok (.aload_n 0, 1) := by decide +kernel
theorem d_law_1052 : decode code 1052 = .ok (.iload_n 3, 1) := by decide +kernel
theorem d_law_1053 : decode code 1053 = .ok (.iconst 1, 1) := by decide +kernel
theorem d_law_1054 : decode code 1054 = .ok (.iadd, 1) := by decide +kernel
theorem d_law_1055 : decode code 1055 = .ok (.iaload, 1) := by decide +kernel
theorem d_law_1056 : decode code 1056 = .ok (.aload_n 0, 1) := by decide +kernel
theorem d_law_1057 : decode code 1057 = .ok (.iload_n 3, 1) := by decide +kernel
theorem d_law_1058 : decode code 1058 = .ok (.iconst 2, 1) := by decide +kernel
theorem d_law_1059 : decode code 1059 = .ok (.iadd, 1) := by decide +kernel
theorem d_law_1060 : decode code 1060 = .ok (.iaload, 1) := by decide +kernel
theorem d_law_1061 : decode code 1061 = .ok (.aload_n 0, 1) := by decide +kernel
theorem d_law_1062 : decode code 1062 = .ok (.iload_n 3, 1) := by decide +kernel
theorem d_law_1063 : decode code 1063 = .ok (.iconst 3, 1) := by decide +kernel
theorem d_law_1064 : decode code 1064 = .ok (.iadd, 1) := by decide +kernel
theorem d_law_1065 : decode code 1065 = .ok (.iaload, 1) := by decide +kernel
theorem d_law_1066 : decode code 1066 = .ok (.invokevirtual 156, 3) := by decide +kernel
theorem d_law_1069 : decode code 1069 = .ok (.if_icmp .eq 202, 3) := by decide +kernel
theorem d_law_1072 : decode code 1072 = .ok (.iconst 0, 1) := by decide +kernel
theorem d_law_1073 : decode code 1073 = .ok (.ireturn, 1) := by decide +kernel
theorem d_law_1074 : decode code 1074 = .ok (.aload_n 1, 1) := by decide +kernel
theorem d_law_1075 : decode code 1075 = .ok (.aload_n 0, 1) := by decide +kernel
theorem d_law_1076 : decode code 1076 = .ok (.iload_n 3, 1) := by decide +kernel
theorem d_law_1077 : decode code 1077 = .ok (.iconst 1, 1) := by decide +kernel
theorem d_law_1078 : decode code 1078 = .ok (.iadd, 1) := by decide +kernel
theorem d_law_1079 : decode code 1079 = .ok (.iaload, 1) := by decide +kernel
theorem d_law_1080 : decode code 1080 = .ok (.aload_n 0, 1) := by decide +kernel
theorem d_law_1081 : decode code 1081 = .ok (.iload_n 3, 1) := by decide +kernel
theorem d_law_1082 : decode code 1082 = .ok (.iconst 2, 1) := by decide +kernel
theorem d_law_1083 : decode code 1083 = .ok (.iadd, 1) := by decide +kernel
theorem d_law_1084 : decode code 1084 = .ok (.iaload, 1) := by decide +kernel
theorem d_law_1085 : decode code 1085 = .ok (.aload_n 0, 1) := by decide +kernel
theorem d_law_1086 : decode code 1086 = .ok (.iload_n 3, 1) := by decide +kernel
theorem d_law_1087 : decode code 1087 = .ok (.iconst 3, 1) := by decide +kernel
theorem d_law_1088 : decode code 1088 = .ok (.iadd, 1) := by decide +kernel
theorem d_law_1089 : decode code 1089 = .ok (.iaload, 1) := by decide +kernel
theorem d_law_1090 : decode code 1090 = .ok (.ifCond .eq 7, 3) := by decide +kernel
theorem d_law_1093 : decode code 1093 = .ok (.iconst 1, 1) := by decide +kernel
theorem d_law_1094 : decode code 1094 = .ok (.goto 4, 3) := by decide +kernel
theorem d_law_1097 : decode code 1097 = .ok (.iconst 0, 1) := by decide +kernel
