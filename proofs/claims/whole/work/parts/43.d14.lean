/-! decode rows of the law -/
theorem d_law_1098 : decode code 1098 = .ok (.invokevirtual 157, 3) := by decide +kernel
theorem d_law_1101 : decode code 1101 = .ok (.aload_n 2, 1) := by decide +kernel
theorem d_law_1102 : decode code 1102 = .ok (.aload_n 0, 1) := by decide +kernel
theorem d_law_1103 : decode code 1103 = .ok (.iload_n 3, 1) := by decide +kernel
theorem d_law_1104 : decode code 1104 = .ok (.iconst 1, 1) := by decide +kernel
theorem d_law_1105 : decode code 1105 = .ok (.iadd, 1) := by decide +kernel
theorem d_law_1106 : decode code 1106 = .ok (.iaload, 1) := by decide +kernel
theorem d_law_1107 : decode code 1107 = .ok (.aload_n 0, 1) := by decide +kernel
theorem d_law_1108 : decode code 1108 = .ok (.iload_n 3, 1) := by decide +kernel
theorem d_law_1109 : decode code 1109 = .ok (.iconst 2, 1) := by decide +kernel
theorem d_law_1110 : decode code 1110 = .ok (.iadd, 1) := by decide +kernel
theorem d_law_1111 : decode code 1111 = .ok (.iaload, 1) := by decide +kernel
theorem d_law_1112 : decode code 1112 = .ok (.aload_n 0, 1) := by decide +kernel
theorem d_law_1113 : decode code 1113 = .ok (.iload_n 3, 1) := by decide +kernel
theorem d_law_1114 : decode code 1114 = .ok (.iconst 3, 1) := by decide +kernel
theorem d_law_1115 : decode code 1115 = .ok (.iadd, 1) := by decide +kernel
theorem d_law_1116 : decode code 1116 = .ok (.iaload, 1) := by decide +kernel
theorem d_law_1117 : decode code 1117 = .ok (.ifCond .eq 7, 3) := by decide +kernel
theorem d_law_1120 : decode code 1120 = .ok (.iconst 1, 1) := by decide +kernel
theorem d_law_1121 : decode code 1121 = .ok (.goto 4, 3) := by decide +kernel
theorem d_law_1124 : decode code 1124 = .ok (.iconst 0, 1) := by decide +kernel
theorem d_law_1125 : decode code 1125 = .ok (.invokevirtual 161, 3) := by decide +kernel
theorem d_law_1128 : decode code 1128 = .ok (.if_icmp .eq 143, 3) := by decide +kernel
theorem d_law_1131 : decode code 1131 = .ok (.iconst 0, 1) := by decide +kernel
theorem d_law_1132 : decode code 1132 = .ok (.ireturn, 1) := by decide +kernel
theorem d_law_1133 : decode code 1133 = .ok (.aload_n 1, 1) := by decide +kernel
theorem d_law_1134 : decode code 1134 = .ok (.invokevirtual 162, 3) := by decide +kernel
theorem d_law_1137 : decode code 1137 = .ok (.aload_n 2, 1) := by decide +kernel
theorem d_law_1138 : decode code 1138 = .ok (.invokevirtual 165, 3) := by decide +kernel
theorem d_law_1141 : decode code 1141 = .ok (.if_icmp .eq 130, 3) := by decide +kernel
theorem d_law_1144 : decode code 1144 = .ok (.iconst 0, 1) := by decide +kernel
theorem d_law_1145 : decode code 1145 = .ok (.ireturn, 1) := by decide +kernel
theorem d_law_1146 : decode code 1146 = .ok (.aload_n 1, 1) := by decide +kernel
theorem d_law_1147 : decode code 1147 = .ok (.aload_n 0, 1) := by decide +kernel
theorem d_law_1148 : decode code 1148 = .ok (.iload_n 3, 1) := by decide +kernel
theorem d_law_1149 : decode code 1149 = .ok (.iconst 1, 1) := by decide +kernel
theorem d_law_1150 : decode code 1150 = .ok (.iadd, 1) := by decide +kernel
theorem d_law_1151 : decode code 1151 = .ok (.iaload, 1) := by decide +kernel
theorem d_law_1152 : decode code 1152 = .ok (.aload_n 0, 1) := by decide +kernel
theorem d_law_1153 : decode code 1153 = .ok (.iload_n 3, 1) := by decide +kernel
theorem d_law_1154 : decode code 1154 = .ok (.iconst 2, 1) := by decide +kernel
theorem d_law_1155 : decode code 1155 = .ok (.iadd, 1) := by decide +kernel
theorem d_law_1156 : decode code 1156 = .ok (.iaload, 1) := by decide +kernel
theorem d_law_1157 : decode code 1157 = .ok (.invokevirtual 166, 3) := by decide +kernel
theorem d_law_1160 : decode code 1160 = .ok (.aload_n 2, 1) := by decide +kernel
theorem d_law_1161 : decode code 1161 = .ok (.aload_n 0, 1) := by decide +kernel
theorem d_law_1162 : decode code 1162 = .ok (.iload_n 3, 1) := by decide +kernel
theorem d_law_1163 : decode code 1163 = .ok (.iconst 1, 1) := by decide +kernel
theorem d_law_1164 : decode code 1164 = .ok (.iadd, 1) := by decide +kernel
theorem d_law_1165 : decode code 1165 = .ok (.iaload, 1) := by decide +kernel
