/-! decode rows of the law -/
theorem d_law_1166 : decode code 1166 = .ok (.aload_n 0, 1) := by decide +kernel
theorem d_law_1167 : decode code 1167 = .ok (.iload_n 3, 1) := by decide +kernel
theorem d_law_1168 : decode code 1168 = .ok (.iconst 2, 1) := by decide +kernel
theorem d_law_1169 : decode code 1169 = .ok (.iadd, 1) := by decide +kernel
theorem d_law_1170 : decode code 1170 = .ok (.iaload, 1) := by decide +kernel
theorem d_law_1171 : decode code 1171 = .ok (.invokevirtual 169, 3) := by decide +kernel
theorem d_law_1174 : decode code 1174 = .ok (.if_icmp .eq 97, 3) := by decide +kernel
theorem d_law_1177 : decode code 1177 = .ok (.iconst 0, 1) := by decide +kernel
theorem d_law_1178 : decode code 1178 = .ok (.ireturn, 1) := by decide +kernel
theorem d_law_1179 : decode code 1179 = .ok (.aload_n 1, 1) := by decide +kernel
theorem d_law_1180 : decode code 1180 = .ok (.aload_n 0, 1) := by decide +kernel
theorem d_law_1181 : decode code 1181 = .ok (.iload_n 3, 1) := by decide +kernel
theorem d_law_1182 : decode code 1182 = .ok (.iconst 1, 1) := by decide +kernel
theorem d_law_1183 : decode code 1183 = .ok (.iadd, 1) := by decide +kernel
theorem d_law_1184 : decode code 1184 = .ok (.iaload, 1) := by decide +kernel
theorem d_law_1185 : decode code 1185 = .ok (.invokevirtual 170, 3) := by decide +kernel
theorem d_law_1188 : decode code 1188 = .ok (.aload_n 2, 1) := by decide +kernel
theorem d_law_1189 : decode code 1189 = .ok (.aload_n 0, 1) := by decide +kernel
theorem d_law_1190 : decode code 1190 = .ok (.iload_n 3, 1) := by decide +kernel
theorem d_law_1191 : decode code 1191 = .ok (.iconst 1, 1) := by decide +kernel
theorem d_law_1192 : decode code 1192 = .ok (.iadd, 1) := by decide +kernel
theorem d_law_1193 : decode code 1193 = .ok (.iaload, 1) := by decide +kernel
theorem d_law_1194 : decode code 1194 = .ok (.invokevirtual 173, 3) := by decide +kernel
theorem d_law_1197 : decode code 1197 = .ok (.if_icmp .eq 74, 3) := by decide +kernel
theorem d_law_1200 : decode code 1200 = .ok (.iconst 0, 1) := by decide +kernel
theorem d_law_1201 : decode code 1201 = .ok (.ireturn, 1) := by decide +kernel
theorem d_law_1202 : decode code 1202 = .ok (.aload_n 1, 1) := by decide +kernel
theorem d_law_1203 : decode code 1203 = .ok (.aload_n 0, 1) := by decide +kernel
theorem d_law_1204 : decode code 1204 = .ok (.iload_n 3, 1) := by decide +kernel
theorem d_law_1205 : decode code 1205 = .ok (.iconst 1, 1) := by decide +kernel
theorem d_law_1206 : decode code 1206 = .ok (.iadd, 1) := by decide +kernel
theorem d_law_1207 : decode code 1207 = .ok (.iaload, 1) := by decide +kernel
theorem d_law_1208 : decode code 1208 = .ok (.invokevirtual 174, 3) := by decide +kernel
theorem d_law_1211 : decode code 1211 = .ok (.aload_n 2, 1) := by decide +kernel
theorem d_law_1212 : decode code 1212 = .ok (.aload_n 0, 1) := by decide +kernel
theorem d_law_1213 : decode code 1213 = .ok (.iload_n 3, 1) := by decide +kernel
theorem d_law_1214 : decode code 1214 = .ok (.iconst 1, 1) := by decide +kernel
theorem d_law_1215 : decode code 1215 = .ok (.iadd, 1) := by decide +kernel
theorem d_law_1216 : decode code 1216 = .ok (.iaload, 1) := by decide +kernel
theorem d_law_1217 : decode code 1217 = .ok (.invokevirtual 177, 3) := by decide +kernel
theorem d_law_1220 : decode code 1220 = .ok (.if_icmp .eq 51, 3) := by decide +kernel
theorem d_law_1223 : decode code 1223 = .ok (.iconst 0, 1) := by decide +kernel
theorem d_law_1224 : decode code 1224 = .ok (.ireturn, 1) := by decide +kernel
theorem d_law_1225 : decode code 1225 = .ok (.aload_n 1, 1) := by decide +kernel
theorem d_law_1226 : decode code 1226 = .ok (.aload_n 0, 1) := by decide +kernel
theorem d_law_1227 : decode code 1227 = .ok (.iload_n 3, 1) := by decide +kernel
theorem d_law_1228 : decode code 1228 = .ok (.iconst 1, 1) := by decide +kernel
theorem d_law_1229 : decode code 1229 = .ok (.iadd, 1) := by decide +kernel
theorem d_law_1230 : decode code 1230 = .ok (.iaload, 1) := by decide +kernel
theorem d_law_1231 : decode code 1231 = .ok (.invokevirtual 178, 3) := by decide +kernel
