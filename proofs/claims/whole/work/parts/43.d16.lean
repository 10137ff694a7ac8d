/-! decode rows of the law -/
theorem d_law_1234 : decode code 1234 = .ok (.aload_n 2, 1) := by decide +kernel
theorem d_law_1235 : decode code 1235 = .ok (.aload_n 0, 1) := by decide +kernel
theorem d_law_1236 : decode code 1236 = .ok (.iload_n 3, 1) := by decide +kernel
theorem d_law_1237 : decode code 1237 = .ok (.iconst 1, 1) := by decide +kernel
theorem d_law_1238 : decode code 1238 = .ok (.iadd, 1) := by decide +kernel
theorem d_law_1239 : decode code 1239 = .ok (.iaload, 1) := by decide +kernel
theorem d_law_1240 : decode code 1240 = .ok (.invokevirtual 181, 3) := by decide +kernel
theorem d_law_1243 : decode code 1243 = .ok (.if_icmp .eq 28, 3) := by decide +kernel
theorem d_law_1246 : decode code 1246 = .ok (.iconst 0, 1) := by decide +kernel
theorem d_law_1247 : decode code 1247 = .ok (.ireturn, 1) := by decide +kernel
theorem d_law_1248 : decode code 1248 = .ok (.aload_n 1, 1) := by decide +kernel
theorem d_law_1249 : decode code 1249 = .ok (.aload_n 0, 1) := by decide +kernel
theorem d_law_1250 : decode code 1250 = .ok (.iload_n 3, 1) := by decide +kernel
theorem d_law_1251 : decode code 1251 = .ok (.iconst 1, 1) := by decide +kernel
theorem d_law_1252 : decode code 1252 = .ok (.iadd, 1) := by decide +kernel
theorem d_law_1253 : decode code 1253 = .ok (.iaload, 1) := by decide +kernel
theorem d_law_1254 : decode code 1254 = .ok (.invokevirtual 182, 3) := by decide +kernel
theorem d_law_1257 : decode code 1257 = .ok (.aload_n 2, 1) := by decide +kernel
theorem d_law_1258 : decode code 1258 = .ok (.aload_n 0, 1) := by decide +kernel
theorem d_law_1259 : decode code 1259 = .ok (.iload_n 3, 1) := by decide +kernel
theorem d_law_1260 : decode code 1260 = .ok (.iconst 1, 1) := by decide +kernel
theorem d_law_1261 : decode code 1261 = .ok (.iadd, 1) := by decide +kernel
theorem d_law_1262 : decode code 1262 = .ok (.iaload, 1) := by decide +kernel
theorem d_law_1263 : decode code 1263 = .ok (.invokevirtual 185, 3) := by decide +kernel
theorem d_law_1266 : decode code 1266 = .ok (.if_icmp .eq 5, 3) := by decide +kernel
theorem d_law_1269 : decode code 1269 = .ok (.iconst 0, 1) := by decide +kernel
theorem d_law_1270 : decode code 1270 = .ok (.ireturn, 1) := by decide +kernel
theorem d_law_1271 : decode code 1271 = .ok (.iinc 3 6, 3) := by decide +kernel
theorem d_law_1274 : decode code 1274 = .ok (.goto (-1256), 3) := by decide +kernel
theorem d_law_1277 : decode code 1277 = .ok (.iconst 1, 1) := by decide +kernel
theorem d_law_1278 : decode code 1278 = .ok (.ireturn, 1) := by decide +kernel
