/-! decode rows of the law -/
theorem d_law_0 : decode code 0 = .ok (.new 7, 3) := by decide +kernel
theorem d_law_3 : decode code 3 = .ok (.dup, 1) := by decide +kernel
theorem d_law_4 : decode code 4 = .ok (.invokespecial 9, 3) := by decide +kernel
theorem d_law_7 : decode code 7 = .ok (.astore_n 1, 1) := by decide +kernel
theorem d_law_8 : decode code 8 = .ok (.new 10, 3) := by decide +kernel
theorem d_law_11 : decode code 11 = .ok (.dup, 1) := by decide +kernel
theorem d_law_12 : decode code 12 = .ok (.invokespecial 12, 3) := by decide +kernel
theorem d_law_15 : decode code 15 = .ok (.astore_n 2, 1) := by decide +kernel
theorem d_law_16 : decode code 16 = .ok (.iconst 0, 1) := by decide +kernel
theorem d_law_17 : decode code 17 = .ok (.istore_n 3, 1) := by decide +kernel
theorem d_law_18 : decode code 18 = .ok (.iload_n 3, 1) := by decide +kernel
theorem d_law_19 : decode code 19 = .ok (.aload_n 0, 1) := by decide +kernel
theorem d_law_20 : decode code 20 = .ok (.arraylength, 1) := by decide +kernel
theorem d_law_21 : decode code 21 = .ok (.bipush 6, 2) := by decide +kernel
theorem d_law_23 : decode code 23 = .ok (.isub, 1) := by decide +kernel
theorem d_law_24 : decode code 24 = .ok (.if_icmp .gt 1253, 3) := by decide +kernel
theorem d_law_27 : decode code 27 = .ok (.aload_n 0, 1) := by decide +kernel
theorem d_law_28 : decode code 28 = .ok (.iload_n 3, 1) := by decide +kernel
theorem d_law_29 : decode code 29 = .ok (.iaload, 1) := by decide +kernel
theorem d_law_30 : decode code 30 = .ok (.bipush 63, 2) := by decide +kernel
theorem d_law_32 : decode code 32 = .ok (.iand, 1) := by decide +kernel
theorem d_law_33 : decode code 33 = .ok (.tableswitch 1238 0 40 #[179, 242, 265, 278, 291, 324, 357, 390, 423, 446, 479, 502, 525, 538, 561, 584, 607, 620, 633, 646, 669, 702, 725, 748, 761, 784, 807, 820, 853, 876, 899, 922, 965, 998, 1041, 1100, 1113, 1146, 1169, 1192, 1215], 179) := by decide +kernel
theorem d_law_212 : decode code 212 = .ok (.aload_n 1, 1) := by decide +kernel
theorem d_law_213 : decode code 213 = .ok (.aload_n 0, 1) := by decide +kernel
theorem d_law_214 : decode code 214 = .ok (.iload_n 3, 1) := by decide +kernel
theorem d_law_215 : decode code 215 = .ok (.iconst 1, 1) := by decide +kernel
theorem d_law_216 : decode code 216 = .ok (.iadd, 1) := by decide +kernel
theorem d_law_217 : decode code 217 = .ok (.iaload, 1) := by decide +kernel
theorem d_law_218 : decode code 218 = .ok (.aload_n 0, 1) := by decide +kernel
theorem d_law_219 : decode code 219 = .ok (.iload_n 3, 1) := by decide +kernel
theorem d_law_220 : decode code 220 = .ok (.iconst 2, 1) := by decide +kernel
theorem d_law_221 : decode code 221 = .ok (.iadd, 1) := by decide +kernel
theorem d_law_222 : decode code 222 = .ok (.iaload, 1) := by decide +kernel
theorem d_law_223 : decode code 223 = .ok (.aload_n 0, 1) := by decide +kernel
theorem d_law_224 : decode code 224 = .ok (.iload_n 3, 1) := by decide +kernel
theorem d_law_225 : decode code 225 = .ok (.iconst 3, 1) := by decide +kernel
theorem d_law_226 : decode code 226 = .ok (.iadd, 1) := by decide +kernel
theorem d_law_227 : decode code 227 = .ok (.iaload, 1) := by decide +kernel
theorem d_law_228 : decode code 228 = .ok (.aload_n 0, 1) := by decide +kernel
theorem d_law_229 : decode code 229 = .ok (.iload_n 3, 1) := by decide +kernel
theorem d_law_230 : decode code 230 = .ok (.iconst 4, 1) := by decide +kernel
theorem d_law_231 : decode code 231 = .ok (.iadd, 1) := by decide +kernel
theorem d_law_232 : decode code 232 = .ok (.iaload, 1) := by decide +kernel
theorem d_law_233 : decode code 233 = .ok (.aload_n 0, 1) := by decide +kernel
theorem d_law_234 : decode code 234 = .ok (.iload_n 3, 1) := by decide +kernel
theorem d_law_235 : decode code 235 = .ok (.iconst 5, 1) := by decide +kernel
theorem d_law_236 : decode code 236 = .ok (.iadd, 1) := by decide +kernel
theorem d_law_237 : decode code 237 = .ok (.iaload, 1) := by decide +kernel
theorem d_law_238 : decode code 238 = .ok (.invokevirtual 13, 3) := by decide +kernel
theorem d_law_241 : decode code 241 = .ok (.aload_n 2, 1) := by decide +kernel
