/-! the reference, part 6: written by wip/whole/emit.py out of the bytecode -/
def y_M_restore : MethodName := ⟨"CoatHangersModel", "restore", "(I)Z"⟩
theorem qm_M_restore : qMt y_M_restore prog_14_method_113_code 3 (some .boolean) 1 := ⟨qT_8 (i := 195) (by decide +kernel) rfl, qT_1 (i := 17) (by decide +kernel) rfl, by decide, by decide, by decide +kernel⟩
theorem wi_M_restore : Cond.instanceMethod y_M_restore ∈ qT := qT_8 (i := 193) (by decide +kernel) rfl
theorem wl_M_restore : Cond.selects y_M_restore.cls y_M_restore y_M_restore ∈ qT := qT_8 (i := 194) (by decide +kernel) rfl
def y_M_sumNow : MethodName := ⟨"CoatHangersModel", "sumNow", "(II)I"⟩
theorem qm_M_sumNow : qMt y_M_sumNow prog_14_method_114_code 5 (some .int) 2 := ⟨qT_8 (i := 203) (by decide +kernel) rfl, qT_1 (i := 17) (by decide +kernel) rfl, by decide, by decide, by decide +kernel⟩
theorem wi_M_sumNow : Cond.instanceMethod y_M_sumNow ∈ qT := qT_8 (i := 202) (by decide +kernel) rfl
theorem wl_M_sumNow : Cond.selects y_M_sumNow.cls y_M_sumNow y_M_sumNow ∈ qT := qT_s (i := 114) (by decide +kernel) rfl
def y_M_count : MethodName := ⟨"CoatHangersModel", "count", "(I)I"⟩
theorem qm_M_count : qMt y_M_count prog_14_method_115_code 4 (some .int) 1 := ⟨qT_8 (i := 199) (by decide +kernel) rfl, qT_1 (i := 17) (by decide +kernel) rfl, by decide, by decide, by decide +kernel⟩
theorem wi_M_count : Cond.instanceMethod y_M_count ∈ qT := qT_8 (i := 197) (by decide +kernel) rfl
theorem wl_M_count : Cond.selects y_M_count.cls y_M_count y_M_count ∈ qT := qT_8 (i := 198) (by decide +kernel) rfl
theorem wm_M_463 : Cond.methodLink "CoatHangersModel" 463 y_M_sumNow ∈ qT := qT_8 (i := 200) (by decide +kernel) rfl
theorem d_M_restore_0 : decode prog_14_method_113_code 0 = .ok (.iload_n 1, 1) := by decide +kernel
theorem d_M_restore_1 : decode prog_14_method_113_code 1 = .ok (.iconst 0, 1) := by decide +kernel
theorem d_M_restore_2 : decode prog_14_method_113_code 2 = .ok (.iconst 2, 1) := by decide +kernel
theorem d_M_restore_3 : decode prog_14_method_113_code 3 = .ok (.invokestatic 322, 3) := by decide +kernel
theorem d_M_restore_6 : decode prog_14_method_113_code 6 = .ok (.ifCond .eq 12, 3) := by decide +kernel
theorem d_M_restore_9 : decode prog_14_method_113_code 9 = .ok (.aload_n 0, 1) := by decide +kernel
theorem d_M_restore_10 : decode prog_14_method_113_code 10 = .ok (.getfield 158, 3) := by decide +kernel
theorem d_M_restore_13 : decode prog_14_method_113_code 13 = .ok (.iload_n 1, 1) := by decide +kernel
theorem d_M_restore_14 : decode prog_14_method_113_code 14 = .ok (.baload, 1) := by decide +kernel
theorem d_M_restore_15 : decode prog_14_method_113_code 15 = .ok (.ifCond .ne 5, 3) := by decide +kernel
theorem d_M_restore_18 : decode prog_14_method_113_code 18 = .ok (.iconst 0, 1) := by decide +kernel
theorem d_M_restore_19 : decode prog_14_method_113_code 19 = .ok (.ireturn, 1) := by decide +kernel
theorem d_M_restore_20 : decode prog_14_method_113_code 20 = .ok (.iconst 0, 1) := by decide +kernel
theorem d_M_restore_21 : decode prog_14_method_113_code 21 = .ok (.istore_n 2, 1) := by decide +kernel
theorem d_M_restore_22 : decode prog_14_method_113_code 22 = .ok (.iload_n 2, 1) := by decide +kernel
theorem d_M_restore_23 : decode prog_14_method_113_code 23 = .ok (.bipush 32, 2) := by decide +kernel
theorem d_M_restore_25 : decode prog_14_method_113_code 25 = .ok (.if_icmp .ge 26, 3) := by decide +kernel
theorem d_M_restore_28 : decode prog_14_method_113_code 28 = .ok (.aload_n 0, 1) := by decide +kernel
theorem d_M_restore_29 : decode prog_14_method_113_code 29 = .ok (.getfield 113, 3) := by decide +kernel
theorem d_M_restore_32 : decode prog_14_method_113_code 32 = .ok (.iload_n 2, 1) := by decide +kernel
theorem d_M_restore_33 : decode prog_14_method_113_code 33 = .ok (.aload_n 0, 1) := by decide +kernel
theorem d_M_restore_34 : decode prog_14_method_113_code 34 = .ok (.getfield 161, 3) := by decide +kernel
theorem d_M_restore_37 : decode prog_14_method_113_code 37 = .ok (.bipush 32, 2) := by decide +kernel
theorem d_M_restore_39 : decode prog_14_method_113_code 39 = .ok (.iload_n 1, 1) := by decide +kernel
theorem d_M_restore_40 : decode prog_14_method_113_code 40 = .ok (.imul, 1) := by decide +kernel
theorem d_M_restore_41 : decode prog_14_method_113_code 41 = .ok (.iload_n 2, 1) := by decide +kernel
theorem d_M_restore_42 : decode prog_14_method_113_code 42 = .ok (.iadd, 1) := by decide +kernel
theorem d_M_restore_43 : decode prog_14_method_113_code 43 = .ok (.iaload, 1) := by decide +kernel
theorem d_M_restore_44 : decode prog_14_method_113_code 44 = .ok (.iastore, 1) := by decide +kernel
theorem d_M_restore_45 : decode prog_14_method_113_code 45 = .ok (.iinc 2 1, 3) := by decide +kernel
theorem d_M_restore_48 : decode prog_14_method_113_code 48 = .ok (.goto (-26), 3) := by decide +kernel
theorem d_M_restore_51 : decode prog_14_method_113_code 51 = .ok (.aload_n 0, 1) := by decide +kernel
theorem d_M_restore_52 : decode prog_14_method_113_code 52 = .ok (.iconst 0, 1) := by decide +kernel
theorem d_M_restore_53 : decode prog_14_method_113_code 53 = .ok (.putfield 263, 3) := by decide +kernel
theorem d_M_restore_56 : decode prog_14_method_113_code 56 = .ok (.iconst 1, 1) := by decide +kernel
theorem d_M_restore_57 : decode prog_14_method_113_code 57 = .ok (.ireturn, 1) := by decide +kernel
theorem d_M_sumNow_0 : decode prog_14_method_114_code 0 = .ok (.iconst 0, 1) := by decide +kernel
theorem d_M_sumNow_1 : decode prog_14_method_114_code 1 = .ok (.istore_n 3, 1) := by decide +kernel
theorem d_M_sumNow_2 : decode prog_14_method_114_code 2 = .ok (.iload_n 1, 1) := by decide +kernel
theorem d_M_sumNow_3 : decode prog_14_method_114_code 3 = .ok (.istore 4, 2) := by decide +kernel
theorem d_M_sumNow_5 : decode prog_14_method_114_code 5 = .ok (.iload 4, 2) := by decide +kernel
theorem d_M_sumNow_7 : decode prog_14_method_114_code 7 = .ok (.iload_n 1, 1) := by decide +kernel
theorem d_M_sumNow_8 : decode prog_14_method_114_code 8 = .ok (.iload_n 2, 1) := by decide +kernel
theorem d_M_sumNow_9 : decode prog_14_method_114_code 9 = .ok (.iadd, 1) := by decide +kernel
theorem d_M_sumNow_10 : decode prog_14_method_114_code 10 = .ok (.if_icmp .ge 19, 3) := by decide +kernel
theorem d_M_sumNow_13 : decode prog_14_method_114_code 13 = .ok (.iload_n 3, 1) := by decide +kernel
theorem d_M_sumNow_14 : decode prog_14_method_114_code 14 = .ok (.aload_n 0, 1) := by decide +kernel
theorem d_M_sumNow_15 : decode prog_14_method_114_code 15 = .ok (.getfield 113, 3) := by decide +kernel
theorem d_M_sumNow_18 : decode prog_14_method_114_code 18 = .ok (.iload 4, 2) := by decide +kernel
theorem d_M_sumNow_20 : decode prog_14_method_114_code 20 = .ok (.iaload, 1) := by decide +kernel
theorem d_M_sumNow_21 : decode prog_14_method_114_code 21 = .ok (.iadd, 1) := by decide +kernel
theorem d_M_sumNow_22 : decode prog_14_method_114_code 22 = .ok (.istore_n 3, 1) := by decide +kernel
theorem d_M_sumNow_23 : decode prog_14_method_114_code 23 = .ok (.iinc 4 1, 3) := by decide +kernel
theorem d_M_sumNow_26 : decode prog_14_method_114_code 26 = .ok (.goto (-21), 3) := by decide +kernel
theorem d_M_sumNow_29 : decode prog_14_method_114_code 29 = .ok (.iload_n 3, 1) := by decide +kernel
theorem d_M_sumNow_30 : decode prog_14_method_114_code 30 = .ok (.ireturn, 1) := by decide +kernel
theorem d_M_count_0 : decode prog_14_method_115_code 0 = .ok (.aload_n 0, 1) := by decide +kernel
theorem d_M_count_1 : decode prog_14_method_115_code 1 = .ok (.invokevirtual 332, 3) := by decide +kernel
theorem d_M_count_4 : decode prog_14_method_115_code 4 = .ok (.iconst 0, 1) := by decide +kernel
theorem d_M_count_5 : decode prog_14_method_115_code 5 = .ok (.istore_n 2, 1) := by decide +kernel
theorem d_M_count_6 : decode prog_14_method_115_code 6 = .ok (.iload_n 1, 1) := by decide +kernel
theorem d_M_count_7 : decode prog_14_method_115_code 7 = .ok (.tableswitch 306 0 14 #[73, 83, 93, 101, 138, 175, 180, 189, 198, 203, 208, 213, 258, 271, 276], 73) := by decide +kernel
theorem d_M_count_80 : decode prog_14_method_115_code 80 = .ok (.aload_n 0, 1) := by decide +kernel
theorem d_M_count_81 : decode prog_14_method_115_code 81 = .ok (.getfield 46, 3) := by decide +kernel
theorem d_M_count_84 : decode prog_14_method_115_code 84 = .ok (.aload_n 0, 1) := by decide +kernel
theorem d_M_count_85 : decode prog_14_method_115_code 85 = .ok (.getfield 245, 3) := by decide +kernel
theorem d_M_count_88 : decode prog_14_method_115_code 88 = .ok (.iaload, 1) := by decide +kernel
theorem d_M_count_89 : decode prog_14_method_115_code 89 = .ok (.ireturn, 1) := by decide +kernel
theorem d_M_count_90 : decode prog_14_method_115_code 90 = .ok (.aload_n 0, 1) := by decide +kernel
theorem d_M_count_91 : decode prog_14_method_115_code 91 = .ok (.getfield 55, 3) := by decide +kernel
theorem d_M_count_94 : decode prog_14_method_115_code 94 = .ok (.aload_n 0, 1) := by decide +kernel
theorem d_M_count_95 : decode prog_14_method_115_code 95 = .ok (.getfield 245, 3) := by decide +kernel
theorem d_M_count_98 : decode prog_14_method_115_code 98 = .ok (.iaload, 1) := by decide +kernel
theorem d_M_count_99 : decode prog_14_method_115_code 99 = .ok (.ireturn, 1) := by decide +kernel
theorem d_M_count_100 : decode prog_14_method_115_code 100 = .ok (.aload_n 0, 1) := by decide +kernel
theorem d_M_count_101 : decode prog_14_method_115_code 101 = .ok (.getfield 116, 3) := by decide +kernel
theorem d_M_count_104 : decode prog_14_method_115_code 104 = .ok (.bipush 31, 2) := by decide +kernel
theorem d_M_count_106 : decode prog_14_method_115_code 106 = .ok (.iaload, 1) := by decide +kernel
theorem d_M_count_107 : decode prog_14_method_115_code 107 = .ok (.ireturn, 1) := by decide +kernel
theorem d_M_count_108 : decode prog_14_method_115_code 108 = .ok (.iconst 0, 1) := by decide +kernel
theorem d_M_count_109 : decode prog_14_method_115_code 109 = .ok (.istore_n 3, 1) := by decide +kernel
theorem d_M_count_110 : decode prog_14_method_115_code 110 = .ok (.iload_n 3, 1) := by decide +kernel
theorem d_M_count_111 : decode prog_14_method_115_code 111 = .ok (.aload_n 0, 1) := by decide +kernel
theorem d_M_count_112 : decode prog_14_method_115_code 112 = .ok (.getfield 55, 3) := by decide +kernel
theorem d_M_count_115 : decode prog_14_method_115_code 115 = .ok (.aload_n 0, 1) := by decide +kernel
theorem d_M_count_116 : decode prog_14_method_115_code 116 = .ok (.getfield 245, 3) := by decide +kernel
theorem d_M_count_119 : decode prog_14_method_115_code 119 = .ok (.iaload, 1) := by decide +kernel
theorem d_M_count_120 : decode prog_14_method_115_code 120 = .ok (.if_icmp .ge 23, 3) := by decide +kernel
theorem d_M_count_123 : decode prog_14_method_115_code 123 = .ok (.aload_n 0, 1) := by decide +kernel
theorem d_M_count_124 : decode prog_14_method_115_code 124 = .ok (.iload_n 3, 1) := by decide +kernel
theorem d_M_count_125 : decode prog_14_method_115_code 125 = .ok (.invokevirtual 342, 3) := by decide +kernel
theorem d_M_count_128 : decode prog_14_method_115_code 128 = .ok (.ifCond .eq 9, 3) := by decide +kernel
theorem d_M_count_131 : decode prog_14_method_115_code 131 = .ok (.iload_n 2, 1) := by decide +kernel
theorem d_M_count_132 : decode prog_14_method_115_code 132 = .ok (.iconst 1, 1) := by decide +kernel
theorem d_M_count_133 : decode prog_14_method_115_code 133 = .ok (.iload_n 3, 1) := by decide +kernel
theorem d_M_count_134 : decode prog_14_method_115_code 134 = .ok (.ishl, 1) := by decide +kernel
theorem d_M_count_135 : decode prog_14_method_115_code 135 = .ok (.ior, 1) := by decide +kernel
theorem d_M_count_136 : decode prog_14_method_115_code 136 = .ok (.istore_n 2, 1) := by decide +kernel
theorem d_M_count_137 : decode prog_14_method_115_code 137 = .ok (.iinc 3 1, 3) := by decide +kernel
theorem d_M_count_140 : decode prog_14_method_115_code 140 = .ok (.goto (-30), 3) := by decide +kernel
theorem d_M_count_143 : decode prog_14_method_115_code 143 = .ok (.iload_n 2, 1) := by decide +kernel
theorem d_M_count_144 : decode prog_14_method_115_code 144 = .ok (.ireturn, 1) := by decide +kernel
theorem d_M_count_145 : decode prog_14_method_115_code 145 = .ok (.iconst 0, 1) := by decide +kernel
theorem d_M_count_146 : decode prog_14_method_115_code 146 = .ok (.istore_n 3, 1) := by decide +kernel
theorem d_M_count_147 : decode prog_14_method_115_code 147 = .ok (.iload_n 3, 1) := by decide +kernel
theorem d_M_count_148 : decode prog_14_method_115_code 148 = .ok (.aload_n 0, 1) := by decide +kernel
theorem d_M_count_149 : decode prog_14_method_115_code 149 = .ok (.getfield 46, 3) := by decide +kernel
theorem d_M_count_152 : decode prog_14_method_115_code 152 = .ok (.aload_n 0, 1) := by decide +kernel
theorem d_M_count_153 : decode prog_14_method_115_code 153 = .ok (.getfield 245, 3) := by decide +kernel
theorem d_M_count_156 : decode prog_14_method_115_code 156 = .ok (.iaload, 1) := by decide +kernel
theorem d_M_count_157 : decode prog_14_method_115_code 157 = .ok (.if_icmp .ge 23, 3) := by decide +kernel
theorem d_M_count_160 : decode prog_14_method_115_code 160 = .ok (.aload_n 0, 1) := by decide +kernel
theorem d_M_count_161 : decode prog_14_method_115_code 161 = .ok (.iload_n 3, 1) := by decide +kernel
theorem d_M_count_162 : decode prog_14_method_115_code 162 = .ok (.invokevirtual 389, 3) := by decide +kernel
theorem d_M_count_165 : decode prog_14_method_115_code 165 = .ok (.ifCond .lt 9, 3) := by decide +kernel
theorem d_M_count_168 : decode prog_14_method_115_code 168 = .ok (.iload_n 2, 1) := by decide +kernel
theorem d_M_count_169 : decode prog_14_method_115_code 169 = .ok (.iconst 1, 1) := by decide +kernel
theorem d_M_count_170 : decode prog_14_method_115_code 170 = .ok (.iload_n 3, 1) := by decide +kernel
theorem d_M_count_171 : decode prog_14_method_115_code 171 = .ok (.ishl, 1) := by decide +kernel
theorem d_M_count_172 : decode prog_14_method_115_code 172 = .ok (.ior, 1) := by decide +kernel
theorem d_M_count_173 : decode prog_14_method_115_code 173 = .ok (.istore_n 2, 1) := by decide +kernel
theorem d_M_count_174 : decode prog_14_method_115_code 174 = .ok (.iinc 3 1, 3) := by decide +kernel
theorem d_M_count_177 : decode prog_14_method_115_code 177 = .ok (.goto (-30), 3) := by decide +kernel
theorem d_M_count_180 : decode prog_14_method_115_code 180 = .ok (.iload_n 2, 1) := by decide +kernel
theorem d_M_count_181 : decode prog_14_method_115_code 181 = .ok (.ireturn, 1) := by decide +kernel
theorem d_M_count_182 : decode prog_14_method_115_code 182 = .ok (.aload_n 0, 1) := by decide +kernel
theorem d_M_count_183 : decode prog_14_method_115_code 183 = .ok (.invokevirtual 448, 3) := by decide +kernel
theorem d_M_count_186 : decode prog_14_method_115_code 186 = .ok (.ireturn, 1) := by decide +kernel
theorem d_M_count_187 : decode prog_14_method_115_code 187 = .ok (.aload_n 0, 1) := by decide +kernel
theorem d_M_count_188 : decode prog_14_method_115_code 188 = .ok (.bipush 18, 2) := by decide +kernel
theorem d_M_count_190 : decode prog_14_method_115_code 190 = .ok (.bipush 6, 2) := by decide +kernel
theorem d_M_count_192 : decode prog_14_method_115_code 192 = .ok (.invokevirtual 463, 3) := by decide +kernel
theorem d_M_count_195 : decode prog_14_method_115_code 195 = .ok (.ireturn, 1) := by decide +kernel
theorem d_M_count_196 : decode prog_14_method_115_code 196 = .ok (.aload_n 0, 1) := by decide +kernel
theorem d_M_count_197 : decode prog_14_method_115_code 197 = .ok (.bipush 24, 2) := by decide +kernel
theorem d_M_count_199 : decode prog_14_method_115_code 199 = .ok (.bipush 7, 2) := by decide +kernel
theorem d_M_count_201 : decode prog_14_method_115_code 201 = .ok (.invokevirtual 463, 3) := by decide +kernel
theorem d_M_count_204 : decode prog_14_method_115_code 204 = .ok (.ireturn, 1) := by decide +kernel
theorem d_M_count_205 : decode prog_14_method_115_code 205 = .ok (.aload_n 0, 1) := by decide +kernel
theorem d_M_count_206 : decode prog_14_method_115_code 206 = .ok (.getfield 178, 3) := by decide +kernel
theorem d_M_count_209 : decode prog_14_method_115_code 209 = .ok (.ireturn, 1) := by decide +kernel
theorem d_M_count_210 : decode prog_14_method_115_code 210 = .ok (.aload_n 0, 1) := by decide +kernel
theorem d_M_count_211 : decode prog_14_method_115_code 211 = .ok (.getfield 263, 3) := by decide +kernel
theorem d_M_count_214 : decode prog_14_method_115_code 214 = .ok (.ireturn, 1) := by decide +kernel
theorem d_M_count_215 : decode prog_14_method_115_code 215 = .ok (.aload_n 0, 1) := by decide +kernel
theorem d_M_count_216 : decode prog_14_method_115_code 216 = .ok (.getfield 266, 3) := by decide +kernel
theorem d_M_count_219 : decode prog_14_method_115_code 219 = .ok (.ireturn, 1) := by decide +kernel
theorem d_M_count_220 : decode prog_14_method_115_code 220 = .ok (.aload_n 0, 1) := by decide +kernel
theorem d_M_count_221 : decode prog_14_method_115_code 221 = .ok (.getfield 158, 3) := by decide +kernel
theorem d_M_count_224 : decode prog_14_method_115_code 224 = .ok (.iconst 0, 1) := by decide +kernel
theorem d_M_count_225 : decode prog_14_method_115_code 225 = .ok (.baload, 1) := by decide +kernel
theorem d_M_count_226 : decode prog_14_method_115_code 226 = .ok (.ifCond .eq 7, 3) := by decide +kernel
theorem d_M_count_229 : decode prog_14_method_115_code 229 = .ok (.iconst 1, 1) := by decide +kernel
theorem d_M_count_230 : decode prog_14_method_115_code 230 = .ok (.goto 4, 3) := by decide +kernel
theorem d_M_count_233 : decode prog_14_method_115_code 233 = .ok (.iconst 0, 1) := by decide +kernel
theorem d_M_count_234 : decode prog_14_method_115_code 234 = .ok (.aload_n 0, 1) := by decide +kernel
theorem d_M_count_235 : decode prog_14_method_115_code 235 = .ok (.getfield 158, 3) := by decide +kernel
theorem d_M_count_238 : decode prog_14_method_115_code 238 = .ok (.iconst 1, 1) := by decide +kernel
theorem d_M_count_239 : decode prog_14_method_115_code 239 = .ok (.baload, 1) := by decide +kernel
theorem d_M_count_240 : decode prog_14_method_115_code 240 = .ok (.ifCond .eq 7, 3) := by decide +kernel
theorem d_M_count_243 : decode prog_14_method_115_code 243 = .ok (.iconst 1, 1) := by decide +kernel
theorem d_M_count_244 : decode prog_14_method_115_code 244 = .ok (.goto 4, 3) := by decide +kernel
theorem d_M_count_247 : decode prog_14_method_115_code 247 = .ok (.iconst 0, 1) := by decide +kernel
theorem d_M_count_248 : decode prog_14_method_115_code 248 = .ok (.iadd, 1) := by decide +kernel
theorem d_M_count_249 : decode prog_14_method_115_code 249 = .ok (.aload_n 0, 1) := by decide +kernel
theorem d_M_count_250 : decode prog_14_method_115_code 250 = .ok (.getfield 158, 3) := by decide +kernel
theorem d_M_count_253 : decode prog_14_method_115_code 253 = .ok (.iconst 2, 1) := by decide +kernel
theorem d_M_count_254 : decode prog_14_method_115_code 254 = .ok (.baload, 1) := by decide +kernel
theorem d_M_count_255 : decode prog_14_method_115_code 255 = .ok (.ifCond .eq 7, 3) := by decide +kernel
theorem d_M_count_258 : decode prog_14_method_115_code 258 = .ok (.iconst 1, 1) := by decide +kernel
theorem d_M_count_259 : decode prog_14_method_115_code 259 = .ok (.goto 4, 3) := by decide +kernel
theorem d_M_count_262 : decode prog_14_method_115_code 262 = .ok (.iconst 0, 1) := by decide +kernel
theorem d_M_count_263 : decode prog_14_method_115_code 263 = .ok (.iadd, 1) := by decide +kernel
theorem d_M_count_264 : decode prog_14_method_115_code 264 = .ok (.ireturn, 1) := by decide +kernel
theorem d_M_count_265 : decode prog_14_method_115_code 265 = .ok (.aload_n 0, 1) := by decide +kernel
theorem d_M_count_266 : decode prog_14_method_115_code 266 = .ok (.invokevirtual 379, 3) := by decide +kernel
theorem d_M_count_269 : decode prog_14_method_115_code 269 = .ok (.ifCond .eq 7, 3) := by decide +kernel
theorem d_M_count_272 : decode prog_14_method_115_code 272 = .ok (.iconst 1, 1) := by decide +kernel
theorem d_M_count_273 : decode prog_14_method_115_code 273 = .ok (.goto 4, 3) := by decide +kernel
theorem d_M_count_276 : decode prog_14_method_115_code 276 = .ok (.iconst 0, 1) := by decide +kernel
theorem d_M_count_277 : decode prog_14_method_115_code 277 = .ok (.ireturn, 1) := by decide +kernel
theorem d_M_count_278 : decode prog_14_method_115_code 278 = .ok (.aload_n 0, 1) := by decide +kernel
theorem d_M_count_279 : decode prog_14_method_115_code 279 = .ok (.invokevirtual 454, 3) := by decide +kernel
theorem d_M_count_282 : decode prog_14_method_115_code 282 = .ok (.ireturn, 1) := by decide +kernel
theorem d_M_count_283 : decode prog_14_method_115_code 283 = .ok (.iconst 0, 1) := by decide +kernel
theorem d_M_count_284 : decode prog_14_method_115_code 284 = .ok (.istore_n 3, 1) := by decide +kernel
theorem d_M_count_285 : decode prog_14_method_115_code 285 = .ok (.iload_n 3, 1) := by decide +kernel
theorem d_M_count_286 : decode prog_14_method_115_code 286 = .ok (.iconst 5, 1) := by decide +kernel
theorem d_M_count_287 : decode prog_14_method_115_code 287 = .ok (.if_icmp .ge 24, 3) := by decide +kernel
theorem d_M_count_290 : decode prog_14_method_115_code 290 = .ok (.aload_n 0, 1) := by decide +kernel
theorem d_M_count_291 : decode prog_14_method_115_code 291 = .ok (.iload_n 3, 1) := by decide +kernel
theorem d_M_count_292 : decode prog_14_method_115_code 292 = .ok (.invokevirtual 354, 3) := by decide +kernel
theorem d_M_count_295 : decode prog_14_method_115_code 295 = .ok (.iconst 1, 1) := by decide +kernel
theorem d_M_count_296 : decode prog_14_method_115_code 296 = .ok (.if_icmp .le 9, 3) := by decide +kernel
theorem d_M_count_299 : decode prog_14_method_115_code 299 = .ok (.iload_n 2, 1) := by decide +kernel
theorem d_M_count_300 : decode prog_14_method_115_code 300 = .ok (.iconst 1, 1) := by decide +kernel
theorem d_M_count_301 : decode prog_14_method_115_code 301 = .ok (.iload_n 3, 1) := by decide +kernel
theorem d_M_count_302 : decode prog_14_method_115_code 302 = .ok (.ishl, 1) := by decide +kernel
theorem d_M_count_303 : decode prog_14_method_115_code 303 = .ok (.ior, 1) := by decide +kernel
theorem d_M_count_304 : decode prog_14_method_115_code 304 = .ok (.istore_n 2, 1) := by decide +kernel
theorem d_M_count_305 : decode prog_14_method_115_code 305 = .ok (.iinc 3 1, 3) := by decide +kernel
theorem d_M_count_308 : decode prog_14_method_115_code 308 = .ok (.goto (-23), 3) := by decide +kernel
theorem d_M_count_311 : decode prog_14_method_115_code 311 = .ok (.iload_n 2, 1) := by decide +kernel
theorem d_M_count_312 : decode prog_14_method_115_code 312 = .ok (.ireturn, 1) := by decide +kernel
theorem d_M_count_313 : decode prog_14_method_115_code 313 = .ok (.iconst (-1), 1) := by decide +kernel
theorem d_M_count_314 : decode prog_14_method_115_code 314 = .ok (.ireturn, 1) := by decide +kernel
def w_M_restore_22 (N : Nat) : Nat → Nat → Int32 → Int32 → qH → (Int32 → qH → Prop) → Prop
  | 0 => fun _ _ _ _ _ => False
  | k + 1 => fun x0 x1 x2 h Q => (((32 : Int32) ≤ x2 → (qS h x0 = .inl 12 ∧ ∀ h3 : qH, h3 = qsI h x0 57 (0 : Int32) → (qzb (1 : Int32) ∧ Q (1 : Int32) h3))) ∧ (¬ (32 : Int32) ≤ x2 → (qS h x0 = .inl 12 ∧ (qok h (qR h x0 70) 0 (((32 : Int32) * x1) + x2) ∧ (qok h (qR h x0 49) 0 x2 ∧ ∀ h7 : qH, h7 = qsI h (qR h x0 49) (x2).toNatClampNeg (qI h (qR h x0 70) ((((32 : Int32) * x1) + x2)).toNatClampNeg) → (w_M_restore_22 N k x0 x1 (x2 + (1 : Int32)) h7 Q))))))
def w_M_restore (N : Nat) (x0 : Nat) (x1 : Int32) (h : qH) (Q : Int32 → qH → Prop) : Prop := (w_M_in N x1 (0 : Int32) (2 : Int32) h (fun r1 h2 => ((r1 = 0 → (qzb (0 : Int32) ∧ Q (0 : Int32) h2)) ∧ (¬ r1 = 0 → (qS h2 x0 = .inl 12 ∧ (qok h2 (qR h2 x0 69) 2 x1 ∧ ((¬ (qI h2 (qR h2 x0 69) (x1).toNatClampNeg) = 0 → (w_M_restore_22 N N x0 x1 (0 : Int32) h2 Q )) ∧ ((qI h2 (qR h2 x0 69) (x1).toNatClampNeg) = 0 → (qzb (0 : Int32) ∧ Q (0 : Int32) h2)))))))))
def w_M_sumNow_5 (N : Nat) : Nat → Nat → Int32 → Int32 → Int32 → Int32 → qH → (Int32 → qH → Prop) → Prop
  | 0 => fun _ _ _ _ _ _ _ => False
  | k + 1 => fun x0 x1 x2 x3 x4 h Q => (((x1 + x2) ≤ x4 → Q x3 h) ∧ (¬ (x1 + x2) ≤ x4 → (qS h x0 = .inl 12 ∧ (qok h (qR h x0 49) 0 x4 ∧ (∀ y4 : Int32, y4 = (x3 + (qI h (qR h x0 49) (x4).toNatClampNeg)) → (w_M_sumNow_5 N k x0 x1 x2 y4 (x4 + (1 : Int32)) h Q))))))
def w_M_sumNow (N : Nat) (x0 : Nat) (x1 : Int32) (x2 : Int32) (h : qH) (Q : Int32 → qH → Prop) : Prop := (w_M_sumNow_5 N N x0 x1 x2 (0 : Int32) x1 h Q )
def w_M_count_110 (N : Nat) : Nat → Nat → Int32 → Int32 → qH → (Int32 → qH → Prop) → Prop
  | 0 => fun _ _ _ _ _ => False
  | k + 1 => fun x0 x2 x3 h Q => (qS h x0 = .inl 12 ∧ (qok h (qR h x0 26) 0 (qI h x0 18) ∧ (((qI h (qR h x0 26) ((qI h x0 18)).toNatClampNeg) ≤ x3 → Q x2 h) ∧ (¬ (qI h (qR h x0 26) ((qI h x0 18)).toNatClampNeg) ≤ x3 → (w_M_isUp N x0 x3 h (fun r4 h5 => ((r4 = 0 → (w_M_count_110 N k x0 x2 (x3 + (1 : Int32)) h5 Q)) ∧ (¬ r4 = 0 → (∀ y7 : Int32, y7 = (x2 ||| ((1 : Int32) <<< (x3 &&& 31))) → (w_M_count_110 N k x0 y7 (x3 + (1 : Int32)) h5 Q))))))))))
def w_M_count_147 (N : Nat) : Nat → Nat → Int32 → Int32 → qH → (Int32 → qH → Prop) → Prop
  | 0 => fun _ _ _ _ _ => False
  | k + 1 => fun x0 x2 x3 h Q => (qS h x0 = .inl 12 ∧ (qok h (qR h x0 23) 0 (qI h x0 18) ∧ (((qI h (qR h x0 23) ((qI h x0 18)).toNatClampNeg) ≤ x3 → Q x2 h) ∧ (¬ (qI h (qR h x0 23) ((qI h x0 18)).toNatClampNeg) ≤ x3 → (w_M_whoIsOn N x0 x3 h (fun r4 h5 => ((r4 < 0 → (w_M_count_147 N k x0 x2 (x3 + (1 : Int32)) h5 Q)) ∧ (¬ r4 < 0 → (∀ y7 : Int32, y7 = (x2 ||| ((1 : Int32) <<< (x3 &&& 31))) → (w_M_count_147 N k x0 y7 (x3 + (1 : Int32)) h5 Q))))))))))
def w_M_count_248 (N : Nat) (x0 : Nat) (z0 : Int32) (z1 : Int32) (h : qH) (Q : Int32 → qH → Prop)  : Prop := (qS h x0 = .inl 12 ∧ (qok h (qR h x0 69) 2 (2 : Int32) ∧ (((qI h (qR h x0 69) ((2 : Int32)).toNatClampNeg) = 0 → Q ((z1 + z0) + (0 : Int32)) h) ∧ (¬ (qI h (qR h x0 69) ((2 : Int32)).toNatClampNeg) = 0 → Q ((z1 + z0) + (1 : Int32)) h))))
def w_M_count_234 (N : Nat) (x0 : Nat) (z0 : Int32) (h : qH) (Q : Int32 → qH → Prop)  : Prop := (qS h x0 = .inl 12 ∧ (qok h (qR h x0 69) 2 (1 : Int32) ∧ (((qI h (qR h x0 69) ((1 : Int32)).toNatClampNeg) = 0 → (w_M_count_248 N x0 (0 : Int32) z0 h Q )) ∧ (¬ (qI h (qR h x0 69) ((1 : Int32)).toNatClampNeg) = 0 → (w_M_count_248 N x0 (1 : Int32) z0 h Q )))))
def w_M_count_285 (N : Nat) : Nat → Nat → Int32 → Int32 → qH → (Int32 → qH → Prop) → Prop
  | 0 => fun _ _ _ _ _ => False
  | k + 1 => fun x0 x2 x3 h Q => (((5 : Int32) ≤ x3 → Q x2 h) ∧ (¬ (5 : Int32) ≤ x3 → (qS h x0 = .inl 12 ∧ w_M_manyOn N x0 x3 h (fun r3 h4 => ((r3 ≤ (1 : Int32) → (w_M_count_285 N k x0 x2 (x3 + (1 : Int32)) h4 Q)) ∧ (¬ r3 ≤ (1 : Int32) → (∀ y6 : Int32, y6 = (x2 ||| ((1 : Int32) <<< (x3 &&& 31))) → (w_M_count_285 N k x0 y6 (x3 + (1 : Int32)) h4 Q))))))))
def w_M_count (N : Nat) (x0 : Nat) (x1 : Int32) (h : qH) (Q : Int32 → qH → Prop) : Prop := (qS h x0 = .inl 12 ∧ w_M_copies N x0 h (fun h2 => ((x1 = (0 : Int32) → (qS h2 x0 = .inl 12 ∧ (qok h2 (qR h2 x0 23) 0 (qI h2 x0 18) ∧ Q (qI h2 (qR h2 x0 23) ((qI h2 x0 18)).toNatClampNeg) h2))) ∧ (¬ x1 = (0 : Int32) → ((x1 = (1 : Int32) → (qS h2 x0 = .inl 12 ∧ (qok h2 (qR h2 x0 26) 0 (qI h2 x0 18) ∧ Q (qI h2 (qR h2 x0 26) ((qI h2 x0 18)).toNatClampNeg) h2))) ∧ (¬ x1 = (1 : Int32) → ((x1 = (2 : Int32) → (qS h2 x0 = .inl 12 ∧ (qok h2 (qR h2 x0 50) 0 (31 : Int32) ∧ Q (qI h2 (qR h2 x0 50) ((31 : Int32)).toNatClampNeg) h2))) ∧ (¬ x1 = (2 : Int32) → ((x1 = (3 : Int32) → (w_M_count_110 N N x0 (0 : Int32) (0 : Int32) h2 Q )) ∧ (¬ x1 = (3 : Int32) → ((x1 = (4 : Int32) → (w_M_count_147 N N x0 (0 : Int32) (0 : Int32) h2 Q )) ∧ (¬ x1 = (4 : Int32) → ((x1 = (5 : Int32) → (qS h2 x0 = .inl 12 ∧ w_M_ownBits N x0 h2 (fun r16 h17 => Q r16 h17))) ∧ (¬ x1 = (5 : Int32) → ((x1 = (6 : Int32) → (qS h2 x0 = .inl 12 ∧ w_M_sumNow N x0 (18 : Int32) (6 : Int32) h2 (fun r20 h21 => Q r20 h21))) ∧ (¬ x1 = (6 : Int32) → ((x1 = (7 : Int32) → (qS h2 x0 = .inl 12 ∧ w_M_sumNow N x0 (24 : Int32) (7 : Int32) h2 (fun r24 h25 => Q r24 h25))) ∧ (¬ x1 = (7 : Int32) → ((x1 = (8 : Int32) → (qS h2 x0 = .inl 12 ∧ Q (qI h2 x0 2) h2)) ∧ (¬ x1 = (8 : Int32) → ((x1 = (9 : Int32) → (qS h2 x0 = .inl 12 ∧ Q (qI h2 x0 57) h2)) ∧ (¬ x1 = (9 : Int32) → ((x1 = (10 : Int32) → (qS h2 x0 = .inl 12 ∧ Q (qI h2 x0 63) h2)) ∧ (¬ x1 = (10 : Int32) → ((x1 = (11 : Int32) → (qS h2 x0 = .inl 12 ∧ (qok h2 (qR h2 x0 69) 2 (0 : Int32) ∧ (((qI h2 (qR h2 x0 69) ((0 : Int32)).toNatClampNeg) = 0 → (w_M_count_234 N x0 (0 : Int32) h2 Q )) ∧ (¬ (qI h2 (qR h2 x0 69) ((0 : Int32)).toNatClampNeg) = 0 → (w_M_count_234 N x0 (1 : Int32) h2 Q )))))) ∧ (¬ x1 = (11 : Int32) → ((x1 = (12 : Int32) → (qS h2 x0 = .inl 12 ∧ w_M_isMoth N x0 h2 (fun r38 h39 => ((r38 = 0 → Q (0 : Int32) h39) ∧ (¬ r38 = 0 → Q (1 : Int32) h39))))) ∧ (¬ x1 = (12 : Int32) → ((x1 = (13 : Int32) → (qS h2 x0 = .inl 12 ∧ w_M_costsAll N x0 h2 (fun r43 h44 => Q r43 h44))) ∧ (¬ x1 = (13 : Int32) → ((x1 = (14 : Int32) → (w_M_count_285 N N x0 (0 : Int32) (0 : Int32) h2 Q )) ∧ (¬ x1 = (14 : Int32) → Q (-1 : Int32) h2))))))))))))))))))))))))))))))))
section QG
variable {p : Program} {l : Launch} {e : Env} {s : State} {m : MethodId} {args : Array Value} {below : List Frame} {meth : Method} {c : Code} {D : va_G} {cy : Nat → ClassId} {b : Nat} {adK adV : Nat → Nat}

set_option maxRecDepth 4000 in
theorem t_M_restore_22 (X : qX p s m args meth c D cy b adK adV prog_14_method_113_code "CoatHangersModel" 3 (some .boolean) "restore") (N k : Nat) (x0 : Nat) (x1 : Int32) (x2 : Int32) (h : qH) (Q : Int32 → qH → Prop)  (hw : w_M_restore_22 N k x0 x1 x2 h Q ) : qW p l e (qrm 1 0 0 22) s m args below meth c D cy b 3 0 0 (MQ below (qQc D cy b qrI Q) args s 0 0 (qA b)) 22 [(0, .inr (.inr (.inl x0))), (1, .inl x1), (2, .inl x2)] [] h := by
  induction k generalizing x0 x1 x2 h with
  | zero => exact hw.elim
  | succ k ih =>
    refine qx_iload_n (x := x2) X d_M_restore_22 rfl 2 rfl ?_
    refine qx_bipush (v := (32 : Int32)) X d_M_restore_23 (by decide) ?_
    refine qx_icmp_ge X 51 d_M_restore_25 (by decide) (fun q1 => ?_) (fun q1 => ?_)
    · have hw := hw.1 q1
      refine qx_aload_n (x := x0) X d_M_restore_51 rfl 0 rfl ?_
      refine qx_iconst (v := (0 : Int32)) X d_M_restore_52 (by decide) ?_
      obtain ⟨g2, hw⟩ := hw
      refine qx_putI X qcls12 g2 57 (by decide) rfl wf_M_263 rfl rfl rfl d_M_restore_53 ?_
      refine qx_toph (fun h3 eh3 => ?_)
      have hw := hw h3 eh3
      refine qx_iconst (v := (1 : Int32)) X d_M_restore_56 (by decide) ?_
      exact qx_zret X hw (Nat.le_refl 0) (Nat.le_refl 0) rfl d_M_restore_57
    · have hw := hw.2 q1
      refine qx_aload_n (x := x0) X d_M_restore_28 rfl 0 rfl ?_
      obtain ⟨g4, hw⟩ := hw
      refine qx_getR X qcls12 g4 49 (by decide) rfl wf_M_113 d_M_restore_29 ?_
      refine qx_iload_n (x := x2) X d_M_restore_32 rfl 2 rfl ?_
      refine qx_aload_n (x := x0) X d_M_restore_33 rfl 0 rfl ?_
      refine qx_getR X qcls12 g4 70 (by decide) rfl wf_M_161 d_M_restore_34 ?_
      refine qx_bipush (v := (32 : Int32)) X d_M_restore_37 (by decide) ?_
      refine qx_iload_n (x := x1) X d_M_restore_39 rfl 1 rfl ?_
      refine qx_imul X d_M_restore_40 ?_
      refine qx_iload_n (x := x2) X d_M_restore_41 rfl 2 rfl ?_
      refine qx_iadd X d_M_restore_42 ?_
      obtain ⟨g5, hw⟩ := hw
      refine qx_ild X g5 d_M_restore_43 ?_
      obtain ⟨g6, hw⟩ := hw
      refine qx_ist X g6 d_M_restore_44 ?_
      refine qx_toph (fun h7 eh7 => ?_)
      have hw := hw h7 eh7
      refine qx_iinc (v := (x2 + (1 : Int32))) (L' := [(2, .inl (x2 + (1 : Int32))), (0, .inr (.inr (.inl x0))), (1, .inl x1)]) X d_M_restore_45 2 rfl rfl (by decide) rfl ?_
      refine qx_goto X 22 d_M_restore_48 (by decide) ?_
      refine qx_sub [1, 2, 0] rfl ?_
      exact ih x0 x1 (x2 + (1 : Int32)) h7 hw
set_option maxRecDepth 4000 in
theorem t_M_restore {adK adV : Nat → Nat} (l : Launch) (D : va_G) (cy : Nat → ClassId) (b : Nat) (N : Nat) (x0 : Nat) (x1 : Int32) (h : qH) (Q : Int32 → qH → Prop) (hw : w_M_restore N x0 x1 h Q) : Met l y_M_restore (Cond.code y_M_restore prog_14_method_113_code 3 (some .boolean) :: qT) (qrm 1 0 0 22) (qPc D cy b adK adV h [qr b x0, .int x1]) (qQc D cy b qrI Q) 0 0 (qA b) := by
  refine qmet (L0 := [(0, .inr (.inr (.inl x0))), (1, .inl x1)]) qm_M_restore (plainFor_of_name (by decide)) [.inr (.inr (.inl x0)), .inl x1] rfl (Nat.le_of_ble_eq_true rfl) rfl (fun p e s m args below meth c X => ?_)
  unfold w_M_restore at hw
  refine qx_iload_n (x := x1) X d_M_restore_0 rfl 1 rfl ?_
  refine qx_iconst (v := (0 : Int32)) X d_M_restore_1 (by decide) ?_
  refine qx_iconst (v := (2 : Int32)) X d_M_restore_2 (by decide) ?_
  refine qx_callSI (st := []) (As := [.int x1, .int (0 : Int32), .int (2 : Int32)]) X (t_M_in (adK := adK) (adV := adV) l D cy b N x1 (0 : Int32) (2 : Int32) h _ hw) qm_M_in wm_M_322 wi_M_in rfl rfl rfl ⟨Nat.le_of_ble_eq_true rfl, Nat.le_of_ble_eq_true rfl⟩ ⟨Nat.le_refl 0, Nat.le_refl 0⟩ (Nat.le_of_ble_eq_true rfl) rfl d_M_restore_3 (fun r1 h2 hw => ?_)
  refine qx_if_eq X 18 d_M_restore_6 (by decide) (fun q3 => ?_) (fun q3 => ?_)
  · have hw := hw.1 q3
    refine qx_iconst (v := (0 : Int32)) X d_M_restore_18 (by decide) ?_
    exact qx_zret X hw (Nat.le_refl 0) (Nat.le_refl 0) rfl d_M_restore_19
  · have hw := hw.2 q3
    refine qx_aload_n (x := x0) X d_M_restore_9 rfl 0 rfl ?_
    obtain ⟨g4, hw⟩ := hw
    refine qx_getR X qcls12 g4 69 (by decide) rfl wf_M_158 d_M_restore_10 ?_
    refine qx_iload_n (x := x1) X d_M_restore_13 rfl 1 rfl ?_
    obtain ⟨g5, hw⟩ := hw
    refine qx_zld X g5 d_M_restore_14 ?_
    refine qx_if_ne X 20 d_M_restore_15 (by decide) (fun q6 => ?_) (fun q6 => ?_)
    · have hw := hw.1 q6
      refine qx_iconst (v := (0 : Int32)) X d_M_restore_20 (by decide) ?_
      refine qx_istore_n (L' := [(2, .inl (0 : Int32)), (0, .inr (.inr (.inl x0))), (1, .inl x1)]) X d_M_restore_21 rfl (by decide) rfl ?_
      refine qx_sub [1, 2, 0] rfl ?_
      exact t_M_restore_22 X N N x0 x1 (0 : Int32) h2 Q  hw 
    · have hw := hw.2 q6
      refine qx_iconst (v := (0 : Int32)) X d_M_restore_18 (by decide) ?_
      exact qx_zret X hw (Nat.le_refl 0) (Nat.le_refl 0) rfl d_M_restore_19
set_option maxRecDepth 4000 in
theorem t_M_sumNow_5 (X : qX p s m args meth c D cy b adK adV prog_14_method_114_code "CoatHangersModel" 5 (some .int) "sumNow") (N k : Nat) (x0 : Nat) (x1 : Int32) (x2 : Int32) (x3 : Int32) (x4 : Int32) (h : qH) (Q : Int32 → qH → Prop)  (hw : w_M_sumNow_5 N k x0 x1 x2 x3 x4 h Q ) : qW p l e (qrm 0 0 0 0) s m args below meth c D cy b 5 0 0 (MQ below (qQc D cy b qrI Q) args s 0 0 (qA b)) 5 [(0, .inr (.inr (.inl x0))), (1, .inl x1), (2, .inl x2), (3, .inl x3), (4, .inl x4)] [] h := by
  induction k generalizing x0 x1 x2 x3 x4 h with
  | zero => exact hw.elim
  | succ k ih =>
    refine qx_iload (x := x4) X d_M_sumNow_5 4 rfl ?_
    refine qx_iload_n (x := x1) X d_M_sumNow_7 rfl 1 rfl ?_
    refine qx_iload_n (x := x2) X d_M_sumNow_8 rfl 2 rfl ?_
    refine qx_iadd X d_M_sumNow_9 ?_
    refine qx_icmp_ge X 29 d_M_sumNow_10 (by decide) (fun q1 => ?_) (fun q1 => ?_)
    · have hw := hw.1 q1
      refine qx_iload_n (x := x3) X d_M_sumNow_29 rfl 3 rfl ?_
      exact qx_iret X hw (Nat.le_refl 0) (Nat.le_refl 0) rfl d_M_sumNow_30
    · have hw := hw.2 q1
      refine qx_iload_n (x := x3) X d_M_sumNow_13 rfl 3 rfl ?_
      refine qx_aload_n (x := x0) X d_M_sumNow_14 rfl 0 rfl ?_
      obtain ⟨g2, hw⟩ := hw
      refine qx_getR X qcls12 g2 49 (by decide) rfl wf_M_113 d_M_sumNow_15 ?_
      refine qx_iload (x := x4) X d_M_sumNow_18 4 rfl ?_
      obtain ⟨g3, hw⟩ := hw
      refine qx_ild X g3 d_M_sumNow_20 ?_
      refine qx_iadd X d_M_sumNow_21 ?_
      refine qx_topi (fun y4 ey4 => ?_)
      have hw := hw y4 ey4
      refine qx_istore_n (L' := [(3, .inl y4), (0, .inr (.inr (.inl x0))), (1, .inl x1), (2, .inl x2), (4, .inl x4)]) X d_M_sumNow_22 rfl (by decide) rfl ?_
      refine qx_iinc (v := (x4 + (1 : Int32))) (L' := [(4, .inl (x4 + (1 : Int32))), (3, .inl y4), (0, .inr (.inr (.inl x0))), (1, .inl x1), (2, .inl x2)]) X d_M_sumNow_23 4 rfl rfl (by decide) rfl ?_
      refine qx_goto X 5 d_M_sumNow_26 (by decide) ?_
      refine qx_sub [2, 3, 4, 1, 0] rfl ?_
      exact ih x0 x1 x2 y4 (x4 + (1 : Int32)) h hw
set_option maxRecDepth 4000 in
theorem t_M_sumNow {adK adV : Nat → Nat} (l : Launch) (D : va_G) (cy : Nat → ClassId) (b : Nat) (N : Nat) (x0 : Nat) (x1 : Int32) (x2 : Int32) (h : qH) (Q : Int32 → qH → Prop) (hw : w_M_sumNow N x0 x1 x2 h Q) : Met l y_M_sumNow (Cond.code y_M_sumNow prog_14_method_114_code 5 (some .int) :: qT) (qrm 0 0 0 0) (qPc D cy b adK adV h [qr b x0, .int x1, .int x2]) (qQc D cy b qrI Q) 0 0 (qA b) := by
  refine qmet (L0 := [(0, .inr (.inr (.inl x0))), (1, .inl x1), (2, .inl x2)]) qm_M_sumNow (plainFor_of_name (by decide)) [.inr (.inr (.inl x0)), .inl x1, .inl x2] rfl (Nat.le_of_ble_eq_true rfl) rfl (fun p e s m args below meth c X => ?_)
  unfold w_M_sumNow at hw
  refine qx_iconst (v := (0 : Int32)) X d_M_sumNow_0 (by decide) ?_
  refine qx_istore_n (L' := [(3, .inl (0 : Int32)), (0, .inr (.inr (.inl x0))), (1, .inl x1), (2, .inl x2)]) X d_M_sumNow_1 rfl (by decide) rfl ?_
  refine qx_iload_n (x := x1) X d_M_sumNow_2 rfl 2 rfl ?_
  refine qx_istore (L' := [(4, .inl x1), (3, .inl (0 : Int32)), (0, .inr (.inr (.inl x0))), (1, .inl x1), (2, .inl x2)]) X d_M_sumNow_3 (by decide) rfl ?_
  refine qx_sub [2, 3, 4, 1, 0] rfl ?_
  exact t_M_sumNow_5 X N N x0 x1 x2 (0 : Int32) x1 h Q  hw 
set_option maxRecDepth 4000 in
theorem t_M_count_110 (X : qX p s m args meth c D cy b adK adV prog_14_method_115_code "CoatHangersModel" 4 (some .int) "count") (N k : Nat) (x0 : Nat) (x2 : Int32) (x3 : Int32) (h : qH) (Q : Int32 → qH → Prop)  (hw : w_M_count_110 N k x0 x2 x3 h Q ) : qW p l e (qrm 5 0 0 109) s m args below meth c D cy b 4 0 0 (MQ below (qQc D cy b qrI Q) args s 0 0 (qA b)) 110 [(0, .inr (.inr (.inl x0))), (2, .inl x2), (3, .inl x3)] [] h := by
  induction k generalizing x0 x2 x3 h with
  | zero => exact hw.elim
  | succ k ih =>
    refine qx_iload_n (x := x3) X d_M_count_110 rfl 2 rfl ?_
    refine qx_aload_n (x := x0) X d_M_count_111 rfl 0 rfl ?_
    obtain ⟨g1, hw⟩ := hw
    refine qx_getR X qcls12 g1 26 (by decide) rfl wf_M_55 d_M_count_112 ?_
    refine qx_aload_n (x := x0) X d_M_count_115 rfl 0 rfl ?_
    refine qx_getI X qcls12 g1 18 (by decide) rfl wf_M_245 d_M_count_116 ?_
    obtain ⟨g2, hw⟩ := hw
    refine qx_ild X g2 d_M_count_119 ?_
    refine qx_icmp_ge X 143 d_M_count_120 (by decide) (fun q3 => ?_) (fun q3 => ?_)
    · have hw := hw.1 q3
      refine qx_iload_n (x := x2) X d_M_count_143 rfl 1 rfl ?_
      exact qx_iret X hw (Nat.le_refl 0) (Nat.le_refl 0) rfl d_M_count_144
    · have hw := hw.2 q3
      refine qx_aload_n (x := x0) X d_M_count_123 rfl 0 rfl ?_
      refine qx_iload_n (x := x3) X d_M_count_124 rfl 2 rfl ?_
      refine qx_callVI (st := []) (As := [.int x3]) X (t_M_isUp (adK := adK) (adV := adV) l D cy b N x0 x3 h _ hw) qm_M_isUp wm_M_342 wi_M_isUp wl_M_isUp qcls12 g1 rfl rfl rfl ⟨Nat.le_of_ble_eq_true rfl, Nat.le_of_ble_eq_true rfl⟩ ⟨Nat.le_refl 0, Nat.le_refl 0⟩ (Nat.le_of_ble_eq_true rfl) rfl d_M_count_125 (fun r4 h5 hw => ?_)
      refine qx_if_eq X 137 d_M_count_128 (by decide) (fun q6 => ?_) (fun q6 => ?_)
      · have hw := hw.1 q6
        refine qx_iinc (v := (x3 + (1 : Int32))) (L' := [(3, .inl (x3 + (1 : Int32))), (0, .inr (.inr (.inl x0))), (2, .inl x2)]) X d_M_count_137 2 rfl rfl (by decide) rfl ?_
        refine qx_goto X 110 d_M_count_140 (by decide) ?_
        refine qx_sub [1, 2, 0] rfl ?_
        exact ih x0 x2 (x3 + (1 : Int32)) h5 hw
      · have hw := hw.2 q6
        refine qx_iload_n (x := x2) X d_M_count_131 rfl 1 rfl ?_
        refine qx_iconst (v := (1 : Int32)) X d_M_count_132 (by decide) ?_
        refine qx_iload_n (x := x3) X d_M_count_133 rfl 2 rfl ?_
        refine qx_ishl X d_M_count_134 ?_
        refine qx_ior X d_M_count_135 ?_
        refine qx_topi (fun y7 ey7 => ?_)
        have hw := hw y7 ey7
        refine qx_istore_n (L' := [(2, .inl y7), (0, .inr (.inr (.inl x0))), (3, .inl x3)]) X d_M_count_136 rfl (by decide) rfl ?_
        refine qx_iinc (v := (x3 + (1 : Int32))) (L' := [(3, .inl (x3 + (1 : Int32))), (2, .inl y7), (0, .inr (.inr (.inl x0)))]) X d_M_count_137 2 rfl rfl (by decide) rfl ?_
        refine qx_goto X 110 d_M_count_140 (by decide) ?_
        refine qx_sub [2, 1, 0] rfl ?_
        exact ih x0 y7 (x3 + (1 : Int32)) h5 hw
set_option maxRecDepth 4000 in
theorem t_M_count_147 (X : qX p s m args meth c D cy b adK adV prog_14_method_115_code "CoatHangersModel" 4 (some .int) "count") (N k : Nat) (x0 : Nat) (x2 : Int32) (x3 : Int32) (h : qH) (Q : Int32 → qH → Prop)  (hw : w_M_count_147 N k x0 x2 x3 h Q ) : qW p l e (qrm 5 0 0 109) s m args below meth c D cy b 4 0 0 (MQ below (qQc D cy b qrI Q) args s 0 0 (qA b)) 147 [(0, .inr (.inr (.inl x0))), (2, .inl x2), (3, .inl x3)] [] h := by
  induction k generalizing x0 x2 x3 h with
  | zero => exact hw.elim
  | succ k ih =>
    refine qx_iload_n (x := x3) X d_M_count_147 rfl 2 rfl ?_
    refine qx_aload_n (x := x0) X d_M_count_148 rfl 0 rfl ?_
    obtain ⟨g1, hw⟩ := hw
    refine qx_getR X qcls12 g1 23 (by decide) rfl wf_M_46 d_M_count_149 ?_
    refine qx_aload_n (x := x0) X d_M_count_152 rfl 0 rfl ?_
    refine qx_getI X qcls12 g1 18 (by decide) rfl wf_M_245 d_M_count_153 ?_
    obtain ⟨g2, hw⟩ := hw
    refine qx_ild X g2 d_M_count_156 ?_
    refine qx_icmp_ge X 180 d_M_count_157 (by decide) (fun q3 => ?_) (fun q3 => ?_)
    · have hw := hw.1 q3
      refine qx_iload_n (x := x2) X d_M_count_180 rfl 1 rfl ?_
      exact qx_iret X hw (Nat.le_refl 0) (Nat.le_refl 0) rfl d_M_count_181
    · have hw := hw.2 q3
      refine qx_aload_n (x := x0) X d_M_count_160 rfl 0 rfl ?_
      refine qx_iload_n (x := x3) X d_M_count_161 rfl 2 rfl ?_
      refine qx_callVI (st := []) (As := [.int x3]) X (t_M_whoIsOn (adK := adK) (adV := adV) l D cy b N x0 x3 h _ hw) qm_M_whoIsOn wm_M_389 wi_M_whoIsOn wl_M_whoIsOn qcls12 g1 rfl rfl rfl ⟨Nat.le_of_ble_eq_true rfl, Nat.le_of_ble_eq_true rfl⟩ ⟨Nat.le_refl 0, Nat.le_refl 0⟩ (Nat.le_of_ble_eq_true rfl) rfl d_M_count_162 (fun r4 h5 hw => ?_)
      refine qx_if_lt X 174 d_M_count_165 (by decide) (fun q6 => ?_) (fun q6 => ?_)
      · have hw := hw.1 q6
        refine qx_iinc (v := (x3 + (1 : Int32))) (L' := [(3, .inl (x3 + (1 : Int32))), (0, .inr (.inr (.inl x0))), (2, .inl x2)]) X d_M_count_174 2 rfl rfl (by decide) rfl ?_
        refine qx_goto X 147 d_M_count_177 (by decide) ?_
        refine qx_sub [1, 2, 0] rfl ?_
        exact ih x0 x2 (x3 + (1 : Int32)) h5 hw
      · have hw := hw.2 q6
        refine qx_iload_n (x := x2) X d_M_count_168 rfl 1 rfl ?_
        refine qx_iconst (v := (1 : Int32)) X d_M_count_169 (by decide) ?_
        refine qx_iload_n (x := x3) X d_M_count_170 rfl 2 rfl ?_
        refine qx_ishl X d_M_count_171 ?_
        refine qx_ior X d_M_count_172 ?_
        refine qx_topi (fun y7 ey7 => ?_)
        have hw := hw y7 ey7
        refine qx_istore_n (L' := [(2, .inl y7), (0, .inr (.inr (.inl x0))), (3, .inl x3)]) X d_M_count_173 rfl (by decide) rfl ?_
        refine qx_iinc (v := (x3 + (1 : Int32))) (L' := [(3, .inl (x3 + (1 : Int32))), (2, .inl y7), (0, .inr (.inr (.inl x0)))]) X d_M_count_174 2 rfl rfl (by decide) rfl ?_
        refine qx_goto X 147 d_M_count_177 (by decide) ?_
        refine qx_sub [2, 1, 0] rfl ?_
        exact ih x0 y7 (x3 + (1 : Int32)) h5 hw
set_option maxRecDepth 4000 in
theorem t_M_count_248 (X : qX p s m args meth c D cy b adK adV prog_14_method_115_code "CoatHangersModel" 4 (some .int) "count") (N : Nat) (x0 : Nat) (z0 : Int32) (z1 : Int32) (h : qH) (Q : Int32 → qH → Prop)  (hw : w_M_count_248 N x0 z0 z1 h Q ) : qW p l e (qrm 5 0 0 109) s m args below meth c D cy b 4 0 0 (MQ below (qQc D cy b qrI Q) args s 0 0 (qA b)) 248 [(0, .inr (.inr (.inl x0)))] [.int z0, .int z1] h := by
  unfold w_M_count_248 at hw
  refine qx_iadd X d_M_count_248 ?_
  refine qx_aload_n (x := x0) X d_M_count_249 rfl 0 rfl ?_
  obtain ⟨g1, hw⟩ := hw
  refine qx_getR X qcls12 g1 69 (by decide) rfl wf_M_158 d_M_count_250 ?_
  refine qx_iconst (v := (2 : Int32)) X d_M_count_253 (by decide) ?_
  obtain ⟨g2, hw⟩ := hw
  refine qx_zld X g2 d_M_count_254 ?_
  refine qx_if_eq X 262 d_M_count_255 (by decide) (fun q3 => ?_) (fun q3 => ?_)
  · have hw := hw.1 q3
    refine qx_iconst (v := (0 : Int32)) X d_M_count_262 (by decide) ?_
    refine qx_iadd X d_M_count_263 ?_
    exact qx_iret X hw (Nat.le_refl 0) (Nat.le_refl 0) rfl d_M_count_264
  · have hw := hw.2 q3
    refine qx_iconst (v := (1 : Int32)) X d_M_count_258 (by decide) ?_
    refine qx_goto X 263 d_M_count_259 (by decide) ?_
    refine qx_iadd X d_M_count_263 ?_
    exact qx_iret X hw (Nat.le_refl 0) (Nat.le_refl 0) rfl d_M_count_264
set_option maxRecDepth 4000 in
theorem t_M_count_234 (X : qX p s m args meth c D cy b adK adV prog_14_method_115_code "CoatHangersModel" 4 (some .int) "count") (N : Nat) (x0 : Nat) (z0 : Int32) (h : qH) (Q : Int32 → qH → Prop)  (hw : w_M_count_234 N x0 z0 h Q ) : qW p l e (qrm 5 0 0 109) s m args below meth c D cy b 4 0 0 (MQ below (qQc D cy b qrI Q) args s 0 0 (qA b)) 234 [(0, .inr (.inr (.inl x0)))] [.int z0] h := by
  unfold w_M_count_234 at hw
  refine qx_aload_n (x := x0) X d_M_count_234 rfl 0 rfl ?_
  obtain ⟨g1, hw⟩ := hw
  refine qx_getR X qcls12 g1 69 (by decide) rfl wf_M_158 d_M_count_235 ?_
  refine qx_iconst (v := (1 : Int32)) X d_M_count_238 (by decide) ?_
  obtain ⟨g2, hw⟩ := hw
  refine qx_zld X g2 d_M_count_239 ?_
  refine qx_if_eq X 247 d_M_count_240 (by decide) (fun q3 => ?_) (fun q3 => ?_)
  · have hw := hw.1 q3
    refine qx_iconst (v := (0 : Int32)) X d_M_count_247 (by decide) ?_
    exact t_M_count_248 X N x0 (0 : Int32) z0 h Q  hw 
  · have hw := hw.2 q3
    refine qx_iconst (v := (1 : Int32)) X d_M_count_243 (by decide) ?_
    refine qx_goto X 248 d_M_count_244 (by decide) ?_
    exact t_M_count_248 X N x0 (1 : Int32) z0 h Q  hw 
set_option maxRecDepth 4000 in
theorem t_M_count_285 (X : qX p s m args meth c D cy b adK adV prog_14_method_115_code "CoatHangersModel" 4 (some .int) "count") (N k : Nat) (x0 : Nat) (x2 : Int32) (x3 : Int32) (h : qH) (Q : Int32 → qH → Prop)  (hw : w_M_count_285 N k x0 x2 x3 h Q ) : qW p l e (qrm 5 0 0 109) s m args below meth c D cy b 4 0 0 (MQ below (qQc D cy b qrI Q) args s 0 0 (qA b)) 285 [(0, .inr (.inr (.inl x0))), (2, .inl x2), (3, .inl x3)] [] h := by
  induction k generalizing x0 x2 x3 h with
  | zero => exact hw.elim
  | succ k ih =>
    refine qx_iload_n (x := x3) X d_M_count_285 rfl 2 rfl ?_
    refine qx_iconst (v := (5 : Int32)) X d_M_count_286 (by decide) ?_
    refine qx_icmp_ge X 311 d_M_count_287 (by decide) (fun q1 => ?_) (fun q1 => ?_)
    · have hw := hw.1 q1
      refine qx_iload_n (x := x2) X d_M_count_311 rfl 1 rfl ?_
      exact qx_iret X hw (Nat.le_refl 0) (Nat.le_refl 0) rfl d_M_count_312
    · have hw := hw.2 q1
      refine qx_aload_n (x := x0) X d_M_count_290 rfl 0 rfl ?_
      refine qx_iload_n (x := x3) X d_M_count_291 rfl 2 rfl ?_
      obtain ⟨g2, hw⟩ := hw
      refine qx_callVI (st := []) (As := [.int x3]) X (t_M_manyOn (adK := adK) (adV := adV) l D cy b N x0 x3 h _ hw) qm_M_manyOn wm_M_354 wi_M_manyOn wl_M_manyOn qcls12 g2 rfl rfl rfl ⟨Nat.le_of_ble_eq_true rfl, Nat.le_of_ble_eq_true rfl⟩ ⟨Nat.le_refl 0, Nat.le_refl 0⟩ (Nat.le_of_ble_eq_true rfl) rfl d_M_count_292 (fun r3 h4 hw => ?_)
      refine qx_iconst (v := (1 : Int32)) X d_M_count_295 (by decide) ?_
      refine qx_icmp_le X 305 d_M_count_296 (by decide) (fun q5 => ?_) (fun q5 => ?_)
      · have hw := hw.1 q5
        refine qx_iinc (v := (x3 + (1 : Int32))) (L' := [(3, .inl (x3 + (1 : Int32))), (0, .inr (.inr (.inl x0))), (2, .inl x2)]) X d_M_count_305 2 rfl rfl (by decide) rfl ?_
        refine qx_goto X 285 d_M_count_308 (by decide) ?_
        refine qx_sub [1, 2, 0] rfl ?_
        exact ih x0 x2 (x3 + (1 : Int32)) h4 hw
      · have hw := hw.2 q5
        refine qx_iload_n (x := x2) X d_M_count_299 rfl 1 rfl ?_
        refine qx_iconst (v := (1 : Int32)) X d_M_count_300 (by decide) ?_
        refine qx_iload_n (x := x3) X d_M_count_301 rfl 2 rfl ?_
        refine qx_ishl X d_M_count_302 ?_
        refine qx_ior X d_M_count_303 ?_
        refine qx_topi (fun y6 ey6 => ?_)
        have hw := hw y6 ey6
        refine qx_istore_n (L' := [(2, .inl y6), (0, .inr (.inr (.inl x0))), (3, .inl x3)]) X d_M_count_304 rfl (by decide) rfl ?_
        refine qx_iinc (v := (x3 + (1 : Int32))) (L' := [(3, .inl (x3 + (1 : Int32))), (2, .inl y6), (0, .inr (.inr (.inl x0)))]) X d_M_count_305 2 rfl rfl (by decide) rfl ?_
        refine qx_goto X 285 d_M_count_308 (by decide) ?_
        refine qx_sub [2, 1, 0] rfl ?_
        exact ih x0 y6 (x3 + (1 : Int32)) h4 hw
set_option maxRecDepth 4000 in
theorem t_M_count {adK adV : Nat → Nat} (l : Launch) (D : va_G) (cy : Nat → ClassId) (b : Nat) (N : Nat) (x0 : Nat) (x1 : Int32) (h : qH) (Q : Int32 → qH → Prop) (hw : w_M_count N x0 x1 h Q) : Met l y_M_count (Cond.code y_M_count prog_14_method_115_code 4 (some .int) :: qT) (qrm 5 0 0 109) (qPc D cy b adK adV h [qr b x0, .int x1]) (qQc D cy b qrI Q) 0 0 (qA b) := by
  refine qmet (L0 := [(0, .inr (.inr (.inl x0))), (1, .inl x1)]) qm_M_count (plainFor_of_name (by decide)) [.inr (.inr (.inl x0)), .inl x1] rfl (Nat.le_of_ble_eq_true rfl) rfl (fun p e s m args below meth c X => ?_)
  unfold w_M_count at hw
  refine qx_aload_n (x := x0) X d_M_count_0 rfl 0 rfl ?_
  obtain ⟨g1, hw⟩ := hw
  refine qx_callVV (st := []) (As := []) X (t_M_copies (adK := adK) (adV := adV) l D cy b N x0 h _ hw) qm_M_copies wm_M_332 wi_M_copies wl_M_copies qcls12 g1 rfl rfl rfl ⟨Nat.le_of_ble_eq_true rfl, Nat.le_of_ble_eq_true rfl⟩ ⟨Nat.le_refl 0, Nat.le_refl 0⟩ (Nat.le_of_ble_eq_true rfl) rfl d_M_count_1 (fun h2 hw => ?_)
  refine qx_iconst (v := (0 : Int32)) X d_M_count_4 (by decide) ?_
  refine qx_istore_n (L' := [(2, .inl (0 : Int32)), (0, .inr (.inr (.inl x0))), (1, .inl x1)]) X d_M_count_5 rfl (by decide) rfl ?_
  refine qx_iload_n (x := x1) X d_M_count_6 rfl 2 rfl ?_
  by_cases q3 : x1 = (0 : Int32)
  · have hw := hw.1 q3
    refine qx_tableIn (off := (73)) X 80 d_M_count_7 (by rw [q3]; decide) (by rw [q3]; decide) (by rw [q3]; rfl) (by decide) ?_
    refine qx_aload_n (x := x0) X d_M_count_80 rfl 1 rfl ?_
    obtain ⟨g4, hw⟩ := hw
    refine qx_getR X qcls12 g4 23 (by decide) rfl wf_M_46 d_M_count_81 ?_
    refine qx_aload_n (x := x0) X d_M_count_84 rfl 1 rfl ?_
    refine qx_getI X qcls12 g4 18 (by decide) rfl wf_M_245 d_M_count_85 ?_
    obtain ⟨g5, hw⟩ := hw
    refine qx_ild X g5 d_M_count_88 ?_
    exact qx_iret X hw (Nat.le_refl 0) (Nat.le_refl 0) rfl d_M_count_89
  · have hw := hw.2 q3
    by_cases q6 : x1 = (1 : Int32)
    · have hw := hw.1 q6
      refine qx_tableIn (off := (83)) X 90 d_M_count_7 (by rw [q6]; decide) (by rw [q6]; decide) (by rw [q6]; rfl) (by decide) ?_
      refine qx_aload_n (x := x0) X d_M_count_90 rfl 1 rfl ?_
      obtain ⟨g7, hw⟩ := hw
      refine qx_getR X qcls12 g7 26 (by decide) rfl wf_M_55 d_M_count_91 ?_
      refine qx_aload_n (x := x0) X d_M_count_94 rfl 1 rfl ?_
      refine qx_getI X qcls12 g7 18 (by decide) rfl wf_M_245 d_M_count_95 ?_
      obtain ⟨g8, hw⟩ := hw
      refine qx_ild X g8 d_M_count_98 ?_
      exact qx_iret X hw (Nat.le_refl 0) (Nat.le_refl 0) rfl d_M_count_99
    · have hw := hw.2 q6
      by_cases q9 : x1 = (2 : Int32)
      · have hw := hw.1 q9
        refine qx_tableIn (off := (93)) X 100 d_M_count_7 (by rw [q9]; decide) (by rw [q9]; decide) (by rw [q9]; rfl) (by decide) ?_
        refine qx_aload_n (x := x0) X d_M_count_100 rfl 1 rfl ?_
        obtain ⟨g10, hw⟩ := hw
        refine qx_getR X qcls12 g10 50 (by decide) rfl wf_M_116 d_M_count_101 ?_
        refine qx_bipush (v := (31 : Int32)) X d_M_count_104 (by decide) ?_
        obtain ⟨g11, hw⟩ := hw
        refine qx_ild X g11 d_M_count_106 ?_
        exact qx_iret X hw (Nat.le_refl 0) (Nat.le_refl 0) rfl d_M_count_107
      · have hw := hw.2 q9
        by_cases q12 : x1 = (3 : Int32)
        · have hw := hw.1 q12
          refine qx_tableIn (off := (101)) X 108 d_M_count_7 (by rw [q12]; decide) (by rw [q12]; decide) (by rw [q12]; rfl) (by decide) ?_
          refine qx_iconst (v := (0 : Int32)) X d_M_count_108 (by decide) ?_
          refine qx_istore_n (L' := [(3, .inl (0 : Int32)), (2, .inl (0 : Int32)), (0, .inr (.inr (.inl x0))), (1, .inl x1)]) X d_M_count_109 rfl (by decide) rfl ?_
          refine qx_sub [2, 1, 0] rfl ?_
          exact t_M_count_110 X N N x0 (0 : Int32) (0 : Int32) h2 Q  hw 
        · have hw := hw.2 q12
          by_cases q13 : x1 = (4 : Int32)
          · have hw := hw.1 q13
            refine qx_tableIn (off := (138)) X 145 d_M_count_7 (by rw [q13]; decide) (by rw [q13]; decide) (by rw [q13]; rfl) (by decide) ?_
            refine qx_iconst (v := (0 : Int32)) X d_M_count_145 (by decide) ?_
            refine qx_istore_n (L' := [(3, .inl (0 : Int32)), (2, .inl (0 : Int32)), (0, .inr (.inr (.inl x0))), (1, .inl x1)]) X d_M_count_146 rfl (by decide) rfl ?_
            refine qx_sub [2, 1, 0] rfl ?_
            exact t_M_count_147 X N N x0 (0 : Int32) (0 : Int32) h2 Q  hw 
          · have hw := hw.2 q13
            by_cases q14 : x1 = (5 : Int32)
            · have hw := hw.1 q14
              refine qx_tableIn (off := (175)) X 182 d_M_count_7 (by rw [q14]; decide) (by rw [q14]; decide) (by rw [q14]; rfl) (by decide) ?_
              refine qx_aload_n (x := x0) X d_M_count_182 rfl 1 rfl ?_
              obtain ⟨g15, hw⟩ := hw
              refine qx_callVI (st := []) (As := []) X (t_M_ownBits (adK := adK) (adV := adV) l D cy b N x0 h2 _ hw) qm_M_ownBits wm_M_448 wi_M_ownBits wl_M_ownBits qcls12 g15 rfl rfl rfl ⟨Nat.le_of_ble_eq_true rfl, Nat.le_of_ble_eq_true rfl⟩ ⟨Nat.le_refl 0, Nat.le_refl 0⟩ (Nat.le_of_ble_eq_true rfl) rfl d_M_count_183 (fun r16 h17 hw => ?_)
              exact qx_iret X hw (Nat.le_refl 0) (Nat.le_refl 0) rfl d_M_count_186
            · have hw := hw.2 q14
              by_cases q18 : x1 = (6 : Int32)
              · have hw := hw.1 q18
                refine qx_tableIn (off := (180)) X 187 d_M_count_7 (by rw [q18]; decide) (by rw [q18]; decide) (by rw [q18]; rfl) (by decide) ?_
                refine qx_aload_n (x := x0) X d_M_count_187 rfl 1 rfl ?_
                refine qx_bipush (v := (18 : Int32)) X d_M_count_188 (by decide) ?_
                refine qx_bipush (v := (6 : Int32)) X d_M_count_190 (by decide) ?_
                obtain ⟨g19, hw⟩ := hw
                refine qx_callVI (st := []) (As := [.int (18 : Int32), .int (6 : Int32)]) X (t_M_sumNow (adK := adK) (adV := adV) l D cy b N x0 (18 : Int32) (6 : Int32) h2 _ hw) qm_M_sumNow wm_M_463 wi_M_sumNow wl_M_sumNow qcls12 g19 rfl rfl rfl ⟨Nat.le_of_ble_eq_true rfl, Nat.le_of_ble_eq_true rfl⟩ ⟨Nat.le_refl 0, Nat.le_refl 0⟩ (Nat.le_of_ble_eq_true rfl) rfl d_M_count_192 (fun r20 h21 hw => ?_)
                exact qx_iret X hw (Nat.le_refl 0) (Nat.le_refl 0) rfl d_M_count_195
              · have hw := hw.2 q18
                by_cases q22 : x1 = (7 : Int32)
                · have hw := hw.1 q22
                  refine qx_tableIn (off := (189)) X 196 d_M_count_7 (by rw [q22]; decide) (by rw [q22]; decide) (by rw [q22]; rfl) (by decide) ?_
                  refine qx_aload_n (x := x0) X d_M_count_196 rfl 1 rfl ?_
                  refine qx_bipush (v := (24 : Int32)) X d_M_count_197 (by decide) ?_
                  refine qx_bipush (v := (7 : Int32)) X d_M_count_199 (by decide) ?_
                  obtain ⟨g23, hw⟩ := hw
                  refine qx_callVI (st := []) (As := [.int (24 : Int32), .int (7 : Int32)]) X (t_M_sumNow (adK := adK) (adV := adV) l D cy b N x0 (24 : Int32) (7 : Int32) h2 _ hw) qm_M_sumNow wm_M_463 wi_M_sumNow wl_M_sumNow qcls12 g23 rfl rfl rfl ⟨Nat.le_of_ble_eq_true rfl, Nat.le_of_ble_eq_true rfl⟩ ⟨Nat.le_refl 0, Nat.le_refl 0⟩ (Nat.le_of_ble_eq_true rfl) rfl d_M_count_201 (fun r24 h25 hw => ?_)
                  exact qx_iret X hw (Nat.le_refl 0) (Nat.le_refl 0) rfl d_M_count_204
                · have hw := hw.2 q22
                  by_cases q26 : x1 = (8 : Int32)
                  · have hw := hw.1 q26
                    refine qx_tableIn (off := (198)) X 205 d_M_count_7 (by rw [q26]; decide) (by rw [q26]; decide) (by rw [q26]; rfl) (by decide) ?_
                    refine qx_aload_n (x := x0) X d_M_count_205 rfl 1 rfl ?_
                    obtain ⟨g27, hw⟩ := hw
                    refine qx_getI X qcls12 g27 2 (by decide) rfl wf_M_178 d_M_count_206 ?_
                    exact qx_iret X hw (Nat.le_refl 0) (Nat.le_refl 0) rfl d_M_count_209
                  · have hw := hw.2 q26
                    by_cases q28 : x1 = (9 : Int32)
                    · have hw := hw.1 q28
                      refine qx_tableIn (off := (203)) X 210 d_M_count_7 (by rw [q28]; decide) (by rw [q28]; decide) (by rw [q28]; rfl) (by decide) ?_
                      refine qx_aload_n (x := x0) X d_M_count_210 rfl 1 rfl ?_
                      obtain ⟨g29, hw⟩ := hw
                      refine qx_getI X qcls12 g29 57 (by decide) rfl wf_M_263 d_M_count_211 ?_
                      exact qx_iret X hw (Nat.le_refl 0) (Nat.le_refl 0) rfl d_M_count_214
                    · have hw := hw.2 q28
                      by_cases q30 : x1 = (10 : Int32)
                      · have hw := hw.1 q30
                        refine qx_tableIn (off := (208)) X 215 d_M_count_7 (by rw [q30]; decide) (by rw [q30]; decide) (by rw [q30]; rfl) (by decide) ?_
                        refine qx_aload_n (x := x0) X d_M_count_215 rfl 1 rfl ?_
                        obtain ⟨g31, hw⟩ := hw
                        refine qx_getI X qcls12 g31 63 (by decide) rfl wf_M_266 d_M_count_216 ?_
                        exact qx_iret X hw (Nat.le_refl 0) (Nat.le_refl 0) rfl d_M_count_219
                      · have hw := hw.2 q30
                        by_cases q32 : x1 = (11 : Int32)
                        · have hw := hw.1 q32
                          refine qx_tableIn (off := (213)) X 220 d_M_count_7 (by rw [q32]; decide) (by rw [q32]; decide) (by rw [q32]; rfl) (by decide) ?_
                          refine qx_aload_n (x := x0) X d_M_count_220 rfl 1 rfl ?_
                          obtain ⟨g33, hw⟩ := hw
                          refine qx_getR X qcls12 g33 69 (by decide) rfl wf_M_158 d_M_count_221 ?_
                          refine qx_iconst (v := (0 : Int32)) X d_M_count_224 (by decide) ?_
                          obtain ⟨g34, hw⟩ := hw
                          refine qx_zld X g34 d_M_count_225 ?_
                          refine qx_if_eq X 233 d_M_count_226 (by decide) (fun q35 => ?_) (fun q35 => ?_)
                          · have hw := hw.1 q35
                            refine qx_iconst (v := (0 : Int32)) X d_M_count_233 (by decide) ?_
                            refine qx_sub [1] rfl ?_
                            exact t_M_count_234 X N x0 (0 : Int32) h2 Q  hw 
                          · have hw := hw.2 q35
                            refine qx_iconst (v := (1 : Int32)) X d_M_count_229 (by decide) ?_
                            refine qx_goto X 234 d_M_count_230 (by decide) ?_
                            refine qx_sub [1] rfl ?_
                            exact t_M_count_234 X N x0 (1 : Int32) h2 Q  hw 
                        · have hw := hw.2 q32
                          by_cases q36 : x1 = (12 : Int32)
                          · have hw := hw.1 q36
                            refine qx_tableIn (off := (258)) X 265 d_M_count_7 (by rw [q36]; decide) (by rw [q36]; decide) (by rw [q36]; rfl) (by decide) ?_
                            refine qx_aload_n (x := x0) X d_M_count_265 rfl 1 rfl ?_
                            obtain ⟨g37, hw⟩ := hw
                            refine qx_callVI (st := []) (As := []) X (t_M_isMoth (adK := adK) (adV := adV) l D cy b N x0 h2 _ hw) qm_M_isMoth wm_M_379 wi_M_isMoth wl_M_isMoth qcls12 g37 rfl rfl rfl ⟨Nat.le_of_ble_eq_true rfl, Nat.le_of_ble_eq_true rfl⟩ ⟨Nat.le_refl 0, Nat.le_refl 0⟩ (Nat.le_of_ble_eq_true rfl) rfl d_M_count_266 (fun r38 h39 hw => ?_)
                            refine qx_if_eq X 276 d_M_count_269 (by decide) (fun q40 => ?_) (fun q40 => ?_)
                            · have hw := hw.1 q40
                              refine qx_iconst (v := (0 : Int32)) X d_M_count_276 (by decide) ?_
                              exact qx_iret X hw (Nat.le_refl 0) (Nat.le_refl 0) rfl d_M_count_277
                            · have hw := hw.2 q40
                              refine qx_iconst (v := (1 : Int32)) X d_M_count_272 (by decide) ?_
                              refine qx_goto X 277 d_M_count_273 (by decide) ?_
                              exact qx_iret X hw (Nat.le_refl 0) (Nat.le_refl 0) rfl d_M_count_277
                          · have hw := hw.2 q36
                            by_cases q41 : x1 = (13 : Int32)
                            · have hw := hw.1 q41
                              refine qx_tableIn (off := (271)) X 278 d_M_count_7 (by rw [q41]; decide) (by rw [q41]; decide) (by rw [q41]; rfl) (by decide) ?_
                              refine qx_aload_n (x := x0) X d_M_count_278 rfl 1 rfl ?_
                              obtain ⟨g42, hw⟩ := hw
                              refine qx_callVI (st := []) (As := []) X (t_M_costsAll (adK := adK) (adV := adV) l D cy b N x0 h2 _ hw) qm_M_costsAll wm_M_454 wi_M_costsAll wl_M_costsAll qcls12 g42 rfl rfl rfl ⟨Nat.le_of_ble_eq_true rfl, Nat.le_of_ble_eq_true rfl⟩ ⟨Nat.le_refl 0, Nat.le_refl 0⟩ (Nat.le_of_ble_eq_true rfl) rfl d_M_count_279 (fun r43 h44 hw => ?_)
                              exact qx_iret X hw (Nat.le_refl 0) (Nat.le_refl 0) rfl d_M_count_282
                            · have hw := hw.2 q41
                              by_cases q45 : x1 = (14 : Int32)
                              · have hw := hw.1 q45
                                refine qx_tableIn (off := (276)) X 283 d_M_count_7 (by rw [q45]; decide) (by rw [q45]; decide) (by rw [q45]; rfl) (by decide) ?_
                                refine qx_iconst (v := (0 : Int32)) X d_M_count_283 (by decide) ?_
                                refine qx_istore_n (L' := [(3, .inl (0 : Int32)), (2, .inl (0 : Int32)), (0, .inr (.inr (.inl x0))), (1, .inl x1)]) X d_M_count_284 rfl (by decide) rfl ?_
                                refine qx_sub [2, 1, 0] rfl ?_
                                exact t_M_count_285 X N N x0 (0 : Int32) (0 : Int32) h2 Q  hw 
                              · have hw := hw.2 q45
                                have gx : x1.toInt < 0 ∨ 14 < x1.toInt := by
                                  have nq3 : x1.toInt ≠ 0 := fun z => q3 (Int32.toInt_inj.mp z)
                                  have nq6 : x1.toInt ≠ 1 := fun z => q6 (Int32.toInt_inj.mp z)
                                  have nq9 : x1.toInt ≠ 2 := fun z => q9 (Int32.toInt_inj.mp z)
                                  have nq12 : x1.toInt ≠ 3 := fun z => q12 (Int32.toInt_inj.mp z)
                                  have nq13 : x1.toInt ≠ 4 := fun z => q13 (Int32.toInt_inj.mp z)
                                  have nq14 : x1.toInt ≠ 5 := fun z => q14 (Int32.toInt_inj.mp z)
                                  have nq18 : x1.toInt ≠ 6 := fun z => q18 (Int32.toInt_inj.mp z)
                                  have nq22 : x1.toInt ≠ 7 := fun z => q22 (Int32.toInt_inj.mp z)
                                  have nq26 : x1.toInt ≠ 8 := fun z => q26 (Int32.toInt_inj.mp z)
                                  have nq28 : x1.toInt ≠ 9 := fun z => q28 (Int32.toInt_inj.mp z)
                                  have nq30 : x1.toInt ≠ 10 := fun z => q30 (Int32.toInt_inj.mp z)
                                  have nq32 : x1.toInt ≠ 11 := fun z => q32 (Int32.toInt_inj.mp z)
                                  have nq36 : x1.toInt ≠ 12 := fun z => q36 (Int32.toInt_inj.mp z)
                                  have nq41 : x1.toInt ≠ 13 := fun z => q41 (Int32.toInt_inj.mp z)
                                  have nq45 : x1.toInt ≠ 14 := fun z => q45 (Int32.toInt_inj.mp z)
                                  omega
                                refine qx_tableOut X 313 d_M_count_7 gx (by decide) ?_
                                refine qx_iconst (v := (-1 : Int32)) X d_M_count_313 (by decide) ?_
                                exact qx_iret X hw (Nat.le_refl 0) (Nat.le_refl 0) rfl d_M_count_314
end QG
