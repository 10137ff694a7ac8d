/-! bitCount, floorMod: written by wip/whole/emit.py out of the bytecode -/
def y_Integer_bitCount : MethodName := ⟨"java/lang/Integer", "bitCount", "(I)I"⟩
theorem qm_Integer_bitCount : qMt y_Integer_bitCount prog_16_method_49_code 1 (some .int) 1 := ⟨qT_5 (i := 13) (by decide +kernel) rfl, qT_1 (i := 21) (by decide +kernel) rfl, by decide, by decide, by decide +kernel⟩
theorem wi_Integer_bitCount : Cond.static y_Integer_bitCount ∈ qT := qT_5 (i := 12) (by decide +kernel) rfl
def y_Math_floorMod : MethodName := ⟨"java/lang/Math", "floorMod", "(II)I"⟩
theorem qm_Math_floorMod : qMt y_Math_floorMod prog_17_method_50_code 3 (some .int) 2 := ⟨qT_5 (i := 32) (by decide +kernel) rfl, qT_1 (i := 18) (by decide +kernel) rfl, by decide, by decide, by decide +kernel⟩
theorem wi_Math_floorMod : Cond.static y_Math_floorMod ∈ qT := qT_5 (i := 31) (by decide +kernel) rfl
def y_String_isLatin1 : MethodName := ⟨"java/lang/String", "isLatin1", "()Z"⟩
theorem qm_String_isLatin1 : qMt y_String_isLatin1 prog_18_method_154_code 1 (some .boolean) 0 := ⟨qT_1 (i := 54) (by decide +kernel) rfl, qT_1 (i := 3) (by decide +kernel) rfl, by decide, by decide, by decide +kernel⟩
theorem wi_String_isLatin1 : Cond.instanceMethod y_String_isLatin1 ∈ qT := qT_1 (i := 52) (by decide +kernel) rfl
theorem wl_String_isLatin1 : Cond.selects y_String_isLatin1.cls y_String_isLatin1 y_String_isLatin1 ∈ qT := qT_1 (i := 53) (by decide +kernel) rfl
def y_String_coder : MethodName := ⟨"java/lang/String", "coder", "()B"⟩
theorem qm_String_coder : qMt y_String_coder prog_18_method_152_code 1 (some .byte) 0 := ⟨qT_1 (i := 44) (by decide +kernel) rfl, qT_1 (i := 3) (by decide +kernel) rfl, by decide, by decide, by decide +kernel⟩
theorem wi_String_coder : Cond.instanceMethod y_String_coder ∈ qT := qT_1 (i := 42) (by decide +kernel) rfl
theorem wl_String_coder : Cond.selects y_String_coder.cls y_String_coder y_String_coder ∈ qT := qT_1 (i := 43) (by decide +kernel) rfl
def y_String_length : MethodName := ⟨"java/lang/String", "length", "()I"⟩
theorem qm_String_length : qMt y_String_length prog_18_method_54_code 1 (some .int) 0 := ⟨qT_1 (i := 40) (by decide +kernel) rfl, qT_1 (i := 3) (by decide +kernel) rfl, by decide, by decide, by decide +kernel⟩
theorem wi_String_length : Cond.instanceMethod y_String_length ∈ qT := qT_1 (i := 38) (by decide +kernel) rfl
theorem wl_String_length : Cond.selects y_String_length.cls y_String_length y_String_length ∈ qT := qT_1 (i := 39) (by decide +kernel) rfl
def y_Latin1_canEncode : MethodName := ⟨"java/lang/StringLatin1", "canEncode", "(I)Z"⟩
theorem qm_Latin1_canEncode : qMt y_Latin1_canEncode prog_19_method_4_code 1 (some .boolean) 1 := ⟨qT_3 (i := 92) (by decide +kernel) rfl, qT_1 (i := 4) (by decide +kernel) rfl, by decide, by decide, by decide +kernel⟩
theorem wi_Latin1_canEncode : Cond.static y_Latin1_canEncode ∈ qT := qT_3 (i := 91) (by decide +kernel) rfl
def y_Latin1_indexOfChar : MethodName := ⟨"java/lang/StringLatin1", "indexOfChar", "([BIII)I"⟩
theorem qm_Latin1_indexOfChar : qMt y_Latin1_indexOfChar prog_19_method_23_code 6 (some .int) 4 := ⟨qT_3 (i := 101) (by decide +kernel) rfl, qT_1 (i := 4) (by decide +kernel) rfl, by decide, by decide, by decide +kernel⟩
theorem wi_Latin1_indexOfChar : Cond.static y_Latin1_indexOfChar ∈ qT := qT_3 (i := 100) (by decide +kernel) rfl
def y_Latin1_indexOf : MethodName := ⟨"java/lang/StringLatin1", "indexOf", "([BIII)I"⟩
theorem qm_Latin1_indexOf : qMt y_Latin1_indexOf prog_19_method_22_code 4 (some .int) 4 := ⟨qT_3 (i := 89) (by decide +kernel) rfl, qT_1 (i := 4) (by decide +kernel) rfl, by decide, by decide, by decide +kernel⟩
theorem wi_Latin1_indexOf : Cond.static y_Latin1_indexOf ∈ qT := qT_3 (i := 88) (by decide +kernel) rfl
def y_String_indexOf_II_I : MethodName := ⟨"java/lang/String", "indexOf", "(II)I"⟩
theorem qm_String_indexOf_II_I : qMt y_String_indexOf_II_I prog_18_method_80_code 3 (some .int) 2 := ⟨qT_3 (i := 85) (by decide +kernel) rfl, qT_1 (i := 3) (by decide +kernel) rfl, by decide, by decide, by decide +kernel⟩
theorem wi_String_indexOf_II_I : Cond.instanceMethod y_String_indexOf_II_I ∈ qT := qT_3 (i := 83) (by decide +kernel) rfl
theorem wl_String_indexOf_II_I : Cond.selects y_String_indexOf_II_I.cls y_String_indexOf_II_I y_String_indexOf_II_I ∈ qT := qT_3 (i := 84) (by decide +kernel) rfl
def y_String_indexOf_I_I : MethodName := ⟨"java/lang/String", "indexOf", "(I)I"⟩
theorem qm_String_indexOf_I_I : qMt y_String_indexOf_I_I prog_18_method_79_code 2 (some .int) 1 := ⟨qT_3 (i := 81) (by decide +kernel) rfl, qT_1 (i := 3) (by decide +kernel) rfl, by decide, by decide, by decide +kernel⟩
theorem wi_String_indexOf_I_I : Cond.instanceMethod y_String_indexOf_I_I ∈ qT := qT_3 (i := 79) (by decide +kernel) rfl
theorem wl_String_indexOf_I_I : Cond.selects y_String_indexOf_I_I.cls y_String_indexOf_I_I y_String_indexOf_I_I ∈ qT := qT_3 (i := 80) (by decide +kernel) rfl
def y_Precond_checkIndex : MethodName := ⟨"jdk/internal/util/Preconditions", "checkIndex", "(IILjava/util/function/BiFunction;)I"⟩
theorem qm_Precond_checkIndex : qMt y_Precond_checkIndex prog_22_method_11_code 3 (some .int) 3 := ⟨qT_1 (i := 65) (by decide +kernel) rfl, qT_1 (i := 5) (by decide +kernel) rfl, by decide, by decide, by decide +kernel⟩
theorem wi_Precond_checkIndex : Cond.static y_Precond_checkIndex ∈ qT := qT_1 (i := 64) (by decide +kernel) rfl
def y_String_checkIndex : MethodName := ⟨"java/lang/String", "checkIndex", "(II)V"⟩
theorem qm_String_checkIndex : qMt y_String_checkIndex prog_18_method_155_code 2 (none) 2 := ⟨qT_1 (i := 60) (by decide +kernel) rfl, qT_1 (i := 3) (by decide +kernel) rfl, by decide, by decide, by decide +kernel⟩
theorem wi_String_checkIndex : Cond.static y_String_checkIndex ∈ qT := qT_1 (i := 59) (by decide +kernel) rfl
def y_Latin1_charAt : MethodName := ⟨"java/lang/StringLatin1", "charAt", "([BI)C"⟩
theorem qm_Latin1_charAt : qMt y_Latin1_charAt prog_19_method_2_code 2 (some .char) 2 := ⟨qT_1 (i := 57) (by decide +kernel) rfl, qT_1 (i := 4) (by decide +kernel) rfl, by decide, by decide, by decide +kernel⟩
theorem wi_Latin1_charAt : Cond.static y_Latin1_charAt ∈ qT := qT_1 (i := 56) (by decide +kernel) rfl
def y_String_charAt : MethodName := ⟨"java/lang/String", "charAt", "(I)C"⟩
theorem qm_String_charAt : qMt y_String_charAt prog_18_method_56_code 2 (some .char) 1 := ⟨qT_1 (i := 50) (by decide +kernel) rfl, qT_1 (i := 3) (by decide +kernel) rfl, by decide, by decide, by decide +kernel⟩
theorem wi_String_charAt : Cond.instanceMethod y_String_charAt ∈ qT := qT_1 (i := 48) (by decide +kernel) rfl
theorem wl_String_charAt : Cond.selects y_String_charAt.cls y_String_charAt y_String_charAt ∈ qT := qT_1 (i := 49) (by decide +kernel) rfl
theorem wk_Integer_265 : Cond.constant "java/lang/Integer" 265 (1431655765 : Int32) ∈ qT := qT_5 (i := 14) (by decide +kernel) rfl
theorem wk_Integer_266 : Cond.constant "java/lang/Integer" 266 (858993459 : Int32) ∈ qT := qT_5 (i := 15) (by decide +kernel) rfl
theorem wk_Integer_267 : Cond.constant "java/lang/Integer" 267 (252645135 : Int32) ∈ qT := qT_5 (i := 16) (by decide +kernel) rfl
theorem wf_String_38 : Cond.fieldLink "java/lang/String" 38 "java/lang/String" "COMPACT_STRINGS" "Z" ∈ qT := qT_1 (i := 45) (by decide +kernel) rfl
theorem wf_String_15 : Cond.fieldLink "java/lang/String" 15 "java/lang/String" "coder" "B" ∈ qT := qT_8 (i := 205) (by decide +kernel) rfl
theorem wf_String_9 : Cond.fieldLink "java/lang/String" 9 "java/lang/String" "value" "[B" ∈ qT := qT_8 (i := 204) (by decide +kernel) rfl
theorem wm_String_335 : Cond.methodLink "java/lang/String" 335 y_String_coder ∈ qT := qT_1 (i := 41) (by decide +kernel) rfl
theorem wm_Latin1_88 : Cond.methodLink "java/lang/StringLatin1" 88 y_Latin1_canEncode ∈ qT := qT_3 (i := 90) (by decide +kernel) rfl
theorem wm_Latin1_92 : Cond.methodLink "java/lang/StringLatin1" 92 Lib.Math.max.name ∈ qT := qT_3 (i := 93) (by decide +kernel) rfl
theorem wm_Latin1_38 : Cond.methodLink "java/lang/StringLatin1" 38 Lib.Math.min.name ∈ qT := qT_3 (i := 96) (by decide +kernel) rfl
theorem wm_Latin1_95 : Cond.methodLink "java/lang/StringLatin1" 95 y_Latin1_indexOfChar ∈ qT := qT_3 (i := 99) (by decide +kernel) rfl
theorem wm_String_492 : Cond.methodLink "java/lang/String" 492 y_String_isLatin1 ∈ qT := qT_1 (i := 51) (by decide +kernel) rfl
theorem wm_String_505 : Cond.methodLink "java/lang/String" 505 y_String_length ∈ qT := qT_3 (i := 86) (by decide +kernel) rfl
theorem wm_String_637 : Cond.methodLink "java/lang/String" 637 y_Latin1_indexOf ∈ qT := qT_3 (i := 87) (by decide +kernel) rfl
theorem wm_String_633 : Cond.methodLink "java/lang/String" 633 y_String_indexOf_II_I ∈ qT := qT_3 (i := 82) (by decide +kernel) rfl
theorem wf_String_1053 : Cond.fieldLink "java/lang/String" 1053 "jdk/internal/util/Preconditions" "SIOOBE_FORMATTER" "Ljava/util/function/BiFunction;" ∈ qT := qT_1 (i := 61) (by decide +kernel) rfl
theorem wm_String_1059 : Cond.methodLink "java/lang/String" 1059 y_Precond_checkIndex ∈ qT := qT_1 (i := 63) (by decide +kernel) rfl
theorem wm_Latin1_9 : Cond.methodLink "java/lang/StringLatin1" 9 y_String_checkIndex ∈ qT := qT_1 (i := 58) (by decide +kernel) rfl
theorem wm_String_495 : Cond.methodLink "java/lang/String" 495 y_Latin1_charAt ∈ qT := qT_1 (i := 55) (by decide +kernel) rfl
theorem d_Integer_bitCount_0 : decode prog_16_method_49_code 0 = .ok (.iload_n 0, 1) := by decide +kernel
theorem d_Integer_bitCount_1 : decode prog_16_method_49_code 1 = .ok (.iload_n 0, 1) := by decide +kernel
theorem d_Integer_bitCount_2 : decode prog_16_method_49_code 2 = .ok (.iconst 1, 1) := by decide +kernel
theorem d_Integer_bitCount_3 : decode prog_16_method_49_code 3 = .ok (.iushr, 1) := by decide +kernel
theorem d_Integer_bitCount_4 : decode prog_16_method_49_code 4 = .ok (.ldc_w 265, 3) := by decide +kernel
theorem d_Integer_bitCount_7 : decode prog_16_method_49_code 7 = .ok (.iand, 1) := by decide +kernel
theorem d_Integer_bitCount_8 : decode prog_16_method_49_code 8 = .ok (.isub, 1) := by decide +kernel
theorem d_Integer_bitCount_9 : decode prog_16_method_49_code 9 = .ok (.istore_n 0, 1) := by decide +kernel
theorem d_Integer_bitCount_10 : decode prog_16_method_49_code 10 = .ok (.iload_n 0, 1) := by decide +kernel
theorem d_Integer_bitCount_11 : decode prog_16_method_49_code 11 = .ok (.ldc_w 266, 3) := by decide +kernel
theorem d_Integer_bitCount_14 : decode prog_16_method_49_code 14 = .ok (.iand, 1) := by decide +kernel
theorem d_Integer_bitCount_15 : decode prog_16_method_49_code 15 = .ok (.iload_n 0, 1) := by decide +kernel
theorem d_Integer_bitCount_16 : decode prog_16_method_49_code 16 = .ok (.iconst 2, 1) := by decide +kernel
theorem d_Integer_bitCount_17 : decode prog_16_method_49_code 17 = .ok (.iushr, 1) := by decide +kernel
theorem d_Integer_bitCount_18 : decode prog_16_method_49_code 18 = .ok (.ldc_w 266, 3) := by decide +kernel
theorem d_Integer_bitCount_21 : decode prog_16_method_49_code 21 = .ok (.iand, 1) := by decide +kernel
theorem d_Integer_bitCount_22 : decode prog_16_method_49_code 22 = .ok (.iadd, 1) := by decide +kernel
theorem d_Integer_bitCount_23 : decode prog_16_method_49_code 23 = .ok (.istore_n 0, 1) := by decide +kernel
theorem d_Integer_bitCount_24 : decode prog_16_method_49_code 24 = .ok (.iload_n 0, 1) := by decide +kernel
theorem d_Integer_bitCount_25 : decode prog_16_method_49_code 25 = .ok (.iload_n 0, 1) := by decide +kernel
theorem d_Integer_bitCount_26 : decode prog_16_method_49_code 26 = .ok (.iconst 4, 1) := by decide +kernel
theorem d_Integer_bitCount_27 : decode prog_16_method_49_code 27 = .ok (.iushr, 1) := by decide +kernel
theorem d_Integer_bitCount_28 : decode prog_16_method_49_code 28 = .ok (.iadd, 1) := by decide +kernel
theorem d_Integer_bitCount_29 : decode prog_16_method_49_code 29 = .ok (.ldc_w 267, 3) := by decide +kernel
theorem d_Integer_bitCount_32 : decode prog_16_method_49_code 32 = .ok (.iand, 1) := by decide +kernel
theorem d_Integer_bitCount_33 : decode prog_16_method_49_code 33 = .ok (.istore_n 0, 1) := by decide +kernel
theorem d_Integer_bitCount_34 : decode prog_16_method_49_code 34 = .ok (.iload_n 0, 1) := by decide +kernel
theorem d_Integer_bitCount_35 : decode prog_16_method_49_code 35 = .ok (.iload_n 0, 1) := by decide +kernel
theorem d_Integer_bitCount_36 : decode prog_16_method_49_code 36 = .ok (.bipush 8, 2) := by decide +kernel
theorem d_Integer_bitCount_38 : decode prog_16_method_49_code 38 = .ok (.iushr, 1) := by decide +kernel
theorem d_Integer_bitCount_39 : decode prog_16_method_49_code 39 = .ok (.iadd, 1) := by decide +kernel
theorem d_Integer_bitCount_40 : decode prog_16_method_49_code 40 = .ok (.istore_n 0, 1) := by decide +kernel
theorem d_Integer_bitCount_41 : decode prog_16_method_49_code 41 = .ok (.iload_n 0, 1) := by decide +kernel
theorem d_Integer_bitCount_42 : decode prog_16_method_49_code 42 = .ok (.iload_n 0, 1) := by decide +kernel
theorem d_Integer_bitCount_43 : decode prog_16_method_49_code 43 = .ok (.bipush 16, 2) := by decide +kernel
theorem d_Integer_bitCount_45 : decode prog_16_method_49_code 45 = .ok (.iushr, 1) := by decide +kernel
theorem d_Integer_bitCount_46 : decode prog_16_method_49_code 46 = .ok (.iadd, 1) := by decide +kernel
theorem d_Integer_bitCount_47 : decode prog_16_method_49_code 47 = .ok (.istore_n 0, 1) := by decide +kernel
theorem d_Integer_bitCount_48 : decode prog_16_method_49_code 48 = .ok (.iload_n 0, 1) := by decide +kernel
theorem d_Integer_bitCount_49 : decode prog_16_method_49_code 49 = .ok (.bipush 63, 2) := by decide +kernel
theorem d_Integer_bitCount_51 : decode prog_16_method_49_code 51 = .ok (.iand, 1) := by decide +kernel
theorem d_Integer_bitCount_52 : decode prog_16_method_49_code 52 = .ok (.ireturn, 1) := by decide +kernel
theorem d_Math_floorMod_0 : decode prog_17_method_50_code 0 = .ok (.iload_n 0, 1) := by decide +kernel
theorem d_Math_floorMod_1 : decode prog_17_method_50_code 1 = .ok (.iload_n 1, 1) := by decide +kernel
theorem d_Math_floorMod_2 : decode prog_17_method_50_code 2 = .ok (.irem, 1) := by decide +kernel
theorem d_Math_floorMod_3 : decode prog_17_method_50_code 3 = .ok (.istore_n 2, 1) := by decide +kernel
theorem d_Math_floorMod_4 : decode prog_17_method_50_code 4 = .ok (.iload_n 0, 1) := by decide +kernel
theorem d_Math_floorMod_5 : decode prog_17_method_50_code 5 = .ok (.iload_n 1, 1) := by decide +kernel
theorem d_Math_floorMod_6 : decode prog_17_method_50_code 6 = .ok (.ixor, 1) := by decide +kernel
theorem d_Math_floorMod_7 : decode prog_17_method_50_code 7 = .ok (.ifCond .ge 11, 3) := by decide +kernel
theorem d_Math_floorMod_10 : decode prog_17_method_50_code 10 = .ok (.iload_n 2, 1) := by decide +kernel
theorem d_Math_floorMod_11 : decode prog_17_method_50_code 11 = .ok (.ifCond .eq 7, 3) := by decide +kernel
theorem d_Math_floorMod_14 : decode prog_17_method_50_code 14 = .ok (.iload_n 2, 1) := by decide +kernel
theorem d_Math_floorMod_15 : decode prog_17_method_50_code 15 = .ok (.iload_n 1, 1) := by decide +kernel
theorem d_Math_floorMod_16 : decode prog_17_method_50_code 16 = .ok (.iadd, 1) := by decide +kernel
theorem d_Math_floorMod_17 : decode prog_17_method_50_code 17 = .ok (.ireturn, 1) := by decide +kernel
theorem d_Math_floorMod_18 : decode prog_17_method_50_code 18 = .ok (.iload_n 2, 1) := by decide +kernel
theorem d_Math_floorMod_19 : decode prog_17_method_50_code 19 = .ok (.ireturn, 1) := by decide +kernel
theorem d_String_isLatin1_0 : decode prog_18_method_154_code 0 = .ok (.getstatic 38, 3) := by decide +kernel
theorem d_String_isLatin1_3 : decode prog_18_method_154_code 3 = .ok (.ifCond .eq 14, 3) := by decide +kernel
theorem d_String_isLatin1_6 : decode prog_18_method_154_code 6 = .ok (.aload_n 0, 1) := by decide +kernel
theorem d_String_isLatin1_7 : decode prog_18_method_154_code 7 = .ok (.getfield 15, 3) := by decide +kernel
theorem d_String_isLatin1_10 : decode prog_18_method_154_code 10 = .ok (.ifCond .ne 7, 3) := by decide +kernel
theorem d_String_isLatin1_13 : decode prog_18_method_154_code 13 = .ok (.iconst 1, 1) := by decide +kernel
theorem d_String_isLatin1_14 : decode prog_18_method_154_code 14 = .ok (.goto 4, 3) := by decide +kernel
theorem d_String_isLatin1_17 : decode prog_18_method_154_code 17 = .ok (.iconst 0, 1) := by decide +kernel
theorem d_String_isLatin1_18 : decode prog_18_method_154_code 18 = .ok (.ireturn, 1) := by decide +kernel
theorem d_String_coder_0 : decode prog_18_method_152_code 0 = .ok (.getstatic 38, 3) := by decide +kernel
theorem d_String_coder_3 : decode prog_18_method_152_code 3 = .ok (.ifCond .eq 10, 3) := by decide +kernel
theorem d_String_coder_6 : decode prog_18_method_152_code 6 = .ok (.aload_n 0, 1) := by decide +kernel
theorem d_String_coder_7 : decode prog_18_method_152_code 7 = .ok (.getfield 15, 3) := by decide +kernel
theorem d_String_coder_10 : decode prog_18_method_152_code 10 = .ok (.goto 4, 3) := by decide +kernel
theorem d_String_coder_13 : decode prog_18_method_152_code 13 = .ok (.iconst 1, 1) := by decide +kernel
theorem d_String_coder_14 : decode prog_18_method_152_code 14 = .ok (.ireturn, 1) := by decide +kernel
theorem d_String_length_0 : decode prog_18_method_54_code 0 = .ok (.aload_n 0, 1) := by decide +kernel
theorem d_String_length_1 : decode prog_18_method_54_code 1 = .ok (.getfield 9, 3) := by decide +kernel
theorem d_String_length_4 : decode prog_18_method_54_code 4 = .ok (.arraylength, 1) := by decide +kernel
theorem d_String_length_5 : decode prog_18_method_54_code 5 = .ok (.aload_n 0, 1) := by decide +kernel
theorem d_String_length_6 : decode prog_18_method_54_code 6 = .ok (.invokevirtual 335, 3) := by decide +kernel
theorem d_String_length_9 : decode prog_18_method_54_code 9 = .ok (.ishr, 1) := by decide +kernel
theorem d_String_length_10 : decode prog_18_method_54_code 10 = .ok (.ireturn, 1) := by decide +kernel
theorem d_Latin1_canEncode_0 : decode prog_19_method_4_code 0 = .ok (.iload_n 0, 1) := by decide +kernel
theorem d_Latin1_canEncode_1 : decode prog_19_method_4_code 1 = .ok (.ifCond .lt 14, 3) := by decide +kernel
theorem d_Latin1_canEncode_4 : decode prog_19_method_4_code 4 = .ok (.iload_n 0, 1) := by decide +kernel
theorem d_Latin1_canEncode_5 : decode prog_19_method_4_code 5 = .ok (.sipush 255, 3) := by decide +kernel
theorem d_Latin1_canEncode_8 : decode prog_19_method_4_code 8 = .ok (.if_icmp .gt 7, 3) := by decide +kernel
theorem d_Latin1_canEncode_11 : decode prog_19_method_4_code 11 = .ok (.iconst 1, 1) := by decide +kernel
theorem d_Latin1_canEncode_12 : decode prog_19_method_4_code 12 = .ok (.goto 4, 3) := by decide +kernel
theorem d_Latin1_canEncode_15 : decode prog_19_method_4_code 15 = .ok (.iconst 0, 1) := by decide +kernel
theorem d_Latin1_canEncode_16 : decode prog_19_method_4_code 16 = .ok (.ireturn, 1) := by decide +kernel
theorem d_Latin1_indexOfChar_0 : decode prog_19_method_23_code 0 = .ok (.iload_n 1, 1) := by decide +kernel
theorem d_Latin1_indexOfChar_1 : decode prog_19_method_23_code 1 = .ok (.i2b, 1) := by decide +kernel
theorem d_Latin1_indexOfChar_2 : decode prog_19_method_23_code 2 = .ok (.istore 4, 2) := by decide +kernel
theorem d_Latin1_indexOfChar_4 : decode prog_19_method_23_code 4 = .ok (.iload_n 2, 1) := by decide +kernel
theorem d_Latin1_indexOfChar_5 : decode prog_19_method_23_code 5 = .ok (.istore 5, 2) := by decide +kernel
theorem d_Latin1_indexOfChar_7 : decode prog_19_method_23_code 7 = .ok (.iload 5, 2) := by decide +kernel
theorem d_Latin1_indexOfChar_9 : decode prog_19_method_23_code 9 = .ok (.iload_n 3, 1) := by decide +kernel
theorem d_Latin1_indexOfChar_10 : decode prog_19_method_23_code 10 = .ok (.if_icmp .ge 21, 3) := by decide +kernel
theorem d_Latin1_indexOfChar_13 : decode prog_19_method_23_code 13 = .ok (.aload_n 0, 1) := by decide +kernel
theorem d_Latin1_indexOfChar_14 : decode prog_19_method_23_code 14 = .ok (.iload 5, 2) := by decide +kernel
theorem d_Latin1_indexOfChar_16 : decode prog_19_method_23_code 16 = .ok (.baload, 1) := by decide +kernel
theorem d_Latin1_indexOfChar_17 : decode prog_19_method_23_code 17 = .ok (.iload 4, 2) := by decide +kernel
theorem d_Latin1_indexOfChar_19 : decode prog_19_method_23_code 19 = .ok (.if_icmp .ne 6, 3) := by decide +kernel
theorem d_Latin1_indexOfChar_22 : decode prog_19_method_23_code 22 = .ok (.iload 5, 2) := by decide +kernel
theorem d_Latin1_indexOfChar_24 : decode prog_19_method_23_code 24 = .ok (.ireturn, 1) := by decide +kernel
theorem d_Latin1_indexOfChar_25 : decode prog_19_method_23_code 25 = .ok (.iinc 5 1, 3) := by decide +kernel
theorem d_Latin1_indexOfChar_28 : decode prog_19_method_23_code 28 = .ok (.goto (-21), 3) := by decide +kernel
theorem d_Latin1_indexOfChar_31 : decode prog_19_method_23_code 31 = .ok (.iconst (-1), 1) := by decide +kernel
theorem d_Latin1_indexOfChar_32 : decode prog_19_method_23_code 32 = .ok (.ireturn, 1) := by decide +kernel
theorem d_Latin1_indexOf_0 : decode prog_19_method_22_code 0 = .ok (.iload_n 1, 1) := by decide +kernel
theorem d_Latin1_indexOf_1 : decode prog_19_method_22_code 1 = .ok (.invokestatic 88, 3) := by decide +kernel
theorem d_Latin1_indexOf_4 : decode prog_19_method_22_code 4 = .ok (.ifCond .ne 5, 3) := by decide +kernel
theorem d_Latin1_indexOf_7 : decode prog_19_method_22_code 7 = .ok (.iconst (-1), 1) := by decide +kernel
theorem d_Latin1_indexOf_8 : decode prog_19_method_22_code 8 = .ok (.ireturn, 1) := by decide +kernel
theorem d_Latin1_indexOf_9 : decode prog_19_method_22_code 9 = .ok (.iload_n 2, 1) := by decide +kernel
theorem d_Latin1_indexOf_10 : decode prog_19_method_22_code 10 = .ok (.iconst 0, 1) := by decide +kernel
theorem d_Latin1_indexOf_11 : decode prog_19_method_22_code 11 = .ok (.invokestatic 92, 3) := by decide +kernel
theorem d_Latin1_indexOf_14 : decode prog_19_method_22_code 14 = .ok (.istore_n 2, 1) := by decide +kernel
theorem d_Latin1_indexOf_15 : decode prog_19_method_22_code 15 = .ok (.iload_n 3, 1) := by decide +kernel
theorem d_Latin1_indexOf_16 : decode prog_19_method_22_code 16 = .ok (.aload_n 0, 1) := by decide +kernel
theorem d_Latin1_indexOf_17 : decode prog_19_method_22_code 17 = .ok (.arraylength, 1) := by decide +kernel
theorem d_Latin1_indexOf_18 : decode prog_19_method_22_code 18 = .ok (.invokestatic 38, 3) := by decide +kernel
theorem d_Latin1_indexOf_21 : decode prog_19_method_22_code 21 = .ok (.istore_n 3, 1) := by decide +kernel
theorem d_Latin1_indexOf_22 : decode prog_19_method_22_code 22 = .ok (.iload_n 2, 1) := by decide +kernel
theorem d_Latin1_indexOf_23 : decode prog_19_method_22_code 23 = .ok (.iload_n 3, 1) := by decide +kernel
theorem d_Latin1_indexOf_24 : decode prog_19_method_22_code 24 = .ok (.if_icmp .lt 5, 3) := by decide +kernel
theorem d_Latin1_indexOf_27 : decode prog_19_method_22_code 27 = .ok (.iconst (-1), 1) := by decide +kernel
theorem d_Latin1_indexOf_28 : decode prog_19_method_22_code 28 = .ok (.ireturn, 1) := by decide +kernel
theorem d_Latin1_indexOf_29 : decode prog_19_method_22_code 29 = .ok (.aload_n 0, 1) := by decide +kernel
theorem d_Latin1_indexOf_30 : decode prog_19_method_22_code 30 = .ok (.iload_n 1, 1) := by decide +kernel
theorem d_Latin1_indexOf_31 : decode prog_19_method_22_code 31 = .ok (.iload_n 2, 1) := by decide +kernel
theorem d_Latin1_indexOf_32 : decode prog_19_method_22_code 32 = .ok (.iload_n 3, 1) := by decide +kernel
theorem d_Latin1_indexOf_33 : decode prog_19_method_22_code 33 = .ok (.invokestatic 95, 3) := by decide +kernel
theorem d_Latin1_indexOf_36 : decode prog_19_method_22_code 36 = .ok (.ireturn, 1) := by decide +kernel
theorem d_String_indexOf_II_I_0 : decode prog_18_method_80_code 0 = .ok (.aload_n 0, 1) := by decide +kernel
theorem d_String_indexOf_II_I_1 : decode prog_18_method_80_code 1 = .ok (.invokevirtual 492, 3) := by decide +kernel
theorem d_String_indexOf_II_I_4 : decode prog_18_method_80_code 4 = .ok (.ifCond .eq 19, 3) := by decide +kernel
theorem d_String_indexOf_II_I_7 : decode prog_18_method_80_code 7 = .ok (.aload_n 0, 1) := by decide +kernel
theorem d_String_indexOf_II_I_8 : decode prog_18_method_80_code 8 = .ok (.getfield 9, 3) := by decide +kernel
theorem d_String_indexOf_II_I_11 : decode prog_18_method_80_code 11 = .ok (.iload_n 1, 1) := by decide +kernel
theorem d_String_indexOf_II_I_12 : decode prog_18_method_80_code 12 = .ok (.iload_n 2, 1) := by decide +kernel
theorem d_String_indexOf_II_I_13 : decode prog_18_method_80_code 13 = .ok (.aload_n 0, 1) := by decide +kernel
theorem d_String_indexOf_II_I_14 : decode prog_18_method_80_code 14 = .ok (.invokevirtual 505, 3) := by decide +kernel
theorem d_String_indexOf_II_I_17 : decode prog_18_method_80_code 17 = .ok (.invokestatic 637, 3) := by decide +kernel
theorem d_String_indexOf_II_I_20 : decode prog_18_method_80_code 20 = .ok (.goto 16, 3) := by decide +kernel
theorem d_String_indexOf_II_I_23 : decode prog_18_method_80_code 23 = .ok (.aload_n 0, 1) := by decide +kernel
theorem d_String_indexOf_II_I_36 : decode prog_18_method_80_code 36 = .ok (.ireturn, 1) := by decide +kernel
theorem d_String_indexOf_I_I_0 : decode prog_18_method_79_code 0 = .ok (.aload_n 0, 1) := by decide +kernel
theorem d_String_indexOf_I_I_1 : decode prog_18_method_79_code 1 = .ok (.iload_n 1, 1) := by decide +kernel
theorem d_String_indexOf_I_I_2 : decode prog_18_method_79_code 2 = .ok (.iconst 0, 1) := by decide +kernel
theorem d_String_indexOf_I_I_3 : decode prog_18_method_79_code 3 = .ok (.invokevirtual 633, 3) := by decide +kernel
theorem d_String_indexOf_I_I_6 : decode prog_18_method_79_code 6 = .ok (.ireturn, 1) := by decide +kernel
theorem d_Precond_checkIndex_0 : decode prog_22_method_11_code 0 = .ok (.iload_n 0, 1) := by decide +kernel
theorem d_Precond_checkIndex_1 : decode prog_22_method_11_code 1 = .ok (.ifCond .lt 8, 3) := by decide +kernel
theorem d_Precond_checkIndex_4 : decode prog_22_method_11_code 4 = .ok (.iload_n 0, 1) := by decide +kernel
theorem d_Precond_checkIndex_5 : decode prog_22_method_11_code 5 = .ok (.iload_n 1, 1) := by decide +kernel
theorem d_Precond_checkIndex_6 : decode prog_22_method_11_code 6 = .ok (.if_icmp .lt 10, 3) := by decide +kernel
theorem d_Precond_checkIndex_9 : decode prog_22_method_11_code 9 = .ok (.aload_n 2, 1) := by decide +kernel
theorem d_Precond_checkIndex_16 : decode prog_22_method_11_code 16 = .ok (.iload_n 0, 1) := by decide +kernel
theorem d_Precond_checkIndex_17 : decode prog_22_method_11_code 17 = .ok (.ireturn, 1) := by decide +kernel
theorem d_String_checkIndex_0 : decode prog_18_method_155_code 0 = .ok (.iload_n 0, 1) := by decide +kernel
theorem d_String_checkIndex_1 : decode prog_18_method_155_code 1 = .ok (.iload_n 1, 1) := by decide +kernel
theorem d_String_checkIndex_2 : decode prog_18_method_155_code 2 = .ok (.getstatic 1053, 3) := by decide +kernel
theorem d_String_checkIndex_5 : decode prog_18_method_155_code 5 = .ok (.invokestatic 1059, 3) := by decide +kernel
theorem d_String_checkIndex_8 : decode prog_18_method_155_code 8 = .ok (.pop, 1) := by decide +kernel
theorem d_String_checkIndex_9 : decode prog_18_method_155_code 9 = .ok (.return_, 1) := by decide +kernel
theorem d_Latin1_charAt_0 : decode prog_19_method_2_code 0 = .ok (.iload_n 1, 1) := by decide +kernel
theorem d_Latin1_charAt_1 : decode prog_19_method_2_code 1 = .ok (.aload_n 0, 1) := by decide +kernel
theorem d_Latin1_charAt_2 : decode prog_19_method_2_code 2 = .ok (.arraylength, 1) := by decide +kernel
theorem d_Latin1_charAt_3 : decode prog_19_method_2_code 3 = .ok (.invokestatic 9, 3) := by decide +kernel
theorem d_Latin1_charAt_6 : decode prog_19_method_2_code 6 = .ok (.aload_n 0, 1) := by decide +kernel
theorem d_Latin1_charAt_7 : decode prog_19_method_2_code 7 = .ok (.iload_n 1, 1) := by decide +kernel
theorem d_Latin1_charAt_8 : decode prog_19_method_2_code 8 = .ok (.baload, 1) := by decide +kernel
theorem d_Latin1_charAt_9 : decode prog_19_method_2_code 9 = .ok (.sipush 255, 3) := by decide +kernel
theorem d_Latin1_charAt_12 : decode prog_19_method_2_code 12 = .ok (.iand, 1) := by decide +kernel
theorem d_Latin1_charAt_13 : decode prog_19_method_2_code 13 = .ok (.i2c, 1) := by decide +kernel
theorem d_Latin1_charAt_14 : decode prog_19_method_2_code 14 = .ok (.ireturn, 1) := by decide +kernel
theorem d_String_charAt_0 : decode prog_18_method_56_code 0 = .ok (.aload_n 0, 1) := by decide +kernel
theorem d_String_charAt_1 : decode prog_18_method_56_code 1 = .ok (.invokevirtual 492, 3) := by decide +kernel
theorem d_String_charAt_4 : decode prog_18_method_56_code 4 = .ok (.ifCond .eq 12, 3) := by decide +kernel
theorem d_String_charAt_7 : decode prog_18_method_56_code 7 = .ok (.aload_n 0, 1) := by decide +kernel
theorem d_String_charAt_8 : decode prog_18_method_56_code 8 = .ok (.getfield 9, 3) := by decide +kernel
theorem d_String_charAt_11 : decode prog_18_method_56_code 11 = .ok (.iload_n 1, 1) := by decide +kernel
theorem d_String_charAt_12 : decode prog_18_method_56_code 12 = .ok (.invokestatic 495, 3) := by decide +kernel
theorem d_String_charAt_15 : decode prog_18_method_56_code 15 = .ok (.ireturn, 1) := by decide +kernel
theorem d_String_charAt_16 : decode prog_18_method_56_code 16 = .ok (.aload_n 0, 1) := by decide +kernel
def w_Integer_bitCount (N : Nat) (x0 : Int32) (h : qH) (Q : Int32 → qH → Prop) : Prop := (∀ y1 : Int32, y1 = (x0 - (((x0).toUInt32 >>> (((1 : Int32)).toUInt32 &&& Int32.toUInt32 31)).toInt32 &&& (1431655765 : Int32))) → (∀ y2 : Int32, y2 = ((y1 &&& (858993459 : Int32)) + (((y1).toUInt32 >>> (((2 : Int32)).toUInt32 &&& Int32.toUInt32 31)).toInt32 &&& (858993459 : Int32))) → (∀ y3 : Int32, y3 = ((y2 + ((y2).toUInt32 >>> (((4 : Int32)).toUInt32 &&& Int32.toUInt32 31)).toInt32) &&& (252645135 : Int32)) → (∀ y4 : Int32, y4 = (y3 + ((y3).toUInt32 >>> (((8 : Int32)).toUInt32 &&& Int32.toUInt32 31)).toInt32) → (∀ y5 : Int32, y5 = (y4 + ((y4).toUInt32 >>> (((16 : Int32)).toUInt32 &&& Int32.toUInt32 31)).toInt32) → Q (y5 &&& (63 : Int32)) h)))))
def w_Math_floorMod (N : Nat) (x0 : Int32) (x1 : Int32) (h : qH) (Q : Int32 → qH → Prop) : Prop := (¬ x1 = 0 ∧ (∀ y2 : Int32, y2 = (x0 - x0 / x1 * x1) → ((0 ≤ (x0 ^^^ x1) → Q y2 h) ∧ (¬ 0 ≤ (x0 ^^^ x1) → ((y2 = 0 → Q y2 h) ∧ (¬ y2 = 0 → Q (y2 + x1) h))))))
def w_String_isLatin1 (N : Nat) (x0 : Nat) (h : qH) (Q : Int32 → qH → Prop) : Prop := (((1 : Int32) = 0 → (qzb (0 : Int32) ∧ Q (0 : Int32) h)) ∧ (¬ (1 : Int32) = 0 → (x0 < 2 ∧ ((¬ (0 : Int32) = 0 → (qzb (0 : Int32) ∧ Q (0 : Int32) h)) ∧ ((0 : Int32) = 0 → (qzb (1 : Int32) ∧ Q (1 : Int32) h))))))
def w_String_coder (N : Nat) (x0 : Nat) (h : qH) (Q : Int32 → qH → Prop) : Prop := (((1 : Int32) = 0 → (narrow .byte (.int (1 : Int32)) = .int (1 : Int32) ∧ Q (1 : Int32) h)) ∧ (¬ (1 : Int32) = 0 → (x0 < 2 ∧ (narrow .byte (.int (0 : Int32)) = .int (0 : Int32) ∧ Q (0 : Int32) h))))
def w_String_length (N : Nat) (x0 : Nat) (h : qH) (Q : Int32 → qH → Prop) : Prop := (x0 < 2 ∧ (x0 < 2 ∧ (x0 < 2 ∧ w_String_coder N x0 h (fun r4 h5 => Q ((nI (lenJS.getD x0 0)) >>> (r4 &&& 31)) h5))))
def w_Latin1_canEncode (N : Nat) (x0 : Int32) (h : qH) (Q : Int32 → qH → Prop) : Prop := ((x0 < 0 → (qzb (0 : Int32) ∧ Q (0 : Int32) h)) ∧ (¬ x0 < 0 → (((255 : Int32) < x0 → (qzb (0 : Int32) ∧ Q (0 : Int32) h)) ∧ (¬ (255 : Int32) < x0 → (qzb (1 : Int32) ∧ Q (1 : Int32) h)))))
def w_Latin1_indexOfChar_7 (N : Nat) : Nat → Nat → Int32 → Int32 → Int32 → qH → (Int32 → qH → Prop) → Prop
  | 0 => fun _ _ _ _ _ _ => False
  | k + 1 => fun x0 x3 x4 x5 h Q => ((x3 ≤ x5 → Q (-1 : Int32) h) ∧ (¬ x3 ≤ x5 → (x0 < 2 ∧ vp_in x5 (lenJS.getD x0 0) ∧ ((¬ ((bytJS.getD x0 []).getD (x5).toNatClampNeg 0) = x4 → (w_Latin1_indexOfChar_7 N k x0 x3 x4 (x5 + (1 : Int32)) h Q)) ∧ (((bytJS.getD x0 []).getD (x5).toNatClampNeg 0) = x4 → Q x5 h)))))
def w_Latin1_indexOfChar (N : Nat) (x0 : Nat) (x1 : Int32) (x2 : Int32) (x3 : Int32) (h : qH) (Q : Int32 → qH → Prop) : Prop := (w_Latin1_indexOfChar_7 N N x0 x3 ((x1).toInt8.toInt32) x2 h Q )
def w_Latin1_indexOf (N : Nat) (x0 : Nat) (x1 : Int32) (x2 : Int32) (x3 : Int32) (h : qH) (Q : Int32 → qH → Prop) : Prop := (w_Latin1_canEncode N x1 h (fun r1 h2 => ((¬ r1 = 0 → (∀ y4 : Int32, y4 = (if x2 < (0 : Int32) then (0 : Int32) else x2) → (x0 < 2 ∧ (∀ y6 : Int32, y6 = (if (nI (lenJS.getD x0 0)) < x3 then (nI (lenJS.getD x0 0)) else x3) → ((y4 < y6 → (w_Latin1_indexOfChar N x0 x1 y4 y6 h2 (fun r8 h9 => Q r8 h9))) ∧ (¬ y4 < y6 → Q (-1 : Int32) h2)))))) ∧ (r1 = 0 → Q (-1 : Int32) h2))))
def w_String_indexOf_II_I (N : Nat) (x0 : Nat) (x1 : Int32) (x2 : Int32) (h : qH) (Q : Int32 → qH → Prop) : Prop := (x0 < 2 ∧ w_String_isLatin1 N x0 h (fun r2 h3 => ((r2 = 0 → False) ∧ (¬ r2 = 0 → (x0 < 2 ∧ (x0 < 2 ∧ w_String_length N x0 h3 (fun r7 h8 => (w_Latin1_indexOf N x0 x1 x2 r7 h8 (fun r9 h10 => Q r9 h10)))))))))
def w_String_indexOf_I_I (N : Nat) (x0 : Nat) (x1 : Int32) (h : qH) (Q : Int32 → qH → Prop) : Prop := (x0 < 2 ∧ w_String_indexOf_II_I N x0 x1 (0 : Int32) h (fun r2 h3 => Q r2 h3))
def w_Precond_checkIndex (N : Nat) (x0 : Int32) (x1 : Int32) (x2 : qV) (h : qH) (Q : Int32 → qH → Prop) : Prop := ((x0 < 0 → False) ∧ (¬ x0 < 0 → ((x0 < x1 → Q x0 h) ∧ (¬ x0 < x1 → False))))
def w_String_checkIndex (N : Nat) (x0 : Int32) (x1 : Int32) (h : qH) (Q : qH → Prop) : Prop := (∀ y1 : qV, qlg y1 = false → (w_Precond_checkIndex N x0 x1 y1 h (fun r2 h3 => Q h3)))
def w_Latin1_charAt (N : Nat) (x0 : Nat) (x1 : Int32) (h : qH) (Q : Int32 → qH → Prop) : Prop := (x0 < 2 ∧ (w_String_checkIndex N x1 (nI (lenJS.getD x0 0)) h (fun h2 => (x0 < 2 ∧ vp_in x1 (lenJS.getD x0 0) ∧ (narrow .char (.int ((((((bytJS.getD x0 []).getD (x1).toNatClampNeg 0) &&& (255 : Int32))).toUInt32 % 65536).toInt32)) = .int ((((((bytJS.getD x0 []).getD (x1).toNatClampNeg 0) &&& (255 : Int32))).toUInt32 % 65536).toInt32) ∧ Q ((((((bytJS.getD x0 []).getD (x1).toNatClampNeg 0) &&& (255 : Int32))).toUInt32 % 65536).toInt32) h2)))))
def w_String_charAt (N : Nat) (x0 : Nat) (x1 : Int32) (h : qH) (Q : Int32 → qH → Prop) : Prop := (x0 < 2 ∧ w_String_isLatin1 N x0 h (fun r2 h3 => ((r2 = 0 → False) ∧ (¬ r2 = 0 → (x0 < 2 ∧ (w_Latin1_charAt N x0 x1 h3 (fun r6 h7 => (narrow .char (.int r6) = .int r6 ∧ Q r6 h7))))))))
section QG
variable {p : Program} {l : Launch} {e : Env} {s : State} {m : MethodId} {args : Array Value} {below : List Frame} {meth : Method} {c : Code} {D : va_G} {cy : Nat → ClassId} {b : Nat} {adK adV : Nat → Nat}

set_option maxRecDepth 4000 in
theorem t_Integer_bitCount {adK adV : Nat → Nat} (l : Launch) (D : va_G) (cy : Nat → ClassId) (b : Nat) (N : Nat) (x0 : Int32) (h : qH) (Q : Int32 → qH → Prop) (hw : w_Integer_bitCount N x0 h Q) : Met l y_Integer_bitCount (Cond.code y_Integer_bitCount prog_16_method_49_code 1 (some .int) :: qT) (qrm 0 0 0 0) (qPc D cy b adK adV h [.int x0]) (qQc D cy b qrI Q) 0 0 (qA b) := by
  refine qmet (L0 := [(0, .inl x0)]) qm_Integer_bitCount (by decide +kernel) [.inl x0] rfl (Nat.le_of_ble_eq_true rfl) rfl (fun p e s m args below meth c X => ?_)
  unfold w_Integer_bitCount at hw
  refine qx_iload_n (x := x0) X d_Integer_bitCount_0 rfl 0 rfl ?_
  refine qx_iload_n (x := x0) X d_Integer_bitCount_1 rfl 0 rfl ?_
  refine qx_iconst (v := (1 : Int32)) X d_Integer_bitCount_2 (by decide) ?_
  refine qx_iushr X d_Integer_bitCount_3 ?_
  refine qx_ldcw (v := (1431655765 : Int32)) X wk_Integer_265 d_Integer_bitCount_4 ?_
  refine qx_iand X d_Integer_bitCount_7 ?_
  refine qx_isub X d_Integer_bitCount_8 ?_
  refine qx_topi (fun y1 ey1 => ?_)
  have hw := hw y1 ey1
  refine qx_istore_n (L' := [(0, .inl y1)]) X d_Integer_bitCount_9 rfl (by decide) rfl ?_
  refine qx_iload_n (x := y1) X d_Integer_bitCount_10 rfl 0 rfl ?_
  refine qx_ldcw (v := (858993459 : Int32)) X wk_Integer_266 d_Integer_bitCount_11 ?_
  refine qx_iand X d_Integer_bitCount_14 ?_
  refine qx_iload_n (x := y1) X d_Integer_bitCount_15 rfl 0 rfl ?_
  refine qx_iconst (v := (2 : Int32)) X d_Integer_bitCount_16 (by decide) ?_
  refine qx_iushr X d_Integer_bitCount_17 ?_
  refine qx_ldcw (v := (858993459 : Int32)) X wk_Integer_266 d_Integer_bitCount_18 ?_
  refine qx_iand X d_Integer_bitCount_21 ?_
  refine qx_iadd X d_Integer_bitCount_22 ?_
  refine qx_topi (fun y2 ey2 => ?_)
  have hw := hw y2 ey2
  refine qx_istore_n (L' := [(0, .inl y2)]) X d_Integer_bitCount_23 rfl (by decide) rfl ?_
  refine qx_iload_n (x := y2) X d_Integer_bitCount_24 rfl 0 rfl ?_
  refine qx_iload_n (x := y2) X d_Integer_bitCount_25 rfl 0 rfl ?_
  refine qx_iconst (v := (4 : Int32)) X d_Integer_bitCount_26 (by decide) ?_
  refine qx_iushr X d_Integer_bitCount_27 ?_
  refine qx_iadd X d_Integer_bitCount_28 ?_
  refine qx_ldcw (v := (252645135 : Int32)) X wk_Integer_267 d_Integer_bitCount_29 ?_
  refine qx_iand X d_Integer_bitCount_32 ?_
  refine qx_topi (fun y3 ey3 => ?_)
  have hw := hw y3 ey3
  refine qx_istore_n (L' := [(0, .inl y3)]) X d_Integer_bitCount_33 rfl (by decide) rfl ?_
  refine qx_iload_n (x := y3) X d_Integer_bitCount_34 rfl 0 rfl ?_
  refine qx_iload_n (x := y3) X d_Integer_bitCount_35 rfl 0 rfl ?_
  refine qx_bipush (v := (8 : Int32)) X d_Integer_bitCount_36 (by decide) ?_
  refine qx_iushr X d_Integer_bitCount_38 ?_
  refine qx_iadd X d_Integer_bitCount_39 ?_
  refine qx_topi (fun y4 ey4 => ?_)
  have hw := hw y4 ey4
  refine qx_istore_n (L' := [(0, .inl y4)]) X d_Integer_bitCount_40 rfl (by decide) rfl ?_
  refine qx_iload_n (x := y4) X d_Integer_bitCount_41 rfl 0 rfl ?_
  refine qx_iload_n (x := y4) X d_Integer_bitCount_42 rfl 0 rfl ?_
  refine qx_bipush (v := (16 : Int32)) X d_Integer_bitCount_43 (by decide) ?_
  refine qx_iushr X d_Integer_bitCount_45 ?_
  refine qx_iadd X d_Integer_bitCount_46 ?_
  refine qx_topi (fun y5 ey5 => ?_)
  have hw := hw y5 ey5
  refine qx_istore_n (L' := [(0, .inl y5)]) X d_Integer_bitCount_47 rfl (by decide) rfl ?_
  refine qx_iload_n (x := y5) X d_Integer_bitCount_48 rfl 0 rfl ?_
  refine qx_bipush (v := (63 : Int32)) X d_Integer_bitCount_49 (by decide) ?_
  refine qx_iand X d_Integer_bitCount_51 ?_
  exact qx_iret X hw (Nat.le_refl 0) (Nat.le_refl 0) rfl d_Integer_bitCount_52
set_option maxRecDepth 4000 in
theorem t_Math_floorMod {adK adV : Nat → Nat} (l : Launch) (D : va_G) (cy : Nat → ClassId) (b : Nat) (N : Nat) (x0 : Int32) (x1 : Int32) (h : qH) (Q : Int32 → qH → Prop) (hw : w_Math_floorMod N x0 x1 h Q) : Met l y_Math_floorMod (Cond.code y_Math_floorMod prog_17_method_50_code 3 (some .int) :: qT) (qrm 0 0 0 0) (qPc D cy b adK adV h [.int x0, .int x1]) (qQc D cy b qrI Q) 0 0 (qA b) := by
  refine qmet (L0 := [(0, .inl x0), (1, .inl x1)]) qm_Math_floorMod (by decide +kernel) [.inl x0, .inl x1] rfl (Nat.le_of_ble_eq_true rfl) rfl (fun p e s m args below meth c X => ?_)
  unfold w_Math_floorMod at hw
  refine qx_iload_n (x := x0) X d_Math_floorMod_0 rfl 0 rfl ?_
  refine qx_iload_n (x := x1) X d_Math_floorMod_1 rfl 1 rfl ?_
  obtain ⟨g1, hw⟩ := hw
  refine qx_irem X g1 d_Math_floorMod_2 ?_
  refine qx_topi (fun y2 ey2 => ?_)
  have hw := hw y2 ey2
  refine qx_istore_n (L' := [(2, .inl y2), (0, .inl x0), (1, .inl x1)]) X d_Math_floorMod_3 rfl (by decide) rfl ?_
  refine qx_iload_n (x := x0) X d_Math_floorMod_4 rfl 1 rfl ?_
  refine qx_iload_n (x := x1) X d_Math_floorMod_5 rfl 2 rfl ?_
  refine qx_ixor X d_Math_floorMod_6 ?_
  refine qx_if_ge X 18 d_Math_floorMod_7 (by decide) (fun q3 => ?_) (fun q3 => ?_)
  · have hw := hw.1 q3
    refine qx_iload_n (x := y2) X d_Math_floorMod_18 rfl 0 rfl ?_
    exact qx_iret X hw (Nat.le_refl 0) (Nat.le_refl 0) rfl d_Math_floorMod_19
  · have hw := hw.2 q3
    refine qx_iload_n (x := y2) X d_Math_floorMod_10 rfl 0 rfl ?_
    refine qx_if_eq X 18 d_Math_floorMod_11 (by decide) (fun q4 => ?_) (fun q4 => ?_)
    · have hw := hw.1 q4
      refine qx_iload_n (x := y2) X d_Math_floorMod_18 rfl 0 rfl ?_
      exact qx_iret X hw (Nat.le_refl 0) (Nat.le_refl 0) rfl d_Math_floorMod_19
    · have hw := hw.2 q4
      refine qx_iload_n (x := y2) X d_Math_floorMod_14 rfl 0 rfl ?_
      refine qx_iload_n (x := x1) X d_Math_floorMod_15 rfl 2 rfl ?_
      refine qx_iadd X d_Math_floorMod_16 ?_
      exact qx_iret X hw (Nat.le_refl 0) (Nat.le_refl 0) rfl d_Math_floorMod_17
set_option maxRecDepth 4000 in
theorem t_String_isLatin1 {adK adV : Nat → Nat} (l : Launch) (D : va_G) (cy : Nat → ClassId) (b : Nat) (N : Nat) (x0 : Nat) (h : qH) (Q : Int32 → qH → Prop) (hw : w_String_isLatin1 N x0 h Q) : Met l y_String_isLatin1 (Cond.code y_String_isLatin1 prog_18_method_154_code 1 (some .boolean) :: qT) (qrm 0 0 0 0) (qPc D cy b adK adV h [.ref (adK x0)]) (qQc D cy b qrI Q) 0 0 (qA b) := by
  refine qmet (L0 := [(0, .inr (.inr (.inr (adK x0))))]) qm_String_isLatin1 (by decide +kernel) [.inr (.inr (.inr (adK x0)))] rfl (Nat.le_of_ble_eq_true rfl) rfl (fun p e s m args below meth c X => ?_)
  unfold w_String_isLatin1 at hw
  refine qx_gets1 X wf_String_38 d_String_isLatin1_0 ?_
  refine qx_if_eq X 17 d_String_isLatin1_3 (by decide) (fun q1 => ?_) (fun q1 => ?_)
  · have hw := hw.1 q1
    refine qx_iconst (v := (0 : Int32)) X d_String_isLatin1_17 (by decide) ?_
    exact qx_zret X hw (Nat.le_refl 0) (Nat.le_refl 0) rfl d_String_isLatin1_18
  · have hw := hw.2 q1
    refine qx_aloadA (x := adK x0) X d_String_isLatin1_6 rfl 0 rfl ?_
    obtain ⟨g2, hw⟩ := hw
    refine qx_scod X g2 wf_String_15 d_String_isLatin1_7 ?_
    refine qx_if_ne X 17 d_String_isLatin1_10 (by decide) (fun q3 => ?_) (fun q3 => ?_)
    · have hw := hw.1 q3
      refine qx_iconst (v := (0 : Int32)) X d_String_isLatin1_17 (by decide) ?_
      exact qx_zret X hw (Nat.le_refl 0) (Nat.le_refl 0) rfl d_String_isLatin1_18
    · have hw := hw.2 q3
      refine qx_iconst (v := (1 : Int32)) X d_String_isLatin1_13 (by decide) ?_
      refine qx_goto X 18 d_String_isLatin1_14 (by decide) ?_
      exact qx_zret X hw (Nat.le_refl 0) (Nat.le_refl 0) rfl d_String_isLatin1_18
set_option maxRecDepth 4000 in
theorem t_String_coder {adK adV : Nat → Nat} (l : Launch) (D : va_G) (cy : Nat → ClassId) (b : Nat) (N : Nat) (x0 : Nat) (h : qH) (Q : Int32 → qH → Prop) (hw : w_String_coder N x0 h Q) : Met l y_String_coder (Cond.code y_String_coder prog_18_method_152_code 1 (some .byte) :: qT) (qrm 0 0 0 0) (qPc D cy b adK adV h [.ref (adK x0)]) (qQc D cy b qrI Q) 0 0 (qA b) := by
  refine qmet (L0 := [(0, .inr (.inr (.inr (adK x0))))]) qm_String_coder (by decide +kernel) [.inr (.inr (.inr (adK x0)))] rfl (Nat.le_of_ble_eq_true rfl) rfl (fun p e s m args below meth c X => ?_)
  unfold w_String_coder at hw
  refine qx_gets1 X wf_String_38 d_String_coder_0 ?_
  refine qx_if_eq X 13 d_String_coder_3 (by decide) (fun q1 => ?_) (fun q1 => ?_)
  · have hw := hw.1 q1
    refine qx_iconst (v := (1 : Int32)) X d_String_coder_13 (by decide) ?_
    exact qx_nret X hw (Nat.le_refl 0) (Nat.le_refl 0) rfl d_String_coder_14
  · have hw := hw.2 q1
    refine qx_aloadA (x := adK x0) X d_String_coder_6 rfl 0 rfl ?_
    obtain ⟨g2, hw⟩ := hw
    refine qx_scod X g2 wf_String_15 d_String_coder_7 ?_
    refine qx_goto X 14 d_String_coder_10 (by decide) ?_
    exact qx_nret X hw (Nat.le_refl 0) (Nat.le_refl 0) rfl d_String_coder_14
set_option maxRecDepth 4000 in
theorem t_String_length {adK adV : Nat → Nat} (l : Launch) (D : va_G) (cy : Nat → ClassId) (b : Nat) (N : Nat) (x0 : Nat) (h : qH) (Q : Int32 → qH → Prop) (hw : w_String_length N x0 h Q) : Met l y_String_length (Cond.code y_String_length prog_18_method_54_code 1 (some .int) :: qT) (qrm 1 0 0 20) (qPc D cy b adK adV h [.ref (adK x0)]) (qQc D cy b qrI Q) 0 0 (qA b) := by
  refine qmet (L0 := [(0, .inr (.inr (.inr (adK x0))))]) qm_String_length (by decide +kernel) [.inr (.inr (.inr (adK x0)))] rfl (Nat.le_of_ble_eq_true rfl) rfl (fun p e s m args below meth c X => ?_)
  unfold w_String_length at hw
  refine qx_aloadA (x := adK x0) X d_String_length_0 rfl 0 rfl ?_
  obtain ⟨g1, hw⟩ := hw
  refine qx_sval X g1 wf_String_9 d_String_length_1 ?_
  obtain ⟨g2, hw⟩ := hw
  refine qx_vlen X g2 d_String_length_4 ?_
  refine qx_aloadA (x := adK x0) X d_String_length_5 rfl 0 rfl ?_
  obtain ⟨g3, hw⟩ := hw
  refine qx_callTI (st := [.int (nI (lenJS.getD x0 0))]) (As := []) X (t_String_coder (adK := adK) (adV := adV) l D cy b N x0 h _ hw) qm_String_coder wm_String_335 wi_String_coder wl_String_coder rfl g3 rfl rfl rfl ⟨Nat.le_of_ble_eq_true rfl, Nat.le_of_ble_eq_true rfl⟩ ⟨Nat.le_refl 0, Nat.le_refl 0⟩ (Nat.le_of_ble_eq_true rfl) rfl d_String_length_6 (fun r4 h5 hw => ?_)
  refine qx_ishr X d_String_length_9 ?_
  exact qx_iret X hw (Nat.le_refl 0) (Nat.le_refl 0) rfl d_String_length_10
set_option maxRecDepth 4000 in
theorem t_Latin1_canEncode {adK adV : Nat → Nat} (l : Launch) (D : va_G) (cy : Nat → ClassId) (b : Nat) (N : Nat) (x0 : Int32) (h : qH) (Q : Int32 → qH → Prop) (hw : w_Latin1_canEncode N x0 h Q) : Met l y_Latin1_canEncode (Cond.code y_Latin1_canEncode prog_19_method_4_code 1 (some .boolean) :: qT) (qrm 0 0 0 0) (qPc D cy b adK adV h [.int x0]) (qQc D cy b qrI Q) 0 0 (qA b) := by
  refine qmet (L0 := [(0, .inl x0)]) qm_Latin1_canEncode (by decide +kernel) [.inl x0] rfl (Nat.le_of_ble_eq_true rfl) rfl (fun p e s m args below meth c X => ?_)
  unfold w_Latin1_canEncode at hw
  refine qx_iload_n (x := x0) X d_Latin1_canEncode_0 rfl 0 rfl ?_
  refine qx_if_lt X 15 d_Latin1_canEncode_1 (by decide) (fun q1 => ?_) (fun q1 => ?_)
  · have hw := hw.1 q1
    refine qx_iconst (v := (0 : Int32)) X d_Latin1_canEncode_15 (by decide) ?_
    exact qx_zret X hw (Nat.le_refl 0) (Nat.le_refl 0) rfl d_Latin1_canEncode_16
  · have hw := hw.2 q1
    refine qx_iload_n (x := x0) X d_Latin1_canEncode_4 rfl 0 rfl ?_
    refine qx_sipush (v := (255 : Int32)) X d_Latin1_canEncode_5 (by decide) ?_
    refine qx_icmp_gt X 15 d_Latin1_canEncode_8 (by decide) (fun q2 => ?_) (fun q2 => ?_)
    · have hw := hw.1 q2
      refine qx_iconst (v := (0 : Int32)) X d_Latin1_canEncode_15 (by decide) ?_
      exact qx_zret X hw (Nat.le_refl 0) (Nat.le_refl 0) rfl d_Latin1_canEncode_16
    · have hw := hw.2 q2
      refine qx_iconst (v := (1 : Int32)) X d_Latin1_canEncode_11 (by decide) ?_
      refine qx_goto X 16 d_Latin1_canEncode_12 (by decide) ?_
      exact qx_zret X hw (Nat.le_refl 0) (Nat.le_refl 0) rfl d_Latin1_canEncode_16
set_option maxRecDepth 4000 in
theorem t_Latin1_indexOfChar_7 (X : qX p s m args meth c D cy b adK adV prog_19_method_23_code "java/lang/StringLatin1" 6 (some .int) "indexOfChar") (N k : Nat) (x0 : Nat) (x3 : Int32) (x4 : Int32) (x5 : Int32) (h : qH) (Q : Int32 → qH → Prop)  (hw : w_Latin1_indexOfChar_7 N k x0 x3 x4 x5 h Q ) : qW p l e (qrm 0 0 0 0) s m args below meth c D cy b 6 0 0 (MQ below (qQc D cy b qrI Q) args s 0 0 (qA b)) 7 [(0, .inr (.inr (.inr (adV x0)))), (3, .inl x3), (4, .inl x4), (5, .inl x5)] [] h := by
  induction k generalizing x0 x3 x4 x5 h with
  | zero => exact hw.elim
  | succ k ih =>
    refine qx_iload (x := x5) X d_Latin1_indexOfChar_7 3 rfl ?_
    refine qx_iload_n (x := x3) X d_Latin1_indexOfChar_9 rfl 1 rfl ?_
    refine qx_icmp_ge X 31 d_Latin1_indexOfChar_10 (by decide) (fun q1 => ?_) (fun q1 => ?_)
    · have hw := hw.1 q1
      refine qx_iconst (v := (-1 : Int32)) X d_Latin1_indexOfChar_31 (by decide) ?_
      exact qx_iret X hw (Nat.le_refl 0) (Nat.le_refl 0) rfl d_Latin1_indexOfChar_32
    · have hw := hw.2 q1
      refine qx_aloadA (x := adV x0) X d_Latin1_indexOfChar_13 rfl 0 rfl ?_
      refine qx_iload (x := x5) X d_Latin1_indexOfChar_14 3 rfl ?_
      obtain ⟨g2, g3, hw⟩ := hw
      refine qx_vld X g2 g3 d_Latin1_indexOfChar_16 ?_
      refine qx_iload (x := x4) X d_Latin1_indexOfChar_17 2 rfl ?_
      refine qx_icmp_ne X 25 d_Latin1_indexOfChar_19 (by decide) (fun q4 => ?_) (fun q4 => ?_)
      · have hw := hw.1 q4
        refine qx_iinc (v := (x5 + (1 : Int32))) (L' := [(5, .inl (x5 + (1 : Int32))), (0, .inr (.inr (.inr (adV x0)))), (3, .inl x3), (4, .inl x4)]) X d_Latin1_indexOfChar_25 3 rfl rfl (by decide) rfl ?_
        refine qx_goto X 7 d_Latin1_indexOfChar_28 (by decide) ?_
        refine qx_sub [1, 2, 3, 0] rfl ?_
        exact ih x0 x3 x4 (x5 + (1 : Int32)) h hw
      · have hw := hw.2 q4
        refine qx_iload (x := x5) X d_Latin1_indexOfChar_22 3 rfl ?_
        exact qx_iret X hw (Nat.le_refl 0) (Nat.le_refl 0) rfl d_Latin1_indexOfChar_24
set_option maxRecDepth 4000 in
theorem t_Latin1_indexOfChar {adK adV : Nat → Nat} (l : Launch) (D : va_G) (cy : Nat → ClassId) (b : Nat) (N : Nat) (x0 : Nat) (x1 : Int32) (x2 : Int32) (x3 : Int32) (h : qH) (Q : Int32 → qH → Prop) (hw : w_Latin1_indexOfChar N x0 x1 x2 x3 h Q) : Met l y_Latin1_indexOfChar (Cond.code y_Latin1_indexOfChar prog_19_method_23_code 6 (some .int) :: qT) (qrm 0 0 0 0) (qPc D cy b adK adV h [.ref (adV x0), .int x1, .int x2, .int x3]) (qQc D cy b qrI Q) 0 0 (qA b) := by
  refine qmet (L0 := [(0, .inr (.inr (.inr (adV x0)))), (1, .inl x1), (2, .inl x2), (3, .inl x3)]) qm_Latin1_indexOfChar (by decide +kernel) [.inr (.inr (.inr (adV x0))), .inl x1, .inl x2, .inl x3] rfl (Nat.le_of_ble_eq_true rfl) rfl (fun p e s m args below meth c X => ?_)
  unfold w_Latin1_indexOfChar at hw
  refine qx_iload_n (x := x1) X d_Latin1_indexOfChar_0 rfl 1 rfl ?_
  refine qx_i2b X d_Latin1_indexOfChar_1 ?_
  refine qx_istore (L' := [(4, .inl ((x1).toInt8.toInt32)), (0, .inr (.inr (.inr (adV x0)))), (1, .inl x1), (2, .inl x2), (3, .inl x3)]) X d_Latin1_indexOfChar_2 (by decide) rfl ?_
  refine qx_iload_n (x := x2) X d_Latin1_indexOfChar_4 rfl 3 rfl ?_
  refine qx_istore (L' := [(5, .inl x2), (4, .inl ((x1).toInt8.toInt32)), (0, .inr (.inr (.inr (adV x0)))), (1, .inl x1), (2, .inl x2), (3, .inl x3)]) X d_Latin1_indexOfChar_5 (by decide) rfl ?_
  refine qx_sub [2, 5, 1, 0] rfl ?_
  exact t_Latin1_indexOfChar_7 X N N x0 x3 ((x1).toInt8.toInt32) x2 h Q  hw 
set_option maxRecDepth 4000 in
theorem t_Latin1_indexOf {adK adV : Nat → Nat} (l : Launch) (D : va_G) (cy : Nat → ClassId) (b : Nat) (N : Nat) (x0 : Nat) (x1 : Int32) (x2 : Int32) (x3 : Int32) (h : qH) (Q : Int32 → qH → Prop) (hw : w_Latin1_indexOf N x0 x1 x2 x3 h Q) : Met l y_Latin1_indexOf (Cond.code y_Latin1_indexOf prog_19_method_22_code 4 (some .int) :: qT) (qrm 1 0 0 25) (qPc D cy b adK adV h [.ref (adV x0), .int x1, .int x2, .int x3]) (qQc D cy b qrI Q) 0 0 (qA b) := by
  refine qmet (L0 := [(0, .inr (.inr (.inr (adV x0)))), (1, .inl x1), (2, .inl x2), (3, .inl x3)]) qm_Latin1_indexOf (by decide +kernel) [.inr (.inr (.inr (adV x0))), .inl x1, .inl x2, .inl x3] rfl (Nat.le_of_ble_eq_true rfl) rfl (fun p e s m args below meth c X => ?_)
  unfold w_Latin1_indexOf at hw
  refine qx_iload_n (x := x1) X d_Latin1_indexOf_0 rfl 1 rfl ?_
  refine qx_callSI (st := []) (As := [.int x1]) X (t_Latin1_canEncode (adK := adK) (adV := adV) l D cy b N x1 h _ hw) qm_Latin1_canEncode wm_Latin1_88 wi_Latin1_canEncode rfl rfl rfl ⟨Nat.le_of_ble_eq_true rfl, Nat.le_of_ble_eq_true rfl⟩ ⟨Nat.le_refl 0, Nat.le_refl 0⟩ (Nat.le_of_ble_eq_true rfl) rfl d_Latin1_indexOf_1 (fun r1 h2 hw => ?_)
  refine qx_if_ne X 9 d_Latin1_indexOf_4 (by decide) (fun q3 => ?_) (fun q3 => ?_)
  · have hw := hw.1 q3
    refine qx_iload_n (x := x2) X d_Latin1_indexOf_9 rfl 2 rfl ?_
    refine qx_iconst (v := (0 : Int32)) X d_Latin1_indexOf_10 (by decide) ?_
    refine qx_mmax X wm_Latin1_92 ws_mmax wz_Math wk_mmax (Nat.le_of_ble_eq_true rfl) (Nat.le_of_ble_eq_true rfl) (Nat.le_of_ble_eq_true rfl) (Nat.le_of_ble_eq_true rfl) d_Latin1_indexOf_11 ?_
    refine qx_topi (fun y4 ey4 => ?_)
    have hw := hw y4 ey4
    refine qx_istore_n (L' := [(2, .inl y4), (0, .inr (.inr (.inr (adV x0)))), (1, .inl x1), (3, .inl x3)]) X d_Latin1_indexOf_14 rfl (by decide) rfl ?_
    refine qx_iload_n (x := x3) X d_Latin1_indexOf_15 rfl 3 rfl ?_
    refine qx_aloadA (x := adV x0) X d_Latin1_indexOf_16 rfl 1 rfl ?_
    obtain ⟨g5, hw⟩ := hw
    refine qx_vlen X g5 d_Latin1_indexOf_17 ?_
    refine qx_mmin X wm_Latin1_38 ws_mmin wz_Math wk_mmin (Nat.le_of_ble_eq_true rfl) (Nat.le_of_ble_eq_true rfl) (Nat.le_of_ble_eq_true rfl) (Nat.le_of_ble_eq_true rfl) d_Latin1_indexOf_18 ?_
    refine qx_topi (fun y6 ey6 => ?_)
    have hw := hw y6 ey6
    refine qx_istore_n (L' := [(3, .inl y6), (2, .inl y4), (0, .inr (.inr (.inr (adV x0)))), (1, .inl x1)]) X d_Latin1_indexOf_21 rfl (by decide) rfl ?_
    refine qx_iload_n (x := y4) X d_Latin1_indexOf_22 rfl 1 rfl ?_
    refine qx_iload_n (x := y6) X d_Latin1_indexOf_23 rfl 0 rfl ?_
    refine qx_icmp_lt X 29 d_Latin1_indexOf_24 (by decide) (fun q7 => ?_) (fun q7 => ?_)
    · have hw := hw.1 q7
      refine qx_aloadA (x := adV x0) X d_Latin1_indexOf_29 rfl 2 rfl ?_
      refine qx_iload_n (x := x1) X d_Latin1_indexOf_30 rfl 3 rfl ?_
      refine qx_iload_n (x := y4) X d_Latin1_indexOf_31 rfl 1 rfl ?_
      refine qx_iload_n (x := y6) X d_Latin1_indexOf_32 rfl 0 rfl ?_
      refine qx_callSI (st := []) (As := [.ref (adV x0), .int x1, .int y4, .int y6]) X (t_Latin1_indexOfChar (adK := adK) (adV := adV) l D cy b N x0 x1 y4 y6 h2 _ hw) qm_Latin1_indexOfChar wm_Latin1_95 wi_Latin1_indexOfChar rfl rfl rfl ⟨Nat.le_of_ble_eq_true rfl, Nat.le_of_ble_eq_true rfl⟩ ⟨Nat.le_refl 0, Nat.le_refl 0⟩ (Nat.le_of_ble_eq_true rfl) rfl d_Latin1_indexOf_33 (fun r8 h9 hw => ?_)
      exact qx_iret X hw (Nat.le_refl 0) (Nat.le_refl 0) rfl d_Latin1_indexOf_36
    · have hw := hw.2 q7
      refine qx_iconst (v := (-1 : Int32)) X d_Latin1_indexOf_27 (by decide) ?_
      exact qx_iret X hw (Nat.le_refl 0) (Nat.le_refl 0) rfl d_Latin1_indexOf_28
  · have hw := hw.2 q3
    refine qx_iconst (v := (-1 : Int32)) X d_Latin1_indexOf_7 (by decide) ?_
    exact qx_iret X hw (Nat.le_refl 0) (Nat.le_refl 0) rfl d_Latin1_indexOf_8
set_option maxRecDepth 4000 in
theorem t_String_indexOf_II_I {adK adV : Nat → Nat} (l : Launch) (D : va_G) (cy : Nat → ClassId) (b : Nat) (N : Nat) (x0 : Nat) (x1 : Int32) (x2 : Int32) (h : qH) (Q : Int32 → qH → Prop) (hw : w_String_indexOf_II_I N x0 x1 x2 h Q) : Met l y_String_indexOf_II_I (Cond.code y_String_indexOf_II_I prog_18_method_80_code 3 (some .int) :: qT) (qrm 2 0 0 48) (qPc D cy b adK adV h [.ref (adK x0), .int x1, .int x2]) (qQc D cy b qrI Q) 0 0 (qA b) := by
  refine qmet (L0 := [(0, .inr (.inr (.inr (adK x0)))), (1, .inl x1), (2, .inl x2)]) qm_String_indexOf_II_I (by decide +kernel) [.inr (.inr (.inr (adK x0))), .inl x1, .inl x2] rfl (Nat.le_of_ble_eq_true rfl) rfl (fun p e s m args below meth c X => ?_)
  unfold w_String_indexOf_II_I at hw
  refine qx_aloadA (x := adK x0) X d_String_indexOf_II_I_0 rfl 0 rfl ?_
  obtain ⟨g1, hw⟩ := hw
  refine qx_callTI (st := []) (As := []) X (t_String_isLatin1 (adK := adK) (adV := adV) l D cy b N x0 h _ hw) qm_String_isLatin1 wm_String_492 wi_String_isLatin1 wl_String_isLatin1 rfl g1 rfl rfl rfl ⟨Nat.le_of_ble_eq_true rfl, Nat.le_of_ble_eq_true rfl⟩ ⟨Nat.le_refl 0, Nat.le_refl 0⟩ (Nat.le_of_ble_eq_true rfl) rfl d_String_indexOf_II_I_1 (fun r2 h3 hw => ?_)
  refine qx_if_eq X 23 d_String_indexOf_II_I_4 (by decide) (fun q4 => ?_) (fun q4 => ?_)
  · have hw := hw.1 q4
    exact hw.elim
  · have hw := hw.2 q4
    refine qx_aloadA (x := adK x0) X d_String_indexOf_II_I_7 rfl 0 rfl ?_
    obtain ⟨g5, hw⟩ := hw
    refine qx_sval X g5 wf_String_9 d_String_indexOf_II_I_8 ?_
    refine qx_iload_n (x := x1) X d_String_indexOf_II_I_11 rfl 1 rfl ?_
    refine qx_iload_n (x := x2) X d_String_indexOf_II_I_12 rfl 2 rfl ?_
    refine qx_aloadA (x := adK x0) X d_String_indexOf_II_I_13 rfl 0 rfl ?_
    obtain ⟨g6, hw⟩ := hw
    refine qx_callTI (st := [.int x2, .int x1, .ref (adV x0)]) (As := []) X (t_String_length (adK := adK) (adV := adV) l D cy b N x0 h3 _ hw) qm_String_length wm_String_505 wi_String_length wl_String_length rfl g6 rfl rfl rfl ⟨Nat.le_of_ble_eq_true rfl, Nat.le_of_ble_eq_true rfl⟩ ⟨Nat.le_refl 0, Nat.le_refl 0⟩ (Nat.le_of_ble_eq_true rfl) rfl d_String_indexOf_II_I_14 (fun r7 h8 hw => ?_)
    refine qx_callSI (st := []) (As := [.ref (adV x0), .int x1, .int x2, .int r7]) X (t_Latin1_indexOf (adK := adK) (adV := adV) l D cy b N x0 x1 x2 r7 h8 _ hw) qm_Latin1_indexOf wm_String_637 wi_Latin1_indexOf rfl rfl rfl ⟨Nat.le_of_ble_eq_true rfl, Nat.le_of_ble_eq_true rfl⟩ ⟨Nat.le_refl 0, Nat.le_refl 0⟩ (Nat.le_of_ble_eq_true rfl) rfl d_String_indexOf_II_I_17 (fun r9 h10 hw => ?_)
    refine qx_goto X 36 d_String_indexOf_II_I_20 (by decide) ?_
    exact qx_iret X hw (Nat.le_refl 0) (Nat.le_refl 0) rfl d_String_indexOf_II_I_36
set_option maxRecDepth 4000 in
theorem t_String_indexOf_I_I {adK adV : Nat → Nat} (l : Launch) (D : va_G) (cy : Nat → ClassId) (b : Nat) (N : Nat) (x0 : Nat) (x1 : Int32) (h : qH) (Q : Int32 → qH → Prop) (hw : w_String_indexOf_I_I N x0 x1 h Q) : Met l y_String_indexOf_I_I (Cond.code y_String_indexOf_I_I prog_18_method_79_code 2 (some .int) :: qT) (qrm 3 0 0 70) (qPc D cy b adK adV h [.ref (adK x0), .int x1]) (qQc D cy b qrI Q) 0 0 (qA b) := by
  refine qmet (L0 := [(0, .inr (.inr (.inr (adK x0)))), (1, .inl x1)]) qm_String_indexOf_I_I (by decide +kernel) [.inr (.inr (.inr (adK x0))), .inl x1] rfl (Nat.le_of_ble_eq_true rfl) rfl (fun p e s m args below meth c X => ?_)
  unfold w_String_indexOf_I_I at hw
  refine qx_aloadA (x := adK x0) X d_String_indexOf_I_I_0 rfl 0 rfl ?_
  refine qx_iload_n (x := x1) X d_String_indexOf_I_I_1 rfl 1 rfl ?_
  refine qx_iconst (v := (0 : Int32)) X d_String_indexOf_I_I_2 (by decide) ?_
  obtain ⟨g1, hw⟩ := hw
  refine qx_callTI (st := []) (As := [.int x1, .int (0 : Int32)]) X (t_String_indexOf_II_I (adK := adK) (adV := adV) l D cy b N x0 x1 (0 : Int32) h _ hw) qm_String_indexOf_II_I wm_String_633 wi_String_indexOf_II_I wl_String_indexOf_II_I rfl g1 rfl rfl rfl ⟨Nat.le_of_ble_eq_true rfl, Nat.le_of_ble_eq_true rfl⟩ ⟨Nat.le_refl 0, Nat.le_refl 0⟩ (Nat.le_of_ble_eq_true rfl) rfl d_String_indexOf_I_I_3 (fun r2 h3 hw => ?_)
  exact qx_iret X hw (Nat.le_refl 0) (Nat.le_refl 0) rfl d_String_indexOf_I_I_6
set_option maxRecDepth 4000 in
theorem t_Precond_checkIndex {adK adV : Nat → Nat} (l : Launch) (D : va_G) (cy : Nat → ClassId) (b : Nat) (N : Nat) (x0 : Int32) (x1 : Int32) (x2 : qV) (h : qH) (Q : Int32 → qH → Prop) (hz : qlg x2 = false) (hw : w_Precond_checkIndex N x0 x1 x2 h Q) : Met l y_Precond_checkIndex (Cond.code y_Precond_checkIndex prog_22_method_11_code 3 (some .int) :: qT) (qrm 0 0 0 0) (qPc D cy b adK adV h [.int x0, .int x1, qval b x2]) (qQc D cy b qrI Q) 0 0 (qA b) := by
  refine qmet (L0 := [(0, .inl x0), (1, .inl x1), (2, x2)]) qm_Precond_checkIndex (by decide +kernel) [.inl x0, .inl x1, x2] rfl (by show 1 + (1 + ((if qlg x2 = true then 2 else 1) + 0)) ≤ 3; rw [hz]; decide) rfl (fun p e s m args below meth c X => ?_)
  unfold w_Precond_checkIndex at hw
  refine qx_iload_n (x := x0) X d_Precond_checkIndex_0 rfl 0 rfl ?_
  refine qx_if_lt X 9 d_Precond_checkIndex_1 (by decide) (fun q1 => ?_) (fun q1 => ?_)
  · have hw := hw.1 q1
    exact hw.elim
  · have hw := hw.2 q1
    refine qx_iload_n (x := x0) X d_Precond_checkIndex_4 rfl 0 rfl ?_
    refine qx_iload_n (x := x1) X d_Precond_checkIndex_5 rfl 1 rfl ?_
    refine qx_icmp_lt X 16 d_Precond_checkIndex_6 (by decide) (fun q2 => ?_) (fun q2 => ?_)
    · have hw := hw.1 q2
      refine qx_iload_n (x := x0) X d_Precond_checkIndex_16 rfl 0 rfl ?_
      exact qx_iret X hw (Nat.le_refl 0) (Nat.le_refl 0) rfl d_Precond_checkIndex_17
    · have hw := hw.2 q2
      exact hw.elim
set_option maxRecDepth 4000 in
theorem t_String_checkIndex {adK adV : Nat → Nat} (l : Launch) (D : va_G) (cy : Nat → ClassId) (b : Nat) (N : Nat) (x0 : Int32) (x1 : Int32) (h : qH) (Q : qH → Prop) (hw : w_String_checkIndex N x0 x1 h Q) : Met l y_String_checkIndex (Cond.code y_String_checkIndex prog_18_method_155_code 2 (none) :: qT) (qrm 1 0 0 22) (qPc D cy b adK adV h [.int x0, .int x1]) (qQc D cy b qrV (fun (_ : Unit) h => Q h)) 0 0 (qA b) := by
  refine qmet (L0 := [(0, .inl x0), (1, .inl x1)]) qm_String_checkIndex (by decide +kernel) [.inl x0, .inl x1] rfl (Nat.le_of_ble_eq_true rfl) rfl (fun p e s m args below meth c X => ?_)
  unfold w_String_checkIndex at hw
  refine qx_iload_n (x := x0) X d_String_checkIndex_0 rfl 0 rfl ?_
  refine qx_iload_n (x := x1) X d_String_checkIndex_1 rfl 1 rfl ?_
  refine qx_getsF X wf_String_1053 d_String_checkIndex_2 (fun y1 ey1 => ?_)
  have hw := hw y1 ey1
  refine qx_callSI (st := []) (As := [.int x0, .int x1, qval b y1]) X (t_Precond_checkIndex (adK := adK) (adV := adV) l D cy b N x0 x1 y1 h _ ey1 hw) qm_Precond_checkIndex wm_String_1059 wi_Precond_checkIndex rfl rfl rfl ⟨Nat.le_of_ble_eq_true rfl, Nat.le_of_ble_eq_true rfl⟩ ⟨Nat.le_refl 0, Nat.le_refl 0⟩ (Nat.le_of_ble_eq_true rfl) rfl d_String_checkIndex_5 (fun r2 h3 hw => ?_)
  refine qx_pop X rfl d_String_checkIndex_8 ?_
  exact qx_vret X hw (Nat.le_refl 0) (Nat.le_refl 0) rfl d_String_checkIndex_9
set_option maxRecDepth 4000 in
theorem t_Latin1_charAt {adK adV : Nat → Nat} (l : Launch) (D : va_G) (cy : Nat → ClassId) (b : Nat) (N : Nat) (x0 : Nat) (x1 : Int32) (h : qH) (Q : Int32 → qH → Prop) (hw : w_Latin1_charAt N x0 x1 h Q) : Met l y_Latin1_charAt (Cond.code y_Latin1_charAt prog_19_method_2_code 2 (some .char) :: qT) (qrm 2 0 0 43) (qPc D cy b adK adV h [.ref (adV x0), .int x1]) (qQc D cy b qrI Q) 0 0 (qA b) := by
  refine qmet (L0 := [(0, .inr (.inr (.inr (adV x0)))), (1, .inl x1)]) qm_Latin1_charAt (by decide +kernel) [.inr (.inr (.inr (adV x0))), .inl x1] rfl (Nat.le_of_ble_eq_true rfl) rfl (fun p e s m args below meth c X => ?_)
  unfold w_Latin1_charAt at hw
  refine qx_iload_n (x := x1) X d_Latin1_charAt_0 rfl 1 rfl ?_
  refine qx_aloadA (x := adV x0) X d_Latin1_charAt_1 rfl 0 rfl ?_
  obtain ⟨g1, hw⟩ := hw
  refine qx_vlen X g1 d_Latin1_charAt_2 ?_
  refine qx_callSV (st := []) (As := [.int x1, .int (nI (lenJS.getD x0 0))]) X (t_String_checkIndex (adK := adK) (adV := adV) l D cy b N x1 (nI (lenJS.getD x0 0)) h _ hw) qm_String_checkIndex wm_Latin1_9 wi_String_checkIndex rfl rfl rfl ⟨Nat.le_of_ble_eq_true rfl, Nat.le_of_ble_eq_true rfl⟩ ⟨Nat.le_refl 0, Nat.le_refl 0⟩ (Nat.le_of_ble_eq_true rfl) rfl d_Latin1_charAt_3 (fun h2 hw => ?_)
  refine qx_aloadA (x := adV x0) X d_Latin1_charAt_6 rfl 0 rfl ?_
  refine qx_iload_n (x := x1) X d_Latin1_charAt_7 rfl 1 rfl ?_
  obtain ⟨g3, g4, hw⟩ := hw
  refine qx_vld X g3 g4 d_Latin1_charAt_8 ?_
  refine qx_sipush (v := (255 : Int32)) X d_Latin1_charAt_9 (by decide) ?_
  refine qx_iand X d_Latin1_charAt_12 ?_
  refine qx_i2c X d_Latin1_charAt_13 ?_
  exact qx_nret X hw (Nat.le_refl 0) (Nat.le_refl 0) rfl d_Latin1_charAt_14
set_option maxRecDepth 4000 in
theorem t_String_charAt {adK adV : Nat → Nat} (l : Launch) (D : va_G) (cy : Nat → ClassId) (b : Nat) (N : Nat) (x0 : Nat) (x1 : Int32) (h : qH) (Q : Int32 → qH → Prop) (hw : w_String_charAt N x0 x1 h Q) : Met l y_String_charAt (Cond.code y_String_charAt prog_18_method_56_code 2 (some .char) :: qT) (qrm 3 0 0 64) (qPc D cy b adK adV h [.ref (adK x0), .int x1]) (qQc D cy b qrI Q) 0 0 (qA b) := by
  refine qmet (L0 := [(0, .inr (.inr (.inr (adK x0)))), (1, .inl x1)]) qm_String_charAt (by decide +kernel) [.inr (.inr (.inr (adK x0))), .inl x1] rfl (Nat.le_of_ble_eq_true rfl) rfl (fun p e s m args below meth c X => ?_)
  unfold w_String_charAt at hw
  refine qx_aloadA (x := adK x0) X d_String_charAt_0 rfl 0 rfl ?_
  obtain ⟨g1, hw⟩ := hw
  refine qx_callTI (st := []) (As := []) X (t_String_isLatin1 (adK := adK) (adV := adV) l D cy b N x0 h _ hw) qm_String_isLatin1 wm_String_492 wi_String_isLatin1 wl_String_isLatin1 rfl g1 rfl rfl rfl ⟨Nat.le_of_ble_eq_true rfl, Nat.le_of_ble_eq_true rfl⟩ ⟨Nat.le_refl 0, Nat.le_refl 0⟩ (Nat.le_of_ble_eq_true rfl) rfl d_String_charAt_1 (fun r2 h3 hw => ?_)
  refine qx_if_eq X 16 d_String_charAt_4 (by decide) (fun q4 => ?_) (fun q4 => ?_)
  · have hw := hw.1 q4
    exact hw.elim
  · have hw := hw.2 q4
    refine qx_aloadA (x := adK x0) X d_String_charAt_7 rfl 0 rfl ?_
    obtain ⟨g5, hw⟩ := hw
    refine qx_sval X g5 wf_String_9 d_String_charAt_8 ?_
    refine qx_iload_n (x := x1) X d_String_charAt_11 rfl 1 rfl ?_
    refine qx_callSI (st := []) (As := [.ref (adV x0), .int x1]) X (t_Latin1_charAt (adK := adK) (adV := adV) l D cy b N x0 x1 h3 _ hw) qm_Latin1_charAt wm_String_495 wi_Latin1_charAt rfl rfl rfl ⟨Nat.le_of_ble_eq_true rfl, Nat.le_of_ble_eq_true rfl⟩ ⟨Nat.le_refl 0, Nat.le_refl 0⟩ (Nat.le_of_ble_eq_true rfl) rfl d_String_charAt_12 (fun r6 h7 hw => ?_)
    exact qx_nret X hw (Nat.le_refl 0) (Nat.le_refl 0) rfl d_String_charAt_15
end QG
