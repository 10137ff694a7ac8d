/-! Tape: written by wip/whole/emit.py out of the bytecode -/
def y_Tape_byteAt : MethodName := ⟨"CoatHangers$Tape", "byteAt", "(I)I"⟩
theorem qm_Tape_byteAt : qMt y_Tape_byteAt prog_9_method_4_code 2 (some .int) 1 := ⟨qT_3 (i := 50) (by decide +kernel) rfl, qT_1 (i := 2) (by decide +kernel) rfl, by decide, by decide, by decide +kernel⟩
theorem wi_Tape_byteAt : Cond.instanceMethod y_Tape_byteAt ∈ qT := qT_3 (i := 49) (by decide +kernel) rfl
theorem wl_Tape_byteAt : Cond.selects y_Tape_byteAt.cls y_Tape_byteAt y_Tape_byteAt ∈ qT := qT_s (i := 1) (by decide +kernel) rfl
def y_Tape_isBlank : MethodName := ⟨"CoatHangers$Tape", "isBlank", "(I)Z"⟩
theorem qm_Tape_isBlank : qMt y_Tape_isBlank prog_9_method_12_code 1 (some .boolean) 1 := ⟨qT_3 (i := 53) (by decide +kernel) rfl, qT_1 (i := 2) (by decide +kernel) rfl, by decide, by decide, by decide +kernel⟩
theorem wi_Tape_isBlank : Cond.static y_Tape_isBlank ∈ qT := qT_3 (i := 52) (by decide +kernel) rfl
def y_Tape_skipBlanks : MethodName := ⟨"CoatHangers$Tape", "skipBlanks", "()V"⟩
theorem qm_Tape_skipBlanks : qMt y_Tape_skipBlanks prog_9_method_6_code 1 (none) 0 := ⟨qT_3 (i := 46) (by decide +kernel) rfl, qT_1 (i := 2) (by decide +kernel) rfl, by decide, by decide, by decide +kernel⟩
theorem wi_Tape_skipBlanks : Cond.instanceMethod y_Tape_skipBlanks ∈ qT := qT_3 (i := 45) (by decide +kernel) rfl
theorem wl_Tape_skipBlanks : Cond.selects y_Tape_skipBlanks.cls y_Tape_skipBlanks y_Tape_skipBlanks ∈ qT := qT_s (i := 0) (by decide +kernel) rfl
def y_Tape_isDigit : MethodName := ⟨"CoatHangers$Tape", "isDigit", "(I)Z"⟩
theorem qm_Tape_isDigit : qMt y_Tape_isDigit prog_9_method_14_code 1 (some .boolean) 1 := ⟨qT_3 (i := 71) (by decide +kernel) rfl, qT_1 (i := 2) (by decide +kernel) rfl, by decide, by decide, by decide +kernel⟩
theorem wi_Tape_isDigit : Cond.static y_Tape_isDigit ∈ qT := qT_3 (i := 70) (by decide +kernel) rfl
def y_Tape_isLetter : MethodName := ⟨"CoatHangers$Tape", "isLetter", "(I)Z"⟩
theorem qm_Tape_isLetter : qMt y_Tape_isLetter prog_9_method_13_code 1 (some .boolean) 1 := ⟨qT_3 (i := 60) (by decide +kernel) rfl, qT_1 (i := 2) (by decide +kernel) rfl, by decide, by decide, by decide +kernel⟩
theorem wi_Tape_isLetter : Cond.static y_Tape_isLetter ∈ qT := qT_3 (i := 59) (by decide +kernel) rfl
def y_Tape_splitInt : MethodName := ⟨"CoatHangers$Tape", "splitInt", "(I)I"⟩
theorem qm_Tape_splitInt : qMt y_Tape_splitInt prog_9_method_10_code 4 (some .int) 1 := ⟨qT_3 (i := 75) (by decide +kernel) rfl, qT_1 (i := 2) (by decide +kernel) rfl, by decide, by decide, by decide +kernel⟩
theorem wi_Tape_splitInt : Cond.instanceMethod y_Tape_splitInt ∈ qT := qT_3 (i := 74) (by decide +kernel) rfl
theorem wl_Tape_splitInt : Cond.selects y_Tape_splitInt.cls y_Tape_splitInt y_Tape_splitInt ∈ qT := qT_s (i := 5) (by decide +kernel) rfl
def y_Tape_kindOf : MethodName := ⟨"CoatHangers$Tape", "kindOf", "(J)I"⟩
theorem qm_Tape_kindOf : qMt y_Tape_kindOf prog_9_method_9_code 4 (some .int) 1 := ⟨qT_3 (i := 68) (by decide +kernel) rfl, qT_1 (i := 2) (by decide +kernel) rfl, by decide, by decide, by decide +kernel⟩
theorem wi_Tape_kindOf : Cond.instanceMethod y_Tape_kindOf ∈ qT := qT_3 (i := 67) (by decide +kernel) rfl
theorem wl_Tape_kindOf : Cond.selects y_Tape_kindOf.cls y_Tape_kindOf y_Tape_kindOf ∈ qT := qT_s (i := 4) (by decide +kernel) rfl
def y_Tape_withLetter : MethodName := ⟨"CoatHangers$Tape", "withLetter", "(JI)J"⟩
theorem qm_Tape_withLetter : qMt y_Tape_withLetter prog_9_method_11_code 3 (some .long) 2 := ⟨qT_1 (i := 87) (by decide +kernel) rfl, qT_1 (i := 2) (by decide +kernel) rfl, by decide, by decide, by decide +kernel⟩
theorem wi_Tape_withLetter : Cond.static y_Tape_withLetter ∈ qT := qT_1 (i := 86) (by decide +kernel) rfl
def y_Tape_splitWord : MethodName := ⟨"CoatHangers$Tape", "splitWord", "(I)I"⟩
theorem qm_Tape_splitWord : qMt y_Tape_splitWord prog_9_method_8_code 4 (some .int) 1 := ⟨qT_3 (i := 64) (by decide +kernel) rfl, qT_1 (i := 2) (by decide +kernel) rfl, by decide, by decide, by decide +kernel⟩
theorem wi_Tape_splitWord : Cond.instanceMethod y_Tape_splitWord ∈ qT := qT_3 (i := 63) (by decide +kernel) rfl
theorem wl_Tape_splitWord : Cond.selects y_Tape_splitWord.cls y_Tape_splitWord y_Tape_splitWord ∈ qT := qT_s (i := 3) (by decide +kernel) rfl
def y_Tape_splitOne : MethodName := ⟨"CoatHangers$Tape", "splitOne", "(I)I"⟩
theorem qm_Tape_splitOne : qMt y_Tape_splitOne prog_9_method_7_code 3 (some .int) 1 := ⟨qT_3 (i := 57) (by decide +kernel) rfl, qT_1 (i := 2) (by decide +kernel) rfl, by decide, by decide, by decide +kernel⟩
theorem wi_Tape_splitOne : Cond.instanceMethod y_Tape_splitOne ∈ qT := qT_3 (i := 56) (by decide +kernel) rfl
theorem wl_Tape_splitOne : Cond.selects y_Tape_splitOne.cls y_Tape_splitOne y_Tape_splitOne ∈ qT := qT_s (i := 2) (by decide +kernel) rfl
def y_Tape_split : MethodName := ⟨"CoatHangers$Tape", "split", "()V"⟩
theorem qm_Tape_split : qMt y_Tape_split prog_9_method_5_code 3 (none) 0 := ⟨qT_3 (i := 42) (by decide +kernel) rfl, qT_1 (i := 2) (by decide +kernel) rfl, by decide, by decide, by decide +kernel⟩
theorem wi_Tape_split : Cond.instanceMethod y_Tape_split ∈ qT := qT_3 (i := 40) (by decide +kernel) rfl
theorem wl_Tape_split : Cond.selects y_Tape_split.cls y_Tape_split y_Tape_split ∈ qT := qT_3 (i := 41) (by decide +kernel) rfl
def y_Tape_hasRoomFor : MethodName := ⟨"CoatHangers$Tape", "hasRoomFor", "(I)Z"⟩
theorem qm_Tape_hasRoomFor : qMt y_Tape_hasRoomFor prog_9_method_2_code 2 (some .boolean) 1 := ⟨qT_3 (i := 21) (by decide +kernel) rfl, qT_1 (i := 2) (by decide +kernel) rfl, by decide, by decide, by decide +kernel⟩
theorem wi_Tape_hasRoomFor : Cond.instanceMethod y_Tape_hasRoomFor ∈ qT := qT_3 (i := 19) (by decide +kernel) rfl
theorem wl_Tape_hasRoomFor : Cond.selects y_Tape_hasRoomFor.cls y_Tape_hasRoomFor y_Tape_hasRoomFor ∈ qT := qT_3 (i := 20) (by decide +kernel) rfl
def y_Tape_addFour : MethodName := ⟨"CoatHangers$Tape", "addFour", "(I)V"⟩
theorem qm_Tape_addFour : qMt y_Tape_addFour prog_9_method_3_code 3 (none) 1 := ⟨qT_3 (i := 25) (by decide +kernel) rfl, qT_1 (i := 2) (by decide +kernel) rfl, by decide, by decide, by decide +kernel⟩
theorem wi_Tape_addFour : Cond.instanceMethod y_Tape_addFour ∈ qT := qT_3 (i := 23) (by decide +kernel) rfl
theorem wl_Tape_addFour : Cond.selects y_Tape_addFour.cls y_Tape_addFour y_Tape_addFour ∈ qT := qT_3 (i := 24) (by decide +kernel) rfl
theorem wf_Tape_15 : Cond.fieldLink "CoatHangers$Tape" 15 "CoatHangers$Tape" "size" "I" ∈ qT := qT_1 (i := 90) (by decide +kernel) rfl
theorem wf_Tape_11 : Cond.fieldLink "CoatHangers$Tape" 11 "CoatHangers$Tape" "bytes" "[B" ∈ qT := qT_1 (i := 89) (by decide +kernel) rfl
theorem wf_Tape_49 : Cond.fieldLink "CoatHangers$Tape" 49 "CoatHangers$Tape" "next" "I" ∈ qT := qT_1 (i := 93) (by decide +kernel) rfl
theorem wm_Tape_59 : Cond.methodLink "CoatHangers$Tape" 59 y_Tape_byteAt ∈ qT := qT_3 (i := 47) (by decide +kernel) rfl
theorem wm_Tape_62 : Cond.methodLink "CoatHangers$Tape" 62 y_Tape_isBlank ∈ qT := qT_3 (i := 51) (by decide +kernel) rfl
theorem wm_Tape_72 : Cond.methodLink "CoatHangers$Tape" 72 y_Tape_isDigit ∈ qT := qT_3 (i := 69) (by decide +kernel) rfl
theorem wk_Tape_87 : Cond.constantLong "CoatHangers$Tape" 87 (10 : Int64) ∈ qT := qT_3 (i := 76) (by decide +kernel) rfl
theorem wf_Tape_30 : Cond.fieldLink "CoatHangers$Tape" 30 "CoatHangers$Tape" "values" "[J" ∈ qT := qT_1 (i := 98) (by decide +kernel) rfl
theorem wf_Tape_27 : Cond.fieldLink "CoatHangers$Tape" 27 "CoatHangers$Tape" "places" "[I" ∈ qT := qT_1 (i := 96) (by decide +kernel) rfl
theorem wf_Tape_19 : Cond.fieldLink "CoatHangers$Tape" 19 "CoatHangers$Tape" "words" "[J" ∈ qT := qT_1 (i := 92) (by decide +kernel) rfl
theorem wk_Tape_89 : Cond.constantLong "CoatHangers$Tape" 89 (27 : Int64) ∈ qT := qT_1 (i := 88) (by decide +kernel) rfl
theorem wm_Tape_66 : Cond.methodLink "CoatHangers$Tape" 66 y_Tape_isLetter ∈ qT := qT_3 (i := 58) (by decide +kernel) rfl
theorem wm_Tape_45 : Cond.methodLink "CoatHangers$Tape" 45 y_Tape_withLetter ∈ qT := qT_1 (i := 85) (by decide +kernel) rfl
theorem wm_Tape_83 : Cond.methodLink "CoatHangers$Tape" 83 y_Tape_kindOf ∈ qT := qT_3 (i := 65) (by decide +kernel) rfl
theorem wm_Tape_80 : Cond.methodLink "CoatHangers$Tape" 80 y_String_indexOf_I_I ∈ qT := qT_3 (i := 78) (by decide +kernel) rfl
theorem wm_Tape_75 : Cond.methodLink "CoatHangers$Tape" 75 y_Tape_splitInt ∈ qT := qT_3 (i := 72) (by decide +kernel) rfl
theorem wm_Tape_69 : Cond.methodLink "CoatHangers$Tape" 69 y_Tape_splitWord ∈ qT := qT_3 (i := 61) (by decide +kernel) rfl
theorem wm_Tape_52 : Cond.methodLink "CoatHangers$Tape" 52 y_Tape_skipBlanks ∈ qT := qT_3 (i := 43) (by decide +kernel) rfl
theorem wf_Tape_23 : Cond.fieldLink "CoatHangers$Tape" 23 "CoatHangers$Tape" "kinds" "[I" ∈ qT := qT_1 (i := 94) (by decide +kernel) rfl
theorem wm_Tape_55 : Cond.methodLink "CoatHangers$Tape" 55 y_Tape_splitOne ∈ qT := qT_3 (i := 54) (by decide +kernel) rfl
theorem d_Tape_byteAt_0 : decode prog_9_method_4_code 0 = .ok (.iload_n 1, 1) := by decide +kernel
theorem d_Tape_byteAt_1 : decode prog_9_method_4_code 1 = .ok (.ifCond .lt 24, 3) := by decide +kernel
theorem d_Tape_byteAt_4 : decode prog_9_method_4_code 4 = .ok (.iload_n 1, 1) := by decide +kernel
theorem d_Tape_byteAt_5 : decode prog_9_method_4_code 5 = .ok (.aload_n 0, 1) := by decide +kernel
theorem d_Tape_byteAt_6 : decode prog_9_method_4_code 6 = .ok (.getfield 15, 3) := by decide +kernel
theorem d_Tape_byteAt_9 : decode prog_9_method_4_code 9 = .ok (.if_icmp .ge 16, 3) := by decide +kernel
theorem d_Tape_byteAt_12 : decode prog_9_method_4_code 12 = .ok (.aload_n 0, 1) := by decide +kernel
theorem d_Tape_byteAt_13 : decode prog_9_method_4_code 13 = .ok (.getfield 11, 3) := by decide +kernel
theorem d_Tape_byteAt_16 : decode prog_9_method_4_code 16 = .ok (.iload_n 1, 1) := by decide +kernel
theorem d_Tape_byteAt_17 : decode prog_9_method_4_code 17 = .ok (.baload, 1) := by decide +kernel
theorem d_Tape_byteAt_18 : decode prog_9_method_4_code 18 = .ok (.sipush 255, 3) := by decide +kernel
theorem d_Tape_byteAt_21 : decode prog_9_method_4_code 21 = .ok (.iand, 1) := by decide +kernel
theorem d_Tape_byteAt_22 : decode prog_9_method_4_code 22 = .ok (.goto 4, 3) := by decide +kernel
theorem d_Tape_byteAt_25 : decode prog_9_method_4_code 25 = .ok (.iconst (-1), 1) := by decide +kernel
theorem d_Tape_byteAt_26 : decode prog_9_method_4_code 26 = .ok (.ireturn, 1) := by decide +kernel
theorem d_Tape_isBlank_0 : decode prog_9_method_12_code 0 = .ok (.iload_n 0, 1) := by decide +kernel
theorem d_Tape_isBlank_1 : decode prog_9_method_12_code 1 = .ok (.bipush 9, 2) := by decide +kernel
theorem d_Tape_isBlank_3 : decode prog_9_method_12_code 3 = .ok (.if_icmp .eq 21, 3) := by decide +kernel
theorem d_Tape_isBlank_6 : decode prog_9_method_12_code 6 = .ok (.iload_n 0, 1) := by decide +kernel
theorem d_Tape_isBlank_7 : decode prog_9_method_12_code 7 = .ok (.bipush 10, 2) := by decide +kernel
theorem d_Tape_isBlank_9 : decode prog_9_method_12_code 9 = .ok (.if_icmp .eq 15, 3) := by decide +kernel
theorem d_Tape_isBlank_12 : decode prog_9_method_12_code 12 = .ok (.iload_n 0, 1) := by decide +kernel
theorem d_Tape_isBlank_13 : decode prog_9_method_12_code 13 = .ok (.bipush 13, 2) := by decide +kernel
theorem d_Tape_isBlank_15 : decode prog_9_method_12_code 15 = .ok (.if_icmp .eq 9, 3) := by decide +kernel
theorem d_Tape_isBlank_18 : decode prog_9_method_12_code 18 = .ok (.iload_n 0, 1) := by decide +kernel
theorem d_Tape_isBlank_19 : decode prog_9_method_12_code 19 = .ok (.bipush 32, 2) := by decide +kernel
theorem d_Tape_isBlank_21 : decode prog_9_method_12_code 21 = .ok (.if_icmp .ne 7, 3) := by decide +kernel
theorem d_Tape_isBlank_24 : decode prog_9_method_12_code 24 = .ok (.iconst 1, 1) := by decide +kernel
theorem d_Tape_isBlank_25 : decode prog_9_method_12_code 25 = .ok (.goto 4, 3) := by decide +kernel
theorem d_Tape_isBlank_28 : decode prog_9_method_12_code 28 = .ok (.iconst 0, 1) := by decide +kernel
theorem d_Tape_isBlank_29 : decode prog_9_method_12_code 29 = .ok (.ireturn, 1) := by decide +kernel
theorem d_Tape_skipBlanks_0 : decode prog_9_method_6_code 0 = .ok (.aload_n 0, 1) := by decide +kernel
theorem d_Tape_skipBlanks_1 : decode prog_9_method_6_code 1 = .ok (.getfield 49, 3) := by decide +kernel
theorem d_Tape_skipBlanks_4 : decode prog_9_method_6_code 4 = .ok (.aload_n 0, 1) := by decide +kernel
theorem d_Tape_skipBlanks_5 : decode prog_9_method_6_code 5 = .ok (.getfield 15, 3) := by decide +kernel
theorem d_Tape_skipBlanks_8 : decode prog_9_method_6_code 8 = .ok (.if_icmp .ge 30, 3) := by decide +kernel
theorem d_Tape_skipBlanks_11 : decode prog_9_method_6_code 11 = .ok (.aload_n 0, 1) := by decide +kernel
theorem d_Tape_skipBlanks_12 : decode prog_9_method_6_code 12 = .ok (.aload_n 0, 1) := by decide +kernel
theorem d_Tape_skipBlanks_13 : decode prog_9_method_6_code 13 = .ok (.getfield 49, 3) := by decide +kernel
theorem d_Tape_skipBlanks_16 : decode prog_9_method_6_code 16 = .ok (.invokevirtual 59, 3) := by decide +kernel
theorem d_Tape_skipBlanks_19 : decode prog_9_method_6_code 19 = .ok (.invokestatic 62, 3) := by decide +kernel
theorem d_Tape_skipBlanks_22 : decode prog_9_method_6_code 22 = .ok (.ifCond .eq 16, 3) := by decide +kernel
theorem d_Tape_skipBlanks_25 : decode prog_9_method_6_code 25 = .ok (.aload_n 0, 1) := by decide +kernel
theorem d_Tape_skipBlanks_26 : decode prog_9_method_6_code 26 = .ok (.dup, 1) := by decide +kernel
theorem d_Tape_skipBlanks_27 : decode prog_9_method_6_code 27 = .ok (.getfield 49, 3) := by decide +kernel
theorem d_Tape_skipBlanks_30 : decode prog_9_method_6_code 30 = .ok (.iconst 1, 1) := by decide +kernel
theorem d_Tape_skipBlanks_31 : decode prog_9_method_6_code 31 = .ok (.iadd, 1) := by decide +kernel
theorem d_Tape_skipBlanks_32 : decode prog_9_method_6_code 32 = .ok (.putfield 49, 3) := by decide +kernel
theorem d_Tape_skipBlanks_35 : decode prog_9_method_6_code 35 = .ok (.goto (-35), 3) := by decide +kernel
theorem d_Tape_skipBlanks_38 : decode prog_9_method_6_code 38 = .ok (.return_, 1) := by decide +kernel
theorem d_Tape_isDigit_0 : decode prog_9_method_14_code 0 = .ok (.iload_n 0, 1) := by decide +kernel
theorem d_Tape_isDigit_1 : decode prog_9_method_14_code 1 = .ok (.bipush 48, 2) := by decide +kernel
theorem d_Tape_isDigit_3 : decode prog_9_method_14_code 3 = .ok (.if_icmp .lt 13, 3) := by decide +kernel
theorem d_Tape_isDigit_6 : decode prog_9_method_14_code 6 = .ok (.iload_n 0, 1) := by decide +kernel
theorem d_Tape_isDigit_7 : decode prog_9_method_14_code 7 = .ok (.bipush 57, 2) := by decide +kernel
theorem d_Tape_isDigit_9 : decode prog_9_method_14_code 9 = .ok (.if_icmp .gt 7, 3) := by decide +kernel
theorem d_Tape_isDigit_12 : decode prog_9_method_14_code 12 = .ok (.iconst 1, 1) := by decide +kernel
theorem d_Tape_isDigit_13 : decode prog_9_method_14_code 13 = .ok (.goto 4, 3) := by decide +kernel
theorem d_Tape_isDigit_16 : decode prog_9_method_14_code 16 = .ok (.iconst 0, 1) := by decide +kernel
theorem d_Tape_isDigit_17 : decode prog_9_method_14_code 17 = .ok (.ireturn, 1) := by decide +kernel
theorem d_Tape_isLetter_0 : decode prog_9_method_13_code 0 = .ok (.iload_n 0, 1) := by decide +kernel
theorem d_Tape_isLetter_1 : decode prog_9_method_13_code 1 = .ok (.bipush 97, 2) := by decide +kernel
theorem d_Tape_isLetter_3 : decode prog_9_method_13_code 3 = .ok (.if_icmp .lt 13, 3) := by decide +kernel
theorem d_Tape_isLetter_6 : decode prog_9_method_13_code 6 = .ok (.iload_n 0, 1) := by decide +kernel
theorem d_Tape_isLetter_7 : decode prog_9_method_13_code 7 = .ok (.bipush 122, 2) := by decide +kernel
theorem d_Tape_isLetter_9 : decode prog_9_method_13_code 9 = .ok (.if_icmp .gt 7, 3) := by decide +kernel
theorem d_Tape_isLetter_12 : decode prog_9_method_13_code 12 = .ok (.iconst 1, 1) := by decide +kernel
theorem d_Tape_isLetter_13 : decode prog_9_method_13_code 13 = .ok (.goto 4, 3) := by decide +kernel
theorem d_Tape_isLetter_16 : decode prog_9_method_13_code 16 = .ok (.iconst 0, 1) := by decide +kernel
theorem d_Tape_isLetter_17 : decode prog_9_method_13_code 17 = .ok (.ireturn, 1) := by decide +kernel
theorem d_Tape_splitInt_0 : decode prog_9_method_10_code 0 = .ok (.lconst 0, 1) := by decide +kernel
theorem d_Tape_splitInt_1 : decode prog_9_method_10_code 1 = .ok (.lstore_n 2, 1) := by decide +kernel
theorem d_Tape_splitInt_2 : decode prog_9_method_10_code 2 = .ok (.aload_n 0, 1) := by decide +kernel
theorem d_Tape_splitInt_3 : decode prog_9_method_10_code 3 = .ok (.getfield 49, 3) := by decide +kernel
theorem d_Tape_splitInt_6 : decode prog_9_method_10_code 6 = .ok (.aload_n 0, 1) := by decide +kernel
theorem d_Tape_splitInt_7 : decode prog_9_method_10_code 7 = .ok (.getfield 15, 3) := by decide +kernel
theorem d_Tape_splitInt_10 : decode prog_9_method_10_code 10 = .ok (.if_icmp .ge 49, 3) := by decide +kernel
theorem d_Tape_splitInt_13 : decode prog_9_method_10_code 13 = .ok (.aload_n 0, 1) := by decide +kernel
theorem d_Tape_splitInt_14 : decode prog_9_method_10_code 14 = .ok (.aload_n 0, 1) := by decide +kernel
theorem d_Tape_splitInt_15 : decode prog_9_method_10_code 15 = .ok (.getfield 49, 3) := by decide +kernel
theorem d_Tape_splitInt_18 : decode prog_9_method_10_code 18 = .ok (.invokevirtual 59, 3) := by decide +kernel
theorem d_Tape_splitInt_21 : decode prog_9_method_10_code 21 = .ok (.invokestatic 72, 3) := by decide +kernel
theorem d_Tape_splitInt_24 : decode prog_9_method_10_code 24 = .ok (.ifCond .eq 35, 3) := by decide +kernel
theorem d_Tape_splitInt_27 : decode prog_9_method_10_code 27 = .ok (.lload_n 2, 1) := by decide +kernel
theorem d_Tape_splitInt_28 : decode prog_9_method_10_code 28 = .ok (.ldc2_w 87, 3) := by decide +kernel
theorem d_Tape_splitInt_31 : decode prog_9_method_10_code 31 = .ok (.lmul, 1) := by decide +kernel
theorem d_Tape_splitInt_32 : decode prog_9_method_10_code 32 = .ok (.aload_n 0, 1) := by decide +kernel
theorem d_Tape_splitInt_33 : decode prog_9_method_10_code 33 = .ok (.aload_n 0, 1) := by decide +kernel
theorem d_Tape_splitInt_34 : decode prog_9_method_10_code 34 = .ok (.getfield 49, 3) := by decide +kernel
theorem d_Tape_splitInt_37 : decode prog_9_method_10_code 37 = .ok (.invokevirtual 59, 3) := by decide +kernel
theorem d_Tape_splitInt_40 : decode prog_9_method_10_code 40 = .ok (.bipush 48, 2) := by decide +kernel
theorem d_Tape_splitInt_42 : decode prog_9_method_10_code 42 = .ok (.isub, 1) := by decide +kernel
theorem d_Tape_splitInt_43 : decode prog_9_method_10_code 43 = .ok (.i2l, 1) := by decide +kernel
theorem d_Tape_splitInt_44 : decode prog_9_method_10_code 44 = .ok (.ladd, 1) := by decide +kernel
theorem d_Tape_splitInt_45 : decode prog_9_method_10_code 45 = .ok (.lstore_n 2, 1) := by decide +kernel
theorem d_Tape_splitInt_46 : decode prog_9_method_10_code 46 = .ok (.aload_n 0, 1) := by decide +kernel
theorem d_Tape_splitInt_47 : decode prog_9_method_10_code 47 = .ok (.dup, 1) := by decide +kernel
theorem d_Tape_splitInt_48 : decode prog_9_method_10_code 48 = .ok (.getfield 49, 3) := by decide +kernel
theorem d_Tape_splitInt_51 : decode prog_9_method_10_code 51 = .ok (.iconst 1, 1) := by decide +kernel
theorem d_Tape_splitInt_52 : decode prog_9_method_10_code 52 = .ok (.iadd, 1) := by decide +kernel
theorem d_Tape_splitInt_53 : decode prog_9_method_10_code 53 = .ok (.putfield 49, 3) := by decide +kernel
theorem d_Tape_splitInt_56 : decode prog_9_method_10_code 56 = .ok (.goto (-54), 3) := by decide +kernel
theorem d_Tape_splitInt_59 : decode prog_9_method_10_code 59 = .ok (.aload_n 0, 1) := by decide +kernel
theorem d_Tape_splitInt_60 : decode prog_9_method_10_code 60 = .ok (.getfield 30, 3) := by decide +kernel
theorem d_Tape_splitInt_63 : decode prog_9_method_10_code 63 = .ok (.iload_n 1, 1) := by decide +kernel
theorem d_Tape_splitInt_64 : decode prog_9_method_10_code 64 = .ok (.lload_n 2, 1) := by decide +kernel
theorem d_Tape_splitInt_65 : decode prog_9_method_10_code 65 = .ok (.lastore, 1) := by decide +kernel
theorem d_Tape_splitInt_66 : decode prog_9_method_10_code 66 = .ok (.aload_n 0, 1) := by decide +kernel
theorem d_Tape_splitInt_67 : decode prog_9_method_10_code 67 = .ok (.getfield 49, 3) := by decide +kernel
theorem d_Tape_splitInt_70 : decode prog_9_method_10_code 70 = .ok (.aload_n 0, 1) := by decide +kernel
theorem d_Tape_splitInt_71 : decode prog_9_method_10_code 71 = .ok (.getfield 27, 3) := by decide +kernel
theorem d_Tape_splitInt_74 : decode prog_9_method_10_code 74 = .ok (.iload_n 1, 1) := by decide +kernel
theorem d_Tape_splitInt_75 : decode prog_9_method_10_code 75 = .ok (.iaload, 1) := by decide +kernel
theorem d_Tape_splitInt_76 : decode prog_9_method_10_code 76 = .ok (.isub, 1) := by decide +kernel
theorem d_Tape_splitInt_77 : decode prog_9_method_10_code 77 = .ok (.iconst 4, 1) := by decide +kernel
theorem d_Tape_splitInt_78 : decode prog_9_method_10_code 78 = .ok (.if_icmp .le 7, 3) := by decide +kernel
theorem d_Tape_splitInt_81 : decode prog_9_method_10_code 81 = .ok (.iconst 2, 1) := by decide +kernel
theorem d_Tape_splitInt_82 : decode prog_9_method_10_code 82 = .ok (.goto 4, 3) := by decide +kernel
theorem d_Tape_splitInt_85 : decode prog_9_method_10_code 85 = .ok (.iconst 4, 1) := by decide +kernel
theorem d_Tape_splitInt_86 : decode prog_9_method_10_code 86 = .ok (.ireturn, 1) := by decide +kernel
theorem d_Tape_kindOf_0 : decode prog_9_method_9_code 0 = .ok (.iconst 0, 1) := by decide +kernel
theorem d_Tape_kindOf_1 : decode prog_9_method_9_code 1 = .ok (.istore_n 3, 1) := by decide +kernel
theorem d_Tape_kindOf_2 : decode prog_9_method_9_code 2 = .ok (.iload_n 3, 1) := by decide +kernel
theorem d_Tape_kindOf_3 : decode prog_9_method_9_code 3 = .ok (.bipush 21, 2) := by decide +kernel
theorem d_Tape_kindOf_5 : decode prog_9_method_9_code 5 = .ok (.if_icmp .ge 26, 3) := by decide +kernel
theorem d_Tape_kindOf_8 : decode prog_9_method_9_code 8 = .ok (.aload_n 0, 1) := by decide +kernel
theorem d_Tape_kindOf_9 : decode prog_9_method_9_code 9 = .ok (.getfield 19, 3) := by decide +kernel
theorem d_Tape_kindOf_12 : decode prog_9_method_9_code 12 = .ok (.iload_n 3, 1) := by decide +kernel
theorem d_Tape_kindOf_13 : decode prog_9_method_9_code 13 = .ok (.laload, 1) := by decide +kernel
theorem d_Tape_kindOf_14 : decode prog_9_method_9_code 14 = .ok (.lload_n 1, 1) := by decide +kernel
theorem d_Tape_kindOf_15 : decode prog_9_method_9_code 15 = .ok (.lcmp, 1) := by decide +kernel
theorem d_Tape_kindOf_16 : decode prog_9_method_9_code 16 = .ok (.ifCond .ne 9, 3) := by decide +kernel
theorem d_Tape_kindOf_19 : decode prog_9_method_9_code 19 = .ok (.sipush 256, 3) := by decide +kernel
theorem d_Tape_kindOf_22 : decode prog_9_method_9_code 22 = .ok (.iload_n 3, 1) := by decide +kernel
theorem d_Tape_kindOf_23 : decode prog_9_method_9_code 23 = .ok (.iadd, 1) := by decide +kernel
theorem d_Tape_kindOf_24 : decode prog_9_method_9_code 24 = .ok (.ireturn, 1) := by decide +kernel
theorem d_Tape_kindOf_25 : decode prog_9_method_9_code 25 = .ok (.iinc 3 1, 3) := by decide +kernel
theorem d_Tape_kindOf_28 : decode prog_9_method_9_code 28 = .ok (.goto (-26), 3) := by decide +kernel
theorem d_Tape_kindOf_31 : decode prog_9_method_9_code 31 = .ok (.iconst 3, 1) := by decide +kernel
theorem d_Tape_kindOf_32 : decode prog_9_method_9_code 32 = .ok (.ireturn, 1) := by decide +kernel
theorem d_Tape_withLetter_0 : decode prog_9_method_11_code 0 = .ok (.lload_n 0, 1) := by decide +kernel
theorem d_Tape_withLetter_1 : decode prog_9_method_11_code 1 = .ok (.ldc2_w 89, 3) := by decide +kernel
theorem d_Tape_withLetter_4 : decode prog_9_method_11_code 4 = .ok (.lmul, 1) := by decide +kernel
theorem d_Tape_withLetter_5 : decode prog_9_method_11_code 5 = .ok (.iload_n 2, 1) := by decide +kernel
theorem d_Tape_withLetter_6 : decode prog_9_method_11_code 6 = .ok (.bipush 97, 2) := by decide +kernel
theorem d_Tape_withLetter_8 : decode prog_9_method_11_code 8 = .ok (.isub, 1) := by decide +kernel
theorem d_Tape_withLetter_9 : decode prog_9_method_11_code 9 = .ok (.iconst 1, 1) := by decide +kernel
theorem d_Tape_withLetter_10 : decode prog_9_method_11_code 10 = .ok (.iadd, 1) := by decide +kernel
theorem d_Tape_withLetter_11 : decode prog_9_method_11_code 11 = .ok (.i2l, 1) := by decide +kernel
theorem d_Tape_withLetter_12 : decode prog_9_method_11_code 12 = .ok (.ladd, 1) := by decide +kernel
theorem d_Tape_withLetter_13 : decode prog_9_method_11_code 13 = .ok (.lreturn, 1) := by decide +kernel
theorem d_Tape_splitWord_0 : decode prog_9_method_8_code 0 = .ok (.lconst 0, 1) := by decide +kernel
theorem d_Tape_splitWord_1 : decode prog_9_method_8_code 1 = .ok (.lstore_n 2, 1) := by decide +kernel
theorem d_Tape_splitWord_2 : decode prog_9_method_8_code 2 = .ok (.aload_n 0, 1) := by decide +kernel
theorem d_Tape_splitWord_3 : decode prog_9_method_8_code 3 = .ok (.getfield 49, 3) := by decide +kernel
theorem d_Tape_splitWord_6 : decode prog_9_method_8_code 6 = .ok (.aload_n 0, 1) := by decide +kernel
theorem d_Tape_splitWord_7 : decode prog_9_method_8_code 7 = .ok (.getfield 15, 3) := by decide +kernel
theorem d_Tape_splitWord_10 : decode prog_9_method_8_code 10 = .ok (.if_icmp .ge 43, 3) := by decide +kernel
theorem d_Tape_splitWord_13 : decode prog_9_method_8_code 13 = .ok (.aload_n 0, 1) := by decide +kernel
theorem d_Tape_splitWord_14 : decode prog_9_method_8_code 14 = .ok (.aload_n 0, 1) := by decide +kernel
theorem d_Tape_splitWord_15 : decode prog_9_method_8_code 15 = .ok (.getfield 49, 3) := by decide +kernel
theorem d_Tape_splitWord_18 : decode prog_9_method_8_code 18 = .ok (.invokevirtual 59, 3) := by decide +kernel
theorem d_Tape_splitWord_21 : decode prog_9_method_8_code 21 = .ok (.invokestatic 66, 3) := by decide +kernel
theorem d_Tape_splitWord_24 : decode prog_9_method_8_code 24 = .ok (.ifCond .eq 29, 3) := by decide +kernel
theorem d_Tape_splitWord_27 : decode prog_9_method_8_code 27 = .ok (.lload_n 2, 1) := by decide +kernel
theorem d_Tape_splitWord_28 : decode prog_9_method_8_code 28 = .ok (.aload_n 0, 1) := by decide +kernel
theorem d_Tape_splitWord_29 : decode prog_9_method_8_code 29 = .ok (.aload_n 0, 1) := by decide +kernel
theorem d_Tape_splitWord_30 : decode prog_9_method_8_code 30 = .ok (.getfield 49, 3) := by decide +kernel
theorem d_Tape_splitWord_33 : decode prog_9_method_8_code 33 = .ok (.invokevirtual 59, 3) := by decide +kernel
theorem d_Tape_splitWord_36 : decode prog_9_method_8_code 36 = .ok (.invokestatic 45, 3) := by decide +kernel
theorem d_Tape_splitWord_39 : decode prog_9_method_8_code 39 = .ok (.lstore_n 2, 1) := by decide +kernel
theorem d_Tape_splitWord_40 : decode prog_9_method_8_code 40 = .ok (.aload_n 0, 1) := by decide +kernel
theorem d_Tape_splitWord_41 : decode prog_9_method_8_code 41 = .ok (.dup, 1) := by decide +kernel
theorem d_Tape_splitWord_42 : decode prog_9_method_8_code 42 = .ok (.getfield 49, 3) := by decide +kernel
theorem d_Tape_splitWord_45 : decode prog_9_method_8_code 45 = .ok (.iconst 1, 1) := by decide +kernel
theorem d_Tape_splitWord_46 : decode prog_9_method_8_code 46 = .ok (.iadd, 1) := by decide +kernel
theorem d_Tape_splitWord_47 : decode prog_9_method_8_code 47 = .ok (.putfield 49, 3) := by decide +kernel
theorem d_Tape_splitWord_50 : decode prog_9_method_8_code 50 = .ok (.goto (-48), 3) := by decide +kernel
theorem d_Tape_splitWord_53 : decode prog_9_method_8_code 53 = .ok (.aload_n 0, 1) := by decide +kernel
theorem d_Tape_splitWord_54 : decode prog_9_method_8_code 54 = .ok (.getfield 30, 3) := by decide +kernel
theorem d_Tape_splitWord_57 : decode prog_9_method_8_code 57 = .ok (.iload_n 1, 1) := by decide +kernel
theorem d_Tape_splitWord_58 : decode prog_9_method_8_code 58 = .ok (.lload_n 2, 1) := by decide +kernel
theorem d_Tape_splitWord_59 : decode prog_9_method_8_code 59 = .ok (.lastore, 1) := by decide +kernel
theorem d_Tape_splitWord_60 : decode prog_9_method_8_code 60 = .ok (.aload_n 0, 1) := by decide +kernel
theorem d_Tape_splitWord_61 : decode prog_9_method_8_code 61 = .ok (.getfield 49, 3) := by decide +kernel
theorem d_Tape_splitWord_64 : decode prog_9_method_8_code 64 = .ok (.aload_n 0, 1) := by decide +kernel
theorem d_Tape_splitWord_65 : decode prog_9_method_8_code 65 = .ok (.getfield 27, 3) := by decide +kernel
theorem d_Tape_splitWord_68 : decode prog_9_method_8_code 68 = .ok (.iload_n 1, 1) := by decide +kernel
theorem d_Tape_splitWord_69 : decode prog_9_method_8_code 69 = .ok (.iaload, 1) := by decide +kernel
theorem d_Tape_splitWord_70 : decode prog_9_method_8_code 70 = .ok (.isub, 1) := by decide +kernel
theorem d_Tape_splitWord_71 : decode prog_9_method_8_code 71 = .ok (.bipush 8, 2) := by decide +kernel
theorem d_Tape_splitWord_73 : decode prog_9_method_8_code 73 = .ok (.if_icmp .le 7, 3) := by decide +kernel
theorem d_Tape_splitWord_76 : decode prog_9_method_8_code 76 = .ok (.iconst 2, 1) := by decide +kernel
theorem d_Tape_splitWord_77 : decode prog_9_method_8_code 77 = .ok (.goto 8, 3) := by decide +kernel
theorem d_Tape_splitWord_80 : decode prog_9_method_8_code 80 = .ok (.aload_n 0, 1) := by decide +kernel
theorem d_Tape_splitWord_81 : decode prog_9_method_8_code 81 = .ok (.lload_n 2, 1) := by decide +kernel
theorem d_Tape_splitWord_82 : decode prog_9_method_8_code 82 = .ok (.invokevirtual 83, 3) := by decide +kernel
theorem d_Tape_splitWord_85 : decode prog_9_method_8_code 85 = .ok (.ireturn, 1) := by decide +kernel
theorem d_Tape_splitOne_0 : decode prog_9_method_7_code 0 = .ok (.aload_n 0, 1) := by decide +kernel
theorem d_Tape_splitOne_1 : decode prog_9_method_7_code 1 = .ok (.aload_n 0, 1) := by decide +kernel
theorem d_Tape_splitOne_2 : decode prog_9_method_7_code 2 = .ok (.getfield 49, 3) := by decide +kernel
theorem d_Tape_splitOne_5 : decode prog_9_method_7_code 5 = .ok (.invokevirtual 59, 3) := by decide +kernel
theorem d_Tape_splitOne_8 : decode prog_9_method_7_code 8 = .ok (.istore_n 2, 1) := by decide +kernel
theorem d_Tape_splitOne_9 : decode prog_9_method_7_code 9 = .ok (.iload_n 2, 1) := by decide +kernel
theorem d_Tape_splitOne_10 : decode prog_9_method_7_code 10 = .ok (.iconst (-1), 1) := by decide +kernel
theorem d_Tape_splitOne_11 : decode prog_9_method_7_code 11 = .ok (.if_icmp .ne 5, 3) := by decide +kernel
theorem d_Tape_splitOne_14 : decode prog_9_method_7_code 14 = .ok (.iconst 1, 1) := by decide +kernel
theorem d_Tape_splitOne_15 : decode prog_9_method_7_code 15 = .ok (.ireturn, 1) := by decide +kernel
theorem d_Tape_splitOne_16 : decode prog_9_method_7_code 16 = .ok (.iload_n 2, 1) := by decide +kernel
theorem d_Tape_splitOne_17 : decode prog_9_method_7_code 17 = .ok (.invokestatic 66, 3) := by decide +kernel
theorem d_Tape_splitOne_20 : decode prog_9_method_7_code 20 = .ok (.ifCond .eq 9, 3) := by decide +kernel
theorem d_Tape_splitOne_23 : decode prog_9_method_7_code 23 = .ok (.aload_n 0, 1) := by decide +kernel
theorem d_Tape_splitOne_24 : decode prog_9_method_7_code 24 = .ok (.iload_n 1, 1) := by decide +kernel
theorem d_Tape_splitOne_25 : decode prog_9_method_7_code 25 = .ok (.invokevirtual 69, 3) := by decide +kernel
theorem d_Tape_splitOne_28 : decode prog_9_method_7_code 28 = .ok (.ireturn, 1) := by decide +kernel
theorem d_Tape_splitOne_29 : decode prog_9_method_7_code 29 = .ok (.iload_n 2, 1) := by decide +kernel
theorem d_Tape_splitOne_30 : decode prog_9_method_7_code 30 = .ok (.invokestatic 72, 3) := by decide +kernel
theorem d_Tape_splitOne_33 : decode prog_9_method_7_code 33 = .ok (.ifCond .eq 9, 3) := by decide +kernel
theorem d_Tape_splitOne_36 : decode prog_9_method_7_code 36 = .ok (.aload_n 0, 1) := by decide +kernel
theorem d_Tape_splitOne_37 : decode prog_9_method_7_code 37 = .ok (.iload_n 1, 1) := by decide +kernel
theorem d_Tape_splitOne_38 : decode prog_9_method_7_code 38 = .ok (.invokevirtual 75, 3) := by decide +kernel
theorem d_Tape_splitOne_41 : decode prog_9_method_7_code 41 = .ok (.ireturn, 1) := by decide +kernel
theorem d_Tape_splitOne_42 : decode prog_9_method_7_code 42 = .ok (.aload_n 0, 1) := by decide +kernel
theorem d_Tape_splitOne_43 : decode prog_9_method_7_code 43 = .ok (.dup, 1) := by decide +kernel
theorem d_Tape_splitOne_44 : decode prog_9_method_7_code 44 = .ok (.getfield 49, 3) := by decide +kernel
theorem d_Tape_splitOne_47 : decode prog_9_method_7_code 47 = .ok (.iconst 1, 1) := by decide +kernel
theorem d_Tape_splitOne_48 : decode prog_9_method_7_code 48 = .ok (.iadd, 1) := by decide +kernel
theorem d_Tape_splitOne_49 : decode prog_9_method_7_code 49 = .ok (.putfield 49, 3) := by decide +kernel
theorem d_Tape_splitOne_52 : decode prog_9_method_7_code 52 = .ok (.ldc 78, 2) := by decide +kernel
theorem d_Tape_splitOne_54 : decode prog_9_method_7_code 54 = .ok (.iload_n 2, 1) := by decide +kernel
theorem d_Tape_splitOne_55 : decode prog_9_method_7_code 55 = .ok (.i2c, 1) := by decide +kernel
theorem d_Tape_splitOne_56 : decode prog_9_method_7_code 56 = .ok (.invokevirtual 80, 3) := by decide +kernel
theorem d_Tape_splitOne_59 : decode prog_9_method_7_code 59 = .ok (.ifCond .lt 7, 3) := by decide +kernel
theorem d_Tape_splitOne_62 : decode prog_9_method_7_code 62 = .ok (.iload_n 2, 1) := by decide +kernel
theorem d_Tape_splitOne_63 : decode prog_9_method_7_code 63 = .ok (.goto 4, 3) := by decide +kernel
theorem d_Tape_splitOne_66 : decode prog_9_method_7_code 66 = .ok (.iconst 2, 1) := by decide +kernel
theorem d_Tape_splitOne_67 : decode prog_9_method_7_code 67 = .ok (.ireturn, 1) := by decide +kernel
theorem d_Tape_split_0 : decode prog_9_method_5_code 0 = .ok (.aload_n 0, 1) := by decide +kernel
theorem d_Tape_split_1 : decode prog_9_method_5_code 1 = .ok (.iconst 0, 1) := by decide +kernel
theorem d_Tape_split_2 : decode prog_9_method_5_code 2 = .ok (.putfield 49, 3) := by decide +kernel
theorem d_Tape_split_5 : decode prog_9_method_5_code 5 = .ok (.iconst 1, 1) := by decide +kernel
theorem d_Tape_split_6 : decode prog_9_method_5_code 6 = .ok (.istore_n 1, 1) := by decide +kernel
theorem d_Tape_split_7 : decode prog_9_method_5_code 7 = .ok (.iconst 0, 1) := by decide +kernel
theorem d_Tape_split_8 : decode prog_9_method_5_code 8 = .ok (.istore_n 2, 1) := by decide +kernel
theorem d_Tape_split_9 : decode prog_9_method_5_code 9 = .ok (.iload_n 2, 1) := by decide +kernel
theorem d_Tape_split_10 : decode prog_9_method_5_code 10 = .ok (.sipush 402, 3) := by decide +kernel
theorem d_Tape_split_13 : decode prog_9_method_5_code 13 = .ok (.if_icmp .ge 71, 3) := by decide +kernel
theorem d_Tape_split_16 : decode prog_9_method_5_code 16 = .ok (.iload_n 1, 1) := by decide +kernel
theorem d_Tape_split_17 : decode prog_9_method_5_code 17 = .ok (.ifCond .eq 67, 3) := by decide +kernel
theorem d_Tape_split_20 : decode prog_9_method_5_code 20 = .ok (.aload_n 0, 1) := by decide +kernel
theorem d_Tape_split_21 : decode prog_9_method_5_code 21 = .ok (.invokevirtual 52, 3) := by decide +kernel
theorem d_Tape_split_24 : decode prog_9_method_5_code 24 = .ok (.aload_n 0, 1) := by decide +kernel
theorem d_Tape_split_25 : decode prog_9_method_5_code 25 = .ok (.getfield 27, 3) := by decide +kernel
theorem d_Tape_split_28 : decode prog_9_method_5_code 28 = .ok (.iload_n 2, 1) := by decide +kernel
theorem d_Tape_split_29 : decode prog_9_method_5_code 29 = .ok (.aload_n 0, 1) := by decide +kernel
theorem d_Tape_split_30 : decode prog_9_method_5_code 30 = .ok (.getfield 49, 3) := by decide +kernel
theorem d_Tape_split_33 : decode prog_9_method_5_code 33 = .ok (.iastore, 1) := by decide +kernel
theorem d_Tape_split_34 : decode prog_9_method_5_code 34 = .ok (.aload_n 0, 1) := by decide +kernel
theorem d_Tape_split_35 : decode prog_9_method_5_code 35 = .ok (.getfield 30, 3) := by decide +kernel
theorem d_Tape_split_38 : decode prog_9_method_5_code 38 = .ok (.iload_n 2, 1) := by decide +kernel
theorem d_Tape_split_39 : decode prog_9_method_5_code 39 = .ok (.lconst 0, 1) := by decide +kernel
theorem d_Tape_split_40 : decode prog_9_method_5_code 40 = .ok (.lastore, 1) := by decide +kernel
theorem d_Tape_split_41 : decode prog_9_method_5_code 41 = .ok (.aload_n 0, 1) := by decide +kernel
theorem d_Tape_split_42 : decode prog_9_method_5_code 42 = .ok (.getfield 23, 3) := by decide +kernel
theorem d_Tape_split_45 : decode prog_9_method_5_code 45 = .ok (.iload_n 2, 1) := by decide +kernel
theorem d_Tape_split_46 : decode prog_9_method_5_code 46 = .ok (.aload_n 0, 1) := by decide +kernel
theorem d_Tape_split_47 : decode prog_9_method_5_code 47 = .ok (.iload_n 2, 1) := by decide +kernel
theorem d_Tape_split_48 : decode prog_9_method_5_code 48 = .ok (.invokevirtual 55, 3) := by decide +kernel
theorem d_Tape_split_51 : decode prog_9_method_5_code 51 = .ok (.iastore, 1) := by decide +kernel
theorem d_Tape_split_52 : decode prog_9_method_5_code 52 = .ok (.aload_n 0, 1) := by decide +kernel
theorem d_Tape_split_53 : decode prog_9_method_5_code 53 = .ok (.getfield 23, 3) := by decide +kernel
theorem d_Tape_split_56 : decode prog_9_method_5_code 56 = .ok (.iload_n 2, 1) := by decide +kernel
theorem d_Tape_split_57 : decode prog_9_method_5_code 57 = .ok (.iaload, 1) := by decide +kernel
theorem d_Tape_split_58 : decode prog_9_method_5_code 58 = .ok (.iconst 1, 1) := by decide +kernel
theorem d_Tape_split_59 : decode prog_9_method_5_code 59 = .ok (.if_icmp .eq 17, 3) := by decide +kernel
theorem d_Tape_split_62 : decode prog_9_method_5_code 62 = .ok (.aload_n 0, 1) := by decide +kernel
theorem d_Tape_split_63 : decode prog_9_method_5_code 63 = .ok (.getfield 23, 3) := by decide +kernel
theorem d_Tape_split_66 : decode prog_9_method_5_code 66 = .ok (.iload_n 2, 1) := by decide +kernel
theorem d_Tape_split_67 : decode prog_9_method_5_code 67 = .ok (.iaload, 1) := by decide +kernel
theorem d_Tape_split_68 : decode prog_9_method_5_code 68 = .ok (.iconst 2, 1) := by decide +kernel
theorem d_Tape_split_69 : decode prog_9_method_5_code 69 = .ok (.if_icmp .eq 7, 3) := by decide +kernel
theorem d_Tape_split_72 : decode prog_9_method_5_code 72 = .ok (.iconst 1, 1) := by decide +kernel
theorem d_Tape_split_73 : decode prog_9_method_5_code 73 = .ok (.goto 4, 3) := by decide +kernel
theorem d_Tape_split_76 : decode prog_9_method_5_code 76 = .ok (.iconst 0, 1) := by decide +kernel
theorem d_Tape_split_77 : decode prog_9_method_5_code 77 = .ok (.istore_n 1, 1) := by decide +kernel
theorem d_Tape_split_78 : decode prog_9_method_5_code 78 = .ok (.iinc 2 1, 3) := by decide +kernel
theorem d_Tape_split_81 : decode prog_9_method_5_code 81 = .ok (.goto (-72), 3) := by decide +kernel
theorem d_Tape_split_84 : decode prog_9_method_5_code 84 = .ok (.return_, 1) := by decide +kernel
theorem d_Tape_hasRoomFor_0 : decode prog_9_method_2_code 0 = .ok (.aload_n 0, 1) := by decide +kernel
theorem d_Tape_hasRoomFor_1 : decode prog_9_method_2_code 1 = .ok (.getfield 15, 3) := by decide +kernel
theorem d_Tape_hasRoomFor_4 : decode prog_9_method_2_code 4 = .ok (.iload_n 1, 1) := by decide +kernel
theorem d_Tape_hasRoomFor_5 : decode prog_9_method_2_code 5 = .ok (.iadd, 1) := by decide +kernel
theorem d_Tape_hasRoomFor_6 : decode prog_9_method_2_code 6 = .ok (.sipush 2000, 3) := by decide +kernel
theorem d_Tape_hasRoomFor_9 : decode prog_9_method_2_code 9 = .ok (.if_icmp .gt 7, 3) := by decide +kernel
theorem d_Tape_hasRoomFor_12 : decode prog_9_method_2_code 12 = .ok (.iconst 1, 1) := by decide +kernel
theorem d_Tape_hasRoomFor_13 : decode prog_9_method_2_code 13 = .ok (.goto 4, 3) := by decide +kernel
theorem d_Tape_hasRoomFor_16 : decode prog_9_method_2_code 16 = .ok (.iconst 0, 1) := by decide +kernel
theorem d_Tape_hasRoomFor_17 : decode prog_9_method_2_code 17 = .ok (.ireturn, 1) := by decide +kernel
theorem d_Tape_addFour_0 : decode prog_9_method_3_code 0 = .ok (.bipush 24, 2) := by decide +kernel
theorem d_Tape_addFour_2 : decode prog_9_method_3_code 2 = .ok (.istore_n 2, 1) := by decide +kernel
theorem d_Tape_addFour_3 : decode prog_9_method_3_code 3 = .ok (.iload_n 2, 1) := by decide +kernel
theorem d_Tape_addFour_4 : decode prog_9_method_3_code 4 = .ok (.ifCond .lt 42, 3) := by decide +kernel
theorem d_Tape_addFour_7 : decode prog_9_method_3_code 7 = .ok (.aload_n 0, 1) := by decide +kernel
theorem d_Tape_addFour_8 : decode prog_9_method_3_code 8 = .ok (.getfield 15, 3) := by decide +kernel
theorem d_Tape_addFour_11 : decode prog_9_method_3_code 11 = .ok (.sipush 2000, 3) := by decide +kernel
theorem d_Tape_addFour_14 : decode prog_9_method_3_code 14 = .ok (.if_icmp .ge 26, 3) := by decide +kernel
theorem d_Tape_addFour_17 : decode prog_9_method_3_code 17 = .ok (.aload_n 0, 1) := by decide +kernel
theorem d_Tape_addFour_18 : decode prog_9_method_3_code 18 = .ok (.getfield 11, 3) := by decide +kernel
theorem d_Tape_addFour_21 : decode prog_9_method_3_code 21 = .ok (.aload_n 0, 1) := by decide +kernel
theorem d_Tape_addFour_22 : decode prog_9_method_3_code 22 = .ok (.getfield 15, 3) := by decide +kernel
theorem d_Tape_addFour_25 : decode prog_9_method_3_code 25 = .ok (.iload_n 1, 1) := by decide +kernel
theorem d_Tape_addFour_26 : decode prog_9_method_3_code 26 = .ok (.iload_n 2, 1) := by decide +kernel
theorem d_Tape_addFour_27 : decode prog_9_method_3_code 27 = .ok (.iushr, 1) := by decide +kernel
theorem d_Tape_addFour_28 : decode prog_9_method_3_code 28 = .ok (.i2b, 1) := by decide +kernel
theorem d_Tape_addFour_29 : decode prog_9_method_3_code 29 = .ok (.bastore, 1) := by decide +kernel
theorem d_Tape_addFour_30 : decode prog_9_method_3_code 30 = .ok (.aload_n 0, 1) := by decide +kernel
theorem d_Tape_addFour_31 : decode prog_9_method_3_code 31 = .ok (.dup, 1) := by decide +kernel
theorem d_Tape_addFour_32 : decode prog_9_method_3_code 32 = .ok (.getfield 15, 3) := by decide +kernel
theorem d_Tape_addFour_35 : decode prog_9_method_3_code 35 = .ok (.iconst 1, 1) := by decide +kernel
theorem d_Tape_addFour_36 : decode prog_9_method_3_code 36 = .ok (.iadd, 1) := by decide +kernel
theorem d_Tape_addFour_37 : decode prog_9_method_3_code 37 = .ok (.putfield 15, 3) := by decide +kernel
theorem d_Tape_addFour_40 : decode prog_9_method_3_code 40 = .ok (.iinc 2 (-8), 3) := by decide +kernel
theorem d_Tape_addFour_43 : decode prog_9_method_3_code 43 = .ok (.goto (-40), 3) := by decide +kernel
theorem d_Tape_addFour_46 : decode prog_9_method_3_code 46 = .ok (.return_, 1) := by decide +kernel
def w_Tape_byteAt (N : Nat) (x0 : Nat) (x1 : Int32) (h : qH) (Q : Int32 → qH → Prop) : Prop := ((x1 < 0 → Q (-1 : Int32) h) ∧ (¬ x1 < 0 → (qS h x0 = .inl 7 ∧ (((qI h x0 1) ≤ x1 → Q (-1 : Int32) h) ∧ (¬ (qI h x0 1) ≤ x1 → (qok h (qR h x0 0) 1 x1 ∧ Q ((qI h (qR h x0 0) (x1).toNatClampNeg) &&& (255 : Int32)) h))))))
def w_Tape_isBlank (N : Nat) (x0 : Int32) (h : qH) (Q : Int32 → qH → Prop) : Prop := ((x0 = (9 : Int32) → (qzb (1 : Int32) ∧ Q (1 : Int32) h)) ∧ (¬ x0 = (9 : Int32) → ((x0 = (10 : Int32) → (qzb (1 : Int32) ∧ Q (1 : Int32) h)) ∧ (¬ x0 = (10 : Int32) → ((x0 = (13 : Int32) → (qzb (1 : Int32) ∧ Q (1 : Int32) h)) ∧ (¬ x0 = (13 : Int32) → ((¬ x0 = (32 : Int32) → (qzb (0 : Int32) ∧ Q (0 : Int32) h)) ∧ (x0 = (32 : Int32) → (qzb (1 : Int32) ∧ Q (1 : Int32) h)))))))))
def w_Tape_skipBlanks_0 (N : Nat) : Nat → Nat → qH → (qH → Prop) → Prop
  | 0 => fun _ _ _ => False
  | k + 1 => fun x0 h Q => (qS h x0 = .inl 7 ∧ (((qI h x0 1) ≤ (qI h x0 3) → Q h) ∧ (¬ (qI h x0 1) ≤ (qI h x0 3) → (w_Tape_byteAt N x0 (qI h x0 3) h (fun r3 h4 => (w_Tape_isBlank N r3 h4 (fun r5 h6 => ((r5 = 0 → Q h6) ∧ (¬ r5 = 0 → (qS h6 x0 = .inl 7 ∧ (∀ h9 : qH, h9 = qsI h6 x0 3 ((qI h6 x0 3) + (1 : Int32)) → (w_Tape_skipBlanks_0 N k x0 h9 Q))))))))))))
def w_Tape_skipBlanks (N : Nat) (x0 : Nat) (h : qH) (Q : qH → Prop) : Prop := (w_Tape_skipBlanks_0 N N x0 h Q )
def w_Tape_isDigit (N : Nat) (x0 : Int32) (h : qH) (Q : Int32 → qH → Prop) : Prop := ((x0 < (48 : Int32) → (qzb (0 : Int32) ∧ Q (0 : Int32) h)) ∧ (¬ x0 < (48 : Int32) → (((57 : Int32) < x0 → (qzb (0 : Int32) ∧ Q (0 : Int32) h)) ∧ (¬ (57 : Int32) < x0 → (qzb (1 : Int32) ∧ Q (1 : Int32) h)))))
def w_Tape_isLetter (N : Nat) (x0 : Int32) (h : qH) (Q : Int32 → qH → Prop) : Prop := ((x0 < (97 : Int32) → (qzb (0 : Int32) ∧ Q (0 : Int32) h)) ∧ (¬ x0 < (97 : Int32) → (((122 : Int32) < x0 → (qzb (0 : Int32) ∧ Q (0 : Int32) h)) ∧ (¬ (122 : Int32) < x0 → (qzb (1 : Int32) ∧ Q (1 : Int32) h)))))
def w_Tape_splitInt_2 (N : Nat) : Nat → Nat → Int32 → Int64 → qH → (Int32 → qH → Prop) → (Nat → Int32 → Int64 → qH → Prop) → Prop
  | 0 => fun _ _ _ _ _ _ => False
  | k + 1 => fun x0 x1 x2 h Q K59 => (qS h x0 = .inl 7 ∧ (((qI h x0 1) ≤ (qI h x0 3) → (K59 x0 x1 x2 h)) ∧ (¬ (qI h x0 1) ≤ (qI h x0 3) → (w_Tape_byteAt N x0 (qI h x0 3) h (fun r3 h4 => (w_Tape_isDigit N r3 h4 (fun r5 h6 => ((r5 = 0 → (K59 x0 x1 x2 h6)) ∧ (¬ r5 = 0 → (qS h6 x0 = .inl 7 ∧ (w_Tape_byteAt N x0 (qI h6 x0 3) h6 (fun r9 h10 => (∀ y11 : Int64, y11 = ((x2 * (10 : Int64)) + (((r9 - (48 : Int32))).toInt64)) → (qS h10 x0 = .inl 7 ∧ (∀ h13 : qH, h13 = qsI h10 x0 3 ((qI h10 x0 3) + (1 : Int32)) → (w_Tape_splitInt_2 N k x0 x1 y11 h13 Q K59))))))))))))))))
def w_Tape_splitInt_59 (N : Nat) (x0 : Nat) (x1 : Int32) (x2 : Int64) (h : qH) (Q : Int32 → qH → Prop)  : Prop := (qS h x0 = .inl 7 ∧ (qok h (qR h x0 6) 3 x1 ∧ ∀ h3 : qH, h3 = qsJ h (qR h x0 6) (x1).toNatClampNeg x2 → (qS h3 x0 = .inl 7 ∧ (qok h3 (qR h3 x0 5) 0 x1 ∧ ((((qI h3 x0 3) - (qI h3 (qR h3 x0 5) (x1).toNatClampNeg)) ≤ (4 : Int32) → Q (4 : Int32) h3) ∧ (¬ ((qI h3 x0 3) - (qI h3 (qR h3 x0 5) (x1).toNatClampNeg)) ≤ (4 : Int32) → Q (2 : Int32) h3))))))
def w_Tape_splitInt (N : Nat) (x0 : Nat) (x1 : Int32) (h : qH) (Q : Int32 → qH → Prop) : Prop := (w_Tape_splitInt_2 N N x0 x1 (0 : Int64) h Q (fun x1 x2 x3 h4 => (w_Tape_splitInt_59 N x1 x2 x3 h4 Q )))
def w_Tape_kindOf_2 (N : Nat) : Nat → Nat → Int64 → Int32 → qH → (Int32 → qH → Prop) → Prop
  | 0 => fun _ _ _ _ _ => False
  | k + 1 => fun x0 x1 x3 h Q => (((21 : Int32) ≤ x3 → Q (3 : Int32) h) ∧ (¬ (21 : Int32) ≤ x3 → (qS h x0 = .inl 7 ∧ (qok h (qR h x0 2) 3 x3 ∧ ((¬ (lg_cmp (qJ h (qR h x0 2) (x3).toNatClampNeg) x1) = 0 → (w_Tape_kindOf_2 N k x0 x1 (x3 + (1 : Int32)) h Q)) ∧ ((lg_cmp (qJ h (qR h x0 2) (x3).toNatClampNeg) x1) = 0 → Q ((256 : Int32) + x3) h))))))
def w_Tape_kindOf (N : Nat) (x0 : Nat) (x1 : Int64) (h : qH) (Q : Int32 → qH → Prop) : Prop := (w_Tape_kindOf_2 N N x0 x1 (0 : Int32) h Q )
def w_Tape_withLetter (N : Nat) (x0 : Int64) (x2 : Int32) (h : qH) (Q : Int64 → qH → Prop) : Prop := Q ((x0 * (27 : Int64)) + ((((x2 - (97 : Int32)) + (1 : Int32))).toInt64)) h
def w_Tape_splitWord_2 (N : Nat) : Nat → Nat → Int32 → Int64 → qH → (Int32 → qH → Prop) → (Nat → Int32 → Int64 → qH → Prop) → Prop
  | 0 => fun _ _ _ _ _ _ => False
  | k + 1 => fun x0 x1 x2 h Q K53 => (qS h x0 = .inl 7 ∧ (((qI h x0 1) ≤ (qI h x0 3) → (K53 x0 x1 x2 h)) ∧ (¬ (qI h x0 1) ≤ (qI h x0 3) → (w_Tape_byteAt N x0 (qI h x0 3) h (fun r3 h4 => (w_Tape_isLetter N r3 h4 (fun r5 h6 => ((r5 = 0 → (K53 x0 x1 x2 h6)) ∧ (¬ r5 = 0 → (qS h6 x0 = .inl 7 ∧ (w_Tape_byteAt N x0 (qI h6 x0 3) h6 (fun r9 h10 => (w_Tape_withLetter N x2 r9 h10 (fun r11 h12 => (qS h12 x0 = .inl 7 ∧ (∀ h14 : qH, h14 = qsI h12 x0 3 ((qI h12 x0 3) + (1 : Int32)) → (w_Tape_splitWord_2 N k x0 x1 r11 h14 Q K53)))))))))))))))))
def w_Tape_splitWord_53 (N : Nat) (x0 : Nat) (x1 : Int32) (x2 : Int64) (h : qH) (Q : Int32 → qH → Prop)  : Prop := (qS h x0 = .inl 7 ∧ (qok h (qR h x0 6) 3 x1 ∧ ∀ h3 : qH, h3 = qsJ h (qR h x0 6) (x1).toNatClampNeg x2 → (qS h3 x0 = .inl 7 ∧ (qok h3 (qR h3 x0 5) 0 x1 ∧ ((((qI h3 x0 3) - (qI h3 (qR h3 x0 5) (x1).toNatClampNeg)) ≤ (8 : Int32) → (w_Tape_kindOf N x0 x2 h3 (fun r7 h8 => Q r7 h8))) ∧ (¬ ((qI h3 x0 3) - (qI h3 (qR h3 x0 5) (x1).toNatClampNeg)) ≤ (8 : Int32) → Q (2 : Int32) h3))))))
def w_Tape_splitWord (N : Nat) (x0 : Nat) (x1 : Int32) (h : qH) (Q : Int32 → qH → Prop) : Prop := (w_Tape_splitWord_2 N N x0 x1 (0 : Int64) h Q (fun x1 x2 x3 h4 => (w_Tape_splitWord_53 N x1 x2 x3 h4 Q )))
def w_Tape_splitOne (N : Nat) (x0 : Nat) (x1 : Int32) (h : qH) (Q : Int32 → qH → Prop) : Prop := (qS h x0 = .inl 7 ∧ (w_Tape_byteAt N x0 (qI h x0 3) h (fun r2 h3 => ((¬ r2 = (-1 : Int32) → (w_Tape_isLetter N r2 h3 (fun r5 h6 => ((r5 = 0 → (w_Tape_isDigit N r2 h6 (fun r8 h9 => ((r8 = 0 → (qS h9 x0 = .inl 7 ∧ (∀ h12 : qH, h12 = qsI h9 x0 3 ((qI h9 x0 3) + (1 : Int32)) → (1 < 2 ∧ w_String_indexOf_I_I N 1 (((r2).toUInt32 % 65536).toInt32) h12 (fun r14 h15 => ((r14 < 0 → Q (2 : Int32) h15) ∧ (¬ r14 < 0 → Q r2 h15))))))) ∧ (¬ r8 = 0 → (qS h9 x0 = .inl 7 ∧ w_Tape_splitInt N x0 x1 h9 (fun r18 h19 => Q r18 h19))))))) ∧ (¬ r5 = 0 → (qS h6 x0 = .inl 7 ∧ w_Tape_splitWord N x0 x1 h6 (fun r21 h22 => Q r21 h22))))))) ∧ (r2 = (-1 : Int32) → Q (1 : Int32) h3)))))
def w_Tape_split_9 (N : Nat) : Nat → Nat → Int32 → Int32 → qH → (qH → Prop) → Prop
  | 0 => fun _ _ _ _ _ => False
  | k + 1 => fun x0 x1 x2 h Q => (((402 : Int32) ≤ x2 → Q h) ∧ (¬ (402 : Int32) ≤ x2 → ((x1 = 0 → Q h) ∧ (¬ x1 = 0 → (qS h x0 = .inl 7 ∧ w_Tape_skipBlanks N x0 h (fun h4 => (qS h4 x0 = .inl 7 ∧ (qok h4 (qR h4 x0 5) 0 x2 ∧ ∀ h7 : qH, h7 = qsI h4 (qR h4 x0 5) (x2).toNatClampNeg (qI h4 x0 3) → (qS h7 x0 = .inl 7 ∧ (qok h7 (qR h7 x0 6) 3 x2 ∧ ∀ h10 : qH, h10 = qsJ h7 (qR h7 x0 6) (x2).toNatClampNeg (0 : Int64) → (qS h10 x0 = .inl 7 ∧ (w_Tape_splitOne N x0 x2 h10 (fun r12 h13 => (qok h13 (qR h10 x0 4) 0 x2 ∧ ∀ h15 : qH, h15 = qsI h13 (qR h10 x0 4) (x2).toNatClampNeg r12 → (qS h15 x0 = .inl 7 ∧ (qok h15 (qR h15 x0 4) 0 x2 ∧ (((qI h15 (qR h15 x0 4) (x2).toNatClampNeg) = (1 : Int32) → (w_Tape_split_9 N k x0 (0 : Int32) (x2 + (1 : Int32)) h15 Q)) ∧ (¬ (qI h15 (qR h15 x0 4) (x2).toNatClampNeg) = (1 : Int32) → (((qI h15 (qR h15 x0 4) (x2).toNatClampNeg) = (2 : Int32) → (w_Tape_split_9 N k x0 (0 : Int32) (x2 + (1 : Int32)) h15 Q)) ∧ (¬ (qI h15 (qR h15 x0 4) (x2).toNatClampNeg) = (2 : Int32) → (w_Tape_split_9 N k x0 (1 : Int32) (x2 + (1 : Int32)) h15 Q)))))))))))))))))))))
def w_Tape_split (N : Nat) (x0 : Nat) (h : qH) (Q : qH → Prop) : Prop := (qS h x0 = .inl 7 ∧ ∀ h2 : qH, h2 = qsI h x0 3 (0 : Int32) → (w_Tape_split_9 N N x0 (1 : Int32) (0 : Int32) h2 Q ))
def w_Tape_hasRoomFor (N : Nat) (x0 : Nat) (x1 : Int32) (h : qH) (Q : Int32 → qH → Prop) : Prop := (qS h x0 = .inl 7 ∧ (((2000 : Int32) < ((qI h x0 1) + x1) → (qzb (0 : Int32) ∧ Q (0 : Int32) h)) ∧ (¬ (2000 : Int32) < ((qI h x0 1) + x1) → (qzb (1 : Int32) ∧ Q (1 : Int32) h))))
def w_Tape_addFour_3 (N : Nat) : Nat → Nat → Int32 → Int32 → qH → (qH → Prop) → Prop
  | 0 => fun _ _ _ _ _ => False
  | k + 1 => fun x0 x1 x2 h Q => ((x2 < 0 → Q h) ∧ (¬ x2 < 0 → (qS h x0 = .inl 7 ∧ (((2000 : Int32) ≤ (qI h x0 1) → (w_Tape_addFour_3 N k x0 x1 (x2 + (-8 : Int32)) h Q)) ∧ (¬ (2000 : Int32) ≤ (qI h x0 1) → (qok h (qR h x0 0) 1 (qI h x0 1) ∧ ∀ h5 : qH, h5 = qsI h (qR h x0 0) ((qI h x0 1)).toNatClampNeg (vp_nar .byte ((((x1).toUInt32 >>> ((x2).toUInt32 &&& Int32.toUInt32 31)).toInt32).toInt8.toInt32)) → (qS h5 x0 = .inl 7 ∧ (∀ h7 : qH, h7 = qsI h5 x0 1 ((qI h5 x0 1) + (1 : Int32)) → (w_Tape_addFour_3 N k x0 x1 (x2 + (-8 : Int32)) h7 Q)))))))))
def w_Tape_addFour (N : Nat) (x0 : Nat) (x1 : Int32) (h : qH) (Q : qH → Prop) : Prop := (w_Tape_addFour_3 N N x0 x1 (24 : Int32) h Q )
section QG
variable {p : Program} {l : Launch} {e : Env} {s : State} {m : MethodId} {args : Array Value} {below : List Frame} {meth : Method} {c : Code} {D : va_G} {cy : Nat → ClassId} {b : Nat} {adK adV : Nat → Nat}

set_option maxRecDepth 4000 in
theorem t_Tape_byteAt {adK adV : Nat → Nat} (l : Launch) (D : va_G) (cy : Nat → ClassId) (b : Nat) (N : Nat) (x0 : Nat) (x1 : Int32) (h : qH) (Q : Int32 → qH → Prop) (hw : w_Tape_byteAt N x0 x1 h Q) : Met l y_Tape_byteAt (Cond.code y_Tape_byteAt prog_9_method_4_code 2 (some .int) :: qT) (qrm 0 0 0 0) (qPc D cy b adK adV h [qr b x0, .int x1]) (qQc D cy b qrI Q) 0 0 (qA b) := by
  refine qmet (L0 := [(0, .inr (.inr (.inl x0))), (1, .inl x1)]) qm_Tape_byteAt (plainFor_of_name (by decide)) [.inr (.inr (.inl x0)), .inl x1] rfl (Nat.le_of_ble_eq_true rfl) rfl (fun p e s m args below meth c X => ?_)
  unfold w_Tape_byteAt at hw
  refine qx_iload_n (x := x1) X d_Tape_byteAt_0 rfl 1 rfl ?_
  refine qx_if_lt X 25 d_Tape_byteAt_1 (by decide) (fun q1 => ?_) (fun q1 => ?_)
  · have hw := hw.1 q1
    refine qx_iconst (v := (-1 : Int32)) X d_Tape_byteAt_25 (by decide) ?_
    exact qx_iret X hw (Nat.le_refl 0) (Nat.le_refl 0) rfl d_Tape_byteAt_26
  · have hw := hw.2 q1
    refine qx_iload_n (x := x1) X d_Tape_byteAt_4 rfl 1 rfl ?_
    refine qx_aload_n (x := x0) X d_Tape_byteAt_5 rfl 0 rfl ?_
    obtain ⟨g2, hw⟩ := hw
    refine qx_getI X qcls7 g2 1 (by decide) rfl wf_Tape_15 d_Tape_byteAt_6 ?_
    refine qx_icmp_ge X 25 d_Tape_byteAt_9 (by decide) (fun q3 => ?_) (fun q3 => ?_)
    · have hw := hw.1 q3
      refine qx_iconst (v := (-1 : Int32)) X d_Tape_byteAt_25 (by decide) ?_
      exact qx_iret X hw (Nat.le_refl 0) (Nat.le_refl 0) rfl d_Tape_byteAt_26
    · have hw := hw.2 q3
      refine qx_aload_n (x := x0) X d_Tape_byteAt_12 rfl 0 rfl ?_
      refine qx_getR X qcls7 g2 0 (by decide) rfl wf_Tape_11 d_Tape_byteAt_13 ?_
      refine qx_iload_n (x := x1) X d_Tape_byteAt_16 rfl 1 rfl ?_
      obtain ⟨g4, hw⟩ := hw
      refine qx_bld X g4 d_Tape_byteAt_17 ?_
      refine qx_sipush (v := (255 : Int32)) X d_Tape_byteAt_18 (by decide) ?_
      refine qx_iand X d_Tape_byteAt_21 ?_
      refine qx_goto X 26 d_Tape_byteAt_22 (by decide) ?_
      exact qx_iret X hw (Nat.le_refl 0) (Nat.le_refl 0) rfl d_Tape_byteAt_26
set_option maxRecDepth 4000 in
theorem t_Tape_isBlank {adK adV : Nat → Nat} (l : Launch) (D : va_G) (cy : Nat → ClassId) (b : Nat) (N : Nat) (x0 : Int32) (h : qH) (Q : Int32 → qH → Prop) (hw : w_Tape_isBlank N x0 h Q) : Met l y_Tape_isBlank (Cond.code y_Tape_isBlank prog_9_method_12_code 1 (some .boolean) :: qT) (qrm 0 0 0 0) (qPc D cy b adK adV h [.int x0]) (qQc D cy b qrI Q) 0 0 (qA b) := by
  refine qmet (L0 := [(0, .inl x0)]) qm_Tape_isBlank (plainFor_of_name (by decide)) [.inl x0] rfl (Nat.le_of_ble_eq_true rfl) rfl (fun p e s m args below meth c X => ?_)
  unfold w_Tape_isBlank at hw
  refine qx_iload_n (x := x0) X d_Tape_isBlank_0 rfl 0 rfl ?_
  refine qx_bipush (v := (9 : Int32)) X d_Tape_isBlank_1 (by decide) ?_
  refine qx_icmp_eq X 24 d_Tape_isBlank_3 (by decide) (fun q1 => ?_) (fun q1 => ?_)
  · have hw := hw.1 q1
    refine qx_iconst (v := (1 : Int32)) X d_Tape_isBlank_24 (by decide) ?_
    refine qx_goto X 29 d_Tape_isBlank_25 (by decide) ?_
    exact qx_zret X hw (Nat.le_refl 0) (Nat.le_refl 0) rfl d_Tape_isBlank_29
  · have hw := hw.2 q1
    refine qx_iload_n (x := x0) X d_Tape_isBlank_6 rfl 0 rfl ?_
    refine qx_bipush (v := (10 : Int32)) X d_Tape_isBlank_7 (by decide) ?_
    refine qx_icmp_eq X 24 d_Tape_isBlank_9 (by decide) (fun q2 => ?_) (fun q2 => ?_)
    · have hw := hw.1 q2
      refine qx_iconst (v := (1 : Int32)) X d_Tape_isBlank_24 (by decide) ?_
      refine qx_goto X 29 d_Tape_isBlank_25 (by decide) ?_
      exact qx_zret X hw (Nat.le_refl 0) (Nat.le_refl 0) rfl d_Tape_isBlank_29
    · have hw := hw.2 q2
      refine qx_iload_n (x := x0) X d_Tape_isBlank_12 rfl 0 rfl ?_
      refine qx_bipush (v := (13 : Int32)) X d_Tape_isBlank_13 (by decide) ?_
      refine qx_icmp_eq X 24 d_Tape_isBlank_15 (by decide) (fun q3 => ?_) (fun q3 => ?_)
      · have hw := hw.1 q3
        refine qx_iconst (v := (1 : Int32)) X d_Tape_isBlank_24 (by decide) ?_
        refine qx_goto X 29 d_Tape_isBlank_25 (by decide) ?_
        exact qx_zret X hw (Nat.le_refl 0) (Nat.le_refl 0) rfl d_Tape_isBlank_29
      · have hw := hw.2 q3
        refine qx_iload_n (x := x0) X d_Tape_isBlank_18 rfl 0 rfl ?_
        refine qx_bipush (v := (32 : Int32)) X d_Tape_isBlank_19 (by decide) ?_
        refine qx_icmp_ne X 28 d_Tape_isBlank_21 (by decide) (fun q4 => ?_) (fun q4 => ?_)
        · have hw := hw.1 q4
          refine qx_iconst (v := (0 : Int32)) X d_Tape_isBlank_28 (by decide) ?_
          exact qx_zret X hw (Nat.le_refl 0) (Nat.le_refl 0) rfl d_Tape_isBlank_29
        · have hw := hw.2 q4
          refine qx_iconst (v := (1 : Int32)) X d_Tape_isBlank_24 (by decide) ?_
          refine qx_goto X 29 d_Tape_isBlank_25 (by decide) ?_
          exact qx_zret X hw (Nat.le_refl 0) (Nat.le_refl 0) rfl d_Tape_isBlank_29
set_option maxRecDepth 4000 in
theorem t_Tape_skipBlanks_0 (X : qX p s m args meth c D cy b adK adV prog_9_method_6_code "CoatHangers$Tape" 1 (none) "skipBlanks") (N k : Nat) (x0 : Nat) (h : qH) (Q : qH → Prop)  (hw : w_Tape_skipBlanks_0 N k x0 h Q ) : qW p l e (qrm 1 0 0 21) s m args below meth c D cy b 1 0 0 (MQ below (qQc D cy b qrV (fun (_ : Unit) h => Q h)) args s 0 0 (qA b)) 0 [(0, .inr (.inr (.inl x0)))] [] h := by
  induction k generalizing x0 h with
  | zero => exact hw.elim
  | succ k ih =>
    refine qx_aload_n (x := x0) X d_Tape_skipBlanks_0 rfl 0 rfl ?_
    obtain ⟨g1, hw⟩ := hw
    refine qx_getI X qcls7 g1 3 (by decide) rfl wf_Tape_49 d_Tape_skipBlanks_1 ?_
    refine qx_aload_n (x := x0) X d_Tape_skipBlanks_4 rfl 0 rfl ?_
    refine qx_getI X qcls7 g1 1 (by decide) rfl wf_Tape_15 d_Tape_skipBlanks_5 ?_
    refine qx_icmp_ge X 38 d_Tape_skipBlanks_8 (by decide) (fun q2 => ?_) (fun q2 => ?_)
    · have hw := hw.1 q2
      exact qx_vret X hw (Nat.le_refl 0) (Nat.le_refl 0) rfl d_Tape_skipBlanks_38
    · have hw := hw.2 q2
      refine qx_aload_n (x := x0) X d_Tape_skipBlanks_11 rfl 0 rfl ?_
      refine qx_aload_n (x := x0) X d_Tape_skipBlanks_12 rfl 0 rfl ?_
      refine qx_getI X qcls7 g1 3 (by decide) rfl wf_Tape_49 d_Tape_skipBlanks_13 ?_
      refine qx_callVI (st := []) (As := [.int (qI h x0 3)]) X (t_Tape_byteAt (adK := adK) (adV := adV) l D cy b N x0 (qI h x0 3) h _ hw) qm_Tape_byteAt wm_Tape_59 wi_Tape_byteAt wl_Tape_byteAt qcls7 g1 rfl rfl rfl ⟨Nat.le_of_ble_eq_true rfl, Nat.le_of_ble_eq_true rfl⟩ ⟨Nat.le_refl 0, Nat.le_refl 0⟩ (Nat.le_of_ble_eq_true rfl) rfl d_Tape_skipBlanks_16 (fun r3 h4 hw => ?_)
      refine qx_callSI (st := []) (As := [.int r3]) X (t_Tape_isBlank (adK := adK) (adV := adV) l D cy b N r3 h4 _ hw) qm_Tape_isBlank wm_Tape_62 wi_Tape_isBlank rfl rfl rfl ⟨Nat.le_of_ble_eq_true rfl, Nat.le_of_ble_eq_true rfl⟩ ⟨Nat.le_refl 0, Nat.le_refl 0⟩ (Nat.le_of_ble_eq_true rfl) rfl d_Tape_skipBlanks_19 (fun r5 h6 hw => ?_)
      refine qx_if_eq X 38 d_Tape_skipBlanks_22 (by decide) (fun q7 => ?_) (fun q7 => ?_)
      · have hw := hw.1 q7
        exact qx_vret X hw (Nat.le_refl 0) (Nat.le_refl 0) rfl d_Tape_skipBlanks_38
      · have hw := hw.2 q7
        refine qx_aload_n (x := x0) X d_Tape_skipBlanks_25 rfl 0 rfl ?_
        refine qx_dup X (qr_cat _ _) d_Tape_skipBlanks_26 ?_
        obtain ⟨g8, hw⟩ := hw
        refine qx_getI X qcls7 g8 3 (by decide) rfl wf_Tape_49 d_Tape_skipBlanks_27 ?_
        refine qx_iconst (v := (1 : Int32)) X d_Tape_skipBlanks_30 (by decide) ?_
        refine qx_iadd X d_Tape_skipBlanks_31 ?_
        refine qx_putI X qcls7 g8 3 (by decide) rfl wf_Tape_49 rfl rfl rfl d_Tape_skipBlanks_32 ?_
        refine qx_toph (fun h9 eh9 => ?_)
        have hw := hw h9 eh9
        refine qx_goto X 0 d_Tape_skipBlanks_35 (by decide) ?_
        exact ih x0 h9 hw
set_option maxRecDepth 4000 in
theorem t_Tape_skipBlanks {adK adV : Nat → Nat} (l : Launch) (D : va_G) (cy : Nat → ClassId) (b : Nat) (N : Nat) (x0 : Nat) (h : qH) (Q : qH → Prop) (hw : w_Tape_skipBlanks N x0 h Q) : Met l y_Tape_skipBlanks (Cond.code y_Tape_skipBlanks prog_9_method_6_code 1 (none) :: qT) (qrm 1 0 0 21) (qPc D cy b adK adV h [qr b x0]) (qQc D cy b qrV (fun (_ : Unit) h => Q h)) 0 0 (qA b) := by
  refine qmet (L0 := [(0, .inr (.inr (.inl x0)))]) qm_Tape_skipBlanks (plainFor_of_name (by decide)) [.inr (.inr (.inl x0))] rfl (Nat.le_of_ble_eq_true rfl) rfl (fun p e s m args below meth c X => ?_)
  unfold w_Tape_skipBlanks at hw
  exact t_Tape_skipBlanks_0 X N N x0 h Q  hw 
set_option maxRecDepth 4000 in
theorem t_Tape_isDigit {adK adV : Nat → Nat} (l : Launch) (D : va_G) (cy : Nat → ClassId) (b : Nat) (N : Nat) (x0 : Int32) (h : qH) (Q : Int32 → qH → Prop) (hw : w_Tape_isDigit N x0 h Q) : Met l y_Tape_isDigit (Cond.code y_Tape_isDigit prog_9_method_14_code 1 (some .boolean) :: qT) (qrm 0 0 0 0) (qPc D cy b adK adV h [.int x0]) (qQc D cy b qrI Q) 0 0 (qA b) := by
  refine qmet (L0 := [(0, .inl x0)]) qm_Tape_isDigit (plainFor_of_name (by decide)) [.inl x0] rfl (Nat.le_of_ble_eq_true rfl) rfl (fun p e s m args below meth c X => ?_)
  unfold w_Tape_isDigit at hw
  refine qx_iload_n (x := x0) X d_Tape_isDigit_0 rfl 0 rfl ?_
  refine qx_bipush (v := (48 : Int32)) X d_Tape_isDigit_1 (by decide) ?_
  refine qx_icmp_lt X 16 d_Tape_isDigit_3 (by decide) (fun q1 => ?_) (fun q1 => ?_)
  · have hw := hw.1 q1
    refine qx_iconst (v := (0 : Int32)) X d_Tape_isDigit_16 (by decide) ?_
    exact qx_zret X hw (Nat.le_refl 0) (Nat.le_refl 0) rfl d_Tape_isDigit_17
  · have hw := hw.2 q1
    refine qx_iload_n (x := x0) X d_Tape_isDigit_6 rfl 0 rfl ?_
    refine qx_bipush (v := (57 : Int32)) X d_Tape_isDigit_7 (by decide) ?_
    refine qx_icmp_gt X 16 d_Tape_isDigit_9 (by decide) (fun q2 => ?_) (fun q2 => ?_)
    · have hw := hw.1 q2
      refine qx_iconst (v := (0 : Int32)) X d_Tape_isDigit_16 (by decide) ?_
      exact qx_zret X hw (Nat.le_refl 0) (Nat.le_refl 0) rfl d_Tape_isDigit_17
    · have hw := hw.2 q2
      refine qx_iconst (v := (1 : Int32)) X d_Tape_isDigit_12 (by decide) ?_
      refine qx_goto X 17 d_Tape_isDigit_13 (by decide) ?_
      exact qx_zret X hw (Nat.le_refl 0) (Nat.le_refl 0) rfl d_Tape_isDigit_17
set_option maxRecDepth 4000 in
theorem t_Tape_isLetter {adK adV : Nat → Nat} (l : Launch) (D : va_G) (cy : Nat → ClassId) (b : Nat) (N : Nat) (x0 : Int32) (h : qH) (Q : Int32 → qH → Prop) (hw : w_Tape_isLetter N x0 h Q) : Met l y_Tape_isLetter (Cond.code y_Tape_isLetter prog_9_method_13_code 1 (some .boolean) :: qT) (qrm 0 0 0 0) (qPc D cy b adK adV h [.int x0]) (qQc D cy b qrI Q) 0 0 (qA b) := by
  refine qmet (L0 := [(0, .inl x0)]) qm_Tape_isLetter (plainFor_of_name (by decide)) [.inl x0] rfl (Nat.le_of_ble_eq_true rfl) rfl (fun p e s m args below meth c X => ?_)
  unfold w_Tape_isLetter at hw
  refine qx_iload_n (x := x0) X d_Tape_isLetter_0 rfl 0 rfl ?_
  refine qx_bipush (v := (97 : Int32)) X d_Tape_isLetter_1 (by decide) ?_
  refine qx_icmp_lt X 16 d_Tape_isLetter_3 (by decide) (fun q1 => ?_) (fun q1 => ?_)
  · have hw := hw.1 q1
    refine qx_iconst (v := (0 : Int32)) X d_Tape_isLetter_16 (by decide) ?_
    exact qx_zret X hw (Nat.le_refl 0) (Nat.le_refl 0) rfl d_Tape_isLetter_17
  · have hw := hw.2 q1
    refine qx_iload_n (x := x0) X d_Tape_isLetter_6 rfl 0 rfl ?_
    refine qx_bipush (v := (122 : Int32)) X d_Tape_isLetter_7 (by decide) ?_
    refine qx_icmp_gt X 16 d_Tape_isLetter_9 (by decide) (fun q2 => ?_) (fun q2 => ?_)
    · have hw := hw.1 q2
      refine qx_iconst (v := (0 : Int32)) X d_Tape_isLetter_16 (by decide) ?_
      exact qx_zret X hw (Nat.le_refl 0) (Nat.le_refl 0) rfl d_Tape_isLetter_17
    · have hw := hw.2 q2
      refine qx_iconst (v := (1 : Int32)) X d_Tape_isLetter_12 (by decide) ?_
      refine qx_goto X 17 d_Tape_isLetter_13 (by decide) ?_
      exact qx_zret X hw (Nat.le_refl 0) (Nat.le_refl 0) rfl d_Tape_isLetter_17
set_option maxRecDepth 4000 in
theorem t_Tape_splitInt_2 (X : qX p s m args meth c D cy b adK adV prog_9_method_10_code "CoatHangers$Tape" 4 (some .int) "splitInt") (N k : Nat) (x0 : Nat) (x1 : Int32) (x2 : Int64) (h : qH) (Q : Int32 → qH → Prop) (K59 : Nat → Int32 → Int64 → qH → Prop) (hw : w_Tape_splitInt_2 N k x0 x1 x2 h Q K59) (hK59 : ∀ (x0 : Nat) (x1 : Int32) (x2 : Int64) (h : qH), K59 x0 x1 x2 h → qW p l e (qrm 1 0 0 21) s m args below meth c D cy b 4 0 0 (MQ below (qQc D cy b qrI Q) args s 0 0 (qA b)) 59 [(0, .inr (.inr (.inl x0))), (1, .inl x1), (2, .inr (.inl x2))] [] h) : qW p l e (qrm 1 0 0 21) s m args below meth c D cy b 4 0 0 (MQ below (qQc D cy b qrI Q) args s 0 0 (qA b)) 2 [(0, .inr (.inr (.inl x0))), (1, .inl x1), (2, .inr (.inl x2))] [] h := by
  induction k generalizing x0 x1 x2 h with
  | zero => exact hw.elim
  | succ k ih =>
    refine qx_aload_n (x := x0) X d_Tape_splitInt_2 rfl 0 rfl ?_
    obtain ⟨g1, hw⟩ := hw
    refine qx_getI X qcls7 g1 3 (by decide) rfl wf_Tape_49 d_Tape_splitInt_3 ?_
    refine qx_aload_n (x := x0) X d_Tape_splitInt_6 rfl 0 rfl ?_
    refine qx_getI X qcls7 g1 1 (by decide) rfl wf_Tape_15 d_Tape_splitInt_7 ?_
    refine qx_icmp_ge X 59 d_Tape_splitInt_10 (by decide) (fun q2 => ?_) (fun q2 => ?_)
    · have hw := hw.1 q2
      exact hK59 x0 x1 x2 h hw
    · have hw := hw.2 q2
      refine qx_aload_n (x := x0) X d_Tape_splitInt_13 rfl 0 rfl ?_
      refine qx_aload_n (x := x0) X d_Tape_splitInt_14 rfl 0 rfl ?_
      refine qx_getI X qcls7 g1 3 (by decide) rfl wf_Tape_49 d_Tape_splitInt_15 ?_
      refine qx_callVI (st := []) (As := [.int (qI h x0 3)]) X (t_Tape_byteAt (adK := adK) (adV := adV) l D cy b N x0 (qI h x0 3) h _ hw) qm_Tape_byteAt wm_Tape_59 wi_Tape_byteAt wl_Tape_byteAt qcls7 g1 rfl rfl rfl ⟨Nat.le_of_ble_eq_true rfl, Nat.le_of_ble_eq_true rfl⟩ ⟨Nat.le_refl 0, Nat.le_refl 0⟩ (Nat.le_of_ble_eq_true rfl) rfl d_Tape_splitInt_18 (fun r3 h4 hw => ?_)
      refine qx_callSI (st := []) (As := [.int r3]) X (t_Tape_isDigit (adK := adK) (adV := adV) l D cy b N r3 h4 _ hw) qm_Tape_isDigit wm_Tape_72 wi_Tape_isDigit rfl rfl rfl ⟨Nat.le_of_ble_eq_true rfl, Nat.le_of_ble_eq_true rfl⟩ ⟨Nat.le_refl 0, Nat.le_refl 0⟩ (Nat.le_of_ble_eq_true rfl) rfl d_Tape_splitInt_21 (fun r5 h6 hw => ?_)
      refine qx_if_eq X 59 d_Tape_splitInt_24 (by decide) (fun q7 => ?_) (fun q7 => ?_)
      · have hw := hw.1 q7
        exact hK59 x0 x1 x2 h6 hw
      · have hw := hw.2 q7
        refine qx_lload_n (x := x2) X d_Tape_splitInt_27 rfl 2 rfl ?_
        refine qx_ldc2 (v := (10 : Int64)) X wk_Tape_87 d_Tape_splitInt_28 ?_
        refine qx_lmul X d_Tape_splitInt_31 ?_
        refine qx_aload_n (x := x0) X d_Tape_splitInt_32 rfl 0 rfl ?_
        refine qx_aload_n (x := x0) X d_Tape_splitInt_33 rfl 0 rfl ?_
        obtain ⟨g8, hw⟩ := hw
        refine qx_getI X qcls7 g8 3 (by decide) rfl wf_Tape_49 d_Tape_splitInt_34 ?_
        refine qx_callVI (st := [.long (x2 * (10 : Int64))]) (As := [.int (qI h6 x0 3)]) X (t_Tape_byteAt (adK := adK) (adV := adV) l D cy b N x0 (qI h6 x0 3) h6 _ hw) qm_Tape_byteAt wm_Tape_59 wi_Tape_byteAt wl_Tape_byteAt qcls7 g8 rfl rfl rfl ⟨Nat.le_of_ble_eq_true rfl, Nat.le_of_ble_eq_true rfl⟩ ⟨Nat.le_refl 0, Nat.le_refl 0⟩ (Nat.le_of_ble_eq_true rfl) rfl d_Tape_splitInt_37 (fun r9 h10 hw => ?_)
        refine qx_bipush (v := (48 : Int32)) X d_Tape_splitInt_40 (by decide) ?_
        refine qx_isub X d_Tape_splitInt_42 ?_
        refine qx_i2l X d_Tape_splitInt_43 ?_
        refine qx_ladd X d_Tape_splitInt_44 ?_
        refine qx_topj (fun y11 ey11 => ?_)
        have hw := hw y11 ey11
        refine qx_lstore_n (L' := [(2, .inr (.inl y11)), (0, .inr (.inr (.inl x0))), (1, .inl x1)]) X d_Tape_splitInt_45 rfl (by decide) rfl ?_
        refine qx_aload_n (x := x0) X d_Tape_splitInt_46 rfl 1 rfl ?_
        refine qx_dup X (qr_cat _ _) d_Tape_splitInt_47 ?_
        obtain ⟨g12, hw⟩ := hw
        refine qx_getI X qcls7 g12 3 (by decide) rfl wf_Tape_49 d_Tape_splitInt_48 ?_
        refine qx_iconst (v := (1 : Int32)) X d_Tape_splitInt_51 (by decide) ?_
        refine qx_iadd X d_Tape_splitInt_52 ?_
        refine qx_putI X qcls7 g12 3 (by decide) rfl wf_Tape_49 rfl rfl rfl d_Tape_splitInt_53 ?_
        refine qx_toph (fun h13 eh13 => ?_)
        have hw := hw h13 eh13
        refine qx_goto X 2 d_Tape_splitInt_56 (by decide) ?_
        refine qx_sub [1, 2, 0] rfl ?_
        exact ih x0 x1 y11 h13 hw
set_option maxRecDepth 4000 in
theorem t_Tape_splitInt_59 (X : qX p s m args meth c D cy b adK adV prog_9_method_10_code "CoatHangers$Tape" 4 (some .int) "splitInt") (N : Nat) (x0 : Nat) (x1 : Int32) (x2 : Int64) (h : qH) (Q : Int32 → qH → Prop)  (hw : w_Tape_splitInt_59 N x0 x1 x2 h Q ) : qW p l e (qrm 1 0 0 21) s m args below meth c D cy b 4 0 0 (MQ below (qQc D cy b qrI Q) args s 0 0 (qA b)) 59 [(0, .inr (.inr (.inl x0))), (1, .inl x1), (2, .inr (.inl x2))] [] h := by
  unfold w_Tape_splitInt_59 at hw
  refine qx_aload_n (x := x0) X d_Tape_splitInt_59 rfl 0 rfl ?_
  obtain ⟨g1, hw⟩ := hw
  refine qx_getR X qcls7 g1 6 (by decide) rfl wf_Tape_30 d_Tape_splitInt_60 ?_
  refine qx_iload_n (x := x1) X d_Tape_splitInt_63 rfl 1 rfl ?_
  refine qx_lload_n (x := x2) X d_Tape_splitInt_64 rfl 2 rfl ?_
  obtain ⟨g2, hw⟩ := hw
  refine qx_lst X g2 d_Tape_splitInt_65 ?_
  refine qx_toph (fun h3 eh3 => ?_)
  have hw := hw h3 eh3
  refine qx_aload_n (x := x0) X d_Tape_splitInt_66 rfl 0 rfl ?_
  obtain ⟨g4, hw⟩ := hw
  refine qx_getI X qcls7 g4 3 (by decide) rfl wf_Tape_49 d_Tape_splitInt_67 ?_
  refine qx_aload_n (x := x0) X d_Tape_splitInt_70 rfl 0 rfl ?_
  refine qx_getR X qcls7 g4 5 (by decide) rfl wf_Tape_27 d_Tape_splitInt_71 ?_
  refine qx_iload_n (x := x1) X d_Tape_splitInt_74 rfl 1 rfl ?_
  obtain ⟨g5, hw⟩ := hw
  refine qx_ild X g5 d_Tape_splitInt_75 ?_
  refine qx_isub X d_Tape_splitInt_76 ?_
  refine qx_iconst (v := (4 : Int32)) X d_Tape_splitInt_77 (by decide) ?_
  refine qx_icmp_le X 85 d_Tape_splitInt_78 (by decide) (fun q6 => ?_) (fun q6 => ?_)
  · have hw := hw.1 q6
    refine qx_iconst (v := (4 : Int32)) X d_Tape_splitInt_85 (by decide) ?_
    exact qx_iret X hw (Nat.le_refl 0) (Nat.le_refl 0) rfl d_Tape_splitInt_86
  · have hw := hw.2 q6
    refine qx_iconst (v := (2 : Int32)) X d_Tape_splitInt_81 (by decide) ?_
    refine qx_goto X 86 d_Tape_splitInt_82 (by decide) ?_
    exact qx_iret X hw (Nat.le_refl 0) (Nat.le_refl 0) rfl d_Tape_splitInt_86
set_option maxRecDepth 4000 in
theorem t_Tape_splitInt {adK adV : Nat → Nat} (l : Launch) (D : va_G) (cy : Nat → ClassId) (b : Nat) (N : Nat) (x0 : Nat) (x1 : Int32) (h : qH) (Q : Int32 → qH → Prop) (hw : w_Tape_splitInt N x0 x1 h Q) : Met l y_Tape_splitInt (Cond.code y_Tape_splitInt prog_9_method_10_code 4 (some .int) :: qT) (qrm 1 0 0 21) (qPc D cy b adK adV h [qr b x0, .int x1]) (qQc D cy b qrI Q) 0 0 (qA b) := by
  refine qmet (L0 := [(0, .inr (.inr (.inl x0))), (1, .inl x1)]) qm_Tape_splitInt (plainFor_of_name (by decide)) [.inr (.inr (.inl x0)), .inl x1] rfl (Nat.le_of_ble_eq_true rfl) rfl (fun p e s m args below meth c X => ?_)
  unfold w_Tape_splitInt at hw
  refine qx_lconst (v := (0 : Int64)) X d_Tape_splitInt_0 (by decide) ?_
  refine qx_lstore_n (L' := [(2, .inr (.inl (0 : Int64))), (0, .inr (.inr (.inl x0))), (1, .inl x1)]) X d_Tape_splitInt_1 rfl (by decide) rfl ?_
  refine qx_sub [1, 2, 0] rfl ?_
  refine t_Tape_splitInt_2 X N N x0 x1 (0 : Int64) h Q _ hw (fun x1 x2 x3 h4 hw => ?_)
  exact t_Tape_splitInt_59 X N x1 x2 x3 h4 Q  hw 
set_option maxRecDepth 4000 in
theorem t_Tape_kindOf_2 (X : qX p s m args meth c D cy b adK adV prog_9_method_9_code "CoatHangers$Tape" 4 (some .int) "kindOf") (N k : Nat) (x0 : Nat) (x1 : Int64) (x3 : Int32) (h : qH) (Q : Int32 → qH → Prop)  (hw : w_Tape_kindOf_2 N k x0 x1 x3 h Q ) : qW p l e (qrm 0 0 0 0) s m args below meth c D cy b 4 0 0 (MQ below (qQc D cy b qrI Q) args s 0 0 (qA b)) 2 [(0, .inr (.inr (.inl x0))), (1, .inr (.inl x1)), (3, .inl x3)] [] h := by
  induction k generalizing x0 x1 x3 h with
  | zero => exact hw.elim
  | succ k ih =>
    refine qx_iload_n (x := x3) X d_Tape_kindOf_2 rfl 2 rfl ?_
    refine qx_bipush (v := (21 : Int32)) X d_Tape_kindOf_3 (by decide) ?_
    refine qx_icmp_ge X 31 d_Tape_kindOf_5 (by decide) (fun q1 => ?_) (fun q1 => ?_)
    · have hw := hw.1 q1
      refine qx_iconst (v := (3 : Int32)) X d_Tape_kindOf_31 (by decide) ?_
      exact qx_iret X hw (Nat.le_refl 0) (Nat.le_refl 0) rfl d_Tape_kindOf_32
    · have hw := hw.2 q1
      refine qx_aload_n (x := x0) X d_Tape_kindOf_8 rfl 0 rfl ?_
      obtain ⟨g2, hw⟩ := hw
      refine qx_getR X qcls7 g2 2 (by decide) rfl wf_Tape_19 d_Tape_kindOf_9 ?_
      refine qx_iload_n (x := x3) X d_Tape_kindOf_12 rfl 2 rfl ?_
      obtain ⟨g3, hw⟩ := hw
      refine qx_lld X g3 d_Tape_kindOf_13 ?_
      refine qx_lload_n (x := x1) X d_Tape_kindOf_14 rfl 1 rfl ?_
      refine qx_lcmp X d_Tape_kindOf_15 ?_
      refine qx_if_ne X 25 d_Tape_kindOf_16 (by decide) (fun q4 => ?_) (fun q4 => ?_)
      · have hw := hw.1 q4
        refine qx_iinc (v := (x3 + (1 : Int32))) (L' := [(3, .inl (x3 + (1 : Int32))), (0, .inr (.inr (.inl x0))), (1, .inr (.inl x1))]) X d_Tape_kindOf_25 2 rfl rfl (by decide) rfl ?_
        refine qx_goto X 2 d_Tape_kindOf_28 (by decide) ?_
        refine qx_sub [1, 2, 0] rfl ?_
        exact ih x0 x1 (x3 + (1 : Int32)) h hw
      · have hw := hw.2 q4
        refine qx_sipush (v := (256 : Int32)) X d_Tape_kindOf_19 (by decide) ?_
        refine qx_iload_n (x := x3) X d_Tape_kindOf_22 rfl 2 rfl ?_
        refine qx_iadd X d_Tape_kindOf_23 ?_
        exact qx_iret X hw (Nat.le_refl 0) (Nat.le_refl 0) rfl d_Tape_kindOf_24
set_option maxRecDepth 4000 in
theorem t_Tape_kindOf {adK adV : Nat → Nat} (l : Launch) (D : va_G) (cy : Nat → ClassId) (b : Nat) (N : Nat) (x0 : Nat) (x1 : Int64) (h : qH) (Q : Int32 → qH → Prop) (hw : w_Tape_kindOf N x0 x1 h Q) : Met l y_Tape_kindOf (Cond.code y_Tape_kindOf prog_9_method_9_code 4 (some .int) :: qT) (qrm 0 0 0 0) (qPc D cy b adK adV h [qr b x0, .long x1]) (qQc D cy b qrI Q) 0 0 (qA b) := by
  refine qmet (L0 := [(0, .inr (.inr (.inl x0))), (1, .inr (.inl x1))]) qm_Tape_kindOf (plainFor_of_name (by decide)) [.inr (.inr (.inl x0)), .inr (.inl x1)] rfl (Nat.le_of_ble_eq_true rfl) rfl (fun p e s m args below meth c X => ?_)
  unfold w_Tape_kindOf at hw
  refine qx_iconst (v := (0 : Int32)) X d_Tape_kindOf_0 (by decide) ?_
  refine qx_istore_n (L' := [(3, .inl (0 : Int32)), (0, .inr (.inr (.inl x0))), (1, .inr (.inl x1))]) X d_Tape_kindOf_1 rfl (by decide) rfl ?_
  refine qx_sub [1, 2, 0] rfl ?_
  exact t_Tape_kindOf_2 X N N x0 x1 (0 : Int32) h Q  hw 
set_option maxRecDepth 4000 in
theorem t_Tape_withLetter {adK adV : Nat → Nat} (l : Launch) (D : va_G) (cy : Nat → ClassId) (b : Nat) (N : Nat) (x0 : Int64) (x2 : Int32) (h : qH) (Q : Int64 → qH → Prop) (hw : w_Tape_withLetter N x0 x2 h Q) : Met l y_Tape_withLetter (Cond.code y_Tape_withLetter prog_9_method_11_code 3 (some .long) :: qT) (qrm 0 0 0 0) (qPc D cy b adK adV h [.long x0, .int x2]) (qQc D cy b qrJ Q) 0 0 (qA b) := by
  refine qmet (L0 := [(0, .inr (.inl x0)), (2, .inl x2)]) qm_Tape_withLetter (plainFor_of_name (by decide)) [.inr (.inl x0), .inl x2] rfl (Nat.le_of_ble_eq_true rfl) rfl (fun p e s m args below meth c X => ?_)
  unfold w_Tape_withLetter at hw
  refine qx_lload_n (x := x0) X d_Tape_withLetter_0 rfl 0 rfl ?_
  refine qx_ldc2 (v := (27 : Int64)) X wk_Tape_89 d_Tape_withLetter_1 ?_
  refine qx_lmul X d_Tape_withLetter_4 ?_
  refine qx_iload_n (x := x2) X d_Tape_withLetter_5 rfl 1 rfl ?_
  refine qx_bipush (v := (97 : Int32)) X d_Tape_withLetter_6 (by decide) ?_
  refine qx_isub X d_Tape_withLetter_8 ?_
  refine qx_iconst (v := (1 : Int32)) X d_Tape_withLetter_9 (by decide) ?_
  refine qx_iadd X d_Tape_withLetter_10 ?_
  refine qx_i2l X d_Tape_withLetter_11 ?_
  refine qx_ladd X d_Tape_withLetter_12 ?_
  exact qx_lret X hw (Nat.le_refl 0) (Nat.le_refl 0) rfl d_Tape_withLetter_13
set_option maxRecDepth 4000 in
theorem t_Tape_splitWord_2 (X : qX p s m args meth c D cy b adK adV prog_9_method_8_code "CoatHangers$Tape" 4 (some .int) "splitWord") (N k : Nat) (x0 : Nat) (x1 : Int32) (x2 : Int64) (h : qH) (Q : Int32 → qH → Prop) (K53 : Nat → Int32 → Int64 → qH → Prop) (hw : w_Tape_splitWord_2 N k x0 x1 x2 h Q K53) (hK53 : ∀ (x0 : Nat) (x1 : Int32) (x2 : Int64) (h : qH), K53 x0 x1 x2 h → qW p l e (qrm 1 0 0 23) s m args below meth c D cy b 4 0 0 (MQ below (qQc D cy b qrI Q) args s 0 0 (qA b)) 53 [(0, .inr (.inr (.inl x0))), (1, .inl x1), (2, .inr (.inl x2))] [] h) : qW p l e (qrm 1 0 0 23) s m args below meth c D cy b 4 0 0 (MQ below (qQc D cy b qrI Q) args s 0 0 (qA b)) 2 [(0, .inr (.inr (.inl x0))), (1, .inl x1), (2, .inr (.inl x2))] [] h := by
  induction k generalizing x0 x1 x2 h with
  | zero => exact hw.elim
  | succ k ih =>
    refine qx_aload_n (x := x0) X d_Tape_splitWord_2 rfl 0 rfl ?_
    obtain ⟨g1, hw⟩ := hw
    refine qx_getI X qcls7 g1 3 (by decide) rfl wf_Tape_49 d_Tape_splitWord_3 ?_
    refine qx_aload_n (x := x0) X d_Tape_splitWord_6 rfl 0 rfl ?_
    refine qx_getI X qcls7 g1 1 (by decide) rfl wf_Tape_15 d_Tape_splitWord_7 ?_
    refine qx_icmp_ge X 53 d_Tape_splitWord_10 (by decide) (fun q2 => ?_) (fun q2 => ?_)
    · have hw := hw.1 q2
      exact hK53 x0 x1 x2 h hw
    · have hw := hw.2 q2
      refine qx_aload_n (x := x0) X d_Tape_splitWord_13 rfl 0 rfl ?_
      refine qx_aload_n (x := x0) X d_Tape_splitWord_14 rfl 0 rfl ?_
      refine qx_getI X qcls7 g1 3 (by decide) rfl wf_Tape_49 d_Tape_splitWord_15 ?_
      refine qx_callVI (st := []) (As := [.int (qI h x0 3)]) X (t_Tape_byteAt (adK := adK) (adV := adV) l D cy b N x0 (qI h x0 3) h _ hw) qm_Tape_byteAt wm_Tape_59 wi_Tape_byteAt wl_Tape_byteAt qcls7 g1 rfl rfl rfl ⟨Nat.le_of_ble_eq_true rfl, Nat.le_of_ble_eq_true rfl⟩ ⟨Nat.le_refl 0, Nat.le_refl 0⟩ (Nat.le_of_ble_eq_true rfl) rfl d_Tape_splitWord_18 (fun r3 h4 hw => ?_)
      refine qx_callSI (st := []) (As := [.int r3]) X (t_Tape_isLetter (adK := adK) (adV := adV) l D cy b N r3 h4 _ hw) qm_Tape_isLetter wm_Tape_66 wi_Tape_isLetter rfl rfl rfl ⟨Nat.le_of_ble_eq_true rfl, Nat.le_of_ble_eq_true rfl⟩ ⟨Nat.le_refl 0, Nat.le_refl 0⟩ (Nat.le_of_ble_eq_true rfl) rfl d_Tape_splitWord_21 (fun r5 h6 hw => ?_)
      refine qx_if_eq X 53 d_Tape_splitWord_24 (by decide) (fun q7 => ?_) (fun q7 => ?_)
      · have hw := hw.1 q7
        exact hK53 x0 x1 x2 h6 hw
      · have hw := hw.2 q7
        refine qx_lload_n (x := x2) X d_Tape_splitWord_27 rfl 2 rfl ?_
        refine qx_aload_n (x := x0) X d_Tape_splitWord_28 rfl 0 rfl ?_
        refine qx_aload_n (x := x0) X d_Tape_splitWord_29 rfl 0 rfl ?_
        obtain ⟨g8, hw⟩ := hw
        refine qx_getI X qcls7 g8 3 (by decide) rfl wf_Tape_49 d_Tape_splitWord_30 ?_
        refine qx_callVI (st := [.long x2]) (As := [.int (qI h6 x0 3)]) X (t_Tape_byteAt (adK := adK) (adV := adV) l D cy b N x0 (qI h6 x0 3) h6 _ hw) qm_Tape_byteAt wm_Tape_59 wi_Tape_byteAt wl_Tape_byteAt qcls7 g8 rfl rfl rfl ⟨Nat.le_of_ble_eq_true rfl, Nat.le_of_ble_eq_true rfl⟩ ⟨Nat.le_refl 0, Nat.le_refl 0⟩ (Nat.le_of_ble_eq_true rfl) rfl d_Tape_splitWord_33 (fun r9 h10 hw => ?_)
        refine qx_callSJ (st := []) (As := [.long x2, .int r9]) X (t_Tape_withLetter (adK := adK) (adV := adV) l D cy b N x2 r9 h10 _ hw) qm_Tape_withLetter wm_Tape_45 wi_Tape_withLetter rfl rfl rfl ⟨Nat.le_of_ble_eq_true rfl, Nat.le_of_ble_eq_true rfl⟩ ⟨Nat.le_refl 0, Nat.le_refl 0⟩ (Nat.le_of_ble_eq_true rfl) rfl d_Tape_splitWord_36 (fun r11 h12 hw => ?_)
        refine qx_lstore_n (L' := [(2, .inr (.inl r11)), (0, .inr (.inr (.inl x0))), (1, .inl x1)]) X d_Tape_splitWord_39 rfl (by decide) rfl ?_
        refine qx_aload_n (x := x0) X d_Tape_splitWord_40 rfl 1 rfl ?_
        refine qx_dup X (qr_cat _ _) d_Tape_splitWord_41 ?_
        obtain ⟨g13, hw⟩ := hw
        refine qx_getI X qcls7 g13 3 (by decide) rfl wf_Tape_49 d_Tape_splitWord_42 ?_
        refine qx_iconst (v := (1 : Int32)) X d_Tape_splitWord_45 (by decide) ?_
        refine qx_iadd X d_Tape_splitWord_46 ?_
        refine qx_putI X qcls7 g13 3 (by decide) rfl wf_Tape_49 rfl rfl rfl d_Tape_splitWord_47 ?_
        refine qx_toph (fun h14 eh14 => ?_)
        have hw := hw h14 eh14
        refine qx_goto X 2 d_Tape_splitWord_50 (by decide) ?_
        refine qx_sub [1, 2, 0] rfl ?_
        exact ih x0 x1 r11 h14 hw
set_option maxRecDepth 4000 in
theorem t_Tape_splitWord_53 (X : qX p s m args meth c D cy b adK adV prog_9_method_8_code "CoatHangers$Tape" 4 (some .int) "splitWord") (N : Nat) (x0 : Nat) (x1 : Int32) (x2 : Int64) (h : qH) (Q : Int32 → qH → Prop)  (hw : w_Tape_splitWord_53 N x0 x1 x2 h Q ) : qW p l e (qrm 1 0 0 23) s m args below meth c D cy b 4 0 0 (MQ below (qQc D cy b qrI Q) args s 0 0 (qA b)) 53 [(0, .inr (.inr (.inl x0))), (1, .inl x1), (2, .inr (.inl x2))] [] h := by
  unfold w_Tape_splitWord_53 at hw
  refine qx_aload_n (x := x0) X d_Tape_splitWord_53 rfl 0 rfl ?_
  obtain ⟨g1, hw⟩ := hw
  refine qx_getR X qcls7 g1 6 (by decide) rfl wf_Tape_30 d_Tape_splitWord_54 ?_
  refine qx_iload_n (x := x1) X d_Tape_splitWord_57 rfl 1 rfl ?_
  refine qx_lload_n (x := x2) X d_Tape_splitWord_58 rfl 2 rfl ?_
  obtain ⟨g2, hw⟩ := hw
  refine qx_lst X g2 d_Tape_splitWord_59 ?_
  refine qx_toph (fun h3 eh3 => ?_)
  have hw := hw h3 eh3
  refine qx_aload_n (x := x0) X d_Tape_splitWord_60 rfl 0 rfl ?_
  obtain ⟨g4, hw⟩ := hw
  refine qx_getI X qcls7 g4 3 (by decide) rfl wf_Tape_49 d_Tape_splitWord_61 ?_
  refine qx_aload_n (x := x0) X d_Tape_splitWord_64 rfl 0 rfl ?_
  refine qx_getR X qcls7 g4 5 (by decide) rfl wf_Tape_27 d_Tape_splitWord_65 ?_
  refine qx_iload_n (x := x1) X d_Tape_splitWord_68 rfl 1 rfl ?_
  obtain ⟨g5, hw⟩ := hw
  refine qx_ild X g5 d_Tape_splitWord_69 ?_
  refine qx_isub X d_Tape_splitWord_70 ?_
  refine qx_bipush (v := (8 : Int32)) X d_Tape_splitWord_71 (by decide) ?_
  refine qx_icmp_le X 80 d_Tape_splitWord_73 (by decide) (fun q6 => ?_) (fun q6 => ?_)
  · have hw := hw.1 q6
    refine qx_aload_n (x := x0) X d_Tape_splitWord_80 rfl 0 rfl ?_
    refine qx_lload_n (x := x2) X d_Tape_splitWord_81 rfl 2 rfl ?_
    refine qx_callVI (st := []) (As := [.long x2]) X (t_Tape_kindOf (adK := adK) (adV := adV) l D cy b N x0 x2 h3 _ hw) qm_Tape_kindOf wm_Tape_83 wi_Tape_kindOf wl_Tape_kindOf qcls7 g4 rfl rfl rfl ⟨Nat.le_of_ble_eq_true rfl, Nat.le_of_ble_eq_true rfl⟩ ⟨Nat.le_refl 0, Nat.le_refl 0⟩ (Nat.le_of_ble_eq_true rfl) rfl d_Tape_splitWord_82 (fun r7 h8 hw => ?_)
    exact qx_iret X hw (Nat.le_refl 0) (Nat.le_refl 0) rfl d_Tape_splitWord_85
  · have hw := hw.2 q6
    refine qx_iconst (v := (2 : Int32)) X d_Tape_splitWord_76 (by decide) ?_
    refine qx_goto X 85 d_Tape_splitWord_77 (by decide) ?_
    exact qx_iret X hw (Nat.le_refl 0) (Nat.le_refl 0) rfl d_Tape_splitWord_85
set_option maxRecDepth 4000 in
theorem t_Tape_splitWord {adK adV : Nat → Nat} (l : Launch) (D : va_G) (cy : Nat → ClassId) (b : Nat) (N : Nat) (x0 : Nat) (x1 : Int32) (h : qH) (Q : Int32 → qH → Prop) (hw : w_Tape_splitWord N x0 x1 h Q) : Met l y_Tape_splitWord (Cond.code y_Tape_splitWord prog_9_method_8_code 4 (some .int) :: qT) (qrm 1 0 0 23) (qPc D cy b adK adV h [qr b x0, .int x1]) (qQc D cy b qrI Q) 0 0 (qA b) := by
  refine qmet (L0 := [(0, .inr (.inr (.inl x0))), (1, .inl x1)]) qm_Tape_splitWord (plainFor_of_name (by decide)) [.inr (.inr (.inl x0)), .inl x1] rfl (Nat.le_of_ble_eq_true rfl) rfl (fun p e s m args below meth c X => ?_)
  unfold w_Tape_splitWord at hw
  refine qx_lconst (v := (0 : Int64)) X d_Tape_splitWord_0 (by decide) ?_
  refine qx_lstore_n (L' := [(2, .inr (.inl (0 : Int64))), (0, .inr (.inr (.inl x0))), (1, .inl x1)]) X d_Tape_splitWord_1 rfl (by decide) rfl ?_
  refine qx_sub [1, 2, 0] rfl ?_
  refine t_Tape_splitWord_2 X N N x0 x1 (0 : Int64) h Q _ hw (fun x1 x2 x3 h4 hw => ?_)
  exact t_Tape_splitWord_53 X N x1 x2 x3 h4 Q  hw 
set_option maxRecDepth 4000 in
theorem t_Tape_splitOne {adK adV : Nat → Nat} (l : Launch) (D : va_G) (cy : Nat → ClassId) (b : Nat) (N : Nat) (x0 : Nat) (x1 : Int32) (h : qH) (Q : Int32 → qH → Prop) (hw : w_Tape_splitOne N x0 x1 h Q) : Met l y_Tape_splitOne (Cond.code y_Tape_splitOne prog_9_method_7_code 3 (some .int) :: qT) (qrm 4 0 0 91) (qPc D cy b adK adV h [qr b x0, .int x1]) (qQc D cy b qrI Q) 0 0 (qA b) := by
  refine qmet (L0 := [(0, .inr (.inr (.inl x0))), (1, .inl x1)]) qm_Tape_splitOne (plainFor_of_name (by decide)) [.inr (.inr (.inl x0)), .inl x1] rfl (Nat.le_of_ble_eq_true rfl) rfl (fun p e s m args below meth c X => ?_)
  unfold w_Tape_splitOne at hw
  refine qx_aload_n (x := x0) X d_Tape_splitOne_0 rfl 0 rfl ?_
  refine qx_aload_n (x := x0) X d_Tape_splitOne_1 rfl 0 rfl ?_
  obtain ⟨g1, hw⟩ := hw
  refine qx_getI X qcls7 g1 3 (by decide) rfl wf_Tape_49 d_Tape_splitOne_2 ?_
  refine qx_callVI (st := []) (As := [.int (qI h x0 3)]) X (t_Tape_byteAt (adK := adK) (adV := adV) l D cy b N x0 (qI h x0 3) h _ hw) qm_Tape_byteAt wm_Tape_59 wi_Tape_byteAt wl_Tape_byteAt qcls7 g1 rfl rfl rfl ⟨Nat.le_of_ble_eq_true rfl, Nat.le_of_ble_eq_true rfl⟩ ⟨Nat.le_refl 0, Nat.le_refl 0⟩ (Nat.le_of_ble_eq_true rfl) rfl d_Tape_splitOne_5 (fun r2 h3 hw => ?_)
  refine qx_istore_n (L' := [(2, .inl r2), (0, .inr (.inr (.inl x0))), (1, .inl x1)]) X d_Tape_splitOne_8 rfl (by decide) rfl ?_
  refine qx_iload_n (x := r2) X d_Tape_splitOne_9 rfl 0 rfl ?_
  refine qx_iconst (v := (-1 : Int32)) X d_Tape_splitOne_10 (by decide) ?_
  refine qx_icmp_ne X 16 d_Tape_splitOne_11 (by decide) (fun q4 => ?_) (fun q4 => ?_)
  · have hw := hw.1 q4
    refine qx_iload_n (x := r2) X d_Tape_splitOne_16 rfl 0 rfl ?_
    refine qx_callSI (st := []) (As := [.int r2]) X (t_Tape_isLetter (adK := adK) (adV := adV) l D cy b N r2 h3 _ hw) qm_Tape_isLetter wm_Tape_66 wi_Tape_isLetter rfl rfl rfl ⟨Nat.le_of_ble_eq_true rfl, Nat.le_of_ble_eq_true rfl⟩ ⟨Nat.le_refl 0, Nat.le_refl 0⟩ (Nat.le_of_ble_eq_true rfl) rfl d_Tape_splitOne_17 (fun r5 h6 hw => ?_)
    refine qx_if_eq X 29 d_Tape_splitOne_20 (by decide) (fun q7 => ?_) (fun q7 => ?_)
    · have hw := hw.1 q7
      refine qx_iload_n (x := r2) X d_Tape_splitOne_29 rfl 0 rfl ?_
      refine qx_callSI (st := []) (As := [.int r2]) X (t_Tape_isDigit (adK := adK) (adV := adV) l D cy b N r2 h6 _ hw) qm_Tape_isDigit wm_Tape_72 wi_Tape_isDigit rfl rfl rfl ⟨Nat.le_of_ble_eq_true rfl, Nat.le_of_ble_eq_true rfl⟩ ⟨Nat.le_refl 0, Nat.le_refl 0⟩ (Nat.le_of_ble_eq_true rfl) rfl d_Tape_splitOne_30 (fun r8 h9 hw => ?_)
      refine qx_if_eq X 42 d_Tape_splitOne_33 (by decide) (fun q10 => ?_) (fun q10 => ?_)
      · have hw := hw.1 q10
        refine qx_aload_n (x := x0) X d_Tape_splitOne_42 rfl 1 rfl ?_
        refine qx_dup X (qr_cat _ _) d_Tape_splitOne_43 ?_
        obtain ⟨g11, hw⟩ := hw
        refine qx_getI X qcls7 g11 3 (by decide) rfl wf_Tape_49 d_Tape_splitOne_44 ?_
        refine qx_iconst (v := (1 : Int32)) X d_Tape_splitOne_47 (by decide) ?_
        refine qx_iadd X d_Tape_splitOne_48 ?_
        refine qx_putI X qcls7 g11 3 (by decide) rfl wf_Tape_49 rfl rfl rfl d_Tape_splitOne_49 ?_
        refine qx_toph (fun h12 eh12 => ?_)
        have hw := hw h12 eh12
        refine qx_ldcS1 X d_Tape_splitOne_52 ?_
        refine qx_iload_n (x := r2) X d_Tape_splitOne_54 rfl 0 rfl ?_
        refine qx_i2c X d_Tape_splitOne_55 ?_
        obtain ⟨g13, hw⟩ := hw
        refine qx_callTI (st := []) (As := [.int (((r2).toUInt32 % 65536).toInt32)]) X (t_String_indexOf_I_I (adK := adK) (adV := adV) l D cy b N 1 (((r2).toUInt32 % 65536).toInt32) h12 _ hw) qm_String_indexOf_I_I wm_Tape_80 wi_String_indexOf_I_I wl_String_indexOf_I_I rfl g13 rfl rfl rfl ⟨Nat.le_of_ble_eq_true rfl, Nat.le_of_ble_eq_true rfl⟩ ⟨Nat.le_refl 0, Nat.le_refl 0⟩ (Nat.le_of_ble_eq_true rfl) rfl d_Tape_splitOne_56 (fun r14 h15 hw => ?_)
        refine qx_if_lt X 66 d_Tape_splitOne_59 (by decide) (fun q16 => ?_) (fun q16 => ?_)
        · have hw := hw.1 q16
          refine qx_iconst (v := (2 : Int32)) X d_Tape_splitOne_66 (by decide) ?_
          exact qx_iret X hw (Nat.le_refl 0) (Nat.le_refl 0) rfl d_Tape_splitOne_67
        · have hw := hw.2 q16
          refine qx_iload_n (x := r2) X d_Tape_splitOne_62 rfl 0 rfl ?_
          refine qx_goto X 67 d_Tape_splitOne_63 (by decide) ?_
          exact qx_iret X hw (Nat.le_refl 0) (Nat.le_refl 0) rfl d_Tape_splitOne_67
      · have hw := hw.2 q10
        refine qx_aload_n (x := x0) X d_Tape_splitOne_36 rfl 1 rfl ?_
        refine qx_iload_n (x := x1) X d_Tape_splitOne_37 rfl 2 rfl ?_
        obtain ⟨g17, hw⟩ := hw
        refine qx_callVI (st := []) (As := [.int x1]) X (t_Tape_splitInt (adK := adK) (adV := adV) l D cy b N x0 x1 h9 _ hw) qm_Tape_splitInt wm_Tape_75 wi_Tape_splitInt wl_Tape_splitInt qcls7 g17 rfl rfl rfl ⟨Nat.le_of_ble_eq_true rfl, Nat.le_of_ble_eq_true rfl⟩ ⟨Nat.le_refl 0, Nat.le_refl 0⟩ (Nat.le_of_ble_eq_true rfl) rfl d_Tape_splitOne_38 (fun r18 h19 hw => ?_)
        exact qx_iret X hw (Nat.le_refl 0) (Nat.le_refl 0) rfl d_Tape_splitOne_41
    · have hw := hw.2 q7
      refine qx_aload_n (x := x0) X d_Tape_splitOne_23 rfl 1 rfl ?_
      refine qx_iload_n (x := x1) X d_Tape_splitOne_24 rfl 2 rfl ?_
      obtain ⟨g20, hw⟩ := hw
      refine qx_callVI (st := []) (As := [.int x1]) X (t_Tape_splitWord (adK := adK) (adV := adV) l D cy b N x0 x1 h6 _ hw) qm_Tape_splitWord wm_Tape_69 wi_Tape_splitWord wl_Tape_splitWord qcls7 g20 rfl rfl rfl ⟨Nat.le_of_ble_eq_true rfl, Nat.le_of_ble_eq_true rfl⟩ ⟨Nat.le_refl 0, Nat.le_refl 0⟩ (Nat.le_of_ble_eq_true rfl) rfl d_Tape_splitOne_25 (fun r21 h22 hw => ?_)
      exact qx_iret X hw (Nat.le_refl 0) (Nat.le_refl 0) rfl d_Tape_splitOne_28
  · have hw := hw.2 q4
    refine qx_iconst (v := (1 : Int32)) X d_Tape_splitOne_14 (by decide) ?_
    exact qx_iret X hw (Nat.le_refl 0) (Nat.le_refl 0) rfl d_Tape_splitOne_15
set_option maxRecDepth 4000 in
theorem t_Tape_split_9 (X : qX p s m args meth c D cy b adK adV prog_9_method_5_code "CoatHangers$Tape" 3 (none) "split") (N k : Nat) (x0 : Nat) (x1 : Int32) (x2 : Int32) (h : qH) (Q : qH → Prop)  (hw : w_Tape_split_9 N k x0 x1 x2 h Q ) : qW p l e (qrm 5 0 0 113) s m args below meth c D cy b 3 0 0 (MQ below (qQc D cy b qrV (fun (_ : Unit) h => Q h)) args s 0 0 (qA b)) 9 [(0, .inr (.inr (.inl x0))), (1, .inl x1), (2, .inl x2)] [] h := by
  induction k generalizing x0 x1 x2 h with
  | zero => exact hw.elim
  | succ k ih =>
    refine qx_iload_n (x := x2) X d_Tape_split_9 rfl 2 rfl ?_
    refine qx_sipush (v := (402 : Int32)) X d_Tape_split_10 (by decide) ?_
    refine qx_icmp_ge X 84 d_Tape_split_13 (by decide) (fun q1 => ?_) (fun q1 => ?_)
    · have hw := hw.1 q1
      exact qx_vret X hw (Nat.le_refl 0) (Nat.le_refl 0) rfl d_Tape_split_84
    · have hw := hw.2 q1
      refine qx_iload_n (x := x1) X d_Tape_split_16 rfl 1 rfl ?_
      refine qx_if_eq X 84 d_Tape_split_17 (by decide) (fun q2 => ?_) (fun q2 => ?_)
      · have hw := hw.1 q2
        exact qx_vret X hw (Nat.le_refl 0) (Nat.le_refl 0) rfl d_Tape_split_84
      · have hw := hw.2 q2
        refine qx_aload_n (x := x0) X d_Tape_split_20 rfl 0 rfl ?_
        obtain ⟨g3, hw⟩ := hw
        refine qx_callVV (st := []) (As := []) X (t_Tape_skipBlanks (adK := adK) (adV := adV) l D cy b N x0 h _ hw) qm_Tape_skipBlanks wm_Tape_52 wi_Tape_skipBlanks wl_Tape_skipBlanks qcls7 g3 rfl rfl rfl ⟨Nat.le_of_ble_eq_true rfl, Nat.le_of_ble_eq_true rfl⟩ ⟨Nat.le_refl 0, Nat.le_refl 0⟩ (Nat.le_of_ble_eq_true rfl) rfl d_Tape_split_21 (fun h4 hw => ?_)
        refine qx_aload_n (x := x0) X d_Tape_split_24 rfl 0 rfl ?_
        obtain ⟨g5, hw⟩ := hw
        refine qx_getR X qcls7 g5 5 (by decide) rfl wf_Tape_27 d_Tape_split_25 ?_
        refine qx_iload_n (x := x2) X d_Tape_split_28 rfl 2 rfl ?_
        refine qx_aload_n (x := x0) X d_Tape_split_29 rfl 0 rfl ?_
        refine qx_getI X qcls7 g5 3 (by decide) rfl wf_Tape_49 d_Tape_split_30 ?_
        obtain ⟨g6, hw⟩ := hw
        refine qx_ist X g6 d_Tape_split_33 ?_
        refine qx_toph (fun h7 eh7 => ?_)
        have hw := hw h7 eh7
        refine qx_aload_n (x := x0) X d_Tape_split_34 rfl 0 rfl ?_
        obtain ⟨g8, hw⟩ := hw
        refine qx_getR X qcls7 g8 6 (by decide) rfl wf_Tape_30 d_Tape_split_35 ?_
        refine qx_iload_n (x := x2) X d_Tape_split_38 rfl 2 rfl ?_
        refine qx_lconst (v := (0 : Int64)) X d_Tape_split_39 (by decide) ?_
        obtain ⟨g9, hw⟩ := hw
        refine qx_lst X g9 d_Tape_split_40 ?_
        refine qx_toph (fun h10 eh10 => ?_)
        have hw := hw h10 eh10
        refine qx_aload_n (x := x0) X d_Tape_split_41 rfl 0 rfl ?_
        obtain ⟨g11, hw⟩ := hw
        refine qx_getR X qcls7 g11 4 (by decide) rfl wf_Tape_23 d_Tape_split_42 ?_
        refine qx_iload_n (x := x2) X d_Tape_split_45 rfl 2 rfl ?_
        refine qx_aload_n (x := x0) X d_Tape_split_46 rfl 0 rfl ?_
        refine qx_iload_n (x := x2) X d_Tape_split_47 rfl 2 rfl ?_
        refine qx_callVI (st := [.int x2, qr b (qR h10 x0 4)]) (As := [.int x2]) X (t_Tape_splitOne (adK := adK) (adV := adV) l D cy b N x0 x2 h10 _ hw) qm_Tape_splitOne wm_Tape_55 wi_Tape_splitOne wl_Tape_splitOne qcls7 g11 rfl rfl rfl ⟨Nat.le_of_ble_eq_true rfl, Nat.le_of_ble_eq_true rfl⟩ ⟨Nat.le_refl 0, Nat.le_refl 0⟩ (Nat.le_of_ble_eq_true rfl) rfl d_Tape_split_48 (fun r12 h13 hw => ?_)
        obtain ⟨g14, hw⟩ := hw
        refine qx_ist X g14 d_Tape_split_51 ?_
        refine qx_toph (fun h15 eh15 => ?_)
        have hw := hw h15 eh15
        refine qx_aload_n (x := x0) X d_Tape_split_52 rfl 0 rfl ?_
        obtain ⟨g16, hw⟩ := hw
        refine qx_getR X qcls7 g16 4 (by decide) rfl wf_Tape_23 d_Tape_split_53 ?_
        refine qx_iload_n (x := x2) X d_Tape_split_56 rfl 2 rfl ?_
        obtain ⟨g17, hw⟩ := hw
        refine qx_ild X g17 d_Tape_split_57 ?_
        refine qx_iconst (v := (1 : Int32)) X d_Tape_split_58 (by decide) ?_
        refine qx_icmp_eq X 76 d_Tape_split_59 (by decide) (fun q18 => ?_) (fun q18 => ?_)
        · have hw := hw.1 q18
          refine qx_iconst (v := (0 : Int32)) X d_Tape_split_76 (by decide) ?_
          refine qx_istore_n (L' := [(1, .inl (0 : Int32)), (0, .inr (.inr (.inl x0))), (2, .inl x2)]) X d_Tape_split_77 rfl (by decide) rfl ?_
          refine qx_iinc (v := (x2 + (1 : Int32))) (L' := [(2, .inl (x2 + (1 : Int32))), (1, .inl (0 : Int32)), (0, .inr (.inr (.inl x0)))]) X d_Tape_split_78 2 rfl rfl (by decide) rfl ?_
          refine qx_goto X 9 d_Tape_split_81 (by decide) ?_
          refine qx_sub [2, 1, 0] rfl ?_
          exact ih x0 (0 : Int32) (x2 + (1 : Int32)) h15 hw
        · have hw := hw.2 q18
          refine qx_aload_n (x := x0) X d_Tape_split_62 rfl 0 rfl ?_
          refine qx_getR X qcls7 g16 4 (by decide) rfl wf_Tape_23 d_Tape_split_63 ?_
          refine qx_iload_n (x := x2) X d_Tape_split_66 rfl 2 rfl ?_
          refine qx_ild X g17 d_Tape_split_67 ?_
          refine qx_iconst (v := (2 : Int32)) X d_Tape_split_68 (by decide) ?_
          refine qx_icmp_eq X 76 d_Tape_split_69 (by decide) (fun q19 => ?_) (fun q19 => ?_)
          · have hw := hw.1 q19
            refine qx_iconst (v := (0 : Int32)) X d_Tape_split_76 (by decide) ?_
            refine qx_istore_n (L' := [(1, .inl (0 : Int32)), (0, .inr (.inr (.inl x0))), (2, .inl x2)]) X d_Tape_split_77 rfl (by decide) rfl ?_
            refine qx_iinc (v := (x2 + (1 : Int32))) (L' := [(2, .inl (x2 + (1 : Int32))), (1, .inl (0 : Int32)), (0, .inr (.inr (.inl x0)))]) X d_Tape_split_78 2 rfl rfl (by decide) rfl ?_
            refine qx_goto X 9 d_Tape_split_81 (by decide) ?_
            refine qx_sub [2, 1, 0] rfl ?_
            exact ih x0 (0 : Int32) (x2 + (1 : Int32)) h15 hw
          · have hw := hw.2 q19
            refine qx_iconst (v := (1 : Int32)) X d_Tape_split_72 (by decide) ?_
            refine qx_goto X 77 d_Tape_split_73 (by decide) ?_
            refine qx_istore_n (L' := [(1, .inl (1 : Int32)), (0, .inr (.inr (.inl x0))), (2, .inl x2)]) X d_Tape_split_77 rfl (by decide) rfl ?_
            refine qx_iinc (v := (x2 + (1 : Int32))) (L' := [(2, .inl (x2 + (1 : Int32))), (1, .inl (1 : Int32)), (0, .inr (.inr (.inl x0)))]) X d_Tape_split_78 2 rfl rfl (by decide) rfl ?_
            refine qx_goto X 9 d_Tape_split_81 (by decide) ?_
            refine qx_sub [2, 1, 0] rfl ?_
            exact ih x0 (1 : Int32) (x2 + (1 : Int32)) h15 hw
set_option maxRecDepth 4000 in
theorem t_Tape_split {adK adV : Nat → Nat} (l : Launch) (D : va_G) (cy : Nat → ClassId) (b : Nat) (N : Nat) (x0 : Nat) (h : qH) (Q : qH → Prop) (hw : w_Tape_split N x0 h Q) : Met l y_Tape_split (Cond.code y_Tape_split prog_9_method_5_code 3 (none) :: qT) (qrm 5 0 0 113) (qPc D cy b adK adV h [qr b x0]) (qQc D cy b qrV (fun (_ : Unit) h => Q h)) 0 0 (qA b) := by
  refine qmet (L0 := [(0, .inr (.inr (.inl x0)))]) qm_Tape_split (plainFor_of_name (by decide)) [.inr (.inr (.inl x0))] rfl (Nat.le_of_ble_eq_true rfl) rfl (fun p e s m args below meth c X => ?_)
  unfold w_Tape_split at hw
  refine qx_aload_n (x := x0) X d_Tape_split_0 rfl 0 rfl ?_
  refine qx_iconst (v := (0 : Int32)) X d_Tape_split_1 (by decide) ?_
  obtain ⟨g1, hw⟩ := hw
  refine qx_putI X qcls7 g1 3 (by decide) rfl wf_Tape_49 rfl rfl rfl d_Tape_split_2 ?_
  refine qx_toph (fun h2 eh2 => ?_)
  have hw := hw h2 eh2
  refine qx_iconst (v := (1 : Int32)) X d_Tape_split_5 (by decide) ?_
  refine qx_istore_n (L' := [(1, .inl (1 : Int32)), (0, .inr (.inr (.inl x0)))]) X d_Tape_split_6 rfl (by decide) rfl ?_
  refine qx_iconst (v := (0 : Int32)) X d_Tape_split_7 (by decide) ?_
  refine qx_istore_n (L' := [(2, .inl (0 : Int32)), (1, .inl (1 : Int32)), (0, .inr (.inr (.inl x0)))]) X d_Tape_split_8 rfl (by decide) rfl ?_
  refine qx_sub [2, 1, 0] rfl ?_
  exact t_Tape_split_9 X N N x0 (1 : Int32) (0 : Int32) h2 Q  hw 
set_option maxRecDepth 4000 in
theorem t_Tape_hasRoomFor {adK adV : Nat → Nat} (l : Launch) (D : va_G) (cy : Nat → ClassId) (b : Nat) (N : Nat) (x0 : Nat) (x1 : Int32) (h : qH) (Q : Int32 → qH → Prop) (hw : w_Tape_hasRoomFor N x0 x1 h Q) : Met l y_Tape_hasRoomFor (Cond.code y_Tape_hasRoomFor prog_9_method_2_code 2 (some .boolean) :: qT) (qrm 0 0 0 0) (qPc D cy b adK adV h [qr b x0, .int x1]) (qQc D cy b qrI Q) 0 0 (qA b) := by
  refine qmet (L0 := [(0, .inr (.inr (.inl x0))), (1, .inl x1)]) qm_Tape_hasRoomFor (plainFor_of_name (by decide)) [.inr (.inr (.inl x0)), .inl x1] rfl (Nat.le_of_ble_eq_true rfl) rfl (fun p e s m args below meth c X => ?_)
  unfold w_Tape_hasRoomFor at hw
  refine qx_aload_n (x := x0) X d_Tape_hasRoomFor_0 rfl 0 rfl ?_
  obtain ⟨g1, hw⟩ := hw
  refine qx_getI X qcls7 g1 1 (by decide) rfl wf_Tape_15 d_Tape_hasRoomFor_1 ?_
  refine qx_iload_n (x := x1) X d_Tape_hasRoomFor_4 rfl 1 rfl ?_
  refine qx_iadd X d_Tape_hasRoomFor_5 ?_
  refine qx_sipush (v := (2000 : Int32)) X d_Tape_hasRoomFor_6 (by decide) ?_
  refine qx_icmp_gt X 16 d_Tape_hasRoomFor_9 (by decide) (fun q2 => ?_) (fun q2 => ?_)
  · have hw := hw.1 q2
    refine qx_iconst (v := (0 : Int32)) X d_Tape_hasRoomFor_16 (by decide) ?_
    exact qx_zret X hw (Nat.le_refl 0) (Nat.le_refl 0) rfl d_Tape_hasRoomFor_17
  · have hw := hw.2 q2
    refine qx_iconst (v := (1 : Int32)) X d_Tape_hasRoomFor_12 (by decide) ?_
    refine qx_goto X 17 d_Tape_hasRoomFor_13 (by decide) ?_
    exact qx_zret X hw (Nat.le_refl 0) (Nat.le_refl 0) rfl d_Tape_hasRoomFor_17
set_option maxRecDepth 4000 in
theorem t_Tape_addFour_3 (X : qX p s m args meth c D cy b adK adV prog_9_method_3_code "CoatHangers$Tape" 3 (none) "addFour") (N k : Nat) (x0 : Nat) (x1 : Int32) (x2 : Int32) (h : qH) (Q : qH → Prop)  (hw : w_Tape_addFour_3 N k x0 x1 x2 h Q ) : qW p l e (qrm 0 0 0 0) s m args below meth c D cy b 3 0 0 (MQ below (qQc D cy b qrV (fun (_ : Unit) h => Q h)) args s 0 0 (qA b)) 3 [(0, .inr (.inr (.inl x0))), (1, .inl x1), (2, .inl x2)] [] h := by
  induction k generalizing x0 x1 x2 h with
  | zero => exact hw.elim
  | succ k ih =>
    refine qx_iload_n (x := x2) X d_Tape_addFour_3 rfl 2 rfl ?_
    refine qx_if_lt X 46 d_Tape_addFour_4 (by decide) (fun q1 => ?_) (fun q1 => ?_)
    · have hw := hw.1 q1
      exact qx_vret X hw (Nat.le_refl 0) (Nat.le_refl 0) rfl d_Tape_addFour_46
    · have hw := hw.2 q1
      refine qx_aload_n (x := x0) X d_Tape_addFour_7 rfl 0 rfl ?_
      obtain ⟨g2, hw⟩ := hw
      refine qx_getI X qcls7 g2 1 (by decide) rfl wf_Tape_15 d_Tape_addFour_8 ?_
      refine qx_sipush (v := (2000 : Int32)) X d_Tape_addFour_11 (by decide) ?_
      refine qx_icmp_ge X 40 d_Tape_addFour_14 (by decide) (fun q3 => ?_) (fun q3 => ?_)
      · have hw := hw.1 q3
        refine qx_iinc (v := (x2 + (-8 : Int32))) (L' := [(2, .inl (x2 + (-8 : Int32))), (0, .inr (.inr (.inl x0))), (1, .inl x1)]) X d_Tape_addFour_40 2 rfl rfl (by decide) rfl ?_
        refine qx_goto X 3 d_Tape_addFour_43 (by decide) ?_
        refine qx_sub [1, 2, 0] rfl ?_
        exact ih x0 x1 (x2 + (-8 : Int32)) h hw
      · have hw := hw.2 q3
        refine qx_aload_n (x := x0) X d_Tape_addFour_17 rfl 0 rfl ?_
        refine qx_getR X qcls7 g2 0 (by decide) rfl wf_Tape_11 d_Tape_addFour_18 ?_
        refine qx_aload_n (x := x0) X d_Tape_addFour_21 rfl 0 rfl ?_
        refine qx_getI X qcls7 g2 1 (by decide) rfl wf_Tape_15 d_Tape_addFour_22 ?_
        refine qx_iload_n (x := x1) X d_Tape_addFour_25 rfl 1 rfl ?_
        refine qx_iload_n (x := x2) X d_Tape_addFour_26 rfl 2 rfl ?_
        refine qx_iushr X d_Tape_addFour_27 ?_
        refine qx_i2b X d_Tape_addFour_28 ?_
        obtain ⟨g4, hw⟩ := hw
        refine qx_bst X g4 d_Tape_addFour_29 ?_
        refine qx_toph (fun h5 eh5 => ?_)
        have hw := hw h5 eh5
        refine qx_aload_n (x := x0) X d_Tape_addFour_30 rfl 0 rfl ?_
        refine qx_dup X (qr_cat _ _) d_Tape_addFour_31 ?_
        obtain ⟨g6, hw⟩ := hw
        refine qx_getI X qcls7 g6 1 (by decide) rfl wf_Tape_15 d_Tape_addFour_32 ?_
        refine qx_iconst (v := (1 : Int32)) X d_Tape_addFour_35 (by decide) ?_
        refine qx_iadd X d_Tape_addFour_36 ?_
        refine qx_putI X qcls7 g6 1 (by decide) rfl wf_Tape_15 rfl rfl rfl d_Tape_addFour_37 ?_
        refine qx_toph (fun h7 eh7 => ?_)
        have hw := hw h7 eh7
        refine qx_iinc (v := (x2 + (-8 : Int32))) (L' := [(2, .inl (x2 + (-8 : Int32))), (0, .inr (.inr (.inl x0))), (1, .inl x1)]) X d_Tape_addFour_40 2 rfl rfl (by decide) rfl ?_
        refine qx_goto X 3 d_Tape_addFour_43 (by decide) ?_
        refine qx_sub [1, 2, 0] rfl ?_
        exact ih x0 x1 (x2 + (-8 : Int32)) h7 hw
set_option maxRecDepth 4000 in
theorem t_Tape_addFour {adK adV : Nat → Nat} (l : Launch) (D : va_G) (cy : Nat → ClassId) (b : Nat) (N : Nat) (x0 : Nat) (x1 : Int32) (h : qH) (Q : qH → Prop) (hw : w_Tape_addFour N x0 x1 h Q) : Met l y_Tape_addFour (Cond.code y_Tape_addFour prog_9_method_3_code 3 (none) :: qT) (qrm 0 0 0 0) (qPc D cy b adK adV h [qr b x0, .int x1]) (qQc D cy b qrV (fun (_ : Unit) h => Q h)) 0 0 (qA b) := by
  refine qmet (L0 := [(0, .inr (.inr (.inl x0))), (1, .inl x1)]) qm_Tape_addFour (plainFor_of_name (by decide)) [.inr (.inr (.inl x0)), .inl x1] rfl (Nat.le_of_ble_eq_true rfl) rfl (fun p e s m args below meth c X => ?_)
  unfold w_Tape_addFour at hw
  refine qx_bipush (v := (24 : Int32)) X d_Tape_addFour_0 (by decide) ?_
  refine qx_istore_n (L' := [(2, .inl (24 : Int32)), (0, .inr (.inr (.inl x0))), (1, .inl x1)]) X d_Tape_addFour_2 rfl (by decide) rfl ?_
  refine qx_sub [1, 2, 0] rfl ?_
  exact t_Tape_addFour_3 X N N x0 x1 (24 : Int32) h Q  hw 
end QG
