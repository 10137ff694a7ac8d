/-! the reference, part 0: written by wip/whole/emit.py out of the bytecode -/
def y_M_begins : MethodName := ⟨"CoatHangersModel", "begins", "()V"⟩
theorem qm_M_begins : qMt y_M_begins prog_14_method_41_code 2 (none) 0 := ⟨qT_6 (i := 40) (by decide +kernel) rfl, qT_1 (i := 17) (by decide +kernel) rfl, by decide, by decide, by decide +kernel⟩
theorem wi_M_begins : Cond.instanceMethod y_M_begins ∈ qT := qT_6 (i := 39) (by decide +kernel) rfl
theorem wl_M_begins : Cond.selects y_M_begins.cls y_M_begins y_M_begins ∈ qT := qT_s (i := 54) (by decide +kernel) rfl
def y_M_keepsRow : MethodName := ⟨"CoatHangersModel", "keepsRow", "()V"⟩
theorem qm_M_keepsRow : qMt y_M_keepsRow prog_14_method_42_code 2 (none) 0 := ⟨qT_6 (i := 44) (by decide +kernel) rfl, qT_1 (i := 17) (by decide +kernel) rfl, by decide, by decide, by decide +kernel⟩
theorem wi_M_keepsRow : Cond.instanceMethod y_M_keepsRow ∈ qT := qT_6 (i := 43) (by decide +kernel) rfl
theorem wl_M_keepsRow : Cond.selects y_M_keepsRow.cls y_M_keepsRow y_M_keepsRow ∈ qT := qT_s (i := 55) (by decide +kernel) rfl
def y_M_plain : MethodName := ⟨"CoatHangersModel", "plain", "(I)V"⟩
theorem qm_M_plain : qMt y_M_plain prog_14_method_19_code 3 (none) 1 := ⟨qT_6 (i := 29) (by decide +kernel) rfl, qT_1 (i := 17) (by decide +kernel) rfl, by decide, by decide, by decide +kernel⟩
theorem wi_M_plain : Cond.instanceMethod y_M_plain ∈ qT := qT_6 (i := 28) (by decide +kernel) rfl
theorem wl_M_plain : Cond.selects y_M_plain.cls y_M_plain y_M_plain ∈ qT := qT_s (i := 53) (by decide +kernel) rfl
def y_M_appends : MethodName := ⟨"CoatHangersModel", "appends", "(JI)J"⟩
theorem qm_M_appends : qMt y_M_appends prog_14_method_9_code 3 (some .long) 2 := ⟨qT_6 (i := 35) (by decide +kernel) rfl, qT_1 (i := 17) (by decide +kernel) rfl, by decide, by decide, by decide +kernel⟩
theorem wi_M_appends : Cond.static y_M_appends ∈ qT := qT_6 (i := 34) (by decide +kernel) rfl
def y_M_word : MethodName := ⟨"CoatHangersModel", "word", "(IIIIIII)J"⟩
theorem qm_M_word : qMt y_M_word prog_14_method_10_code 7 (some .long) 7 := ⟨qT_6 (i := 32) (by decide +kernel) rfl, qT_1 (i := 17) (by decide +kernel) rfl, by decide, by decide, by decide +kernel⟩
theorem wi_M_word : Cond.static y_M_word ∈ qT := qT_6 (i := 31) (by decide +kernel) rfl
def y_M_put : MethodName := ⟨"CoatHangersModel", "put", "(I)V"⟩
theorem qm_M_put : qMt y_M_put prog_14_method_4_code 3 (none) 1 := ⟨qT_7 (i := 25) (by decide +kernel) rfl, qT_1 (i := 17) (by decide +kernel) rfl, by decide, by decide, by decide +kernel⟩
theorem wi_M_put : Cond.instanceMethod y_M_put ∈ qT := qT_7 (i := 24) (by decide +kernel) rfl
theorem wl_M_put : Cond.selects y_M_put.cls y_M_put y_M_put ∈ qT := qT_s (i := 56) (by decide +kernel) rfl
def y_M_feed : MethodName := ⟨"CoatHangersModel", "feed", "(IIIII)I"⟩
theorem qm_M_feed : qMt y_M_feed prog_14_method_3_code 6 (some .int) 5 := ⟨qT_7 (i := 21) (by decide +kernel) rfl, qT_1 (i := 17) (by decide +kernel) rfl, by decide, by decide, by decide +kernel⟩
theorem wi_M_feed : Cond.instanceMethod y_M_feed ∈ qT := qT_7 (i := 19) (by decide +kernel) rfl
theorem wl_M_feed : Cond.selects y_M_feed.cls y_M_feed y_M_feed ∈ qT := qT_7 (i := 20) (by decide +kernel) rfl
def y_M_back : MethodName := ⟨"CoatHangersModel", "back", "(I)I"⟩
theorem qm_M_back : qMt y_M_back prog_14_method_5_code 2 (some .int) 1 := ⟨qT_7 (i := 29) (by decide +kernel) rfl, qT_1 (i := 17) (by decide +kernel) rfl, by decide, by decide, by decide +kernel⟩
theorem wi_M_back : Cond.instanceMethod y_M_back ∈ qT := qT_7 (i := 27) (by decide +kernel) rfl
theorem wl_M_back : Cond.selects y_M_back.cls y_M_back y_M_back ∈ qT := qT_7 (i := 28) (by decide +kernel) rfl
def y_M_byteAt : MethodName := ⟨"CoatHangersModel", "byteAt", "(I)I"⟩
theorem qm_M_byteAt : qMt y_M_byteAt prog_14_method_6_code 2 (some .int) 1 := ⟨qT_7 (i := 41) (by decide +kernel) rfl, qT_1 (i := 17) (by decide +kernel) rfl, by decide, by decide, by decide +kernel⟩
theorem wi_M_byteAt : Cond.instanceMethod y_M_byteAt ∈ qT := qT_7 (i := 40) (by decide +kernel) rfl
theorem wl_M_byteAt : Cond.selects y_M_byteAt.cls y_M_byteAt y_M_byteAt ∈ qT := qT_s (i := 58) (by decide +kernel) rfl
def y_M_isDigit : MethodName := ⟨"CoatHangersModel", "isDigit", "(I)Z"⟩
theorem qm_M_isDigit : qMt y_M_isDigit prog_14_method_7_code 1 (some .boolean) 1 := ⟨qT_7 (i := 51) (by decide +kernel) rfl, qT_1 (i := 17) (by decide +kernel) rfl, by decide, by decide, by decide +kernel⟩
theorem wi_M_isDigit : Cond.static y_M_isDigit ∈ qT := qT_7 (i := 50) (by decide +kernel) rfl
def y_M_isLetter : MethodName := ⟨"CoatHangersModel", "isLetter", "(I)Z"⟩
theorem qm_M_isLetter : qMt y_M_isLetter prog_14_method_8_code 1 (some .boolean) 1 := ⟨qT_7 (i := 48) (by decide +kernel) rfl, qT_1 (i := 17) (by decide +kernel) rfl, by decide, by decide, by decide +kernel⟩
theorem wi_M_isLetter : Cond.static y_M_isLetter ∈ qT := qT_7 (i := 47) (by decide +kernel) rfl
def y_M_token : MethodName := ⟨"CoatHangersModel", "token", "(IIIJ)V"⟩
theorem qm_M_token : qMt y_M_token prog_14_method_11_code 6 (none) 4 := ⟨qT_7 (i := 45) (by decide +kernel) rfl, qT_1 (i := 17) (by decide +kernel) rfl, by decide, by decide, by decide +kernel⟩
theorem wi_M_token : Cond.instanceMethod y_M_token ∈ qT := qT_7 (i := 44) (by decide +kernel) rfl
theorem wl_M_token : Cond.selects y_M_token.cls y_M_token y_M_token ∈ qT := qT_s (i := 59) (by decide +kernel) rfl
def y_M_sign : MethodName := ⟨"CoatHangersModel", "sign", "(III)I"⟩
theorem qm_M_sign : qMt y_M_sign prog_14_method_13_code 5 (some .int) 3 := ⟨qT_7 (i := 55) (by decide +kernel) rfl, qT_1 (i := 17) (by decide +kernel) rfl, by decide, by decide, by decide +kernel⟩
theorem wi_M_sign : Cond.instanceMethod y_M_sign ∈ qT := qT_7 (i := 54) (by decide +kernel) rfl
theorem wl_M_sign : Cond.selects y_M_sign.cls y_M_sign y_M_sign ∈ qT := qT_s (i := 60) (by decide +kernel) rfl
def y_M_cut : MethodName := ⟨"CoatHangersModel", "cut", "()V"⟩
theorem qm_M_cut : qMt y_M_cut prog_14_method_12_code 8 (none) 0 := ⟨qT_7 (i := 37) (by decide +kernel) rfl, qT_1 (i := 17) (by decide +kernel) rfl, by decide, by decide, by decide +kernel⟩
theorem wi_M_cut : Cond.instanceMethod y_M_cut ∈ qT := qT_7 (i := 36) (by decide +kernel) rfl
theorem wl_M_cut : Cond.selects y_M_cut.cls y_M_cut y_M_cut ∈ qT := qT_s (i := 57) (by decide +kernel) rfl
def y_M_is : MethodName := ⟨"CoatHangersModel", "is", "(I)Z"⟩
theorem qm_M_is : qMt y_M_is prog_14_method_14_code 2 (some .boolean) 1 := ⟨qT_7 (i := 59) (by decide +kernel) rfl, qT_1 (i := 17) (by decide +kernel) rfl, by decide, by decide, by decide +kernel⟩
theorem wi_M_is : Cond.instanceMethod y_M_is ∈ qT := qT_7 (i := 58) (by decide +kernel) rfl
theorem wl_M_is : Cond.selects y_M_is.cls y_M_is y_M_is ∈ qT := qT_s (i := 61) (by decide +kernel) rfl
def y_M_fail : MethodName := ⟨"CoatHangersModel", "fail", "(I)V"⟩
theorem qm_M_fail : qMt y_M_fail prog_14_method_15_code 2 (none) 1 := ⟨qT_7 (i := 71) (by decide +kernel) rfl, qT_1 (i := 17) (by decide +kernel) rfl, by decide, by decide, by decide +kernel⟩
theorem wi_M_fail : Cond.instanceMethod y_M_fail ∈ qT := qT_7 (i := 70) (by decide +kernel) rfl
theorem wl_M_fail : Cond.selects y_M_fail.cls y_M_fail y_M_fail ∈ qT := qT_s (i := 64) (by decide +kernel) rfl
def y_M_wrong : MethodName := ⟨"CoatHangersModel", "wrong", "(II)V"⟩
theorem qm_M_wrong : qMt y_M_wrong prog_14_method_16_code 4 (none) 2 := ⟨qT_7 (i := 87) (by decide +kernel) rfl, qT_1 (i := 17) (by decide +kernel) rfl, by decide, by decide, by decide +kernel⟩
theorem wi_M_wrong : Cond.instanceMethod y_M_wrong ∈ qT := qT_7 (i := 86) (by decide +kernel) rfl
theorem wl_M_wrong : Cond.selects y_M_wrong.cls y_M_wrong y_M_wrong ∈ qT := qT_s (i := 68) (by decide +kernel) rfl
def y_M_goesOn : MethodName := ⟨"CoatHangersModel", "goesOn", "()V"⟩
theorem qm_M_goesOn : qMt y_M_goesOn prog_14_method_17_code 1 (none) 0 := ⟨qT_7 (i := 75) (by decide +kernel) rfl, qT_1 (i := 17) (by decide +kernel) rfl, by decide, by decide, by decide +kernel⟩
theorem wi_M_goesOn : Cond.instanceMethod y_M_goesOn ∈ qT := qT_7 (i := 74) (by decide +kernel) rfl
theorem wl_M_goesOn : Cond.selects y_M_goesOn.cls y_M_goesOn y_M_goesOn ∈ qT := qT_s (i := 65) (by decide +kernel) rfl
def y_M_must : MethodName := ⟨"CoatHangersModel", "must", "(I)V"⟩
theorem qm_M_must : qMt y_M_must prog_14_method_18_code 2 (none) 1 := ⟨qT_7 (i := 83) (by decide +kernel) rfl, qT_1 (i := 17) (by decide +kernel) rfl, by decide, by decide, by decide +kernel⟩
theorem wi_M_must : Cond.instanceMethod y_M_must ∈ qT := qT_7 (i := 82) (by decide +kernel) rfl
theorem wl_M_must : Cond.selects y_M_must.cls y_M_must y_M_must ∈ qT := qT_s (i := 67) (by decide +kernel) rfl
def y_M_bounded : MethodName := ⟨"CoatHangersModel", "bounded", "(II)I"⟩
theorem qm_M_bounded : qMt y_M_bounded prog_14_method_27_code 4 (some .int) 2 := ⟨qT_7 (i := 91) (by decide +kernel) rfl, qT_1 (i := 17) (by decide +kernel) rfl, by decide, by decide, by decide +kernel⟩
theorem wi_M_bounded : Cond.instanceMethod y_M_bounded ∈ qT := qT_7 (i := 90) (by decide +kernel) rfl
theorem wl_M_bounded : Cond.selects y_M_bounded.cls y_M_bounded y_M_bounded ∈ qT := qT_s (i := 69) (by decide +kernel) rfl
def y_M_endsName : MethodName := ⟨"CoatHangersModel", "endsName", "(II)V"⟩
theorem qm_M_endsName : qMt y_M_endsName prog_14_method_25_code 3 (none) 2 := ⟨qT_7 (i := 95) (by decide +kernel) rfl, qT_1 (i := 17) (by decide +kernel) rfl, by decide, by decide, by decide +kernel⟩
theorem wi_M_endsName : Cond.instanceMethod y_M_endsName ∈ qT := qT_7 (i := 94) (by decide +kernel) rfl
theorem wl_M_endsName : Cond.selects y_M_endsName.cls y_M_endsName y_M_endsName ∈ qT := qT_s (i := 70) (by decide +kernel) rfl
def y_M_named : MethodName := ⟨"CoatHangersModel", "named", "()I"⟩
theorem qm_M_named : qMt y_M_named prog_14_method_24_code 3 (some .int) 0 := ⟨qT_7 (i := 79) (by decide +kernel) rfl, qT_1 (i := 17) (by decide +kernel) rfl, by decide, by decide, by decide +kernel⟩
theorem wi_M_named : Cond.instanceMethod y_M_named ∈ qT := qT_7 (i := 78) (by decide +kernel) rfl
theorem wl_M_named : Cond.selects y_M_named.cls y_M_named y_M_named ∈ qT := qT_s (i := 66) (by decide +kernel) rfl
theorem wf_M_116 : Cond.fieldLink "CoatHangersModel" 116 "CoatHangersModel" "row" "[I" ∈ qT := qT_6 (i := 94) (by decide +kernel) rfl
theorem wf_M_55 : Cond.fieldLink "CoatHangersModel" 55 "CoatHangersModel" "people" "[I" ∈ qT := qT_6 (i := 70) (by decide +kernel) rfl
theorem wf_M_245 : Cond.fieldLink "CoatHangersModel" 245 "CoatHangersModel" "live" "I" ∈ qT := qT_6 (i := 62) (by decide +kernel) rfl
theorem wf_M_58 : Cond.fieldLink "CoatHangersModel" 58 "CoatHangersModel" "wideTold" "[I" ∈ qT := qT_6 (i := 71) (by decide +kernel) rfl
theorem wf_M_64 : Cond.fieldLink "CoatHangersModel" 64 "CoatHangersModel" "hangsTold" "[I" ∈ qT := qT_6 (i := 73) (by decide +kernel) rfl
theorem wf_M_73 : Cond.fieldLink "CoatHangersModel" 73 "CoatHangersModel" "seed" "[I" ∈ qT := qT_6 (i := 76) (by decide +kernel) rfl
theorem wf_M_326 : Cond.fieldLink "CoatHangersModel" 326 "CoatHangersModel" "lots" "I" ∈ qT := qT_6 (i := 95) (by decide +kernel) rfl
theorem wf_M_329 : Cond.fieldLink "CoatHangersModel" 329 "CoatHangersModel" "isStill" "Z" ∈ qT := qT_6 (i := 96) (by decide +kernel) rfl
theorem wf_M_113 : Cond.fieldLink "CoatHangersModel" 113 "CoatHangersModel" "now" "[I" ∈ qT := qT_6 (i := 93) (by decide +kernel) rfl
theorem wf_M_46 : Cond.fieldLink "CoatHangersModel" 46 "CoatHangersModel" "hangers" "[I" ∈ qT := qT_6 (i := 67) (by decide +kernel) rfl
theorem wf_M_67 : Cond.fieldLink "CoatHangersModel" 67 "CoatHangersModel" "hung" "[I" ∈ qT := qT_6 (i := 74) (by decide +kernel) rfl
theorem wf_M_70 : Cond.fieldLink "CoatHangersModel" 70 "CoatHangersModel" "moth" "[I" ∈ qT := qT_6 (i := 75) (by decide +kernel) rfl
theorem wf_M_76 : Cond.fieldLink "CoatHangersModel" 76 "CoatHangersModel" "lawFirst" "[I" ∈ qT := qT_6 (i := 77) (by decide +kernel) rfl
theorem wf_M_79 : Cond.fieldLink "CoatHangersModel" 79 "CoatHangersModel" "lawLast" "[I" ∈ qT := qT_6 (i := 78) (by decide +kernel) rfl
theorem wk_M_187 : Cond.constantLong "CoatHangersModel" 187 (27 : Int64) ∈ qT := qT_6 (i := 36) (by decide +kernel) rfl
theorem wm_M_189 : Cond.methodLink "CoatHangersModel" 189 y_M_appends ∈ qT := qT_6 (i := 33) (by decide +kernel) rfl
theorem wf_M_13 : Cond.fieldLink "CoatHangersModel" 13 "CoatHangersModel" "tape" "[B" ∈ qT := qT_6 (i := 45) (by decide +kernel) rfl
theorem wf_M_178 : Cond.fieldLink "CoatHangersModel" 178 "CoatHangersModel" "taped" "I" ∈ qT := qT_6 (i := 46) (by decide +kernel) rfl
theorem wm_M_181 : Cond.methodLink "CoatHangersModel" 181 y_M_put ∈ qT := qT_7 (i := 22) (by decide +kernel) rfl
theorem wf_M_184 : Cond.fieldLink "CoatHangersModel" 184 "CoatHangersModel" "size" "I" ∈ qT := qT_6 (i := 48) (by decide +kernel) rfl
theorem wf_M_17 : Cond.fieldLink "CoatHangersModel" 17 "CoatHangersModel" "text" "[B" ∈ qT := qT_6 (i := 47) (by decide +kernel) rfl
theorem wf_M_20 : Cond.fieldLink "CoatHangersModel" 20 "CoatHangersModel" "tKind" "[I" ∈ qT := qT_6 (i := 49) (by decide +kernel) rfl
theorem wf_M_193 : Cond.fieldLink "CoatHangersModel" 193 "CoatHangersModel" "tokens" "I" ∈ qT := qT_6 (i := 54) (by decide +kernel) rfl
theorem wf_M_24 : Cond.fieldLink "CoatHangersModel" 24 "CoatHangersModel" "tPlace" "[I" ∈ qT := qT_6 (i := 50) (by decide +kernel) rfl
theorem wf_M_27 : Cond.fieldLink "CoatHangersModel" 27 "CoatHangersModel" "tValue" "[I" ∈ qT := qT_6 (i := 51) (by decide +kernel) rfl
theorem wf_M_30 : Cond.fieldLink "CoatHangersModel" 30 "CoatHangersModel" "tName" "[J" ∈ qT := qT_6 (i := 52) (by decide +kernel) rfl
theorem wm_M_200 : Cond.methodLink "CoatHangersModel" 200 y_M_token ∈ qT := qT_7 (i := 42) (by decide +kernel) rfl
theorem wm_M_196 : Cond.methodLink "CoatHangersModel" 196 y_M_byteAt ∈ qT := qT_7 (i := 38) (by decide +kernel) rfl
theorem wm_M_204 : Cond.methodLink "CoatHangersModel" 204 y_M_isLetter ∈ qT := qT_7 (i := 46) (by decide +kernel) rfl
theorem wm_M_208 : Cond.methodLink "CoatHangersModel" 208 y_M_isDigit ∈ qT := qT_7 (i := 49) (by decide +kernel) rfl
theorem wm_M_211 : Cond.methodLink "CoatHangersModel" 211 y_M_sign ∈ qT := qT_7 (i := 52) (by decide +kernel) rfl
theorem wf_M_34 : Cond.fieldLink "CoatHangersModel" 34 "CoatHangersModel" "keys" "[J" ∈ qT := qT_6 (i := 53) (by decide +kernel) rfl
theorem wf_M_215 : Cond.fieldLink "CoatHangersModel" 215 "CoatHangersModel" "fault" "I" ∈ qT := qT_6 (i := 57) (by decide +kernel) rfl
theorem wf_M_218 : Cond.fieldLink "CoatHangersModel" 218 "CoatHangersModel" "t" "I" ∈ qT := qT_6 (i := 55) (by decide +kernel) rfl
theorem wf_M_221 : Cond.fieldLink "CoatHangersModel" 221 "CoatHangersModel" "faultPlace" "I" ∈ qT := qT_6 (i := 58) (by decide +kernel) rfl
theorem wf_M_224 : Cond.fieldLink "CoatHangersModel" 224 "CoatHangersModel" "worst" "I" ∈ qT := qT_6 (i := 59) (by decide +kernel) rfl
theorem wf_M_227 : Cond.fieldLink "CoatHangersModel" 227 "CoatHangersModel" "worstPlace" "I" ∈ qT := qT_6 (i := 60) (by decide +kernel) rfl
theorem wm_M_230 : Cond.methodLink "CoatHangersModel" 230 y_M_fail ∈ qT := qT_7 (i := 68) (by decide +kernel) rfl
theorem wm_M_233 : Cond.methodLink "CoatHangersModel" 233 y_M_is ∈ qT := qT_7 (i := 56) (by decide +kernel) rfl
theorem wm_M_236 : Cond.methodLink "CoatHangersModel" 236 y_M_goesOn ∈ qT := qT_7 (i := 72) (by decide +kernel) rfl
theorem wm_M_293 : Cond.methodLink "CoatHangersModel" 293 y_M_wrong ∈ qT := qT_7 (i := 84) (by decide +kernel) rfl
theorem wm_M_287 : Cond.methodLink "CoatHangersModel" 287 y_M_must ∈ qT := qT_7 (i := 80) (by decide +kernel) rfl
theorem wf_M_40 : Cond.fieldLink "CoatHangersModel" 40 "CoatHangersModel" "nameOf" "[J" ∈ qT := qT_6 (i := 65) (by decide +kernel) rfl
theorem wf_M_251 : Cond.fieldLink "CoatHangersModel" 251 "CoatHangersModel" "names" "I" ∈ qT := qT_6 (i := 64) (by decide +kernel) rfl
theorem wf_M_43 : Cond.fieldLink "CoatHangersModel" 43 "CoatHangersModel" "nameAt" "[I" ∈ qT := qT_6 (i := 66) (by decide +kernel) rfl
theorem d_M_begins_0 : decode prog_14_method_41_code 0 = .ok (.iconst 0, 1) := by decide +kernel
theorem d_M_begins_1 : decode prog_14_method_41_code 1 = .ok (.istore_n 1, 1) := by decide +kernel
theorem d_M_begins_2 : decode prog_14_method_41_code 2 = .ok (.iload_n 1, 1) := by decide +kernel
theorem d_M_begins_3 : decode prog_14_method_41_code 3 = .ok (.bipush 32, 2) := by decide +kernel
theorem d_M_begins_5 : decode prog_14_method_41_code 5 = .ok (.if_icmp .ge 16, 3) := by decide +kernel
theorem d_M_begins_8 : decode prog_14_method_41_code 8 = .ok (.aload_n 0, 1) := by decide +kernel
theorem d_M_begins_9 : decode prog_14_method_41_code 9 = .ok (.getfield 116, 3) := by decide +kernel
theorem d_M_begins_12 : decode prog_14_method_41_code 12 = .ok (.iload_n 1, 1) := by decide +kernel
theorem d_M_begins_13 : decode prog_14_method_41_code 13 = .ok (.iconst 0, 1) := by decide +kernel
theorem d_M_begins_14 : decode prog_14_method_41_code 14 = .ok (.iastore, 1) := by decide +kernel
theorem d_M_begins_15 : decode prog_14_method_41_code 15 = .ok (.iinc 1 1, 3) := by decide +kernel
theorem d_M_begins_18 : decode prog_14_method_41_code 18 = .ok (.goto (-16), 3) := by decide +kernel
theorem d_M_begins_21 : decode prog_14_method_41_code 21 = .ok (.iconst 0, 1) := by decide +kernel
theorem d_M_begins_22 : decode prog_14_method_41_code 22 = .ok (.istore_n 1, 1) := by decide +kernel
theorem d_M_begins_23 : decode prog_14_method_41_code 23 = .ok (.iload_n 1, 1) := by decide +kernel
theorem d_M_begins_24 : decode prog_14_method_41_code 24 = .ok (.bipush 6, 2) := by decide +kernel
theorem d_M_begins_26 : decode prog_14_method_41_code 26 = .ok (.if_icmp .ge 30, 3) := by decide +kernel
theorem d_M_begins_29 : decode prog_14_method_41_code 29 = .ok (.aload_n 0, 1) := by decide +kernel
theorem d_M_begins_30 : decode prog_14_method_41_code 30 = .ok (.getfield 116, 3) := by decide +kernel
theorem d_M_begins_33 : decode prog_14_method_41_code 33 = .ok (.bipush 6, 2) := by decide +kernel
theorem d_M_begins_35 : decode prog_14_method_41_code 35 = .ok (.iload_n 1, 1) := by decide +kernel
theorem d_M_begins_36 : decode prog_14_method_41_code 36 = .ok (.iadd, 1) := by decide +kernel
theorem d_M_begins_37 : decode prog_14_method_41_code 37 = .ok (.bipush (-2), 2) := by decide +kernel
theorem d_M_begins_39 : decode prog_14_method_41_code 39 = .ok (.iastore, 1) := by decide +kernel
theorem d_M_begins_40 : decode prog_14_method_41_code 40 = .ok (.aload_n 0, 1) := by decide +kernel
theorem d_M_begins_41 : decode prog_14_method_41_code 41 = .ok (.getfield 116, 3) := by decide +kernel
theorem d_M_begins_44 : decode prog_14_method_41_code 44 = .ok (.bipush 12, 2) := by decide +kernel
theorem d_M_begins_46 : decode prog_14_method_41_code 46 = .ok (.iload_n 1, 1) := by decide +kernel
theorem d_M_begins_47 : decode prog_14_method_41_code 47 = .ok (.iadd, 1) := by decide +kernel
theorem d_M_begins_48 : decode prog_14_method_41_code 48 = .ok (.iload_n 1, 1) := by decide +kernel
theorem d_M_begins_49 : decode prog_14_method_41_code 49 = .ok (.iastore, 1) := by decide +kernel
theorem d_M_begins_50 : decode prog_14_method_41_code 50 = .ok (.iinc 1 1, 3) := by decide +kernel
theorem d_M_begins_53 : decode prog_14_method_41_code 53 = .ok (.goto (-30), 3) := by decide +kernel
theorem d_M_begins_56 : decode prog_14_method_41_code 56 = .ok (.iconst 0, 1) := by decide +kernel
theorem d_M_begins_57 : decode prog_14_method_41_code 57 = .ok (.istore_n 1, 1) := by decide +kernel
theorem d_M_begins_58 : decode prog_14_method_41_code 58 = .ok (.iload_n 1, 1) := by decide +kernel
theorem d_M_begins_59 : decode prog_14_method_41_code 59 = .ok (.aload_n 0, 1) := by decide +kernel
theorem d_M_begins_60 : decode prog_14_method_41_code 60 = .ok (.getfield 55, 3) := by decide +kernel
theorem d_M_begins_63 : decode prog_14_method_41_code 63 = .ok (.aload_n 0, 1) := by decide +kernel
theorem d_M_begins_64 : decode prog_14_method_41_code 64 = .ok (.getfield 245, 3) := by decide +kernel
theorem d_M_begins_67 : decode prog_14_method_41_code 67 = .ok (.iaload, 1) := by decide +kernel
theorem d_M_begins_68 : decode prog_14_method_41_code 68 = .ok (.if_icmp .ge 52, 3) := by decide +kernel
theorem d_M_begins_71 : decode prog_14_method_41_code 71 = .ok (.aload_n 0, 1) := by decide +kernel
theorem d_M_begins_72 : decode prog_14_method_41_code 72 = .ok (.getfield 116, 3) := by decide +kernel
theorem d_M_begins_75 : decode prog_14_method_41_code 75 = .ok (.iload_n 1, 1) := by decide +kernel
theorem d_M_begins_76 : decode prog_14_method_41_code 76 = .ok (.aload_n 0, 1) := by decide +kernel
theorem d_M_begins_77 : decode prog_14_method_41_code 77 = .ok (.getfield 58, 3) := by decide +kernel
theorem d_M_begins_80 : decode prog_14_method_41_code 80 = .ok (.bipush 6, 2) := by decide +kernel
theorem d_M_begins_82 : decode prog_14_method_41_code 82 = .ok (.aload_n 0, 1) := by decide +kernel
theorem d_M_begins_83 : decode prog_14_method_41_code 83 = .ok (.getfield 245, 3) := by decide +kernel
theorem d_M_begins_86 : decode prog_14_method_41_code 86 = .ok (.imul, 1) := by decide +kernel
theorem d_M_begins_87 : decode prog_14_method_41_code 87 = .ok (.iload_n 1, 1) := by decide +kernel
theorem d_M_begins_88 : decode prog_14_method_41_code 88 = .ok (.iadd, 1) := by decide +kernel
theorem d_M_begins_89 : decode prog_14_method_41_code 89 = .ok (.iaload, 1) := by decide +kernel
theorem d_M_begins_90 : decode prog_14_method_41_code 90 = .ok (.iastore, 1) := by decide +kernel
theorem d_M_begins_91 : decode prog_14_method_41_code 91 = .ok (.aload_n 0, 1) := by decide +kernel
theorem d_M_begins_92 : decode prog_14_method_41_code 92 = .ok (.getfield 116, 3) := by decide +kernel
theorem d_M_begins_95 : decode prog_14_method_41_code 95 = .ok (.bipush 6, 2) := by decide +kernel
theorem d_M_begins_97 : decode prog_14_method_41_code 97 = .ok (.iload_n 1, 1) := by decide +kernel
theorem d_M_begins_98 : decode prog_14_method_41_code 98 = .ok (.iadd, 1) := by decide +kernel
theorem d_M_begins_99 : decode prog_14_method_41_code 99 = .ok (.aload_n 0, 1) := by decide +kernel
theorem d_M_begins_100 : decode prog_14_method_41_code 100 = .ok (.getfield 64, 3) := by decide +kernel
theorem d_M_begins_103 : decode prog_14_method_41_code 103 = .ok (.bipush 6, 2) := by decide +kernel
theorem d_M_begins_105 : decode prog_14_method_41_code 105 = .ok (.aload_n 0, 1) := by decide +kernel
theorem d_M_begins_106 : decode prog_14_method_41_code 106 = .ok (.getfield 245, 3) := by decide +kernel
theorem d_M_begins_109 : decode prog_14_method_41_code 109 = .ok (.imul, 1) := by decide +kernel
theorem d_M_begins_110 : decode prog_14_method_41_code 110 = .ok (.iload_n 1, 1) := by decide +kernel
theorem d_M_begins_111 : decode prog_14_method_41_code 111 = .ok (.iadd, 1) := by decide +kernel
theorem d_M_begins_112 : decode prog_14_method_41_code 112 = .ok (.iaload, 1) := by decide +kernel
theorem d_M_begins_113 : decode prog_14_method_41_code 113 = .ok (.iastore, 1) := by decide +kernel
theorem d_M_begins_114 : decode prog_14_method_41_code 114 = .ok (.iinc 1 1, 3) := by decide +kernel
theorem d_M_begins_117 : decode prog_14_method_41_code 117 = .ok (.goto (-59), 3) := by decide +kernel
theorem d_M_begins_120 : decode prog_14_method_41_code 120 = .ok (.aload_n 0, 1) := by decide +kernel
theorem d_M_begins_121 : decode prog_14_method_41_code 121 = .ok (.aload_n 0, 1) := by decide +kernel
theorem d_M_begins_122 : decode prog_14_method_41_code 122 = .ok (.getfield 73, 3) := by decide +kernel
theorem d_M_begins_125 : decode prog_14_method_41_code 125 = .ok (.aload_n 0, 1) := by decide +kernel
theorem d_M_begins_126 : decode prog_14_method_41_code 126 = .ok (.getfield 245, 3) := by decide +kernel
theorem d_M_begins_129 : decode prog_14_method_41_code 129 = .ok (.iaload, 1) := by decide +kernel
theorem d_M_begins_130 : decode prog_14_method_41_code 130 = .ok (.putfield 326, 3) := by decide +kernel
theorem d_M_begins_133 : decode prog_14_method_41_code 133 = .ok (.aload_n 0, 1) := by decide +kernel
theorem d_M_begins_134 : decode prog_14_method_41_code 134 = .ok (.iconst 0, 1) := by decide +kernel
theorem d_M_begins_135 : decode prog_14_method_41_code 135 = .ok (.putfield 329, 3) := by decide +kernel
theorem d_M_begins_138 : decode prog_14_method_41_code 138 = .ok (.return_, 1) := by decide +kernel
theorem d_M_keepsRow_0 : decode prog_14_method_42_code 0 = .ok (.iconst 0, 1) := by decide +kernel
theorem d_M_keepsRow_1 : decode prog_14_method_42_code 1 = .ok (.istore_n 1, 1) := by decide +kernel
theorem d_M_keepsRow_2 : decode prog_14_method_42_code 2 = .ok (.iload_n 1, 1) := by decide +kernel
theorem d_M_keepsRow_3 : decode prog_14_method_42_code 3 = .ok (.bipush 32, 2) := by decide +kernel
theorem d_M_keepsRow_5 : decode prog_14_method_42_code 5 = .ok (.if_icmp .ge 21, 3) := by decide +kernel
theorem d_M_keepsRow_8 : decode prog_14_method_42_code 8 = .ok (.aload_n 0, 1) := by decide +kernel
theorem d_M_keepsRow_9 : decode prog_14_method_42_code 9 = .ok (.getfield 113, 3) := by decide +kernel
theorem d_M_keepsRow_12 : decode prog_14_method_42_code 12 = .ok (.iload_n 1, 1) := by decide +kernel
theorem d_M_keepsRow_13 : decode prog_14_method_42_code 13 = .ok (.aload_n 0, 1) := by decide +kernel
theorem d_M_keepsRow_14 : decode prog_14_method_42_code 14 = .ok (.getfield 116, 3) := by decide +kernel
theorem d_M_keepsRow_17 : decode prog_14_method_42_code 17 = .ok (.iload_n 1, 1) := by decide +kernel
theorem d_M_keepsRow_18 : decode prog_14_method_42_code 18 = .ok (.iaload, 1) := by decide +kernel
theorem d_M_keepsRow_19 : decode prog_14_method_42_code 19 = .ok (.iastore, 1) := by decide +kernel
theorem d_M_keepsRow_20 : decode prog_14_method_42_code 20 = .ok (.iinc 1 1, 3) := by decide +kernel
theorem d_M_keepsRow_23 : decode prog_14_method_42_code 23 = .ok (.goto (-21), 3) := by decide +kernel
theorem d_M_keepsRow_26 : decode prog_14_method_42_code 26 = .ok (.return_, 1) := by decide +kernel
theorem d_M_plain_0 : decode prog_14_method_19_code 0 = .ok (.aload_n 0, 1) := by decide +kernel
theorem d_M_plain_1 : decode prog_14_method_19_code 1 = .ok (.getfield 46, 3) := by decide +kernel
theorem d_M_plain_4 : decode prog_14_method_19_code 4 = .ok (.iload_n 1, 1) := by decide +kernel
theorem d_M_plain_5 : decode prog_14_method_19_code 5 = .ok (.iconst 0, 1) := by decide +kernel
theorem d_M_plain_6 : decode prog_14_method_19_code 6 = .ok (.iastore, 1) := by decide +kernel
theorem d_M_plain_7 : decode prog_14_method_19_code 7 = .ok (.aload_n 0, 1) := by decide +kernel
theorem d_M_plain_8 : decode prog_14_method_19_code 8 = .ok (.getfield 55, 3) := by decide +kernel
theorem d_M_plain_11 : decode prog_14_method_19_code 11 = .ok (.iload_n 1, 1) := by decide +kernel
theorem d_M_plain_12 : decode prog_14_method_19_code 12 = .ok (.iconst 0, 1) := by decide +kernel
theorem d_M_plain_13 : decode prog_14_method_19_code 13 = .ok (.iastore, 1) := by decide +kernel
theorem d_M_plain_14 : decode prog_14_method_19_code 14 = .ok (.aload_n 0, 1) := by decide +kernel
theorem d_M_plain_15 : decode prog_14_method_19_code 15 = .ok (.getfield 67, 3) := by decide +kernel
theorem d_M_plain_18 : decode prog_14_method_19_code 18 = .ok (.iload_n 1, 1) := by decide +kernel
theorem d_M_plain_19 : decode prog_14_method_19_code 19 = .ok (.iconst 0, 1) := by decide +kernel
theorem d_M_plain_20 : decode prog_14_method_19_code 20 = .ok (.iastore, 1) := by decide +kernel
theorem d_M_plain_21 : decode prog_14_method_19_code 21 = .ok (.aload_n 0, 1) := by decide +kernel
theorem d_M_plain_22 : decode prog_14_method_19_code 22 = .ok (.getfield 70, 3) := by decide +kernel
theorem d_M_plain_25 : decode prog_14_method_19_code 25 = .ok (.iload_n 1, 1) := by decide +kernel
theorem d_M_plain_26 : decode prog_14_method_19_code 26 = .ok (.iconst 0, 1) := by decide +kernel
theorem d_M_plain_27 : decode prog_14_method_19_code 27 = .ok (.iastore, 1) := by decide +kernel
theorem d_M_plain_28 : decode prog_14_method_19_code 28 = .ok (.aload_n 0, 1) := by decide +kernel
theorem d_M_plain_29 : decode prog_14_method_19_code 29 = .ok (.getfield 73, 3) := by decide +kernel
theorem d_M_plain_32 : decode prog_14_method_19_code 32 = .ok (.iload_n 1, 1) := by decide +kernel
theorem d_M_plain_33 : decode prog_14_method_19_code 33 = .ok (.iconst 0, 1) := by decide +kernel
theorem d_M_plain_34 : decode prog_14_method_19_code 34 = .ok (.iastore, 1) := by decide +kernel
theorem d_M_plain_35 : decode prog_14_method_19_code 35 = .ok (.iconst 0, 1) := by decide +kernel
theorem d_M_plain_36 : decode prog_14_method_19_code 36 = .ok (.istore_n 2, 1) := by decide +kernel
theorem d_M_plain_37 : decode prog_14_method_19_code 37 = .ok (.iload_n 2, 1) := by decide +kernel
theorem d_M_plain_38 : decode prog_14_method_19_code 38 = .ok (.bipush 6, 2) := by decide +kernel
theorem d_M_plain_40 : decode prog_14_method_19_code 40 = .ok (.if_icmp .ge 22, 3) := by decide +kernel
theorem d_M_plain_43 : decode prog_14_method_19_code 43 = .ok (.aload_n 0, 1) := by decide +kernel
theorem d_M_plain_44 : decode prog_14_method_19_code 44 = .ok (.getfield 64, 3) := by decide +kernel
theorem d_M_plain_47 : decode prog_14_method_19_code 47 = .ok (.bipush 6, 2) := by decide +kernel
theorem d_M_plain_49 : decode prog_14_method_19_code 49 = .ok (.iload_n 1, 1) := by decide +kernel
theorem d_M_plain_50 : decode prog_14_method_19_code 50 = .ok (.imul, 1) := by decide +kernel
theorem d_M_plain_51 : decode prog_14_method_19_code 51 = .ok (.iload_n 2, 1) := by decide +kernel
theorem d_M_plain_52 : decode prog_14_method_19_code 52 = .ok (.iadd, 1) := by decide +kernel
theorem d_M_plain_53 : decode prog_14_method_19_code 53 = .ok (.bipush (-2), 2) := by decide +kernel
theorem d_M_plain_55 : decode prog_14_method_19_code 55 = .ok (.iastore, 1) := by decide +kernel
theorem d_M_plain_56 : decode prog_14_method_19_code 56 = .ok (.iinc 2 1, 3) := by decide +kernel
theorem d_M_plain_59 : decode prog_14_method_19_code 59 = .ok (.goto (-22), 3) := by decide +kernel
theorem d_M_plain_62 : decode prog_14_method_19_code 62 = .ok (.iconst 0, 1) := by decide +kernel
theorem d_M_plain_63 : decode prog_14_method_19_code 63 = .ok (.istore_n 2, 1) := by decide +kernel
theorem d_M_plain_64 : decode prog_14_method_19_code 64 = .ok (.iload_n 2, 1) := by decide +kernel
theorem d_M_plain_65 : decode prog_14_method_19_code 65 = .ok (.iconst 4, 1) := by decide +kernel
theorem d_M_plain_66 : decode prog_14_method_19_code 66 = .ok (.if_icmp .ge 31, 3) := by decide +kernel
theorem d_M_plain_69 : decode prog_14_method_19_code 69 = .ok (.aload_n 0, 1) := by decide +kernel
theorem d_M_plain_70 : decode prog_14_method_19_code 70 = .ok (.getfield 76, 3) := by decide +kernel
theorem d_M_plain_73 : decode prog_14_method_19_code 73 = .ok (.iconst 4, 1) := by decide +kernel
theorem d_M_plain_74 : decode prog_14_method_19_code 74 = .ok (.iload_n 1, 1) := by decide +kernel
theorem d_M_plain_75 : decode prog_14_method_19_code 75 = .ok (.imul, 1) := by decide +kernel
theorem d_M_plain_76 : decode prog_14_method_19_code 76 = .ok (.iload_n 2, 1) := by decide +kernel
theorem d_M_plain_77 : decode prog_14_method_19_code 77 = .ok (.iadd, 1) := by decide +kernel
theorem d_M_plain_78 : decode prog_14_method_19_code 78 = .ok (.iconst 0, 1) := by decide +kernel
theorem d_M_plain_79 : decode prog_14_method_19_code 79 = .ok (.iastore, 1) := by decide +kernel
theorem d_M_plain_80 : decode prog_14_method_19_code 80 = .ok (.aload_n 0, 1) := by decide +kernel
theorem d_M_plain_81 : decode prog_14_method_19_code 81 = .ok (.getfield 79, 3) := by decide +kernel
theorem d_M_plain_84 : decode prog_14_method_19_code 84 = .ok (.iconst 4, 1) := by decide +kernel
theorem d_M_plain_85 : decode prog_14_method_19_code 85 = .ok (.iload_n 1, 1) := by decide +kernel
theorem d_M_plain_86 : decode prog_14_method_19_code 86 = .ok (.imul, 1) := by decide +kernel
theorem d_M_plain_87 : decode prog_14_method_19_code 87 = .ok (.iload_n 2, 1) := by decide +kernel
theorem d_M_plain_88 : decode prog_14_method_19_code 88 = .ok (.iadd, 1) := by decide +kernel
theorem d_M_plain_89 : decode prog_14_method_19_code 89 = .ok (.iconst 0, 1) := by decide +kernel
theorem d_M_plain_90 : decode prog_14_method_19_code 90 = .ok (.iastore, 1) := by decide +kernel
theorem d_M_plain_91 : decode prog_14_method_19_code 91 = .ok (.iinc 2 1, 3) := by decide +kernel
theorem d_M_plain_94 : decode prog_14_method_19_code 94 = .ok (.goto (-30), 3) := by decide +kernel
theorem d_M_plain_97 : decode prog_14_method_19_code 97 = .ok (.return_, 1) := by decide +kernel
theorem d_M_appends_0 : decode prog_14_method_9_code 0 = .ok (.iload_n 2, 1) := by decide +kernel
theorem d_M_appends_1 : decode prog_14_method_9_code 1 = .ok (.ifCond .ne 7, 3) := by decide +kernel
theorem d_M_appends_4 : decode prog_14_method_9_code 4 = .ok (.lload_n 0, 1) := by decide +kernel
theorem d_M_appends_5 : decode prog_14_method_9_code 5 = .ok (.goto 16, 3) := by decide +kernel
theorem d_M_appends_8 : decode prog_14_method_9_code 8 = .ok (.ldc2_w 187, 3) := by decide +kernel
theorem d_M_appends_11 : decode prog_14_method_9_code 11 = .ok (.lload_n 0, 1) := by decide +kernel
theorem d_M_appends_12 : decode prog_14_method_9_code 12 = .ok (.lmul, 1) := by decide +kernel
theorem d_M_appends_13 : decode prog_14_method_9_code 13 = .ok (.iload_n 2, 1) := by decide +kernel
theorem d_M_appends_14 : decode prog_14_method_9_code 14 = .ok (.bipush 97, 2) := by decide +kernel
theorem d_M_appends_16 : decode prog_14_method_9_code 16 = .ok (.isub, 1) := by decide +kernel
theorem d_M_appends_17 : decode prog_14_method_9_code 17 = .ok (.iconst 1, 1) := by decide +kernel
theorem d_M_appends_18 : decode prog_14_method_9_code 18 = .ok (.iadd, 1) := by decide +kernel
theorem d_M_appends_19 : decode prog_14_method_9_code 19 = .ok (.i2l, 1) := by decide +kernel
theorem d_M_appends_20 : decode prog_14_method_9_code 20 = .ok (.ladd, 1) := by decide +kernel
theorem d_M_appends_21 : decode prog_14_method_9_code 21 = .ok (.lreturn, 1) := by decide +kernel
theorem d_M_word_0 : decode prog_14_method_10_code 0 = .ok (.lconst 0, 1) := by decide +kernel
theorem d_M_word_1 : decode prog_14_method_10_code 1 = .ok (.iload_n 0, 1) := by decide +kernel
theorem d_M_word_2 : decode prog_14_method_10_code 2 = .ok (.invokestatic 189, 3) := by decide +kernel
theorem d_M_word_5 : decode prog_14_method_10_code 5 = .ok (.iload_n 1, 1) := by decide +kernel
theorem d_M_word_6 : decode prog_14_method_10_code 6 = .ok (.invokestatic 189, 3) := by decide +kernel
theorem d_M_word_9 : decode prog_14_method_10_code 9 = .ok (.iload_n 2, 1) := by decide +kernel
theorem d_M_word_10 : decode prog_14_method_10_code 10 = .ok (.invokestatic 189, 3) := by decide +kernel
theorem d_M_word_13 : decode prog_14_method_10_code 13 = .ok (.iload_n 3, 1) := by decide +kernel
theorem d_M_word_14 : decode prog_14_method_10_code 14 = .ok (.invokestatic 189, 3) := by decide +kernel
theorem d_M_word_17 : decode prog_14_method_10_code 17 = .ok (.iload 4, 2) := by decide +kernel
theorem d_M_word_19 : decode prog_14_method_10_code 19 = .ok (.invokestatic 189, 3) := by decide +kernel
theorem d_M_word_22 : decode prog_14_method_10_code 22 = .ok (.iload 5, 2) := by decide +kernel
theorem d_M_word_24 : decode prog_14_method_10_code 24 = .ok (.invokestatic 189, 3) := by decide +kernel
theorem d_M_word_27 : decode prog_14_method_10_code 27 = .ok (.iload 6, 2) := by decide +kernel
theorem d_M_word_29 : decode prog_14_method_10_code 29 = .ok (.invokestatic 189, 3) := by decide +kernel
theorem d_M_word_32 : decode prog_14_method_10_code 32 = .ok (.lreturn, 1) := by decide +kernel
theorem d_M_put_0 : decode prog_14_method_4_code 0 = .ok (.bipush 24, 2) := by decide +kernel
theorem d_M_put_2 : decode prog_14_method_4_code 2 = .ok (.istore_n 2, 1) := by decide +kernel
theorem d_M_put_3 : decode prog_14_method_4_code 3 = .ok (.iload_n 2, 1) := by decide +kernel
theorem d_M_put_4 : decode prog_14_method_4_code 4 = .ok (.ifCond .lt 32, 3) := by decide +kernel
theorem d_M_put_7 : decode prog_14_method_4_code 7 = .ok (.aload_n 0, 1) := by decide +kernel
theorem d_M_put_8 : decode prog_14_method_4_code 8 = .ok (.getfield 13, 3) := by decide +kernel
theorem d_M_put_11 : decode prog_14_method_4_code 11 = .ok (.aload_n 0, 1) := by decide +kernel
theorem d_M_put_12 : decode prog_14_method_4_code 12 = .ok (.getfield 178, 3) := by decide +kernel
theorem d_M_put_15 : decode prog_14_method_4_code 15 = .ok (.iload_n 1, 1) := by decide +kernel
theorem d_M_put_16 : decode prog_14_method_4_code 16 = .ok (.iload_n 2, 1) := by decide +kernel
theorem d_M_put_17 : decode prog_14_method_4_code 17 = .ok (.ishr, 1) := by decide +kernel
theorem d_M_put_18 : decode prog_14_method_4_code 18 = .ok (.i2b, 1) := by decide +kernel
theorem d_M_put_19 : decode prog_14_method_4_code 19 = .ok (.bastore, 1) := by decide +kernel
theorem d_M_put_20 : decode prog_14_method_4_code 20 = .ok (.aload_n 0, 1) := by decide +kernel
theorem d_M_put_21 : decode prog_14_method_4_code 21 = .ok (.dup, 1) := by decide +kernel
theorem d_M_put_22 : decode prog_14_method_4_code 22 = .ok (.getfield 178, 3) := by decide +kernel
theorem d_M_put_25 : decode prog_14_method_4_code 25 = .ok (.iconst 1, 1) := by decide +kernel
theorem d_M_put_26 : decode prog_14_method_4_code 26 = .ok (.iadd, 1) := by decide +kernel
theorem d_M_put_27 : decode prog_14_method_4_code 27 = .ok (.putfield 178, 3) := by decide +kernel
theorem d_M_put_30 : decode prog_14_method_4_code 30 = .ok (.iinc 2 (-8), 3) := by decide +kernel
theorem d_M_put_33 : decode prog_14_method_4_code 33 = .ok (.goto (-30), 3) := by decide +kernel
theorem d_M_put_36 : decode prog_14_method_4_code 36 = .ok (.return_, 1) := by decide +kernel
theorem d_M_feed_0 : decode prog_14_method_3_code 0 = .ok (.aload_n 0, 1) := by decide +kernel
theorem d_M_feed_1 : decode prog_14_method_3_code 1 = .ok (.getfield 178, 3) := by decide +kernel
theorem d_M_feed_4 : decode prog_14_method_3_code 4 = .ok (.bipush 20, 2) := by decide +kernel
theorem d_M_feed_6 : decode prog_14_method_3_code 6 = .ok (.iadd, 1) := by decide +kernel
theorem d_M_feed_7 : decode prog_14_method_3_code 7 = .ok (.sipush 2000, 3) := by decide +kernel
theorem d_M_feed_10 : decode prog_14_method_3_code 10 = .ok (.if_icmp .le 5, 3) := by decide +kernel
theorem d_M_feed_13 : decode prog_14_method_3_code 13 = .ok (.iconst (-1), 1) := by decide +kernel
theorem d_M_feed_14 : decode prog_14_method_3_code 14 = .ok (.ireturn, 1) := by decide +kernel
theorem d_M_feed_15 : decode prog_14_method_3_code 15 = .ok (.aload_n 0, 1) := by decide +kernel
theorem d_M_feed_16 : decode prog_14_method_3_code 16 = .ok (.iload_n 1, 1) := by decide +kernel
theorem d_M_feed_17 : decode prog_14_method_3_code 17 = .ok (.invokevirtual 181, 3) := by decide +kernel
theorem d_M_feed_20 : decode prog_14_method_3_code 20 = .ok (.aload_n 0, 1) := by decide +kernel
theorem d_M_feed_21 : decode prog_14_method_3_code 21 = .ok (.iload_n 2, 1) := by decide +kernel
theorem d_M_feed_22 : decode prog_14_method_3_code 22 = .ok (.invokevirtual 181, 3) := by decide +kernel
theorem d_M_feed_25 : decode prog_14_method_3_code 25 = .ok (.aload_n 0, 1) := by decide +kernel
theorem d_M_feed_26 : decode prog_14_method_3_code 26 = .ok (.iload_n 3, 1) := by decide +kernel
theorem d_M_feed_27 : decode prog_14_method_3_code 27 = .ok (.invokevirtual 181, 3) := by decide +kernel
theorem d_M_feed_30 : decode prog_14_method_3_code 30 = .ok (.aload_n 0, 1) := by decide +kernel
theorem d_M_feed_31 : decode prog_14_method_3_code 31 = .ok (.iload 4, 2) := by decide +kernel
theorem d_M_feed_33 : decode prog_14_method_3_code 33 = .ok (.invokevirtual 181, 3) := by decide +kernel
theorem d_M_feed_36 : decode prog_14_method_3_code 36 = .ok (.aload_n 0, 1) := by decide +kernel
theorem d_M_feed_37 : decode prog_14_method_3_code 37 = .ok (.iload 5, 2) := by decide +kernel
theorem d_M_feed_39 : decode prog_14_method_3_code 39 = .ok (.invokevirtual 181, 3) := by decide +kernel
theorem d_M_feed_42 : decode prog_14_method_3_code 42 = .ok (.aload_n 0, 1) := by decide +kernel
theorem d_M_feed_43 : decode prog_14_method_3_code 43 = .ok (.getfield 178, 3) := by decide +kernel
theorem d_M_feed_46 : decode prog_14_method_3_code 46 = .ok (.ireturn, 1) := by decide +kernel
theorem d_M_back_0 : decode prog_14_method_5_code 0 = .ok (.iload_n 1, 1) := by decide +kernel
theorem d_M_back_1 : decode prog_14_method_5_code 1 = .ok (.ifCond .lt 11, 3) := by decide +kernel
theorem d_M_back_4 : decode prog_14_method_5_code 4 = .ok (.iload_n 1, 1) := by decide +kernel
theorem d_M_back_5 : decode prog_14_method_5_code 5 = .ok (.aload_n 0, 1) := by decide +kernel
theorem d_M_back_6 : decode prog_14_method_5_code 6 = .ok (.getfield 178, 3) := by decide +kernel
theorem d_M_back_9 : decode prog_14_method_5_code 9 = .ok (.if_icmp .le 5, 3) := by decide +kernel
theorem d_M_back_12 : decode prog_14_method_5_code 12 = .ok (.iconst (-1), 1) := by decide +kernel
theorem d_M_back_13 : decode prog_14_method_5_code 13 = .ok (.ireturn, 1) := by decide +kernel
theorem d_M_back_14 : decode prog_14_method_5_code 14 = .ok (.aload_n 0, 1) := by decide +kernel
theorem d_M_back_15 : decode prog_14_method_5_code 15 = .ok (.dup, 1) := by decide +kernel
theorem d_M_back_16 : decode prog_14_method_5_code 16 = .ok (.getfield 178, 3) := by decide +kernel
theorem d_M_back_19 : decode prog_14_method_5_code 19 = .ok (.iload_n 1, 1) := by decide +kernel
theorem d_M_back_20 : decode prog_14_method_5_code 20 = .ok (.isub, 1) := by decide +kernel
theorem d_M_back_21 : decode prog_14_method_5_code 21 = .ok (.putfield 178, 3) := by decide +kernel
theorem d_M_back_24 : decode prog_14_method_5_code 24 = .ok (.aload_n 0, 1) := by decide +kernel
theorem d_M_back_25 : decode prog_14_method_5_code 25 = .ok (.getfield 178, 3) := by decide +kernel
theorem d_M_back_28 : decode prog_14_method_5_code 28 = .ok (.ireturn, 1) := by decide +kernel
theorem d_M_byteAt_0 : decode prog_14_method_6_code 0 = .ok (.iload_n 1, 1) := by decide +kernel
theorem d_M_byteAt_1 : decode prog_14_method_6_code 1 = .ok (.aload_n 0, 1) := by decide +kernel
theorem d_M_byteAt_2 : decode prog_14_method_6_code 2 = .ok (.getfield 184, 3) := by decide +kernel
theorem d_M_byteAt_5 : decode prog_14_method_6_code 5 = .ok (.if_icmp .ge 16, 3) := by decide +kernel
theorem d_M_byteAt_8 : decode prog_14_method_6_code 8 = .ok (.aload_n 0, 1) := by decide +kernel
theorem d_M_byteAt_9 : decode prog_14_method_6_code 9 = .ok (.getfield 17, 3) := by decide +kernel
theorem d_M_byteAt_12 : decode prog_14_method_6_code 12 = .ok (.iload_n 1, 1) := by decide +kernel
theorem d_M_byteAt_13 : decode prog_14_method_6_code 13 = .ok (.baload, 1) := by decide +kernel
theorem d_M_byteAt_14 : decode prog_14_method_6_code 14 = .ok (.sipush 255, 3) := by decide +kernel
theorem d_M_byteAt_17 : decode prog_14_method_6_code 17 = .ok (.iand, 1) := by decide +kernel
theorem d_M_byteAt_18 : decode prog_14_method_6_code 18 = .ok (.goto 4, 3) := by decide +kernel
theorem d_M_byteAt_21 : decode prog_14_method_6_code 21 = .ok (.iconst 0, 1) := by decide +kernel
theorem d_M_byteAt_22 : decode prog_14_method_6_code 22 = .ok (.ireturn, 1) := by decide +kernel
theorem d_M_isDigit_0 : decode prog_14_method_7_code 0 = .ok (.iload_n 0, 1) := by decide +kernel
theorem d_M_isDigit_1 : decode prog_14_method_7_code 1 = .ok (.bipush 48, 2) := by decide +kernel
theorem d_M_isDigit_3 : decode prog_14_method_7_code 3 = .ok (.if_icmp .lt 13, 3) := by decide +kernel
theorem d_M_isDigit_6 : decode prog_14_method_7_code 6 = .ok (.iload_n 0, 1) := by decide +kernel
theorem d_M_isDigit_7 : decode prog_14_method_7_code 7 = .ok (.bipush 57, 2) := by decide +kernel
theorem d_M_isDigit_9 : decode prog_14_method_7_code 9 = .ok (.if_icmp .gt 7, 3) := by decide +kernel
theorem d_M_isDigit_12 : decode prog_14_method_7_code 12 = .ok (.iconst 1, 1) := by decide +kernel
theorem d_M_isDigit_13 : decode prog_14_method_7_code 13 = .ok (.goto 4, 3) := by decide +kernel
theorem d_M_isDigit_16 : decode prog_14_method_7_code 16 = .ok (.iconst 0, 1) := by decide +kernel
theorem d_M_isDigit_17 : decode prog_14_method_7_code 17 = .ok (.ireturn, 1) := by decide +kernel
theorem d_M_isLetter_0 : decode prog_14_method_8_code 0 = .ok (.iload_n 0, 1) := by decide +kernel
theorem d_M_isLetter_1 : decode prog_14_method_8_code 1 = .ok (.bipush 97, 2) := by decide +kernel
theorem d_M_isLetter_3 : decode prog_14_method_8_code 3 = .ok (.if_icmp .lt 13, 3) := by decide +kernel
theorem d_M_isLetter_6 : decode prog_14_method_8_code 6 = .ok (.iload_n 0, 1) := by decide +kernel
theorem d_M_isLetter_7 : decode prog_14_method_8_code 7 = .ok (.bipush 122, 2) := by decide +kernel
theorem d_M_isLetter_9 : decode prog_14_method_8_code 9 = .ok (.if_icmp .gt 7, 3) := by decide +kernel
theorem d_M_isLetter_12 : decode prog_14_method_8_code 12 = .ok (.iconst 1, 1) := by decide +kernel
theorem d_M_isLetter_13 : decode prog_14_method_8_code 13 = .ok (.goto 4, 3) := by decide +kernel
theorem d_M_isLetter_16 : decode prog_14_method_8_code 16 = .ok (.iconst 0, 1) := by decide +kernel
theorem d_M_isLetter_17 : decode prog_14_method_8_code 17 = .ok (.ireturn, 1) := by decide +kernel
theorem d_M_token_0 : decode prog_14_method_11_code 0 = .ok (.aload_n 0, 1) := by decide +kernel
theorem d_M_token_1 : decode prog_14_method_11_code 1 = .ok (.getfield 20, 3) := by decide +kernel
theorem d_M_token_4 : decode prog_14_method_11_code 4 = .ok (.aload_n 0, 1) := by decide +kernel
theorem d_M_token_5 : decode prog_14_method_11_code 5 = .ok (.getfield 193, 3) := by decide +kernel
theorem d_M_token_8 : decode prog_14_method_11_code 8 = .ok (.iload_n 1, 1) := by decide +kernel
theorem d_M_token_9 : decode prog_14_method_11_code 9 = .ok (.iastore, 1) := by decide +kernel
theorem d_M_token_10 : decode prog_14_method_11_code 10 = .ok (.aload_n 0, 1) := by decide +kernel
theorem d_M_token_11 : decode prog_14_method_11_code 11 = .ok (.getfield 24, 3) := by decide +kernel
theorem d_M_token_14 : decode prog_14_method_11_code 14 = .ok (.aload_n 0, 1) := by decide +kernel
theorem d_M_token_15 : decode prog_14_method_11_code 15 = .ok (.getfield 193, 3) := by decide +kernel
theorem d_M_token_18 : decode prog_14_method_11_code 18 = .ok (.iload_n 2, 1) := by decide +kernel
theorem d_M_token_19 : decode prog_14_method_11_code 19 = .ok (.iastore, 1) := by decide +kernel
theorem d_M_token_20 : decode prog_14_method_11_code 20 = .ok (.aload_n 0, 1) := by decide +kernel
theorem d_M_token_21 : decode prog_14_method_11_code 21 = .ok (.getfield 27, 3) := by decide +kernel
theorem d_M_token_24 : decode prog_14_method_11_code 24 = .ok (.aload_n 0, 1) := by decide +kernel
theorem d_M_token_25 : decode prog_14_method_11_code 25 = .ok (.getfield 193, 3) := by decide +kernel
theorem d_M_token_28 : decode prog_14_method_11_code 28 = .ok (.iload_n 3, 1) := by decide +kernel
theorem d_M_token_29 : decode prog_14_method_11_code 29 = .ok (.iastore, 1) := by decide +kernel
theorem d_M_token_30 : decode prog_14_method_11_code 30 = .ok (.aload_n 0, 1) := by decide +kernel
theorem d_M_token_31 : decode prog_14_method_11_code 31 = .ok (.getfield 30, 3) := by decide +kernel
theorem d_M_token_34 : decode prog_14_method_11_code 34 = .ok (.aload_n 0, 1) := by decide +kernel
theorem d_M_token_35 : decode prog_14_method_11_code 35 = .ok (.getfield 193, 3) := by decide +kernel
theorem d_M_token_38 : decode prog_14_method_11_code 38 = .ok (.lload 4, 2) := by decide +kernel
theorem d_M_token_40 : decode prog_14_method_11_code 40 = .ok (.lastore, 1) := by decide +kernel
theorem d_M_token_41 : decode prog_14_method_11_code 41 = .ok (.aload_n 0, 1) := by decide +kernel
theorem d_M_token_42 : decode prog_14_method_11_code 42 = .ok (.dup, 1) := by decide +kernel
theorem d_M_token_43 : decode prog_14_method_11_code 43 = .ok (.getfield 193, 3) := by decide +kernel
theorem d_M_token_46 : decode prog_14_method_11_code 46 = .ok (.iconst 1, 1) := by decide +kernel
theorem d_M_token_47 : decode prog_14_method_11_code 47 = .ok (.iadd, 1) := by decide +kernel
theorem d_M_token_48 : decode prog_14_method_11_code 48 = .ok (.putfield 193, 3) := by decide +kernel
theorem d_M_token_51 : decode prog_14_method_11_code 51 = .ok (.return_, 1) := by decide +kernel
theorem d_M_sign_0 : decode prog_14_method_13_code 0 = .ok (.iload_n 2, 1) := by decide +kernel
theorem d_M_sign_1 : decode prog_14_method_13_code 1 = .ok (.bipush 59, 2) := by decide +kernel
theorem d_M_sign_3 : decode prog_14_method_13_code 3 = .ok (.if_icmp .ne 7, 3) := by decide +kernel
theorem d_M_sign_6 : decode prog_14_method_13_code 6 = .ok (.iconst 4, 1) := by decide +kernel
theorem d_M_sign_7 : decode prog_14_method_13_code 7 = .ok (.goto 36, 3) := by decide +kernel
theorem d_M_sign_10 : decode prog_14_method_13_code 10 = .ok (.iload_n 2, 1) := by decide +kernel
theorem d_M_sign_11 : decode prog_14_method_13_code 11 = .ok (.bipush 61, 2) := by decide +kernel
theorem d_M_sign_13 : decode prog_14_method_13_code 13 = .ok (.if_icmp .ne 7, 3) := by decide +kernel
theorem d_M_sign_16 : decode prog_14_method_13_code 16 = .ok (.iconst 5, 1) := by decide +kernel
theorem d_M_sign_17 : decode prog_14_method_13_code 17 = .ok (.goto 26, 3) := by decide +kernel
theorem d_M_sign_20 : decode prog_14_method_13_code 20 = .ok (.iload_n 2, 1) := by decide +kernel
theorem d_M_sign_21 : decode prog_14_method_13_code 21 = .ok (.bipush 40, 2) := by decide +kernel
theorem d_M_sign_23 : decode prog_14_method_13_code 23 = .ok (.if_icmp .ne 8, 3) := by decide +kernel
theorem d_M_sign_26 : decode prog_14_method_13_code 26 = .ok (.bipush 6, 2) := by decide +kernel
theorem d_M_sign_28 : decode prog_14_method_13_code 28 = .ok (.goto 15, 3) := by decide +kernel
theorem d_M_sign_31 : decode prog_14_method_13_code 31 = .ok (.iload_n 2, 1) := by decide +kernel
theorem d_M_sign_32 : decode prog_14_method_13_code 32 = .ok (.bipush 41, 2) := by decide +kernel
theorem d_M_sign_34 : decode prog_14_method_13_code 34 = .ok (.if_icmp .ne 8, 3) := by decide +kernel
theorem d_M_sign_37 : decode prog_14_method_13_code 37 = .ok (.bipush 7, 2) := by decide +kernel
theorem d_M_sign_39 : decode prog_14_method_13_code 39 = .ok (.goto 4, 3) := by decide +kernel
theorem d_M_sign_42 : decode prog_14_method_13_code 42 = .ok (.iconst 3, 1) := by decide +kernel
theorem d_M_sign_43 : decode prog_14_method_13_code 43 = .ok (.istore 4, 2) := by decide +kernel
theorem d_M_sign_45 : decode prog_14_method_13_code 45 = .ok (.iload_n 2, 1) := by decide +kernel
theorem d_M_sign_46 : decode prog_14_method_13_code 46 = .ok (.bipush 43, 2) := by decide +kernel
theorem d_M_sign_48 : decode prog_14_method_13_code 48 = .ok (.if_icmp .ne 7, 3) := by decide +kernel
theorem d_M_sign_51 : decode prog_14_method_13_code 51 = .ok (.bipush 8, 2) := by decide +kernel
theorem d_M_sign_53 : decode prog_14_method_13_code 53 = .ok (.istore 4, 2) := by decide +kernel
theorem d_M_sign_55 : decode prog_14_method_13_code 55 = .ok (.iload_n 2, 1) := by decide +kernel
theorem d_M_sign_56 : decode prog_14_method_13_code 56 = .ok (.bipush 45, 2) := by decide +kernel
theorem d_M_sign_58 : decode prog_14_method_13_code 58 = .ok (.if_icmp .ne 7, 3) := by decide +kernel
theorem d_M_sign_61 : decode prog_14_method_13_code 61 = .ok (.bipush 9, 2) := by decide +kernel
theorem d_M_sign_63 : decode prog_14_method_13_code 63 = .ok (.istore 4, 2) := by decide +kernel
theorem d_M_sign_65 : decode prog_14_method_13_code 65 = .ok (.iload_n 2, 1) := by decide +kernel
theorem d_M_sign_66 : decode prog_14_method_13_code 66 = .ok (.bipush 42, 2) := by decide +kernel
theorem d_M_sign_68 : decode prog_14_method_13_code 68 = .ok (.if_icmp .ne 7, 3) := by decide +kernel
theorem d_M_sign_71 : decode prog_14_method_13_code 71 = .ok (.bipush 10, 2) := by decide +kernel
theorem d_M_sign_73 : decode prog_14_method_13_code 73 = .ok (.istore 4, 2) := by decide +kernel
theorem d_M_sign_75 : decode prog_14_method_13_code 75 = .ok (.iload_n 2, 1) := by decide +kernel
theorem d_M_sign_76 : decode prog_14_method_13_code 76 = .ok (.bipush 47, 2) := by decide +kernel
theorem d_M_sign_78 : decode prog_14_method_13_code 78 = .ok (.if_icmp .ne 7, 3) := by decide +kernel
theorem d_M_sign_81 : decode prog_14_method_13_code 81 = .ok (.bipush 15, 2) := by decide +kernel
theorem d_M_sign_83 : decode prog_14_method_13_code 83 = .ok (.istore 4, 2) := by decide +kernel
theorem d_M_sign_85 : decode prog_14_method_13_code 85 = .ok (.iload_n 2, 1) := by decide +kernel
theorem d_M_sign_86 : decode prog_14_method_13_code 86 = .ok (.bipush 60, 2) := by decide +kernel
theorem d_M_sign_88 : decode prog_14_method_13_code 88 = .ok (.if_icmp .ne 7, 3) := by decide +kernel
theorem d_M_sign_91 : decode prog_14_method_13_code 91 = .ok (.bipush 13, 2) := by decide +kernel
theorem d_M_sign_93 : decode prog_14_method_13_code 93 = .ok (.istore 4, 2) := by decide +kernel
theorem d_M_sign_95 : decode prog_14_method_13_code 95 = .ok (.aload_n 0, 1) := by decide +kernel
theorem d_M_sign_96 : decode prog_14_method_13_code 96 = .ok (.iload 4, 2) := by decide +kernel
theorem d_M_sign_98 : decode prog_14_method_13_code 98 = .ok (.iload_n 1, 1) := by decide +kernel
theorem d_M_sign_99 : decode prog_14_method_13_code 99 = .ok (.iconst 0, 1) := by decide +kernel
theorem d_M_sign_100 : decode prog_14_method_13_code 100 = .ok (.lconst 0, 1) := by decide +kernel
theorem d_M_sign_101 : decode prog_14_method_13_code 101 = .ok (.invokevirtual 200, 3) := by decide +kernel
theorem d_M_sign_104 : decode prog_14_method_13_code 104 = .ok (.iconst 1, 1) := by decide +kernel
theorem d_M_sign_105 : decode prog_14_method_13_code 105 = .ok (.ireturn, 1) := by decide +kernel
theorem d_M_cut_0 : decode prog_14_method_12_code 0 = .ok (.aload_n 0, 1) := by decide +kernel
theorem d_M_cut_1 : decode prog_14_method_12_code 1 = .ok (.iconst 0, 1) := by decide +kernel
theorem d_M_cut_2 : decode prog_14_method_12_code 2 = .ok (.putfield 193, 3) := by decide +kernel
theorem d_M_cut_5 : decode prog_14_method_12_code 5 = .ok (.iconst 0, 1) := by decide +kernel
theorem d_M_cut_6 : decode prog_14_method_12_code 6 = .ok (.istore_n 1, 1) := by decide +kernel
theorem d_M_cut_7 : decode prog_14_method_12_code 7 = .ok (.aload_n 0, 1) := by decide +kernel
theorem d_M_cut_8 : decode prog_14_method_12_code 8 = .ok (.getfield 193, 3) := by decide +kernel
theorem d_M_cut_11 : decode prog_14_method_12_code 11 = .ok (.sipush 400, 3) := by decide +kernel
theorem d_M_cut_14 : decode prog_14_method_12_code 14 = .ok (.if_icmp .gt 280, 3) := by decide +kernel
theorem d_M_cut_17 : decode prog_14_method_12_code 17 = .ok (.aload_n 0, 1) := by decide +kernel
theorem d_M_cut_18 : decode prog_14_method_12_code 18 = .ok (.iload_n 1, 1) := by decide +kernel
theorem d_M_cut_19 : decode prog_14_method_12_code 19 = .ok (.invokevirtual 196, 3) := by decide +kernel
theorem d_M_cut_22 : decode prog_14_method_12_code 22 = .ok (.istore_n 2, 1) := by decide +kernel
theorem d_M_cut_23 : decode prog_14_method_12_code 23 = .ok (.iload_n 1, 1) := by decide +kernel
theorem d_M_cut_24 : decode prog_14_method_12_code 24 = .ok (.aload_n 0, 1) := by decide +kernel
theorem d_M_cut_25 : decode prog_14_method_12_code 25 = .ok (.getfield 184, 3) := by decide +kernel
theorem d_M_cut_28 : decode prog_14_method_12_code 28 = .ok (.if_icmp .lt 15, 3) := by decide +kernel
theorem d_M_cut_31 : decode prog_14_method_12_code 31 = .ok (.aload_n 0, 1) := by decide +kernel
theorem d_M_cut_32 : decode prog_14_method_12_code 32 = .ok (.iconst 0, 1) := by decide +kernel
theorem d_M_cut_33 : decode prog_14_method_12_code 33 = .ok (.aload_n 0, 1) := by decide +kernel
theorem d_M_cut_34 : decode prog_14_method_12_code 34 = .ok (.getfield 184, 3) := by decide +kernel
theorem d_M_cut_37 : decode prog_14_method_12_code 37 = .ok (.iconst 0, 1) := by decide +kernel
theorem d_M_cut_38 : decode prog_14_method_12_code 38 = .ok (.lconst 0, 1) := by decide +kernel
theorem d_M_cut_39 : decode prog_14_method_12_code 39 = .ok (.invokevirtual 200, 3) := by decide +kernel
theorem d_M_cut_42 : decode prog_14_method_12_code 42 = .ok (.return_, 1) := by decide +kernel
theorem d_M_cut_43 : decode prog_14_method_12_code 43 = .ok (.iload_n 2, 1) := by decide +kernel
theorem d_M_cut_44 : decode prog_14_method_12_code 44 = .ok (.bipush 9, 2) := by decide +kernel
theorem d_M_cut_46 : decode prog_14_method_12_code 46 = .ok (.if_icmp .eq 21, 3) := by decide +kernel
theorem d_M_cut_49 : decode prog_14_method_12_code 49 = .ok (.iload_n 2, 1) := by decide +kernel
theorem d_M_cut_50 : decode prog_14_method_12_code 50 = .ok (.bipush 10, 2) := by decide +kernel
theorem d_M_cut_52 : decode prog_14_method_12_code 52 = .ok (.if_icmp .eq 15, 3) := by decide +kernel
theorem d_M_cut_55 : decode prog_14_method_12_code 55 = .ok (.iload_n 2, 1) := by decide +kernel
theorem d_M_cut_56 : decode prog_14_method_12_code 56 = .ok (.bipush 13, 2) := by decide +kernel
theorem d_M_cut_58 : decode prog_14_method_12_code 58 = .ok (.if_icmp .eq 9, 3) := by decide +kernel
theorem d_M_cut_61 : decode prog_14_method_12_code 61 = .ok (.iload_n 2, 1) := by decide +kernel
theorem d_M_cut_62 : decode prog_14_method_12_code 62 = .ok (.bipush 32, 2) := by decide +kernel
theorem d_M_cut_64 : decode prog_14_method_12_code 64 = .ok (.if_icmp .ne 9, 3) := by decide +kernel
theorem d_M_cut_67 : decode prog_14_method_12_code 67 = .ok (.iinc 1 1, 3) := by decide +kernel
theorem d_M_cut_70 : decode prog_14_method_12_code 70 = .ok (.goto 221, 3) := by decide +kernel
theorem d_M_cut_73 : decode prog_14_method_12_code 73 = .ok (.iload_n 2, 1) := by decide +kernel
theorem d_M_cut_74 : decode prog_14_method_12_code 74 = .ok (.invokestatic 204, 3) := by decide +kernel
theorem d_M_cut_77 : decode prog_14_method_12_code 77 = .ok (.ifCond .eq 119, 3) := by decide +kernel
theorem d_M_cut_80 : decode prog_14_method_12_code 80 = .ok (.iconst 0, 1) := by decide +kernel
theorem d_M_cut_81 : decode prog_14_method_12_code 81 = .ok (.istore_n 3, 1) := by decide +kernel
theorem d_M_cut_82 : decode prog_14_method_12_code 82 = .ok (.lconst 0, 1) := by decide +kernel
theorem d_M_cut_83 : decode prog_14_method_12_code 83 = .ok (.lstore 4, 2) := by decide +kernel
theorem d_M_cut_85 : decode prog_14_method_12_code 85 = .ok (.aload_n 0, 1) := by decide +kernel
theorem d_M_cut_86 : decode prog_14_method_12_code 86 = .ok (.iload_n 1, 1) := by decide +kernel
theorem d_M_cut_87 : decode prog_14_method_12_code 87 = .ok (.iload_n 3, 1) := by decide +kernel
theorem d_M_cut_88 : decode prog_14_method_12_code 88 = .ok (.iadd, 1) := by decide +kernel
theorem d_M_cut_89 : decode prog_14_method_12_code 89 = .ok (.invokevirtual 196, 3) := by decide +kernel
theorem d_M_cut_92 : decode prog_14_method_12_code 92 = .ok (.invokestatic 204, 3) := by decide +kernel
theorem d_M_cut_95 : decode prog_14_method_12_code 95 = .ok (.ifCond .eq 29, 3) := by decide +kernel
theorem d_M_cut_98 : decode prog_14_method_12_code 98 = .ok (.iload_n 3, 1) := by decide +kernel
theorem d_M_cut_99 : decode prog_14_method_12_code 99 = .ok (.bipush 8, 2) := by decide +kernel
theorem d_M_cut_101 : decode prog_14_method_12_code 101 = .ok (.if_icmp .ge 17, 3) := by decide +kernel
theorem d_M_cut_104 : decode prog_14_method_12_code 104 = .ok (.lload 4, 2) := by decide +kernel
theorem d_M_cut_106 : decode prog_14_method_12_code 106 = .ok (.aload_n 0, 1) := by decide +kernel
theorem d_M_cut_107 : decode prog_14_method_12_code 107 = .ok (.iload_n 1, 1) := by decide +kernel
theorem d_M_cut_108 : decode prog_14_method_12_code 108 = .ok (.iload_n 3, 1) := by decide +kernel
theorem d_M_cut_109 : decode prog_14_method_12_code 109 = .ok (.iadd, 1) := by decide +kernel
theorem d_M_cut_110 : decode prog_14_method_12_code 110 = .ok (.invokevirtual 196, 3) := by decide +kernel
theorem d_M_cut_113 : decode prog_14_method_12_code 113 = .ok (.invokestatic 189, 3) := by decide +kernel
theorem d_M_cut_116 : decode prog_14_method_12_code 116 = .ok (.lstore 4, 2) := by decide +kernel
theorem d_M_cut_118 : decode prog_14_method_12_code 118 = .ok (.iinc 3 1, 3) := by decide +kernel
theorem d_M_cut_121 : decode prog_14_method_12_code 121 = .ok (.goto (-36), 3) := by decide +kernel
theorem d_M_cut_124 : decode prog_14_method_12_code 124 = .ok (.iload_n 3, 1) := by decide +kernel
theorem d_M_cut_125 : decode prog_14_method_12_code 125 = .ok (.bipush 8, 2) := by decide +kernel
theorem d_M_cut_127 : decode prog_14_method_12_code 127 = .ok (.if_icmp .le 7, 3) := by decide +kernel
theorem d_M_cut_130 : decode prog_14_method_12_code 130 = .ok (.iconst 3, 1) := by decide +kernel
theorem d_M_cut_131 : decode prog_14_method_12_code 131 = .ok (.goto 4, 3) := by decide +kernel
theorem d_M_cut_134 : decode prog_14_method_12_code 134 = .ok (.iconst 1, 1) := by decide +kernel
theorem d_M_cut_135 : decode prog_14_method_12_code 135 = .ok (.istore 6, 2) := by decide +kernel
theorem d_M_cut_137 : decode prog_14_method_12_code 137 = .ok (.iload_n 3, 1) := by decide +kernel
theorem d_M_cut_138 : decode prog_14_method_12_code 138 = .ok (.bipush 8, 2) := by decide +kernel
theorem d_M_cut_140 : decode prog_14_method_12_code 140 = .ok (.if_icmp .gt 39, 3) := by decide +kernel
theorem d_M_cut_143 : decode prog_14_method_12_code 143 = .ok (.iconst 0, 1) := by decide +kernel
theorem d_M_cut_144 : decode prog_14_method_12_code 144 = .ok (.istore 7, 2) := by decide +kernel
theorem d_M_cut_146 : decode prog_14_method_12_code 146 = .ok (.iload 7, 2) := by decide +kernel
theorem d_M_cut_148 : decode prog_14_method_12_code 148 = .ok (.bipush 21, 2) := by decide +kernel
theorem d_M_cut_150 : decode prog_14_method_12_code 150 = .ok (.if_icmp .ge 29, 3) := by decide +kernel
theorem d_M_cut_153 : decode prog_14_method_12_code 153 = .ok (.aload_n 0, 1) := by decide +kernel
theorem d_M_cut_154 : decode prog_14_method_12_code 154 = .ok (.getfield 34, 3) := by decide +kernel
theorem d_M_cut_157 : decode prog_14_method_12_code 157 = .ok (.iload 7, 2) := by decide +kernel
theorem d_M_cut_159 : decode prog_14_method_12_code 159 = .ok (.laload, 1) := by decide +kernel
theorem d_M_cut_160 : decode prog_14_method_12_code 160 = .ok (.lload 4, 2) := by decide +kernel
theorem d_M_cut_162 : decode prog_14_method_12_code 162 = .ok (.lcmp, 1) := by decide +kernel
theorem d_M_cut_163 : decode prog_14_method_12_code 163 = .ok (.ifCond .ne 10, 3) := by decide +kernel
theorem d_M_cut_166 : decode prog_14_method_12_code 166 = .ok (.bipush 20, 2) := by decide +kernel
theorem d_M_cut_168 : decode prog_14_method_12_code 168 = .ok (.iload 7, 2) := by decide +kernel
theorem d_M_cut_170 : decode prog_14_method_12_code 170 = .ok (.iadd, 1) := by decide +kernel
theorem d_M_cut_171 : decode prog_14_method_12_code 171 = .ok (.istore 6, 2) := by decide +kernel
theorem d_M_cut_173 : decode prog_14_method_12_code 173 = .ok (.iinc 7 1, 3) := by decide +kernel
theorem d_M_cut_176 : decode prog_14_method_12_code 176 = .ok (.goto (-30), 3) := by decide +kernel
theorem d_M_cut_179 : decode prog_14_method_12_code 179 = .ok (.aload_n 0, 1) := by decide +kernel
theorem d_M_cut_180 : decode prog_14_method_12_code 180 = .ok (.iload 6, 2) := by decide +kernel
theorem d_M_cut_182 : decode prog_14_method_12_code 182 = .ok (.iload_n 1, 1) := by decide +kernel
theorem d_M_cut_183 : decode prog_14_method_12_code 183 = .ok (.iconst 0, 1) := by decide +kernel
theorem d_M_cut_184 : decode prog_14_method_12_code 184 = .ok (.lload 4, 2) := by decide +kernel
theorem d_M_cut_186 : decode prog_14_method_12_code 186 = .ok (.invokevirtual 200, 3) := by decide +kernel
theorem d_M_cut_189 : decode prog_14_method_12_code 189 = .ok (.iload_n 1, 1) := by decide +kernel
theorem d_M_cut_190 : decode prog_14_method_12_code 190 = .ok (.iload_n 3, 1) := by decide +kernel
theorem d_M_cut_191 : decode prog_14_method_12_code 191 = .ok (.iadd, 1) := by decide +kernel
theorem d_M_cut_192 : decode prog_14_method_12_code 192 = .ok (.istore_n 1, 1) := by decide +kernel
theorem d_M_cut_193 : decode prog_14_method_12_code 193 = .ok (.goto 98, 3) := by decide +kernel
theorem d_M_cut_196 : decode prog_14_method_12_code 196 = .ok (.iload_n 2, 1) := by decide +kernel
theorem d_M_cut_197 : decode prog_14_method_12_code 197 = .ok (.invokestatic 208, 3) := by decide +kernel
theorem d_M_cut_200 : decode prog_14_method_12_code 200 = .ok (.ifCond .eq 75, 3) := by decide +kernel
theorem d_M_cut_203 : decode prog_14_method_12_code 203 = .ok (.iconst 0, 1) := by decide +kernel
theorem d_M_cut_204 : decode prog_14_method_12_code 204 = .ok (.istore_n 3, 1) := by decide +kernel
theorem d_M_cut_205 : decode prog_14_method_12_code 205 = .ok (.iconst 0, 1) := by decide +kernel
theorem d_M_cut_206 : decode prog_14_method_12_code 206 = .ok (.istore 4, 2) := by decide +kernel
theorem d_M_cut_208 : decode prog_14_method_12_code 208 = .ok (.aload_n 0, 1) := by decide +kernel
theorem d_M_cut_209 : decode prog_14_method_12_code 209 = .ok (.iload_n 1, 1) := by decide +kernel
theorem d_M_cut_210 : decode prog_14_method_12_code 210 = .ok (.iload_n 3, 1) := by decide +kernel
theorem d_M_cut_211 : decode prog_14_method_12_code 211 = .ok (.iadd, 1) := by decide +kernel
theorem d_M_cut_212 : decode prog_14_method_12_code 212 = .ok (.invokevirtual 196, 3) := by decide +kernel
theorem d_M_cut_215 : decode prog_14_method_12_code 215 = .ok (.invokestatic 208, 3) := by decide +kernel
theorem d_M_cut_218 : decode prog_14_method_12_code 218 = .ok (.ifCond .eq 32, 3) := by decide +kernel
theorem d_M_cut_221 : decode prog_14_method_12_code 221 = .ok (.iload_n 3, 1) := by decide +kernel
theorem d_M_cut_222 : decode prog_14_method_12_code 222 = .ok (.iconst 4, 1) := by decide +kernel
theorem d_M_cut_223 : decode prog_14_method_12_code 223 = .ok (.if_icmp .ge 21, 3) := by decide +kernel
theorem d_M_cut_226 : decode prog_14_method_12_code 226 = .ok (.bipush 10, 2) := by decide +kernel
theorem d_M_cut_228 : decode prog_14_method_12_code 228 = .ok (.iload 4, 2) := by decide +kernel
theorem d_M_cut_230 : decode prog_14_method_12_code 230 = .ok (.imul, 1) := by decide +kernel
theorem d_M_cut_231 : decode prog_14_method_12_code 231 = .ok (.aload_n 0, 1) := by decide +kernel
theorem d_M_cut_232 : decode prog_14_method_12_code 232 = .ok (.iload_n 1, 1) := by decide +kernel
theorem d_M_cut_233 : decode prog_14_method_12_code 233 = .ok (.iload_n 3, 1) := by decide +kernel
theorem d_M_cut_234 : decode prog_14_method_12_code 234 = .ok (.iadd, 1) := by decide +kernel
theorem d_M_cut_235 : decode prog_14_method_12_code 235 = .ok (.invokevirtual 196, 3) := by decide +kernel
theorem d_M_cut_238 : decode prog_14_method_12_code 238 = .ok (.iadd, 1) := by decide +kernel
theorem d_M_cut_239 : decode prog_14_method_12_code 239 = .ok (.bipush 48, 2) := by decide +kernel
theorem d_M_cut_241 : decode prog_14_method_12_code 241 = .ok (.isub, 1) := by decide +kernel
theorem d_M_cut_242 : decode prog_14_method_12_code 242 = .ok (.istore 4, 2) := by decide +kernel
theorem d_M_cut_244 : decode prog_14_method_12_code 244 = .ok (.iinc 3 1, 3) := by decide +kernel
theorem d_M_cut_247 : decode prog_14_method_12_code 247 = .ok (.goto (-39), 3) := by decide +kernel
theorem d_M_cut_250 : decode prog_14_method_12_code 250 = .ok (.aload_n 0, 1) := by decide +kernel
theorem d_M_cut_251 : decode prog_14_method_12_code 251 = .ok (.iload_n 3, 1) := by decide +kernel
theorem d_M_cut_252 : decode prog_14_method_12_code 252 = .ok (.iconst 4, 1) := by decide +kernel
theorem d_M_cut_253 : decode prog_14_method_12_code 253 = .ok (.if_icmp .le 7, 3) := by decide +kernel
theorem d_M_cut_256 : decode prog_14_method_12_code 256 = .ok (.iconst 3, 1) := by decide +kernel
theorem d_M_cut_257 : decode prog_14_method_12_code 257 = .ok (.goto 4, 3) := by decide +kernel
theorem d_M_cut_260 : decode prog_14_method_12_code 260 = .ok (.iconst 2, 1) := by decide +kernel
theorem d_M_cut_261 : decode prog_14_method_12_code 261 = .ok (.iload_n 1, 1) := by decide +kernel
theorem d_M_cut_262 : decode prog_14_method_12_code 262 = .ok (.iload 4, 2) := by decide +kernel
theorem d_M_cut_264 : decode prog_14_method_12_code 264 = .ok (.lconst 0, 1) := by decide +kernel
theorem d_M_cut_265 : decode prog_14_method_12_code 265 = .ok (.invokevirtual 200, 3) := by decide +kernel
theorem d_M_cut_268 : decode prog_14_method_12_code 268 = .ok (.iload_n 1, 1) := by decide +kernel
theorem d_M_cut_269 : decode prog_14_method_12_code 269 = .ok (.iload_n 3, 1) := by decide +kernel
theorem d_M_cut_270 : decode prog_14_method_12_code 270 = .ok (.iadd, 1) := by decide +kernel
theorem d_M_cut_271 : decode prog_14_method_12_code 271 = .ok (.istore_n 1, 1) := by decide +kernel
theorem d_M_cut_272 : decode prog_14_method_12_code 272 = .ok (.goto 19, 3) := by decide +kernel
theorem d_M_cut_275 : decode prog_14_method_12_code 275 = .ok (.iload_n 1, 1) := by decide +kernel
theorem d_M_cut_276 : decode prog_14_method_12_code 276 = .ok (.aload_n 0, 1) := by decide +kernel
theorem d_M_cut_277 : decode prog_14_method_12_code 277 = .ok (.iload_n 1, 1) := by decide +kernel
theorem d_M_cut_278 : decode prog_14_method_12_code 278 = .ok (.iload_n 2, 1) := by decide +kernel
theorem d_M_cut_279 : decode prog_14_method_12_code 279 = .ok (.aload_n 0, 1) := by decide +kernel
theorem d_M_cut_280 : decode prog_14_method_12_code 280 = .ok (.iload_n 1, 1) := by decide +kernel
theorem d_M_cut_281 : decode prog_14_method_12_code 281 = .ok (.iconst 1, 1) := by decide +kernel
theorem d_M_cut_282 : decode prog_14_method_12_code 282 = .ok (.iadd, 1) := by decide +kernel
theorem d_M_cut_283 : decode prog_14_method_12_code 283 = .ok (.invokevirtual 196, 3) := by decide +kernel
theorem d_M_cut_286 : decode prog_14_method_12_code 286 = .ok (.invokevirtual 211, 3) := by decide +kernel
theorem d_M_cut_289 : decode prog_14_method_12_code 289 = .ok (.iadd, 1) := by decide +kernel
theorem d_M_cut_290 : decode prog_14_method_12_code 290 = .ok (.istore_n 1, 1) := by decide +kernel
theorem d_M_cut_291 : decode prog_14_method_12_code 291 = .ok (.goto (-284), 3) := by decide +kernel
theorem d_M_cut_294 : decode prog_14_method_12_code 294 = .ok (.return_, 1) := by decide +kernel
theorem d_M_is_0 : decode prog_14_method_14_code 0 = .ok (.aload_n 0, 1) := by decide +kernel
theorem d_M_is_1 : decode prog_14_method_14_code 1 = .ok (.getfield 215, 3) := by decide +kernel
theorem d_M_is_4 : decode prog_14_method_14_code 4 = .ok (.ifCond .ne 20, 3) := by decide +kernel
theorem d_M_is_7 : decode prog_14_method_14_code 7 = .ok (.aload_n 0, 1) := by decide +kernel
theorem d_M_is_8 : decode prog_14_method_14_code 8 = .ok (.getfield 20, 3) := by decide +kernel
theorem d_M_is_11 : decode prog_14_method_14_code 11 = .ok (.aload_n 0, 1) := by decide +kernel
theorem d_M_is_12 : decode prog_14_method_14_code 12 = .ok (.getfield 218, 3) := by decide +kernel
theorem d_M_is_15 : decode prog_14_method_14_code 15 = .ok (.iaload, 1) := by decide +kernel
theorem d_M_is_16 : decode prog_14_method_14_code 16 = .ok (.iload_n 1, 1) := by decide +kernel
theorem d_M_is_17 : decode prog_14_method_14_code 17 = .ok (.if_icmp .ne 7, 3) := by decide +kernel
theorem d_M_is_20 : decode prog_14_method_14_code 20 = .ok (.iconst 1, 1) := by decide +kernel
theorem d_M_is_21 : decode prog_14_method_14_code 21 = .ok (.goto 4, 3) := by decide +kernel
theorem d_M_is_24 : decode prog_14_method_14_code 24 = .ok (.iconst 0, 1) := by decide +kernel
theorem d_M_is_25 : decode prog_14_method_14_code 25 = .ok (.ireturn, 1) := by decide +kernel
theorem d_M_fail_0 : decode prog_14_method_15_code 0 = .ok (.aload_n 0, 1) := by decide +kernel
theorem d_M_fail_1 : decode prog_14_method_15_code 1 = .ok (.getfield 215, 3) := by decide +kernel
theorem d_M_fail_4 : decode prog_14_method_15_code 4 = .ok (.ifCond .le 4, 3) := by decide +kernel
theorem d_M_fail_7 : decode prog_14_method_15_code 7 = .ok (.return_, 1) := by decide +kernel
theorem d_M_fail_8 : decode prog_14_method_15_code 8 = .ok (.aload_n 0, 1) := by decide +kernel
theorem d_M_fail_9 : decode prog_14_method_15_code 9 = .ok (.iload_n 1, 1) := by decide +kernel
theorem d_M_fail_10 : decode prog_14_method_15_code 10 = .ok (.putfield 215, 3) := by decide +kernel
theorem d_M_fail_13 : decode prog_14_method_15_code 13 = .ok (.aload_n 0, 1) := by decide +kernel
theorem d_M_fail_14 : decode prog_14_method_15_code 14 = .ok (.aload_n 0, 1) := by decide +kernel
theorem d_M_fail_15 : decode prog_14_method_15_code 15 = .ok (.getfield 24, 3) := by decide +kernel
theorem d_M_fail_18 : decode prog_14_method_15_code 18 = .ok (.aload_n 0, 1) := by decide +kernel
theorem d_M_fail_19 : decode prog_14_method_15_code 19 = .ok (.getfield 218, 3) := by decide +kernel
theorem d_M_fail_22 : decode prog_14_method_15_code 22 = .ok (.iaload, 1) := by decide +kernel
theorem d_M_fail_23 : decode prog_14_method_15_code 23 = .ok (.putfield 221, 3) := by decide +kernel
theorem d_M_fail_26 : decode prog_14_method_15_code 26 = .ok (.return_, 1) := by decide +kernel
theorem d_M_wrong_0 : decode prog_14_method_16_code 0 = .ok (.aload_n 0, 1) := by decide +kernel
theorem d_M_wrong_1 : decode prog_14_method_16_code 1 = .ok (.getfield 24, 3) := by decide +kernel
theorem d_M_wrong_4 : decode prog_14_method_16_code 4 = .ok (.iload_n 2, 1) := by decide +kernel
theorem d_M_wrong_5 : decode prog_14_method_16_code 5 = .ok (.iaload, 1) := by decide +kernel
theorem d_M_wrong_6 : decode prog_14_method_16_code 6 = .ok (.istore_n 3, 1) := by decide +kernel
theorem d_M_wrong_7 : decode prog_14_method_16_code 7 = .ok (.aload_n 0, 1) := by decide +kernel
theorem d_M_wrong_8 : decode prog_14_method_16_code 8 = .ok (.getfield 215, 3) := by decide +kernel
theorem d_M_wrong_11 : decode prog_14_method_16_code 11 = .ok (.ifCond .gt 34, 3) := by decide +kernel
theorem d_M_wrong_14 : decode prog_14_method_16_code 14 = .ok (.aload_n 0, 1) := by decide +kernel
theorem d_M_wrong_15 : decode prog_14_method_16_code 15 = .ok (.getfield 224, 3) := by decide +kernel
theorem d_M_wrong_18 : decode prog_14_method_16_code 18 = .ok (.ifCond .eq 28, 3) := by decide +kernel
theorem d_M_wrong_21 : decode prog_14_method_16_code 21 = .ok (.iload_n 3, 1) := by decide +kernel
theorem d_M_wrong_22 : decode prog_14_method_16_code 22 = .ok (.aload_n 0, 1) := by decide +kernel
theorem d_M_wrong_23 : decode prog_14_method_16_code 23 = .ok (.getfield 227, 3) := by decide +kernel
theorem d_M_wrong_26 : decode prog_14_method_16_code 26 = .ok (.if_icmp .gt 19, 3) := by decide +kernel
theorem d_M_wrong_29 : decode prog_14_method_16_code 29 = .ok (.iload_n 3, 1) := by decide +kernel
theorem d_M_wrong_30 : decode prog_14_method_16_code 30 = .ok (.aload_n 0, 1) := by decide +kernel
theorem d_M_wrong_31 : decode prog_14_method_16_code 31 = .ok (.getfield 227, 3) := by decide +kernel
theorem d_M_wrong_34 : decode prog_14_method_16_code 34 = .ok (.if_icmp .ne 12, 3) := by decide +kernel
theorem d_M_wrong_37 : decode prog_14_method_16_code 37 = .ok (.iload_n 1, 1) := by decide +kernel
theorem d_M_wrong_38 : decode prog_14_method_16_code 38 = .ok (.aload_n 0, 1) := by decide +kernel
theorem d_M_wrong_39 : decode prog_14_method_16_code 39 = .ok (.getfield 224, 3) := by decide +kernel
theorem d_M_wrong_42 : decode prog_14_method_16_code 42 = .ok (.if_icmp .lt 4, 3) := by decide +kernel
theorem d_M_wrong_45 : decode prog_14_method_16_code 45 = .ok (.return_, 1) := by decide +kernel
theorem d_M_wrong_46 : decode prog_14_method_16_code 46 = .ok (.aload_n 0, 1) := by decide +kernel
theorem d_M_wrong_47 : decode prog_14_method_16_code 47 = .ok (.iload_n 1, 1) := by decide +kernel
theorem d_M_wrong_48 : decode prog_14_method_16_code 48 = .ok (.putfield 224, 3) := by decide +kernel
theorem d_M_wrong_51 : decode prog_14_method_16_code 51 = .ok (.aload_n 0, 1) := by decide +kernel
theorem d_M_wrong_52 : decode prog_14_method_16_code 52 = .ok (.iload_n 3, 1) := by decide +kernel
theorem d_M_wrong_53 : decode prog_14_method_16_code 53 = .ok (.putfield 227, 3) := by decide +kernel
theorem d_M_wrong_56 : decode prog_14_method_16_code 56 = .ok (.return_, 1) := by decide +kernel
theorem d_M_goesOn_0 : decode prog_14_method_17_code 0 = .ok (.aload_n 0, 1) := by decide +kernel
theorem d_M_goesOn_1 : decode prog_14_method_17_code 1 = .ok (.getfield 218, 3) := by decide +kernel
theorem d_M_goesOn_4 : decode prog_14_method_17_code 4 = .ok (.sipush 400, 3) := by decide +kernel
theorem d_M_goesOn_7 : decode prog_14_method_17_code 7 = .ok (.if_icmp .ne 11, 3) := by decide +kernel
theorem d_M_goesOn_10 : decode prog_14_method_17_code 10 = .ok (.aload_n 0, 1) := by decide +kernel
theorem d_M_goesOn_11 : decode prog_14_method_17_code 11 = .ok (.iconst 2, 1) := by decide +kernel
theorem d_M_goesOn_12 : decode prog_14_method_17_code 12 = .ok (.invokevirtual 230, 3) := by decide +kernel
theorem d_M_goesOn_15 : decode prog_14_method_17_code 15 = .ok (.goto 13, 3) := by decide +kernel
theorem d_M_goesOn_18 : decode prog_14_method_17_code 18 = .ok (.aload_n 0, 1) := by decide +kernel
theorem d_M_goesOn_19 : decode prog_14_method_17_code 19 = .ok (.dup, 1) := by decide +kernel
theorem d_M_goesOn_20 : decode prog_14_method_17_code 20 = .ok (.getfield 218, 3) := by decide +kernel
theorem d_M_goesOn_23 : decode prog_14_method_17_code 23 = .ok (.iconst 1, 1) := by decide +kernel
theorem d_M_goesOn_24 : decode prog_14_method_17_code 24 = .ok (.iadd, 1) := by decide +kernel
theorem d_M_goesOn_25 : decode prog_14_method_17_code 25 = .ok (.putfield 218, 3) := by decide +kernel
theorem d_M_goesOn_28 : decode prog_14_method_17_code 28 = .ok (.return_, 1) := by decide +kernel
theorem d_M_must_0 : decode prog_14_method_18_code 0 = .ok (.aload_n 0, 1) := by decide +kernel
theorem d_M_must_1 : decode prog_14_method_18_code 1 = .ok (.iload_n 1, 1) := by decide +kernel
theorem d_M_must_2 : decode prog_14_method_18_code 2 = .ok (.invokevirtual 233, 3) := by decide +kernel
theorem d_M_must_5 : decode prog_14_method_18_code 5 = .ok (.ifCond .eq 10, 3) := by decide +kernel
theorem d_M_must_8 : decode prog_14_method_18_code 8 = .ok (.aload_n 0, 1) := by decide +kernel
theorem d_M_must_9 : decode prog_14_method_18_code 9 = .ok (.invokevirtual 236, 3) := by decide +kernel
theorem d_M_must_12 : decode prog_14_method_18_code 12 = .ok (.goto 8, 3) := by decide +kernel
theorem d_M_must_15 : decode prog_14_method_18_code 15 = .ok (.aload_n 0, 1) := by decide +kernel
theorem d_M_must_16 : decode prog_14_method_18_code 16 = .ok (.iconst 1, 1) := by decide +kernel
theorem d_M_must_17 : decode prog_14_method_18_code 17 = .ok (.invokevirtual 230, 3) := by decide +kernel
theorem d_M_must_20 : decode prog_14_method_18_code 20 = .ok (.return_, 1) := by decide +kernel
theorem d_M_bounded_0 : decode prog_14_method_27_code 0 = .ok (.aload_n 0, 1) := by decide +kernel
theorem d_M_bounded_1 : decode prog_14_method_27_code 1 = .ok (.getfield 215, 3) := by decide +kernel
theorem d_M_bounded_4 : decode prog_14_method_27_code 4 = .ok (.ifCond .gt 11, 3) := by decide +kernel
theorem d_M_bounded_7 : decode prog_14_method_27_code 7 = .ok (.aload_n 0, 1) := by decide +kernel
theorem d_M_bounded_8 : decode prog_14_method_27_code 8 = .ok (.iconst 2, 1) := by decide +kernel
theorem d_M_bounded_9 : decode prog_14_method_27_code 9 = .ok (.invokevirtual 233, 3) := by decide +kernel
theorem d_M_bounded_12 : decode prog_14_method_27_code 12 = .ok (.ifCond .ne 10, 3) := by decide +kernel
theorem d_M_bounded_15 : decode prog_14_method_27_code 15 = .ok (.aload_n 0, 1) := by decide +kernel
theorem d_M_bounded_16 : decode prog_14_method_27_code 16 = .ok (.iconst 1, 1) := by decide +kernel
theorem d_M_bounded_17 : decode prog_14_method_27_code 17 = .ok (.invokevirtual 230, 3) := by decide +kernel
theorem d_M_bounded_20 : decode prog_14_method_27_code 20 = .ok (.iload_n 1, 1) := by decide +kernel
theorem d_M_bounded_21 : decode prog_14_method_27_code 21 = .ok (.ireturn, 1) := by decide +kernel
theorem d_M_bounded_22 : decode prog_14_method_27_code 22 = .ok (.aload_n 0, 1) := by decide +kernel
theorem d_M_bounded_23 : decode prog_14_method_27_code 23 = .ok (.getfield 27, 3) := by decide +kernel
theorem d_M_bounded_26 : decode prog_14_method_27_code 26 = .ok (.aload_n 0, 1) := by decide +kernel
theorem d_M_bounded_27 : decode prog_14_method_27_code 27 = .ok (.getfield 218, 3) := by decide +kernel
theorem d_M_bounded_30 : decode prog_14_method_27_code 30 = .ok (.iaload, 1) := by decide +kernel
theorem d_M_bounded_31 : decode prog_14_method_27_code 31 = .ok (.istore_n 3, 1) := by decide +kernel
theorem d_M_bounded_32 : decode prog_14_method_27_code 32 = .ok (.iload_n 3, 1) := by decide +kernel
theorem d_M_bounded_33 : decode prog_14_method_27_code 33 = .ok (.iload_n 1, 1) := by decide +kernel
theorem d_M_bounded_34 : decode prog_14_method_27_code 34 = .ok (.if_icmp .lt 8, 3) := by decide +kernel
theorem d_M_bounded_37 : decode prog_14_method_27_code 37 = .ok (.iload_n 3, 1) := by decide +kernel
theorem d_M_bounded_38 : decode prog_14_method_27_code 38 = .ok (.iload_n 2, 1) := by decide +kernel
theorem d_M_bounded_39 : decode prog_14_method_27_code 39 = .ok (.if_icmp .le 12, 3) := by decide +kernel
theorem d_M_bounded_42 : decode prog_14_method_27_code 42 = .ok (.aload_n 0, 1) := by decide +kernel
theorem d_M_bounded_43 : decode prog_14_method_27_code 43 = .ok (.iconst 5, 1) := by decide +kernel
theorem d_M_bounded_44 : decode prog_14_method_27_code 44 = .ok (.aload_n 0, 1) := by decide +kernel
theorem d_M_bounded_45 : decode prog_14_method_27_code 45 = .ok (.getfield 218, 3) := by decide +kernel
theorem d_M_bounded_48 : decode prog_14_method_27_code 48 = .ok (.invokevirtual 293, 3) := by decide +kernel
theorem d_M_bounded_51 : decode prog_14_method_27_code 51 = .ok (.aload_n 0, 1) := by decide +kernel
theorem d_M_bounded_52 : decode prog_14_method_27_code 52 = .ok (.invokevirtual 236, 3) := by decide +kernel
theorem d_M_bounded_55 : decode prog_14_method_27_code 55 = .ok (.iload_n 3, 1) := by decide +kernel
theorem d_M_bounded_56 : decode prog_14_method_27_code 56 = .ok (.ireturn, 1) := by decide +kernel
theorem d_M_endsName_0 : decode prog_14_method_25_code 0 = .ok (.aload_n 0, 1) := by decide +kernel
theorem d_M_endsName_1 : decode prog_14_method_25_code 1 = .ok (.iconst 4, 1) := by decide +kernel
theorem d_M_endsName_2 : decode prog_14_method_25_code 2 = .ok (.invokevirtual 287, 3) := by decide +kernel
theorem d_M_endsName_5 : decode prog_14_method_25_code 5 = .ok (.aload_n 0, 1) := by decide +kernel
theorem d_M_endsName_6 : decode prog_14_method_25_code 6 = .ok (.getfield 215, 3) := by decide +kernel
theorem d_M_endsName_9 : decode prog_14_method_25_code 9 = .ok (.ifCond .le 4, 3) := by decide +kernel
theorem d_M_endsName_12 : decode prog_14_method_25_code 12 = .ok (.return_, 1) := by decide +kernel
theorem d_M_endsName_13 : decode prog_14_method_25_code 13 = .ok (.aload_n 0, 1) := by decide +kernel
theorem d_M_endsName_14 : decode prog_14_method_25_code 14 = .ok (.getfield 40, 3) := by decide +kernel
theorem d_M_endsName_17 : decode prog_14_method_25_code 17 = .ok (.aload_n 0, 1) := by decide +kernel
theorem d_M_endsName_18 : decode prog_14_method_25_code 18 = .ok (.getfield 251, 3) := by decide +kernel
theorem d_M_endsName_21 : decode prog_14_method_25_code 21 = .ok (.aload_n 0, 1) := by decide +kernel
theorem d_M_endsName_22 : decode prog_14_method_25_code 22 = .ok (.getfield 30, 3) := by decide +kernel
theorem d_M_endsName_25 : decode prog_14_method_25_code 25 = .ok (.iload_n 1, 1) := by decide +kernel
theorem d_M_endsName_26 : decode prog_14_method_25_code 26 = .ok (.laload, 1) := by decide +kernel
theorem d_M_endsName_27 : decode prog_14_method_25_code 27 = .ok (.lastore, 1) := by decide +kernel
theorem d_M_endsName_28 : decode prog_14_method_25_code 28 = .ok (.aload_n 0, 1) := by decide +kernel
theorem d_M_endsName_29 : decode prog_14_method_25_code 29 = .ok (.getfield 43, 3) := by decide +kernel
theorem d_M_endsName_32 : decode prog_14_method_25_code 32 = .ok (.aload_n 0, 1) := by decide +kernel
theorem d_M_endsName_33 : decode prog_14_method_25_code 33 = .ok (.getfield 251, 3) := by decide +kernel
theorem d_M_endsName_36 : decode prog_14_method_25_code 36 = .ok (.iload_n 2, 1) := by decide +kernel
theorem d_M_endsName_37 : decode prog_14_method_25_code 37 = .ok (.iastore, 1) := by decide +kernel
theorem d_M_endsName_38 : decode prog_14_method_25_code 38 = .ok (.aload_n 0, 1) := by decide +kernel
theorem d_M_endsName_39 : decode prog_14_method_25_code 39 = .ok (.dup, 1) := by decide +kernel
theorem d_M_endsName_40 : decode prog_14_method_25_code 40 = .ok (.getfield 251, 3) := by decide +kernel
theorem d_M_endsName_43 : decode prog_14_method_25_code 43 = .ok (.iconst 1, 1) := by decide +kernel
theorem d_M_endsName_44 : decode prog_14_method_25_code 44 = .ok (.iadd, 1) := by decide +kernel
theorem d_M_endsName_45 : decode prog_14_method_25_code 45 = .ok (.putfield 251, 3) := by decide +kernel
theorem d_M_endsName_48 : decode prog_14_method_25_code 48 = .ok (.return_, 1) := by decide +kernel
theorem d_M_named_0 : decode prog_14_method_24_code 0 = .ok (.aload_n 0, 1) := by decide +kernel
theorem d_M_named_1 : decode prog_14_method_24_code 1 = .ok (.getfield 218, 3) := by decide +kernel
theorem d_M_named_4 : decode prog_14_method_24_code 4 = .ok (.istore_n 1, 1) := by decide +kernel
theorem d_M_named_5 : decode prog_14_method_24_code 5 = .ok (.aload_n 0, 1) := by decide +kernel
theorem d_M_named_6 : decode prog_14_method_24_code 6 = .ok (.iconst 1, 1) := by decide +kernel
theorem d_M_named_7 : decode prog_14_method_24_code 7 = .ok (.invokevirtual 287, 3) := by decide +kernel
theorem d_M_named_10 : decode prog_14_method_24_code 10 = .ok (.iconst 0, 1) := by decide +kernel
theorem d_M_named_11 : decode prog_14_method_24_code 11 = .ok (.istore_n 2, 1) := by decide +kernel
theorem d_M_named_12 : decode prog_14_method_24_code 12 = .ok (.iload_n 2, 1) := by decide +kernel
theorem d_M_named_13 : decode prog_14_method_24_code 13 = .ok (.aload_n 0, 1) := by decide +kernel
theorem d_M_named_14 : decode prog_14_method_24_code 14 = .ok (.getfield 251, 3) := by decide +kernel
theorem d_M_named_17 : decode prog_14_method_24_code 17 = .ok (.if_icmp .ge 38, 3) := by decide +kernel
theorem d_M_named_20 : decode prog_14_method_24_code 20 = .ok (.aload_n 0, 1) := by decide +kernel
theorem d_M_named_21 : decode prog_14_method_24_code 21 = .ok (.getfield 215, 3) := by decide +kernel
theorem d_M_named_24 : decode prog_14_method_24_code 24 = .ok (.ifCond .ne 31, 3) := by decide +kernel
theorem d_M_named_27 : decode prog_14_method_24_code 27 = .ok (.aload_n 0, 1) := by decide +kernel
theorem d_M_named_28 : decode prog_14_method_24_code 28 = .ok (.getfield 40, 3) := by decide +kernel
theorem d_M_named_31 : decode prog_14_method_24_code 31 = .ok (.iload_n 2, 1) := by decide +kernel
theorem d_M_named_32 : decode prog_14_method_24_code 32 = .ok (.laload, 1) := by decide +kernel
theorem d_M_named_33 : decode prog_14_method_24_code 33 = .ok (.aload_n 0, 1) := by decide +kernel
theorem d_M_named_34 : decode prog_14_method_24_code 34 = .ok (.getfield 30, 3) := by decide +kernel
theorem d_M_named_37 : decode prog_14_method_24_code 37 = .ok (.iload_n 1, 1) := by decide +kernel
theorem d_M_named_38 : decode prog_14_method_24_code 38 = .ok (.laload, 1) := by decide +kernel
theorem d_M_named_39 : decode prog_14_method_24_code 39 = .ok (.lcmp, 1) := by decide +kernel
theorem d_M_named_40 : decode prog_14_method_24_code 40 = .ok (.ifCond .ne 9, 3) := by decide +kernel
theorem d_M_named_43 : decode prog_14_method_24_code 43 = .ok (.aload_n 0, 1) := by decide +kernel
theorem d_M_named_44 : decode prog_14_method_24_code 44 = .ok (.iconst 3, 1) := by decide +kernel
theorem d_M_named_45 : decode prog_14_method_24_code 45 = .ok (.iload_n 1, 1) := by decide +kernel
theorem d_M_named_46 : decode prog_14_method_24_code 46 = .ok (.invokevirtual 293, 3) := by decide +kernel
theorem d_M_named_49 : decode prog_14_method_24_code 49 = .ok (.iinc 2 1, 3) := by decide +kernel
theorem d_M_named_52 : decode prog_14_method_24_code 52 = .ok (.goto (-40), 3) := by decide +kernel
theorem d_M_named_55 : decode prog_14_method_24_code 55 = .ok (.iload_n 1, 1) := by decide +kernel
theorem d_M_named_56 : decode prog_14_method_24_code 56 = .ok (.ireturn, 1) := by decide +kernel
def w_M_begins_2 (N : Nat) : Nat → Nat → Int32 → qH → (qH → Prop) → (Nat → qH → Prop) → Prop
  | 0 => fun _ _ _ _ _ => False
  | k + 1 => fun x0 x1 h Q K21 => (((32 : Int32) ≤ x1 → (K21 x0 h)) ∧ (¬ (32 : Int32) ≤ x1 → (qS h x0 = .inl 12 ∧ (qok h (qR h x0 50) 0 x1 ∧ ∀ h4 : qH, h4 = qsI h (qR h x0 50) (x1).toNatClampNeg (0 : Int32) → (w_M_begins_2 N k x0 (x1 + (1 : Int32)) h4 Q K21)))))
def w_M_begins_23 (N : Nat) : Nat → Nat → Int32 → qH → (qH → Prop) → (Nat → qH → Prop) → Prop
  | 0 => fun _ _ _ _ _ => False
  | k + 1 => fun x0 x1 h Q K56 => (((6 : Int32) ≤ x1 → (K56 x0 h)) ∧ (¬ (6 : Int32) ≤ x1 → (qS h x0 = .inl 12 ∧ (qok h (qR h x0 50) 0 ((6 : Int32) + x1) ∧ ∀ h4 : qH, h4 = qsI h (qR h x0 50) (((6 : Int32) + x1)).toNatClampNeg (-2 : Int32) → (qS h4 x0 = .inl 12 ∧ (qok h4 (qR h4 x0 50) 0 ((12 : Int32) + x1) ∧ ∀ h7 : qH, h7 = qsI h4 (qR h4 x0 50) (((12 : Int32) + x1)).toNatClampNeg x1 → (w_M_begins_23 N k x0 (x1 + (1 : Int32)) h7 Q K56)))))))
def w_M_begins_58 (N : Nat) : Nat → Nat → Int32 → qH → (qH → Prop) → (Nat → qH → Prop) → Prop
  | 0 => fun _ _ _ _ _ => False
  | k + 1 => fun x0 x1 h Q K120 => (qS h x0 = .inl 12 ∧ (qok h (qR h x0 26) 0 (qI h x0 18) ∧ (((qI h (qR h x0 26) ((qI h x0 18)).toNatClampNeg) ≤ x1 → (K120 x0 h)) ∧ (¬ (qI h (qR h x0 26) ((qI h x0 18)).toNatClampNeg) ≤ x1 → (qok h (qR h x0 27) 0 (((6 : Int32) * (qI h x0 18)) + x1) ∧ (qok h (qR h x0 50) 0 x1 ∧ ∀ h6 : qH, h6 = qsI h (qR h x0 50) (x1).toNatClampNeg (qI h (qR h x0 27) ((((6 : Int32) * (qI h x0 18)) + x1)).toNatClampNeg) → (qS h6 x0 = .inl 12 ∧ (qok h6 (qR h6 x0 29) 0 (((6 : Int32) * (qI h6 x0 18)) + x1) ∧ (qok h6 (qR h6 x0 50) 0 ((6 : Int32) + x1) ∧ ∀ h10 : qH, h10 = qsI h6 (qR h6 x0 50) (((6 : Int32) + x1)).toNatClampNeg (qI h6 (qR h6 x0 29) ((((6 : Int32) * (qI h6 x0 18)) + x1)).toNatClampNeg) → (w_M_begins_58 N k x0 (x1 + (1 : Int32)) h10 Q K120))))))))))
def w_M_begins (N : Nat) (x0 : Nat) (h : qH) (Q : qH → Prop) : Prop := (w_M_begins_2 N N x0 (0 : Int32) h Q (fun x1 h2 => (w_M_begins_23 N N x1 (0 : Int32) h2 Q (fun x3 h4 => (w_M_begins_58 N N x3 (0 : Int32) h4 Q (fun x5 h6 => (qS h6 x5 = .inl 12 ∧ (qok h6 (qR h6 x5 32) 0 (qI h6 x5 18) ∧ (∀ h9 : qH, h9 = qsI h6 x5 51 (qI h6 (qR h6 x5 32) ((qI h6 x5 18)).toNatClampNeg) → (qS h9 x5 = .inl 12 ∧ qzb (0 : Int32) ∧ ∀ h12 : qH, h12 = qsI h9 x5 52 (0 : Int32) → Q h12))))))))))
def w_M_keepsRow_2 (N : Nat) : Nat → Nat → Int32 → qH → (qH → Prop) → Prop
  | 0 => fun _ _ _ _ => False
  | k + 1 => fun x0 x1 h Q => (((32 : Int32) ≤ x1 → Q h) ∧ (¬ (32 : Int32) ≤ x1 → (qS h x0 = .inl 12 ∧ (qok h (qR h x0 50) 0 x1 ∧ (qok h (qR h x0 49) 0 x1 ∧ ∀ h5 : qH, h5 = qsI h (qR h x0 49) (x1).toNatClampNeg (qI h (qR h x0 50) (x1).toNatClampNeg) → (w_M_keepsRow_2 N k x0 (x1 + (1 : Int32)) h5 Q))))))
def w_M_keepsRow (N : Nat) (x0 : Nat) (h : qH) (Q : qH → Prop) : Prop := (w_M_keepsRow_2 N N x0 (0 : Int32) h Q )
def w_M_plain_37 (N : Nat) : Nat → Nat → Int32 → Int32 → qH → (qH → Prop) → (Nat → Int32 → qH → Prop) → Prop
  | 0 => fun _ _ _ _ _ _ => False
  | k + 1 => fun x0 x1 x2 h Q K62 => (((6 : Int32) ≤ x2 → (K62 x0 x1 h)) ∧ (¬ (6 : Int32) ≤ x2 → (qS h x0 = .inl 12 ∧ (qok h (qR h x0 29) 0 (((6 : Int32) * x1) + x2) ∧ ∀ h4 : qH, h4 = qsI h (qR h x0 29) ((((6 : Int32) * x1) + x2)).toNatClampNeg (-2 : Int32) → (w_M_plain_37 N k x0 x1 (x2 + (1 : Int32)) h4 Q K62)))))
def w_M_plain_64 (N : Nat) : Nat → Nat → Int32 → Int32 → qH → (qH → Prop) → Prop
  | 0 => fun _ _ _ _ _ => False
  | k + 1 => fun x0 x1 x2 h Q => (((4 : Int32) ≤ x2 → Q h) ∧ (¬ (4 : Int32) ≤ x2 → (qS h x0 = .inl 12 ∧ (qok h (qR h x0 33) 0 (((4 : Int32) * x1) + x2) ∧ ∀ h4 : qH, h4 = qsI h (qR h x0 33) ((((4 : Int32) * x1) + x2)).toNatClampNeg (0 : Int32) → (qS h4 x0 = .inl 12 ∧ (qok h4 (qR h4 x0 34) 0 (((4 : Int32) * x1) + x2) ∧ ∀ h7 : qH, h7 = qsI h4 (qR h4 x0 34) ((((4 : Int32) * x1) + x2)).toNatClampNeg (0 : Int32) → (w_M_plain_64 N k x0 x1 (x2 + (1 : Int32)) h7 Q)))))))
def w_M_plain (N : Nat) (x0 : Nat) (x1 : Int32) (h : qH) (Q : qH → Prop) : Prop := (qS h x0 = .inl 12 ∧ (qok h (qR h x0 23) 0 x1 ∧ ∀ h3 : qH, h3 = qsI h (qR h x0 23) (x1).toNatClampNeg (0 : Int32) → (qS h3 x0 = .inl 12 ∧ (qok h3 (qR h3 x0 26) 0 x1 ∧ ∀ h6 : qH, h6 = qsI h3 (qR h3 x0 26) (x1).toNatClampNeg (0 : Int32) → (qS h6 x0 = .inl 12 ∧ (qok h6 (qR h6 x0 30) 0 x1 ∧ ∀ h9 : qH, h9 = qsI h6 (qR h6 x0 30) (x1).toNatClampNeg (0 : Int32) → (qS h9 x0 = .inl 12 ∧ (qok h9 (qR h9 x0 31) 0 x1 ∧ ∀ h12 : qH, h12 = qsI h9 (qR h9 x0 31) (x1).toNatClampNeg (0 : Int32) → (qS h12 x0 = .inl 12 ∧ (qok h12 (qR h12 x0 32) 0 x1 ∧ ∀ h15 : qH, h15 = qsI h12 (qR h12 x0 32) (x1).toNatClampNeg (0 : Int32) → (w_M_plain_37 N N x0 x1 (0 : Int32) h15 Q (fun x16 x17 h18 => (w_M_plain_64 N N x16 x17 (0 : Int32) h18 Q )))))))))))))
def w_M_appends (N : Nat) (x0 : Int64) (x2 : Int32) (h : qH) (Q : Int64 → qH → Prop) : Prop := ((¬ x2 = 0 → Q (((27 : Int64) * x0) + ((((x2 - (97 : Int32)) + (1 : Int32))).toInt64)) h) ∧ (x2 = 0 → Q x0 h))
def w_M_word (N : Nat) (x0 : Int32) (x1 : Int32) (x2 : Int32) (x3 : Int32) (x4 : Int32) (x5 : Int32) (x6 : Int32) (h : qH) (Q : Int64 → qH → Prop) : Prop := (w_M_appends N (0 : Int64) x0 h (fun r1 h2 => (w_M_appends N r1 x1 h2 (fun r3 h4 => (w_M_appends N r3 x2 h4 (fun r5 h6 => (w_M_appends N r5 x3 h6 (fun r7 h8 => (w_M_appends N r7 x4 h8 (fun r9 h10 => (w_M_appends N r9 x5 h10 (fun r11 h12 => (w_M_appends N r11 x6 h12 (fun r13 h14 => Q r13 h14))))))))))))))
def w_M_put_3 (N : Nat) : Nat → Nat → Int32 → Int32 → qH → (qH → Prop) → Prop
  | 0 => fun _ _ _ _ _ => False
  | k + 1 => fun x0 x1 x2 h Q => ((x2 < 0 → Q h) ∧ (¬ x2 < 0 → (qS h x0 = .inl 12 ∧ (qok h (qR h x0 1) 1 (qI h x0 2) ∧ ∀ h4 : qH, h4 = qsI h (qR h x0 1) ((qI h x0 2)).toNatClampNeg (vp_nar .byte (((x1 >>> (x2 &&& 31))).toInt8.toInt32)) → (qS h4 x0 = .inl 12 ∧ (∀ h6 : qH, h6 = qsI h4 x0 2 ((qI h4 x0 2) + (1 : Int32)) → (w_M_put_3 N k x0 x1 (x2 + (-8 : Int32)) h6 Q)))))))
def w_M_put (N : Nat) (x0 : Nat) (x1 : Int32) (h : qH) (Q : qH → Prop) : Prop := (w_M_put_3 N N x0 x1 (24 : Int32) h Q )
def w_M_feed (N : Nat) (x0 : Nat) (x1 : Int32) (x2 : Int32) (x3 : Int32) (x4 : Int32) (x5 : Int32) (h : qH) (Q : Int32 → qH → Prop) : Prop := (qS h x0 = .inl 12 ∧ ((((qI h x0 2) + (20 : Int32)) ≤ (2000 : Int32) → (w_M_put N x0 x1 h (fun h3 => (qS h3 x0 = .inl 12 ∧ w_M_put N x0 x2 h3 (fun h5 => (qS h5 x0 = .inl 12 ∧ w_M_put N x0 x3 h5 (fun h7 => (qS h7 x0 = .inl 12 ∧ w_M_put N x0 x4 h7 (fun h9 => (qS h9 x0 = .inl 12 ∧ w_M_put N x0 x5 h9 (fun h11 => (qS h11 x0 = .inl 12 ∧ Q (qI h11 x0 2) h11)))))))))))) ∧ (¬ ((qI h x0 2) + (20 : Int32)) ≤ (2000 : Int32) → Q (-1 : Int32) h)))
def w_M_back (N : Nat) (x0 : Nat) (x1 : Int32) (h : qH) (Q : Int32 → qH → Prop) : Prop := ((x1 < 0 → Q (-1 : Int32) h) ∧ (¬ x1 < 0 → (qS h x0 = .inl 12 ∧ ((x1 ≤ (qI h x0 2) → (∀ h4 : qH, h4 = qsI h x0 2 ((qI h x0 2) - x1) → (qS h4 x0 = .inl 12 ∧ Q (qI h4 x0 2) h4))) ∧ (¬ x1 ≤ (qI h x0 2) → Q (-1 : Int32) h)))))
def w_M_byteAt (N : Nat) (x0 : Nat) (x1 : Int32) (h : qH) (Q : Int32 → qH → Prop) : Prop := (qS h x0 = .inl 12 ∧ (((qI h x0 4) ≤ x1 → Q (0 : Int32) h) ∧ (¬ (qI h x0 4) ≤ x1 → (qok h (qR h x0 3) 1 x1 ∧ Q ((qI h (qR h x0 3) (x1).toNatClampNeg) &&& (255 : Int32)) h))))
def w_M_isDigit (N : Nat) (x0 : Int32) (h : qH) (Q : Int32 → qH → Prop) : Prop := ((x0 < (48 : Int32) → (qzb (0 : Int32) ∧ Q (0 : Int32) h)) ∧ (¬ x0 < (48 : Int32) → (((57 : Int32) < x0 → (qzb (0 : Int32) ∧ Q (0 : Int32) h)) ∧ (¬ (57 : Int32) < x0 → (qzb (1 : Int32) ∧ Q (1 : Int32) h)))))
def w_M_isLetter (N : Nat) (x0 : Int32) (h : qH) (Q : Int32 → qH → Prop) : Prop := ((x0 < (97 : Int32) → (qzb (0 : Int32) ∧ Q (0 : Int32) h)) ∧ (¬ x0 < (97 : Int32) → (((122 : Int32) < x0 → (qzb (0 : Int32) ∧ Q (0 : Int32) h)) ∧ (¬ (122 : Int32) < x0 → (qzb (1 : Int32) ∧ Q (1 : Int32) h)))))
def w_M_token (N : Nat) (x0 : Nat) (x1 : Int32) (x2 : Int32) (x3 : Int32) (x4 : Int64) (h : qH) (Q : qH → Prop) : Prop := (qS h x0 = .inl 12 ∧ (qok h (qR h x0 5) 0 (qI h x0 10) ∧ ∀ h3 : qH, h3 = qsI h (qR h x0 5) ((qI h x0 10)).toNatClampNeg x1 → (qS h3 x0 = .inl 12 ∧ (qok h3 (qR h3 x0 6) 0 (qI h3 x0 10) ∧ ∀ h6 : qH, h6 = qsI h3 (qR h3 x0 6) ((qI h3 x0 10)).toNatClampNeg x2 → (qS h6 x0 = .inl 12 ∧ (qok h6 (qR h6 x0 7) 0 (qI h6 x0 10) ∧ ∀ h9 : qH, h9 = qsI h6 (qR h6 x0 7) ((qI h6 x0 10)).toNatClampNeg x3 → (qS h9 x0 = .inl 12 ∧ (qok h9 (qR h9 x0 8) 3 (qI h9 x0 10) ∧ ∀ h12 : qH, h12 = qsJ h9 (qR h9 x0 8) ((qI h9 x0 10)).toNatClampNeg x4 → (qS h12 x0 = .inl 12 ∧ (∀ h14 : qH, h14 = qsI h12 x0 10 ((qI h12 x0 10) + (1 : Int32)) → Q h14))))))))))
def w_M_sign_85 (N : Nat) (x0 : Nat) (x1 : Int32) (x2 : Int32) (x4 : Int32) (h : qH) (Q : Int32 → qH → Prop)  : Prop := ((¬ x2 = (60 : Int32) → (qS h x0 = .inl 12 ∧ w_M_token N x0 x4 x1 (0 : Int32) (0 : Int64) h (fun h3 => Q (1 : Int32) h3))) ∧ (x2 = (60 : Int32) → (qS h x0 = .inl 12 ∧ w_M_token N x0 (13 : Int32) x1 (0 : Int32) (0 : Int64) h (fun h5 => Q (1 : Int32) h5))))
def w_M_sign_75 (N : Nat) (x0 : Nat) (x1 : Int32) (x2 : Int32) (x4 : Int32) (h : qH) (Q : Int32 → qH → Prop)  : Prop := ((¬ x2 = (47 : Int32) → (w_M_sign_85 N x0 x1 x2 x4 h Q )) ∧ (x2 = (47 : Int32) → (w_M_sign_85 N x0 x1 x2 (15 : Int32) h Q )))
def w_M_sign_65 (N : Nat) (x0 : Nat) (x1 : Int32) (x2 : Int32) (x4 : Int32) (h : qH) (Q : Int32 → qH → Prop)  : Prop := ((¬ x2 = (42 : Int32) → (w_M_sign_75 N x0 x1 x2 x4 h Q )) ∧ (x2 = (42 : Int32) → (w_M_sign_75 N x0 x1 x2 (10 : Int32) h Q )))
def w_M_sign_55 (N : Nat) (x0 : Nat) (x1 : Int32) (x2 : Int32) (x4 : Int32) (h : qH) (Q : Int32 → qH → Prop)  : Prop := ((¬ x2 = (45 : Int32) → (w_M_sign_65 N x0 x1 x2 x4 h Q )) ∧ (x2 = (45 : Int32) → (w_M_sign_65 N x0 x1 x2 (9 : Int32) h Q )))
def w_M_sign_43 (N : Nat) (x0 : Nat) (x1 : Int32) (x2 : Int32) (z0 : Int32) (h : qH) (Q : Int32 → qH → Prop)  : Prop := ((¬ x2 = (43 : Int32) → (w_M_sign_55 N x0 x1 x2 z0 h Q )) ∧ (x2 = (43 : Int32) → (w_M_sign_55 N x0 x1 x2 (8 : Int32) h Q )))
def w_M_sign (N : Nat) (x0 : Nat) (x1 : Int32) (x2 : Int32) (x3 : Int32) (h : qH) (Q : Int32 → qH → Prop) : Prop := ((¬ x2 = (59 : Int32) → ((¬ x2 = (61 : Int32) → ((¬ x2 = (40 : Int32) → ((¬ x2 = (41 : Int32) → (w_M_sign_43 N x0 x1 x2 (3 : Int32) h Q )) ∧ (x2 = (41 : Int32) → (w_M_sign_43 N x0 x1 x2 (7 : Int32) h Q )))) ∧ (x2 = (40 : Int32) → (w_M_sign_43 N x0 x1 x2 (6 : Int32) h Q )))) ∧ (x2 = (61 : Int32) → (w_M_sign_43 N x0 x1 x2 (5 : Int32) h Q )))) ∧ (x2 = (59 : Int32) → (w_M_sign_43 N x0 x1 x2 (4 : Int32) h Q )))
def w_M_cut_208 (N : Nat) : Nat → Nat → Int32 → Int32 → Int32 → qH → (qH → Prop) → (Nat → Int32 → Int32 → Int32 → qH → Prop) → Prop
  | 0 => fun _ _ _ _ _ _ _ => False
  | k + 1 => fun x0 x1 x3 x4 h Q K250 => (qS h x0 = .inl 12 ∧ w_M_byteAt N x0 (x1 + x3) h (fun r2 h3 => (w_M_isDigit N r2 h3 (fun r4 h5 => ((r4 = 0 → (K250 x0 x1 x3 x4 h5)) ∧ (¬ r4 = 0 → (((4 : Int32) ≤ x3 → (w_M_cut_208 N k x0 x1 (x3 + (1 : Int32)) x4 h5 Q K250)) ∧ (¬ (4 : Int32) ≤ x3 → (qS h5 x0 = .inl 12 ∧ w_M_byteAt N x0 (x1 + x3) h5 (fun r9 h10 => (∀ y11 : Int32, y11 = ((((10 : Int32) * x4) + r9) - (48 : Int32)) → (w_M_cut_208 N k x0 x1 (x3 + (1 : Int32)) y11 h10 Q K250))))))))))))
def w_M_cut_85 (N : Nat) : Nat → Nat → Int32 → Int32 → Int64 → qH → (qH → Prop) → (Nat → Int32 → Int32 → Int64 → qH → Prop) → Prop
  | 0 => fun _ _ _ _ _ _ _ => False
  | k + 1 => fun x0 x1 x3 x4 h Q K124 => (qS h x0 = .inl 12 ∧ w_M_byteAt N x0 (x1 + x3) h (fun r2 h3 => (w_M_isLetter N r2 h3 (fun r4 h5 => ((r4 = 0 → (K124 x0 x1 x3 x4 h5)) ∧ (¬ r4 = 0 → (((8 : Int32) ≤ x3 → (w_M_cut_85 N k x0 x1 (x3 + (1 : Int32)) x4 h5 Q K124)) ∧ (¬ (8 : Int32) ≤ x3 → (qS h5 x0 = .inl 12 ∧ w_M_byteAt N x0 (x1 + x3) h5 (fun r9 h10 => (w_M_appends N x4 r9 h10 (fun r11 h12 => (w_M_cut_85 N k x0 x1 (x3 + (1 : Int32)) r11 h12 Q K124)))))))))))))
def w_M_cut_179 (N : Nat) (x0 : Nat) (x1 : Int32) (x3 : Int32) (x4 : Int64) (x6 : Int32) (h : qH) (Q : qH → Prop) (K7 : Nat → Int32 → qH → Prop) : Prop := (qS h x0 = .inl 12 ∧ w_M_token N x0 x6 x1 (0 : Int32) x4 h (fun h2 => (∀ y3 : Int32, y3 = (x1 + x3) → (K7 x0 y3 h2))))
def w_M_cut_146 (N : Nat) : Nat → Nat → Int32 → Int32 → Int64 → Int32 → Int32 → qH → (qH → Prop) → (Nat → Int32 → Int32 → Int64 → Int32 → qH → Prop) → Prop
  | 0 => fun _ _ _ _ _ _ _ _ _ => False
  | k + 1 => fun x0 x1 x3 x4 x6 x7 h Q K179 => (((21 : Int32) ≤ x7 → (K179 x0 x1 x3 x4 x6 h)) ∧ (¬ (21 : Int32) ≤ x7 → (qS h x0 = .inl 12 ∧ (qok h (qR h x0 9) 3 x7 ∧ ((¬ (lg_cmp (qJ h (qR h x0 9) (x7).toNatClampNeg) x4) = 0 → (w_M_cut_146 N k x0 x1 x3 x4 x6 (x7 + (1 : Int32)) h Q K179)) ∧ ((lg_cmp (qJ h (qR h x0 9) (x7).toNatClampNeg) x4) = 0 → (∀ y5 : Int32, y5 = ((20 : Int32) + x7) → (w_M_cut_146 N k x0 x1 x3 x4 y5 (x7 + (1 : Int32)) h Q K179))))))))
def w_M_cut_135 (N : Nat) (x0 : Nat) (x1 : Int32) (x3 : Int32) (x4 : Int64) (z0 : Int32) (h : qH) (Q : qH → Prop) (K7 : Nat → Int32 → qH → Prop) : Prop := (((8 : Int32) < x3 → (w_M_cut_179 N x0 x1 x3 x4 z0 h Q K7)) ∧ (¬ (8 : Int32) < x3 → (w_M_cut_146 N N x0 x1 x3 x4 z0 (0 : Int32) h Q (fun x2 x3 x4 x5 x6 h7 => (w_M_cut_179 N x2 x3 x4 x5 x6 h7 Q K7)))))
def w_M_cut_7 (N : Nat) : Nat → Nat → Int32 → qH → (qH → Prop) → Prop
  | 0 => fun _ _ _ _ => False
  | k + 1 => fun x0 x1 h Q => (qS h x0 = .inl 12 ∧ (((400 : Int32) < (qI h x0 10) → Q h) ∧ (¬ (400 : Int32) < (qI h x0 10) → (w_M_byteAt N x0 x1 h (fun r3 h4 => (qS h4 x0 = .inl 12 ∧ ((x1 < (qI h4 x0 4) → ((r3 = (9 : Int32) → (w_M_cut_7 N k x0 (x1 + (1 : Int32)) h4 Q)) ∧ (¬ r3 = (9 : Int32) → ((r3 = (10 : Int32) → (w_M_cut_7 N k x0 (x1 + (1 : Int32)) h4 Q)) ∧ (¬ r3 = (10 : Int32) → ((r3 = (13 : Int32) → (w_M_cut_7 N k x0 (x1 + (1 : Int32)) h4 Q)) ∧ (¬ r3 = (13 : Int32) → ((¬ r3 = (32 : Int32) → (w_M_isLetter N r3 h4 (fun r11 h12 => ((r11 = 0 → (w_M_isDigit N r3 h12 (fun r14 h15 => ((r14 = 0 → (qS h15 x0 = .inl 12 ∧ w_M_byteAt N x0 (x1 + (1 : Int32)) h15 (fun r18 h19 => (qS h19 x0 = .inl 12 ∧ w_M_sign N x0 x1 r3 r18 h19 (fun r21 h22 => (∀ y23 : Int32, y23 = (x1 + r21) → (w_M_cut_7 N k x0 y23 h22 Q))))))) ∧ (¬ r14 = 0 → (w_M_cut_208 N N x0 x1 (0 : Int32) (0 : Int32) h15 Q (fun x24 x25 x26 x27 h28 => ((x26 ≤ (4 : Int32) → (qS h28 x24 = .inl 12 ∧ w_M_token N x24 (2 : Int32) x25 x27 (0 : Int64) h28 (fun h31 => (∀ y32 : Int32, y32 = (x25 + x26) → (w_M_cut_7 N k x24 y32 h31 Q))))) ∧ (¬ x26 ≤ (4 : Int32) → (qS h28 x24 = .inl 12 ∧ w_M_token N x24 (3 : Int32) x25 x27 (0 : Int64) h28 (fun h34 => (∀ y35 : Int32, y35 = (x25 + x26) → (w_M_cut_7 N k x24 y35 h34 Q))))))))))))) ∧ (¬ r11 = 0 → (w_M_cut_85 N N x0 x1 (0 : Int32) (0 : Int64) h12 Q (fun x36 x37 x38 x39 h40 => ((x38 ≤ (8 : Int32) → (w_M_cut_135 N x36 x37 x38 x39 (1 : Int32) h40 Q (fun x0 x1 h => w_M_cut_7 N k x0 x1 h Q))) ∧ (¬ x38 ≤ (8 : Int32) → (w_M_cut_135 N x36 x37 x38 x39 (3 : Int32) h40 Q (fun x0 x1 h => w_M_cut_7 N k x0 x1 h Q))))))))))) ∧ (r3 = (32 : Int32) → (w_M_cut_7 N k x0 (x1 + (1 : Int32)) h4 Q)))))))))) ∧ (¬ x1 < (qI h4 x0 4) → (w_M_token N x0 (0 : Int32) (qI h4 x0 4) (0 : Int32) (0 : Int64) h4 (fun h42 => Q h42))))))))))
def w_M_cut (N : Nat) (x0 : Nat) (h : qH) (Q : qH → Prop) : Prop := (qS h x0 = .inl 12 ∧ ∀ h2 : qH, h2 = qsI h x0 10 (0 : Int32) → (w_M_cut_7 N N x0 (0 : Int32) h2 Q ))
def w_M_is (N : Nat) (x0 : Nat) (x1 : Int32) (h : qH) (Q : Int32 → qH → Prop) : Prop := (qS h x0 = .inl 12 ∧ ((¬ (qI h x0 13) = 0 → (qzb (0 : Int32) ∧ Q (0 : Int32) h)) ∧ ((qI h x0 13) = 0 → (qok h (qR h x0 5) 0 (qI h x0 11) ∧ ((¬ (qI h (qR h x0 5) ((qI h x0 11)).toNatClampNeg) = x1 → (qzb (0 : Int32) ∧ Q (0 : Int32) h)) ∧ ((qI h (qR h x0 5) ((qI h x0 11)).toNatClampNeg) = x1 → (qzb (1 : Int32) ∧ Q (1 : Int32) h)))))))
def w_M_fail (N : Nat) (x0 : Nat) (x1 : Int32) (h : qH) (Q : qH → Prop) : Prop := (qS h x0 = .inl 12 ∧ (((qI h x0 13) ≤ 0 → (∀ h3 : qH, h3 = qsI h x0 13 x1 → (qS h3 x0 = .inl 12 ∧ (qok h3 (qR h3 x0 6) 0 (qI h3 x0 11) ∧ (∀ h6 : qH, h6 = qsI h3 x0 14 (qI h3 (qR h3 x0 6) ((qI h3 x0 11)).toNatClampNeg) → Q h6))))) ∧ (¬ (qI h x0 13) ≤ 0 → Q h)))
def w_M_wrong (N : Nat) (x0 : Nat) (x1 : Int32) (x2 : Int32) (h : qH) (Q : qH → Prop) : Prop := (qS h x0 = .inl 12 ∧ (qok h (qR h x0 6) 0 x2 ∧ (∀ y3 : Int32, y3 = (qI h (qR h x0 6) (x2).toNatClampNeg) → ((0 < (qI h x0 13) → Q h) ∧ (¬ 0 < (qI h x0 13) → (((qI h x0 15) = 0 → (∀ h6 : qH, h6 = qsI h x0 15 x1 → (qS h6 x0 = .inl 12 ∧ ∀ h8 : qH, h8 = qsI h6 x0 16 y3 → Q h8))) ∧ (¬ (qI h x0 15) = 0 → (((qI h x0 16) < y3 → Q h) ∧ (¬ (qI h x0 16) < y3 → ((¬ y3 = (qI h x0 16) → (∀ h11 : qH, h11 = qsI h x0 15 x1 → (qS h11 x0 = .inl 12 ∧ ∀ h13 : qH, h13 = qsI h11 x0 16 y3 → Q h13))) ∧ (y3 = (qI h x0 16) → ((x1 < (qI h x0 15) → (∀ h15 : qH, h15 = qsI h x0 15 x1 → (qS h15 x0 = .inl 12 ∧ ∀ h17 : qH, h17 = qsI h15 x0 16 y3 → Q h17))) ∧ (¬ x1 < (qI h x0 15) → Q h)))))))))))))
def w_M_goesOn (N : Nat) (x0 : Nat) (h : qH) (Q : qH → Prop) : Prop := (qS h x0 = .inl 12 ∧ ((¬ (qI h x0 11) = (400 : Int32) → (∀ h3 : qH, h3 = qsI h x0 11 ((qI h x0 11) + (1 : Int32)) → Q h3)) ∧ ((qI h x0 11) = (400 : Int32) → (w_M_fail N x0 (2 : Int32) h (fun h4 => Q h4)))))
def w_M_must (N : Nat) (x0 : Nat) (x1 : Int32) (h : qH) (Q : qH → Prop) : Prop := (qS h x0 = .inl 12 ∧ w_M_is N x0 x1 h (fun r2 h3 => ((r2 = 0 → (qS h3 x0 = .inl 12 ∧ w_M_fail N x0 (1 : Int32) h3 (fun h6 => Q h6))) ∧ (¬ r2 = 0 → (qS h3 x0 = .inl 12 ∧ w_M_goesOn N x0 h3 (fun h8 => Q h8))))))
def w_M_bounded (N : Nat) (x0 : Nat) (x1 : Int32) (x2 : Int32) (h : qH) (Q : Int32 → qH → Prop) : Prop := (qS h x0 = .inl 12 ∧ ((0 < (qI h x0 13) → (w_M_fail N x0 (1 : Int32) h (fun h3 => Q x1 h3))) ∧ (¬ 0 < (qI h x0 13) → (w_M_is N x0 (2 : Int32) h (fun r4 h5 => ((¬ r4 = 0 → (qS h5 x0 = .inl 12 ∧ (qok h5 (qR h5 x0 7) 0 (qI h5 x0 11) ∧ (∀ y9 : Int32, y9 = (qI h5 (qR h5 x0 7) ((qI h5 x0 11)).toNatClampNeg) → ((y9 < x1 → (w_M_wrong N x0 (5 : Int32) (qI h5 x0 11) h5 (fun h11 => (qS h11 x0 = .inl 12 ∧ w_M_goesOn N x0 h11 (fun h13 => Q y9 h13))))) ∧ (¬ y9 < x1 → ((y9 ≤ x2 → (w_M_goesOn N x0 h5 (fun h15 => Q y9 h15))) ∧ (¬ y9 ≤ x2 → (w_M_wrong N x0 (5 : Int32) (qI h5 x0 11) h5 (fun h16 => (qS h16 x0 = .inl 12 ∧ w_M_goesOn N x0 h16 (fun h18 => Q y9 h18)))))))))))) ∧ (r4 = 0 → (qS h5 x0 = .inl 12 ∧ w_M_fail N x0 (1 : Int32) h5 (fun h20 => Q x1 h20)))))))))
def w_M_endsName (N : Nat) (x0 : Nat) (x1 : Int32) (x2 : Int32) (h : qH) (Q : qH → Prop) : Prop := (qS h x0 = .inl 12 ∧ w_M_must N x0 (4 : Int32) h (fun h2 => (qS h2 x0 = .inl 12 ∧ (((qI h2 x0 13) ≤ 0 → (qok h2 (qR h2 x0 8) 3 x1 ∧ (qok h2 (qR h2 x0 21) 3 (qI h2 x0 20) ∧ ∀ h7 : qH, h7 = qsJ h2 (qR h2 x0 21) ((qI h2 x0 20)).toNatClampNeg (qJ h2 (qR h2 x0 8) (x1).toNatClampNeg) → (qS h7 x0 = .inl 12 ∧ (qok h7 (qR h7 x0 22) 0 (qI h7 x0 20) ∧ ∀ h10 : qH, h10 = qsI h7 (qR h7 x0 22) ((qI h7 x0 20)).toNatClampNeg x2 → (qS h10 x0 = .inl 12 ∧ (∀ h12 : qH, h12 = qsI h10 x0 20 ((qI h10 x0 20) + (1 : Int32)) → Q h12))))))) ∧ (¬ (qI h2 x0 13) ≤ 0 → Q h2)))))
def w_M_named_12 (N : Nat) : Nat → Nat → Int32 → Int32 → qH → (Int32 → qH → Prop) → Prop
  | 0 => fun _ _ _ _ _ => False
  | k + 1 => fun x0 x1 x2 h Q => (qS h x0 = .inl 12 ∧ (((qI h x0 20) ≤ x2 → Q x1 h) ∧ (¬ (qI h x0 20) ≤ x2 → ((¬ (qI h x0 13) = 0 → Q x1 h) ∧ ((qI h x0 13) = 0 → (qok h (qR h x0 21) 3 x2 ∧ (qok h (qR h x0 8) 3 x1 ∧ ((¬ (lg_cmp (qJ h (qR h x0 21) (x2).toNatClampNeg) (qJ h (qR h x0 8) (x1).toNatClampNeg)) = 0 → (w_M_named_12 N k x0 x1 (x2 + (1 : Int32)) h Q)) ∧ ((lg_cmp (qJ h (qR h x0 21) (x2).toNatClampNeg) (qJ h (qR h x0 8) (x1).toNatClampNeg)) = 0 → (w_M_wrong N x0 (3 : Int32) x1 h (fun h7 => (w_M_named_12 N k x0 x1 (x2 + (1 : Int32)) h7 Q))))))))))))
def w_M_named (N : Nat) (x0 : Nat) (h : qH) (Q : Int32 → qH → Prop) : Prop := (qS h x0 = .inl 12 ∧ (∀ y2 : Int32, y2 = (qI h x0 11) → (w_M_must N x0 (1 : Int32) h (fun h3 => (w_M_named_12 N N x0 y2 (0 : Int32) h3 Q )))))
section QG
variable {p : Program} {l : Launch} {e : Env} {s : State} {m : MethodId} {args : Array Value} {below : List Frame} {meth : Method} {c : Code} {D : va_G} {cy : Nat → ClassId} {b : Nat} {adK adV : Nat → Nat}

set_option maxRecDepth 4000 in
theorem t_M_begins_2 (X : qX p s m args meth c D cy b adK adV prog_14_method_41_code "CoatHangersModel" 2 (none) "begins") (N k : Nat) (x0 : Nat) (x1 : Int32) (h : qH) (Q : qH → Prop) (K21 : Nat → qH → Prop) (hw : w_M_begins_2 N k x0 x1 h Q K21) (hK21 : ∀ (x0 : Nat) (h : qH), K21 x0 h → qW p l e (qrm 0 0 0 0) s m args below meth c D cy b 2 0 0 (MQ below (qQc D cy b qrV (fun (_ : Unit) h => Q h)) args s 0 0 (qA b)) 21 [(0, .inr (.inr (.inl x0)))] [] h) : qW p l e (qrm 0 0 0 0) s m args below meth c D cy b 2 0 0 (MQ below (qQc D cy b qrV (fun (_ : Unit) h => Q h)) args s 0 0 (qA b)) 2 [(0, .inr (.inr (.inl x0))), (1, .inl x1)] [] h := by
  induction k generalizing x0 x1 h with
  | zero => exact hw.elim
  | succ k ih =>
    refine qx_iload_n (x := x1) X d_M_begins_2 rfl 1 rfl ?_
    refine qx_bipush (v := (32 : Int32)) X d_M_begins_3 (by decide) ?_
    refine qx_icmp_ge X 21 d_M_begins_5 (by decide) (fun q1 => ?_) (fun q1 => ?_)
    · have hw := hw.1 q1
      refine qx_sub [0] rfl ?_
      exact hK21 x0 h hw
    · have hw := hw.2 q1
      refine qx_aload_n (x := x0) X d_M_begins_8 rfl 0 rfl ?_
      obtain ⟨g2, hw⟩ := hw
      refine qx_getR X qcls12 g2 50 (by decide) rfl wf_M_116 d_M_begins_9 ?_
      refine qx_iload_n (x := x1) X d_M_begins_12 rfl 1 rfl ?_
      refine qx_iconst (v := (0 : Int32)) X d_M_begins_13 (by decide) ?_
      obtain ⟨g3, hw⟩ := hw
      refine qx_ist X g3 d_M_begins_14 ?_
      refine qx_toph (fun h4 eh4 => ?_)
      have hw := hw h4 eh4
      refine qx_iinc (v := (x1 + (1 : Int32))) (L' := [(1, .inl (x1 + (1 : Int32))), (0, .inr (.inr (.inl x0)))]) X d_M_begins_15 1 rfl rfl (by decide) rfl ?_
      refine qx_goto X 2 d_M_begins_18 (by decide) ?_
      refine qx_sub [1, 0] rfl ?_
      exact ih x0 (x1 + (1 : Int32)) h4 hw
set_option maxRecDepth 4000 in
theorem t_M_begins_23 (X : qX p s m args meth c D cy b adK adV prog_14_method_41_code "CoatHangersModel" 2 (none) "begins") (N k : Nat) (x0 : Nat) (x1 : Int32) (h : qH) (Q : qH → Prop) (K56 : Nat → qH → Prop) (hw : w_M_begins_23 N k x0 x1 h Q K56) (hK56 : ∀ (x0 : Nat) (h : qH), K56 x0 h → qW p l e (qrm 0 0 0 0) s m args below meth c D cy b 2 0 0 (MQ below (qQc D cy b qrV (fun (_ : Unit) h => Q h)) args s 0 0 (qA b)) 56 [(0, .inr (.inr (.inl x0)))] [] h) : qW p l e (qrm 0 0 0 0) s m args below meth c D cy b 2 0 0 (MQ below (qQc D cy b qrV (fun (_ : Unit) h => Q h)) args s 0 0 (qA b)) 23 [(0, .inr (.inr (.inl x0))), (1, .inl x1)] [] h := by
  induction k generalizing x0 x1 h with
  | zero => exact hw.elim
  | succ k ih =>
    refine qx_iload_n (x := x1) X d_M_begins_23 rfl 1 rfl ?_
    refine qx_bipush (v := (6 : Int32)) X d_M_begins_24 (by decide) ?_
    refine qx_icmp_ge X 56 d_M_begins_26 (by decide) (fun q1 => ?_) (fun q1 => ?_)
    · have hw := hw.1 q1
      refine qx_sub [0] rfl ?_
      exact hK56 x0 h hw
    · have hw := hw.2 q1
      refine qx_aload_n (x := x0) X d_M_begins_29 rfl 0 rfl ?_
      obtain ⟨g2, hw⟩ := hw
      refine qx_getR X qcls12 g2 50 (by decide) rfl wf_M_116 d_M_begins_30 ?_
      refine qx_bipush (v := (6 : Int32)) X d_M_begins_33 (by decide) ?_
      refine qx_iload_n (x := x1) X d_M_begins_35 rfl 1 rfl ?_
      refine qx_iadd X d_M_begins_36 ?_
      refine qx_bipush (v := (-2 : Int32)) X d_M_begins_37 (by decide) ?_
      obtain ⟨g3, hw⟩ := hw
      refine qx_ist X g3 d_M_begins_39 ?_
      refine qx_toph (fun h4 eh4 => ?_)
      have hw := hw h4 eh4
      refine qx_aload_n (x := x0) X d_M_begins_40 rfl 0 rfl ?_
      obtain ⟨g5, hw⟩ := hw
      refine qx_getR X qcls12 g5 50 (by decide) rfl wf_M_116 d_M_begins_41 ?_
      refine qx_bipush (v := (12 : Int32)) X d_M_begins_44 (by decide) ?_
      refine qx_iload_n (x := x1) X d_M_begins_46 rfl 1 rfl ?_
      refine qx_iadd X d_M_begins_47 ?_
      refine qx_iload_n (x := x1) X d_M_begins_48 rfl 1 rfl ?_
      obtain ⟨g6, hw⟩ := hw
      refine qx_ist X g6 d_M_begins_49 ?_
      refine qx_toph (fun h7 eh7 => ?_)
      have hw := hw h7 eh7
      refine qx_iinc (v := (x1 + (1 : Int32))) (L' := [(1, .inl (x1 + (1 : Int32))), (0, .inr (.inr (.inl x0)))]) X d_M_begins_50 1 rfl rfl (by decide) rfl ?_
      refine qx_goto X 23 d_M_begins_53 (by decide) ?_
      refine qx_sub [1, 0] rfl ?_
      exact ih x0 (x1 + (1 : Int32)) h7 hw
set_option maxRecDepth 4000 in
theorem t_M_begins_58 (X : qX p s m args meth c D cy b adK adV prog_14_method_41_code "CoatHangersModel" 2 (none) "begins") (N k : Nat) (x0 : Nat) (x1 : Int32) (h : qH) (Q : qH → Prop) (K120 : Nat → qH → Prop) (hw : w_M_begins_58 N k x0 x1 h Q K120) (hK120 : ∀ (x0 : Nat) (h : qH), K120 x0 h → qW p l e (qrm 0 0 0 0) s m args below meth c D cy b 2 0 0 (MQ below (qQc D cy b qrV (fun (_ : Unit) h => Q h)) args s 0 0 (qA b)) 120 [(0, .inr (.inr (.inl x0)))] [] h) : qW p l e (qrm 0 0 0 0) s m args below meth c D cy b 2 0 0 (MQ below (qQc D cy b qrV (fun (_ : Unit) h => Q h)) args s 0 0 (qA b)) 58 [(0, .inr (.inr (.inl x0))), (1, .inl x1)] [] h := by
  induction k generalizing x0 x1 h with
  | zero => exact hw.elim
  | succ k ih =>
    refine qx_iload_n (x := x1) X d_M_begins_58 rfl 1 rfl ?_
    refine qx_aload_n (x := x0) X d_M_begins_59 rfl 0 rfl ?_
    obtain ⟨g1, hw⟩ := hw
    refine qx_getR X qcls12 g1 26 (by decide) rfl wf_M_55 d_M_begins_60 ?_
    refine qx_aload_n (x := x0) X d_M_begins_63 rfl 0 rfl ?_
    refine qx_getI X qcls12 g1 18 (by decide) rfl wf_M_245 d_M_begins_64 ?_
    obtain ⟨g2, hw⟩ := hw
    refine qx_ild X g2 d_M_begins_67 ?_
    refine qx_icmp_ge X 120 d_M_begins_68 (by decide) (fun q3 => ?_) (fun q3 => ?_)
    · have hw := hw.1 q3
      refine qx_sub [0] rfl ?_
      exact hK120 x0 h hw
    · have hw := hw.2 q3
      refine qx_aload_n (x := x0) X d_M_begins_71 rfl 0 rfl ?_
      refine qx_getR X qcls12 g1 50 (by decide) rfl wf_M_116 d_M_begins_72 ?_
      refine qx_iload_n (x := x1) X d_M_begins_75 rfl 1 rfl ?_
      refine qx_aload_n (x := x0) X d_M_begins_76 rfl 0 rfl ?_
      refine qx_getR X qcls12 g1 27 (by decide) rfl wf_M_58 d_M_begins_77 ?_
      refine qx_bipush (v := (6 : Int32)) X d_M_begins_80 (by decide) ?_
      refine qx_aload_n (x := x0) X d_M_begins_82 rfl 0 rfl ?_
      refine qx_getI X qcls12 g1 18 (by decide) rfl wf_M_245 d_M_begins_83 ?_
      refine qx_imul X d_M_begins_86 ?_
      refine qx_iload_n (x := x1) X d_M_begins_87 rfl 1 rfl ?_
      refine qx_iadd X d_M_begins_88 ?_
      obtain ⟨g4, hw⟩ := hw
      refine qx_ild X g4 d_M_begins_89 ?_
      obtain ⟨g5, hw⟩ := hw
      refine qx_ist X g5 d_M_begins_90 ?_
      refine qx_toph (fun h6 eh6 => ?_)
      have hw := hw h6 eh6
      refine qx_aload_n (x := x0) X d_M_begins_91 rfl 0 rfl ?_
      obtain ⟨g7, hw⟩ := hw
      refine qx_getR X qcls12 g7 50 (by decide) rfl wf_M_116 d_M_begins_92 ?_
      refine qx_bipush (v := (6 : Int32)) X d_M_begins_95 (by decide) ?_
      refine qx_iload_n (x := x1) X d_M_begins_97 rfl 1 rfl ?_
      refine qx_iadd X d_M_begins_98 ?_
      refine qx_aload_n (x := x0) X d_M_begins_99 rfl 0 rfl ?_
      refine qx_getR X qcls12 g7 29 (by decide) rfl wf_M_64 d_M_begins_100 ?_
      refine qx_bipush (v := (6 : Int32)) X d_M_begins_103 (by decide) ?_
      refine qx_aload_n (x := x0) X d_M_begins_105 rfl 0 rfl ?_
      refine qx_getI X qcls12 g7 18 (by decide) rfl wf_M_245 d_M_begins_106 ?_
      refine qx_imul X d_M_begins_109 ?_
      refine qx_iload_n (x := x1) X d_M_begins_110 rfl 1 rfl ?_
      refine qx_iadd X d_M_begins_111 ?_
      obtain ⟨g8, hw⟩ := hw
      refine qx_ild X g8 d_M_begins_112 ?_
      obtain ⟨g9, hw⟩ := hw
      refine qx_ist X g9 d_M_begins_113 ?_
      refine qx_toph (fun h10 eh10 => ?_)
      have hw := hw h10 eh10
      refine qx_iinc (v := (x1 + (1 : Int32))) (L' := [(1, .inl (x1 + (1 : Int32))), (0, .inr (.inr (.inl x0)))]) X d_M_begins_114 1 rfl rfl (by decide) rfl ?_
      refine qx_goto X 58 d_M_begins_117 (by decide) ?_
      refine qx_sub [1, 0] rfl ?_
      exact ih x0 (x1 + (1 : Int32)) h10 hw
set_option maxRecDepth 4000 in
theorem t_M_begins {adK adV : Nat → Nat} (l : Launch) (D : va_G) (cy : Nat → ClassId) (b : Nat) (N : Nat) (x0 : Nat) (h : qH) (Q : qH → Prop) (hw : w_M_begins N x0 h Q) : Met l y_M_begins (Cond.code y_M_begins prog_14_method_41_code 2 (none) :: qT) (qrm 0 0 0 0) (qPc D cy b adK adV h [qr b x0]) (qQc D cy b qrV (fun (_ : Unit) h => Q h)) 0 0 (qA b) := by
  refine qmet (L0 := [(0, .inr (.inr (.inl x0)))]) qm_M_begins (plainFor_of_name (by decide)) [.inr (.inr (.inl x0))] rfl (Nat.le_of_ble_eq_true rfl) rfl (fun p e s m args below meth c X => ?_)
  unfold w_M_begins at hw
  refine qx_iconst (v := (0 : Int32)) X d_M_begins_0 (by decide) ?_
  refine qx_istore_n (L' := [(1, .inl (0 : Int32)), (0, .inr (.inr (.inl x0)))]) X d_M_begins_1 rfl (by decide) rfl ?_
  refine qx_sub [1, 0] rfl ?_
  refine t_M_begins_2 X N N x0 (0 : Int32) h Q _ hw (fun x1 h2 hw => ?_)
  refine qx_iconst (v := (0 : Int32)) X d_M_begins_21 (by decide) ?_
  refine qx_istore_n (L' := [(1, .inl (0 : Int32)), (0, .inr (.inr (.inl x1)))]) X d_M_begins_22 rfl (by decide) rfl ?_
  refine qx_sub [1, 0] rfl ?_
  refine t_M_begins_23 X N N x1 (0 : Int32) h2 Q _ hw (fun x3 h4 hw => ?_)
  refine qx_iconst (v := (0 : Int32)) X d_M_begins_56 (by decide) ?_
  refine qx_istore_n (L' := [(1, .inl (0 : Int32)), (0, .inr (.inr (.inl x3)))]) X d_M_begins_57 rfl (by decide) rfl ?_
  refine qx_sub [1, 0] rfl ?_
  refine t_M_begins_58 X N N x3 (0 : Int32) h4 Q _ hw (fun x5 h6 hw => ?_)
  refine qx_aload_n (x := x5) X d_M_begins_120 rfl 0 rfl ?_
  refine qx_aload_n (x := x5) X d_M_begins_121 rfl 0 rfl ?_
  obtain ⟨g7, hw⟩ := hw
  refine qx_getR X qcls12 g7 32 (by decide) rfl wf_M_73 d_M_begins_122 ?_
  refine qx_aload_n (x := x5) X d_M_begins_125 rfl 0 rfl ?_
  refine qx_getI X qcls12 g7 18 (by decide) rfl wf_M_245 d_M_begins_126 ?_
  obtain ⟨g8, hw⟩ := hw
  refine qx_ild X g8 d_M_begins_129 ?_
  refine qx_putI X qcls12 g7 51 (by decide) rfl wf_M_326 rfl rfl rfl d_M_begins_130 ?_
  refine qx_toph (fun h9 eh9 => ?_)
  have hw := hw h9 eh9
  refine qx_aload_n (x := x5) X d_M_begins_133 rfl 0 rfl ?_
  refine qx_iconst (v := (0 : Int32)) X d_M_begins_134 (by decide) ?_
  obtain ⟨g10, hw⟩ := hw
  obtain ⟨g11, hw⟩ := hw
  refine qx_putI X qcls12 g10 52 (by decide) rfl wf_M_329 rfl (qzb_nar g11) (qzb_fit g11) d_M_begins_135 ?_
  refine qx_toph (fun h12 eh12 => ?_)
  have hw := hw h12 eh12
  exact qx_vret X hw (Nat.le_refl 0) (Nat.le_refl 0) rfl d_M_begins_138
set_option maxRecDepth 4000 in
theorem t_M_keepsRow_2 (X : qX p s m args meth c D cy b adK adV prog_14_method_42_code "CoatHangersModel" 2 (none) "keepsRow") (N k : Nat) (x0 : Nat) (x1 : Int32) (h : qH) (Q : qH → Prop)  (hw : w_M_keepsRow_2 N k x0 x1 h Q ) : qW p l e (qrm 0 0 0 0) s m args below meth c D cy b 2 0 0 (MQ below (qQc D cy b qrV (fun (_ : Unit) h => Q h)) args s 0 0 (qA b)) 2 [(0, .inr (.inr (.inl x0))), (1, .inl x1)] [] h := by
  induction k generalizing x0 x1 h with
  | zero => exact hw.elim
  | succ k ih =>
    refine qx_iload_n (x := x1) X d_M_keepsRow_2 rfl 1 rfl ?_
    refine qx_bipush (v := (32 : Int32)) X d_M_keepsRow_3 (by decide) ?_
    refine qx_icmp_ge X 26 d_M_keepsRow_5 (by decide) (fun q1 => ?_) (fun q1 => ?_)
    · have hw := hw.1 q1
      exact qx_vret X hw (Nat.le_refl 0) (Nat.le_refl 0) rfl d_M_keepsRow_26
    · have hw := hw.2 q1
      refine qx_aload_n (x := x0) X d_M_keepsRow_8 rfl 0 rfl ?_
      obtain ⟨g2, hw⟩ := hw
      refine qx_getR X qcls12 g2 49 (by decide) rfl wf_M_113 d_M_keepsRow_9 ?_
      refine qx_iload_n (x := x1) X d_M_keepsRow_12 rfl 1 rfl ?_
      refine qx_aload_n (x := x0) X d_M_keepsRow_13 rfl 0 rfl ?_
      refine qx_getR X qcls12 g2 50 (by decide) rfl wf_M_116 d_M_keepsRow_14 ?_
      refine qx_iload_n (x := x1) X d_M_keepsRow_17 rfl 1 rfl ?_
      obtain ⟨g3, hw⟩ := hw
      refine qx_ild X g3 d_M_keepsRow_18 ?_
      obtain ⟨g4, hw⟩ := hw
      refine qx_ist X g4 d_M_keepsRow_19 ?_
      refine qx_toph (fun h5 eh5 => ?_)
      have hw := hw h5 eh5
      refine qx_iinc (v := (x1 + (1 : Int32))) (L' := [(1, .inl (x1 + (1 : Int32))), (0, .inr (.inr (.inl x0)))]) X d_M_keepsRow_20 1 rfl rfl (by decide) rfl ?_
      refine qx_goto X 2 d_M_keepsRow_23 (by decide) ?_
      refine qx_sub [1, 0] rfl ?_
      exact ih x0 (x1 + (1 : Int32)) h5 hw
set_option maxRecDepth 4000 in
theorem t_M_keepsRow {adK adV : Nat → Nat} (l : Launch) (D : va_G) (cy : Nat → ClassId) (b : Nat) (N : Nat) (x0 : Nat) (h : qH) (Q : qH → Prop) (hw : w_M_keepsRow N x0 h Q) : Met l y_M_keepsRow (Cond.code y_M_keepsRow prog_14_method_42_code 2 (none) :: qT) (qrm 0 0 0 0) (qPc D cy b adK adV h [qr b x0]) (qQc D cy b qrV (fun (_ : Unit) h => Q h)) 0 0 (qA b) := by
  refine qmet (L0 := [(0, .inr (.inr (.inl x0)))]) qm_M_keepsRow (plainFor_of_name (by decide)) [.inr (.inr (.inl x0))] rfl (Nat.le_of_ble_eq_true rfl) rfl (fun p e s m args below meth c X => ?_)
  unfold w_M_keepsRow at hw
  refine qx_iconst (v := (0 : Int32)) X d_M_keepsRow_0 (by decide) ?_
  refine qx_istore_n (L' := [(1, .inl (0 : Int32)), (0, .inr (.inr (.inl x0)))]) X d_M_keepsRow_1 rfl (by decide) rfl ?_
  refine qx_sub [1, 0] rfl ?_
  exact t_M_keepsRow_2 X N N x0 (0 : Int32) h Q  hw 
set_option maxRecDepth 4000 in
theorem t_M_plain_37 (X : qX p s m args meth c D cy b adK adV prog_14_method_19_code "CoatHangersModel" 3 (none) "plain") (N k : Nat) (x0 : Nat) (x1 : Int32) (x2 : Int32) (h : qH) (Q : qH → Prop) (K62 : Nat → Int32 → qH → Prop) (hw : w_M_plain_37 N k x0 x1 x2 h Q K62) (hK62 : ∀ (x0 : Nat) (x1 : Int32) (h : qH), K62 x0 x1 h → qW p l e (qrm 0 0 0 0) s m args below meth c D cy b 3 0 0 (MQ below (qQc D cy b qrV (fun (_ : Unit) h => Q h)) args s 0 0 (qA b)) 62 [(0, .inr (.inr (.inl x0))), (1, .inl x1)] [] h) : qW p l e (qrm 0 0 0 0) s m args below meth c D cy b 3 0 0 (MQ below (qQc D cy b qrV (fun (_ : Unit) h => Q h)) args s 0 0 (qA b)) 37 [(0, .inr (.inr (.inl x0))), (1, .inl x1), (2, .inl x2)] [] h := by
  induction k generalizing x0 x1 x2 h with
  | zero => exact hw.elim
  | succ k ih =>
    refine qx_iload_n (x := x2) X d_M_plain_37 rfl 2 rfl ?_
    refine qx_bipush (v := (6 : Int32)) X d_M_plain_38 (by decide) ?_
    refine qx_icmp_ge X 62 d_M_plain_40 (by decide) (fun q1 => ?_) (fun q1 => ?_)
    · have hw := hw.1 q1
      refine qx_sub [0, 1] rfl ?_
      exact hK62 x0 x1 h hw
    · have hw := hw.2 q1
      refine qx_aload_n (x := x0) X d_M_plain_43 rfl 0 rfl ?_
      obtain ⟨g2, hw⟩ := hw
      refine qx_getR X qcls12 g2 29 (by decide) rfl wf_M_64 d_M_plain_44 ?_
      refine qx_bipush (v := (6 : Int32)) X d_M_plain_47 (by decide) ?_
      refine qx_iload_n (x := x1) X d_M_plain_49 rfl 1 rfl ?_
      refine qx_imul X d_M_plain_50 ?_
      refine qx_iload_n (x := x2) X d_M_plain_51 rfl 2 rfl ?_
      refine qx_iadd X d_M_plain_52 ?_
      refine qx_bipush (v := (-2 : Int32)) X d_M_plain_53 (by decide) ?_
      obtain ⟨g3, hw⟩ := hw
      refine qx_ist X g3 d_M_plain_55 ?_
      refine qx_toph (fun h4 eh4 => ?_)
      have hw := hw h4 eh4
      refine qx_iinc (v := (x2 + (1 : Int32))) (L' := [(2, .inl (x2 + (1 : Int32))), (0, .inr (.inr (.inl x0))), (1, .inl x1)]) X d_M_plain_56 2 rfl rfl (by decide) rfl ?_
      refine qx_goto X 37 d_M_plain_59 (by decide) ?_
      refine qx_sub [1, 2, 0] rfl ?_
      exact ih x0 x1 (x2 + (1 : Int32)) h4 hw
set_option maxRecDepth 4000 in
theorem t_M_plain_64 (X : qX p s m args meth c D cy b adK adV prog_14_method_19_code "CoatHangersModel" 3 (none) "plain") (N k : Nat) (x0 : Nat) (x1 : Int32) (x2 : Int32) (h : qH) (Q : qH → Prop)  (hw : w_M_plain_64 N k x0 x1 x2 h Q ) : qW p l e (qrm 0 0 0 0) s m args below meth c D cy b 3 0 0 (MQ below (qQc D cy b qrV (fun (_ : Unit) h => Q h)) args s 0 0 (qA b)) 64 [(0, .inr (.inr (.inl x0))), (1, .inl x1), (2, .inl x2)] [] h := by
  induction k generalizing x0 x1 x2 h with
  | zero => exact hw.elim
  | succ k ih =>
    refine qx_iload_n (x := x2) X d_M_plain_64 rfl 2 rfl ?_
    refine qx_iconst (v := (4 : Int32)) X d_M_plain_65 (by decide) ?_
    refine qx_icmp_ge X 97 d_M_plain_66 (by decide) (fun q1 => ?_) (fun q1 => ?_)
    · have hw := hw.1 q1
      exact qx_vret X hw (Nat.le_refl 0) (Nat.le_refl 0) rfl d_M_plain_97
    · have hw := hw.2 q1
      refine qx_aload_n (x := x0) X d_M_plain_69 rfl 0 rfl ?_
      obtain ⟨g2, hw⟩ := hw
      refine qx_getR X qcls12 g2 33 (by decide) rfl wf_M_76 d_M_plain_70 ?_
      refine qx_iconst (v := (4 : Int32)) X d_M_plain_73 (by decide) ?_
      refine qx_iload_n (x := x1) X d_M_plain_74 rfl 1 rfl ?_
      refine qx_imul X d_M_plain_75 ?_
      refine qx_iload_n (x := x2) X d_M_plain_76 rfl 2 rfl ?_
      refine qx_iadd X d_M_plain_77 ?_
      refine qx_iconst (v := (0 : Int32)) X d_M_plain_78 (by decide) ?_
      obtain ⟨g3, hw⟩ := hw
      refine qx_ist X g3 d_M_plain_79 ?_
      refine qx_toph (fun h4 eh4 => ?_)
      have hw := hw h4 eh4
      refine qx_aload_n (x := x0) X d_M_plain_80 rfl 0 rfl ?_
      obtain ⟨g5, hw⟩ := hw
      refine qx_getR X qcls12 g5 34 (by decide) rfl wf_M_79 d_M_plain_81 ?_
      refine qx_iconst (v := (4 : Int32)) X d_M_plain_84 (by decide) ?_
      refine qx_iload_n (x := x1) X d_M_plain_85 rfl 1 rfl ?_
      refine qx_imul X d_M_plain_86 ?_
      refine qx_iload_n (x := x2) X d_M_plain_87 rfl 2 rfl ?_
      refine qx_iadd X d_M_plain_88 ?_
      refine qx_iconst (v := (0 : Int32)) X d_M_plain_89 (by decide) ?_
      obtain ⟨g6, hw⟩ := hw
      refine qx_ist X g6 d_M_plain_90 ?_
      refine qx_toph (fun h7 eh7 => ?_)
      have hw := hw h7 eh7
      refine qx_iinc (v := (x2 + (1 : Int32))) (L' := [(2, .inl (x2 + (1 : Int32))), (0, .inr (.inr (.inl x0))), (1, .inl x1)]) X d_M_plain_91 2 rfl rfl (by decide) rfl ?_
      refine qx_goto X 64 d_M_plain_94 (by decide) ?_
      refine qx_sub [1, 2, 0] rfl ?_
      exact ih x0 x1 (x2 + (1 : Int32)) h7 hw
set_option maxRecDepth 4000 in
theorem t_M_plain {adK adV : Nat → Nat} (l : Launch) (D : va_G) (cy : Nat → ClassId) (b : Nat) (N : Nat) (x0 : Nat) (x1 : Int32) (h : qH) (Q : qH → Prop) (hw : w_M_plain N x0 x1 h Q) : Met l y_M_plain (Cond.code y_M_plain prog_14_method_19_code 3 (none) :: qT) (qrm 0 0 0 0) (qPc D cy b adK adV h [qr b x0, .int x1]) (qQc D cy b qrV (fun (_ : Unit) h => Q h)) 0 0 (qA b) := by
  refine qmet (L0 := [(0, .inr (.inr (.inl x0))), (1, .inl x1)]) qm_M_plain (plainFor_of_name (by decide)) [.inr (.inr (.inl x0)), .inl x1] rfl (Nat.le_of_ble_eq_true rfl) rfl (fun p e s m args below meth c X => ?_)
  unfold w_M_plain at hw
  refine qx_aload_n (x := x0) X d_M_plain_0 rfl 0 rfl ?_
  obtain ⟨g1, hw⟩ := hw
  refine qx_getR X qcls12 g1 23 (by decide) rfl wf_M_46 d_M_plain_1 ?_
  refine qx_iload_n (x := x1) X d_M_plain_4 rfl 1 rfl ?_
  refine qx_iconst (v := (0 : Int32)) X d_M_plain_5 (by decide) ?_
  obtain ⟨g2, hw⟩ := hw
  refine qx_ist X g2 d_M_plain_6 ?_
  refine qx_toph (fun h3 eh3 => ?_)
  have hw := hw h3 eh3
  refine qx_aload_n (x := x0) X d_M_plain_7 rfl 0 rfl ?_
  obtain ⟨g4, hw⟩ := hw
  refine qx_getR X qcls12 g4 26 (by decide) rfl wf_M_55 d_M_plain_8 ?_
  refine qx_iload_n (x := x1) X d_M_plain_11 rfl 1 rfl ?_
  refine qx_iconst (v := (0 : Int32)) X d_M_plain_12 (by decide) ?_
  obtain ⟨g5, hw⟩ := hw
  refine qx_ist X g5 d_M_plain_13 ?_
  refine qx_toph (fun h6 eh6 => ?_)
  have hw := hw h6 eh6
  refine qx_aload_n (x := x0) X d_M_plain_14 rfl 0 rfl ?_
  obtain ⟨g7, hw⟩ := hw
  refine qx_getR X qcls12 g7 30 (by decide) rfl wf_M_67 d_M_plain_15 ?_
  refine qx_iload_n (x := x1) X d_M_plain_18 rfl 1 rfl ?_
  refine qx_iconst (v := (0 : Int32)) X d_M_plain_19 (by decide) ?_
  obtain ⟨g8, hw⟩ := hw
  refine qx_ist X g8 d_M_plain_20 ?_
  refine qx_toph (fun h9 eh9 => ?_)
  have hw := hw h9 eh9
  refine qx_aload_n (x := x0) X d_M_plain_21 rfl 0 rfl ?_
  obtain ⟨g10, hw⟩ := hw
  refine qx_getR X qcls12 g10 31 (by decide) rfl wf_M_70 d_M_plain_22 ?_
  refine qx_iload_n (x := x1) X d_M_plain_25 rfl 1 rfl ?_
  refine qx_iconst (v := (0 : Int32)) X d_M_plain_26 (by decide) ?_
  obtain ⟨g11, hw⟩ := hw
  refine qx_ist X g11 d_M_plain_27 ?_
  refine qx_toph (fun h12 eh12 => ?_)
  have hw := hw h12 eh12
  refine qx_aload_n (x := x0) X d_M_plain_28 rfl 0 rfl ?_
  obtain ⟨g13, hw⟩ := hw
  refine qx_getR X qcls12 g13 32 (by decide) rfl wf_M_73 d_M_plain_29 ?_
  refine qx_iload_n (x := x1) X d_M_plain_32 rfl 1 rfl ?_
  refine qx_iconst (v := (0 : Int32)) X d_M_plain_33 (by decide) ?_
  obtain ⟨g14, hw⟩ := hw
  refine qx_ist X g14 d_M_plain_34 ?_
  refine qx_toph (fun h15 eh15 => ?_)
  have hw := hw h15 eh15
  refine qx_iconst (v := (0 : Int32)) X d_M_plain_35 (by decide) ?_
  refine qx_istore_n (L' := [(2, .inl (0 : Int32)), (0, .inr (.inr (.inl x0))), (1, .inl x1)]) X d_M_plain_36 rfl (by decide) rfl ?_
  refine qx_sub [1, 2, 0] rfl ?_
  refine t_M_plain_37 X N N x0 x1 (0 : Int32) h15 Q _ hw (fun x16 x17 h18 hw => ?_)
  refine qx_iconst (v := (0 : Int32)) X d_M_plain_62 (by decide) ?_
  refine qx_istore_n (L' := [(2, .inl (0 : Int32)), (0, .inr (.inr (.inl x16))), (1, .inl x17)]) X d_M_plain_63 rfl (by decide) rfl ?_
  refine qx_sub [1, 2, 0] rfl ?_
  exact t_M_plain_64 X N N x16 x17 (0 : Int32) h18 Q  hw 
set_option maxRecDepth 4000 in
theorem t_M_appends {adK adV : Nat → Nat} (l : Launch) (D : va_G) (cy : Nat → ClassId) (b : Nat) (N : Nat) (x0 : Int64) (x2 : Int32) (h : qH) (Q : Int64 → qH → Prop) (hw : w_M_appends N x0 x2 h Q) : Met l y_M_appends (Cond.code y_M_appends prog_14_method_9_code 3 (some .long) :: qT) (qrm 0 0 0 0) (qPc D cy b adK adV h [.long x0, .int x2]) (qQc D cy b qrJ Q) 0 0 (qA b) := by
  refine qmet (L0 := [(0, .inr (.inl x0)), (2, .inl x2)]) qm_M_appends (plainFor_of_name (by decide)) [.inr (.inl x0), .inl x2] rfl (Nat.le_of_ble_eq_true rfl) rfl (fun p e s m args below meth c X => ?_)
  unfold w_M_appends at hw
  refine qx_iload_n (x := x2) X d_M_appends_0 rfl 1 rfl ?_
  refine qx_if_ne X 8 d_M_appends_1 (by decide) (fun q1 => ?_) (fun q1 => ?_)
  · have hw := hw.1 q1
    refine qx_ldc2 (v := (27 : Int64)) X wk_M_187 d_M_appends_8 ?_
    refine qx_lload_n (x := x0) X d_M_appends_11 rfl 0 rfl ?_
    refine qx_lmul X d_M_appends_12 ?_
    refine qx_iload_n (x := x2) X d_M_appends_13 rfl 1 rfl ?_
    refine qx_bipush (v := (97 : Int32)) X d_M_appends_14 (by decide) ?_
    refine qx_isub X d_M_appends_16 ?_
    refine qx_iconst (v := (1 : Int32)) X d_M_appends_17 (by decide) ?_
    refine qx_iadd X d_M_appends_18 ?_
    refine qx_i2l X d_M_appends_19 ?_
    refine qx_ladd X d_M_appends_20 ?_
    exact qx_lret X hw (Nat.le_refl 0) (Nat.le_refl 0) rfl d_M_appends_21
  · have hw := hw.2 q1
    refine qx_lload_n (x := x0) X d_M_appends_4 rfl 0 rfl ?_
    refine qx_goto X 21 d_M_appends_5 (by decide) ?_
    exact qx_lret X hw (Nat.le_refl 0) (Nat.le_refl 0) rfl d_M_appends_21
set_option maxRecDepth 4000 in
theorem t_M_word {adK adV : Nat → Nat} (l : Launch) (D : va_G) (cy : Nat → ClassId) (b : Nat) (N : Nat) (x0 : Int32) (x1 : Int32) (x2 : Int32) (x3 : Int32) (x4 : Int32) (x5 : Int32) (x6 : Int32) (h : qH) (Q : Int64 → qH → Prop) (hw : w_M_word N x0 x1 x2 x3 x4 x5 x6 h Q) : Met l y_M_word (Cond.code y_M_word prog_14_method_10_code 7 (some .long) :: qT) (qrm 1 0 0 22) (qPc D cy b adK adV h [.int x0, .int x1, .int x2, .int x3, .int x4, .int x5, .int x6]) (qQc D cy b qrJ Q) 0 0 (qA b) := by
  refine qmet (L0 := [(0, .inl x0), (1, .inl x1), (2, .inl x2), (3, .inl x3), (4, .inl x4), (5, .inl x5), (6, .inl x6)]) qm_M_word (plainFor_of_name (by decide)) [.inl x0, .inl x1, .inl x2, .inl x3, .inl x4, .inl x5, .inl x6] rfl (Nat.le_of_ble_eq_true rfl) rfl (fun p e s m args below meth c X => ?_)
  unfold w_M_word at hw
  refine qx_lconst (v := (0 : Int64)) X d_M_word_0 (by decide) ?_
  refine qx_iload_n (x := x0) X d_M_word_1 rfl 0 rfl ?_
  refine qx_callSJ (st := []) (As := [.long (0 : Int64), .int x0]) X (t_M_appends (adK := adK) (adV := adV) l D cy b N (0 : Int64) x0 h _ hw) qm_M_appends wm_M_189 wi_M_appends rfl rfl rfl ⟨Nat.le_of_ble_eq_true rfl, Nat.le_of_ble_eq_true rfl⟩ ⟨Nat.le_refl 0, Nat.le_refl 0⟩ (Nat.le_of_ble_eq_true rfl) rfl d_M_word_2 (fun r1 h2 hw => ?_)
  refine qx_iload_n (x := x1) X d_M_word_5 rfl 1 rfl ?_
  refine qx_callSJ (st := []) (As := [.long r1, .int x1]) X (t_M_appends (adK := adK) (adV := adV) l D cy b N r1 x1 h2 _ hw) qm_M_appends wm_M_189 wi_M_appends rfl rfl rfl ⟨Nat.le_of_ble_eq_true rfl, Nat.le_of_ble_eq_true rfl⟩ ⟨Nat.le_refl 0, Nat.le_refl 0⟩ (Nat.le_of_ble_eq_true rfl) rfl d_M_word_6 (fun r3 h4 hw => ?_)
  refine qx_iload_n (x := x2) X d_M_word_9 rfl 2 rfl ?_
  refine qx_callSJ (st := []) (As := [.long r3, .int x2]) X (t_M_appends (adK := adK) (adV := adV) l D cy b N r3 x2 h4 _ hw) qm_M_appends wm_M_189 wi_M_appends rfl rfl rfl ⟨Nat.le_of_ble_eq_true rfl, Nat.le_of_ble_eq_true rfl⟩ ⟨Nat.le_refl 0, Nat.le_refl 0⟩ (Nat.le_of_ble_eq_true rfl) rfl d_M_word_10 (fun r5 h6 hw => ?_)
  refine qx_iload_n (x := x3) X d_M_word_13 rfl 3 rfl ?_
  refine qx_callSJ (st := []) (As := [.long r5, .int x3]) X (t_M_appends (adK := adK) (adV := adV) l D cy b N r5 x3 h6 _ hw) qm_M_appends wm_M_189 wi_M_appends rfl rfl rfl ⟨Nat.le_of_ble_eq_true rfl, Nat.le_of_ble_eq_true rfl⟩ ⟨Nat.le_refl 0, Nat.le_refl 0⟩ (Nat.le_of_ble_eq_true rfl) rfl d_M_word_14 (fun r7 h8 hw => ?_)
  refine qx_iload (x := x4) X d_M_word_17 4 rfl ?_
  refine qx_callSJ (st := []) (As := [.long r7, .int x4]) X (t_M_appends (adK := adK) (adV := adV) l D cy b N r7 x4 h8 _ hw) qm_M_appends wm_M_189 wi_M_appends rfl rfl rfl ⟨Nat.le_of_ble_eq_true rfl, Nat.le_of_ble_eq_true rfl⟩ ⟨Nat.le_refl 0, Nat.le_refl 0⟩ (Nat.le_of_ble_eq_true rfl) rfl d_M_word_19 (fun r9 h10 hw => ?_)
  refine qx_iload (x := x5) X d_M_word_22 5 rfl ?_
  refine qx_callSJ (st := []) (As := [.long r9, .int x5]) X (t_M_appends (adK := adK) (adV := adV) l D cy b N r9 x5 h10 _ hw) qm_M_appends wm_M_189 wi_M_appends rfl rfl rfl ⟨Nat.le_of_ble_eq_true rfl, Nat.le_of_ble_eq_true rfl⟩ ⟨Nat.le_refl 0, Nat.le_refl 0⟩ (Nat.le_of_ble_eq_true rfl) rfl d_M_word_24 (fun r11 h12 hw => ?_)
  refine qx_iload (x := x6) X d_M_word_27 6 rfl ?_
  refine qx_callSJ (st := []) (As := [.long r11, .int x6]) X (t_M_appends (adK := adK) (adV := adV) l D cy b N r11 x6 h12 _ hw) qm_M_appends wm_M_189 wi_M_appends rfl rfl rfl ⟨Nat.le_of_ble_eq_true rfl, Nat.le_of_ble_eq_true rfl⟩ ⟨Nat.le_refl 0, Nat.le_refl 0⟩ (Nat.le_of_ble_eq_true rfl) rfl d_M_word_29 (fun r13 h14 hw => ?_)
  exact qx_lret X hw (Nat.le_refl 0) (Nat.le_refl 0) rfl d_M_word_32
set_option maxRecDepth 4000 in
theorem t_M_put_3 (X : qX p s m args meth c D cy b adK adV prog_14_method_4_code "CoatHangersModel" 3 (none) "put") (N k : Nat) (x0 : Nat) (x1 : Int32) (x2 : Int32) (h : qH) (Q : qH → Prop)  (hw : w_M_put_3 N k x0 x1 x2 h Q ) : qW p l e (qrm 0 0 0 0) s m args below meth c D cy b 3 0 0 (MQ below (qQc D cy b qrV (fun (_ : Unit) h => Q h)) args s 0 0 (qA b)) 3 [(0, .inr (.inr (.inl x0))), (1, .inl x1), (2, .inl x2)] [] h := by
  induction k generalizing x0 x1 x2 h with
  | zero => exact hw.elim
  | succ k ih =>
    refine qx_iload_n (x := x2) X d_M_put_3 rfl 2 rfl ?_
    refine qx_if_lt X 36 d_M_put_4 (by decide) (fun q1 => ?_) (fun q1 => ?_)
    · have hw := hw.1 q1
      exact qx_vret X hw (Nat.le_refl 0) (Nat.le_refl 0) rfl d_M_put_36
    · have hw := hw.2 q1
      refine qx_aload_n (x := x0) X d_M_put_7 rfl 0 rfl ?_
      obtain ⟨g2, hw⟩ := hw
      refine qx_getR X qcls12 g2 1 (by decide) rfl wf_M_13 d_M_put_8 ?_
      refine qx_aload_n (x := x0) X d_M_put_11 rfl 0 rfl ?_
      refine qx_getI X qcls12 g2 2 (by decide) rfl wf_M_178 d_M_put_12 ?_
      refine qx_iload_n (x := x1) X d_M_put_15 rfl 1 rfl ?_
      refine qx_iload_n (x := x2) X d_M_put_16 rfl 2 rfl ?_
      refine qx_ishr X d_M_put_17 ?_
      refine qx_i2b X d_M_put_18 ?_
      obtain ⟨g3, hw⟩ := hw
      refine qx_bst X g3 d_M_put_19 ?_
      refine qx_toph (fun h4 eh4 => ?_)
      have hw := hw h4 eh4
      refine qx_aload_n (x := x0) X d_M_put_20 rfl 0 rfl ?_
      refine qx_dup X (qr_cat _ _) d_M_put_21 ?_
      obtain ⟨g5, hw⟩ := hw
      refine qx_getI X qcls12 g5 2 (by decide) rfl wf_M_178 d_M_put_22 ?_
      refine qx_iconst (v := (1 : Int32)) X d_M_put_25 (by decide) ?_
      refine qx_iadd X d_M_put_26 ?_
      refine qx_putI X qcls12 g5 2 (by decide) rfl wf_M_178 rfl rfl rfl d_M_put_27 ?_
      refine qx_toph (fun h6 eh6 => ?_)
      have hw := hw h6 eh6
      refine qx_iinc (v := (x2 + (-8 : Int32))) (L' := [(2, .inl (x2 + (-8 : Int32))), (0, .inr (.inr (.inl x0))), (1, .inl x1)]) X d_M_put_30 2 rfl rfl (by decide) rfl ?_
      refine qx_goto X 3 d_M_put_33 (by decide) ?_
      refine qx_sub [1, 2, 0] rfl ?_
      exact ih x0 x1 (x2 + (-8 : Int32)) h6 hw
set_option maxRecDepth 4000 in
theorem t_M_put {adK adV : Nat → Nat} (l : Launch) (D : va_G) (cy : Nat → ClassId) (b : Nat) (N : Nat) (x0 : Nat) (x1 : Int32) (h : qH) (Q : qH → Prop) (hw : w_M_put N x0 x1 h Q) : Met l y_M_put (Cond.code y_M_put prog_14_method_4_code 3 (none) :: qT) (qrm 0 0 0 0) (qPc D cy b adK adV h [qr b x0, .int x1]) (qQc D cy b qrV (fun (_ : Unit) h => Q h)) 0 0 (qA b) := by
  refine qmet (L0 := [(0, .inr (.inr (.inl x0))), (1, .inl x1)]) qm_M_put (plainFor_of_name (by decide)) [.inr (.inr (.inl x0)), .inl x1] rfl (Nat.le_of_ble_eq_true rfl) rfl (fun p e s m args below meth c X => ?_)
  unfold w_M_put at hw
  refine qx_bipush (v := (24 : Int32)) X d_M_put_0 (by decide) ?_
  refine qx_istore_n (L' := [(2, .inl (24 : Int32)), (0, .inr (.inr (.inl x0))), (1, .inl x1)]) X d_M_put_2 rfl (by decide) rfl ?_
  refine qx_sub [1, 2, 0] rfl ?_
  exact t_M_put_3 X N N x0 x1 (24 : Int32) h Q  hw 
set_option maxRecDepth 4000 in
theorem t_M_feed {adK adV : Nat → Nat} (l : Launch) (D : va_G) (cy : Nat → ClassId) (b : Nat) (N : Nat) (x0 : Nat) (x1 : Int32) (x2 : Int32) (x3 : Int32) (x4 : Int32) (x5 : Int32) (h : qH) (Q : Int32 → qH → Prop) (hw : w_M_feed N x0 x1 x2 x3 x4 x5 h Q) : Met l y_M_feed (Cond.code y_M_feed prog_14_method_3_code 6 (some .int) :: qT) (qrm 1 0 0 22) (qPc D cy b adK adV h [qr b x0, .int x1, .int x2, .int x3, .int x4, .int x5]) (qQc D cy b qrI Q) 0 0 (qA b) := by
  refine qmet (L0 := [(0, .inr (.inr (.inl x0))), (1, .inl x1), (2, .inl x2), (3, .inl x3), (4, .inl x4), (5, .inl x5)]) qm_M_feed (plainFor_of_name (by decide)) [.inr (.inr (.inl x0)), .inl x1, .inl x2, .inl x3, .inl x4, .inl x5] rfl (Nat.le_of_ble_eq_true rfl) rfl (fun p e s m args below meth c X => ?_)
  unfold w_M_feed at hw
  refine qx_aload_n (x := x0) X d_M_feed_0 rfl 0 rfl ?_
  obtain ⟨g1, hw⟩ := hw
  refine qx_getI X qcls12 g1 2 (by decide) rfl wf_M_178 d_M_feed_1 ?_
  refine qx_bipush (v := (20 : Int32)) X d_M_feed_4 (by decide) ?_
  refine qx_iadd X d_M_feed_6 ?_
  refine qx_sipush (v := (2000 : Int32)) X d_M_feed_7 (by decide) ?_
  refine qx_icmp_le X 15 d_M_feed_10 (by decide) (fun q2 => ?_) (fun q2 => ?_)
  · have hw := hw.1 q2
    refine qx_aload_n (x := x0) X d_M_feed_15 rfl 0 rfl ?_
    refine qx_iload_n (x := x1) X d_M_feed_16 rfl 1 rfl ?_
    refine qx_callVV (st := []) (As := [.int x1]) X (t_M_put (adK := adK) (adV := adV) l D cy b N x0 x1 h _ hw) qm_M_put wm_M_181 wi_M_put wl_M_put qcls12 g1 rfl rfl rfl ⟨Nat.le_of_ble_eq_true rfl, Nat.le_of_ble_eq_true rfl⟩ ⟨Nat.le_refl 0, Nat.le_refl 0⟩ (Nat.le_of_ble_eq_true rfl) rfl d_M_feed_17 (fun h3 hw => ?_)
    refine qx_aload_n (x := x0) X d_M_feed_20 rfl 0 rfl ?_
    refine qx_iload_n (x := x2) X d_M_feed_21 rfl 2 rfl ?_
    obtain ⟨g4, hw⟩ := hw
    refine qx_callVV (st := []) (As := [.int x2]) X (t_M_put (adK := adK) (adV := adV) l D cy b N x0 x2 h3 _ hw) qm_M_put wm_M_181 wi_M_put wl_M_put qcls12 g4 rfl rfl rfl ⟨Nat.le_of_ble_eq_true rfl, Nat.le_of_ble_eq_true rfl⟩ ⟨Nat.le_refl 0, Nat.le_refl 0⟩ (Nat.le_of_ble_eq_true rfl) rfl d_M_feed_22 (fun h5 hw => ?_)
    refine qx_aload_n (x := x0) X d_M_feed_25 rfl 0 rfl ?_
    refine qx_iload_n (x := x3) X d_M_feed_26 rfl 3 rfl ?_
    obtain ⟨g6, hw⟩ := hw
    refine qx_callVV (st := []) (As := [.int x3]) X (t_M_put (adK := adK) (adV := adV) l D cy b N x0 x3 h5 _ hw) qm_M_put wm_M_181 wi_M_put wl_M_put qcls12 g6 rfl rfl rfl ⟨Nat.le_of_ble_eq_true rfl, Nat.le_of_ble_eq_true rfl⟩ ⟨Nat.le_refl 0, Nat.le_refl 0⟩ (Nat.le_of_ble_eq_true rfl) rfl d_M_feed_27 (fun h7 hw => ?_)
    refine qx_aload_n (x := x0) X d_M_feed_30 rfl 0 rfl ?_
    refine qx_iload (x := x4) X d_M_feed_31 4 rfl ?_
    obtain ⟨g8, hw⟩ := hw
    refine qx_callVV (st := []) (As := [.int x4]) X (t_M_put (adK := adK) (adV := adV) l D cy b N x0 x4 h7 _ hw) qm_M_put wm_M_181 wi_M_put wl_M_put qcls12 g8 rfl rfl rfl ⟨Nat.le_of_ble_eq_true rfl, Nat.le_of_ble_eq_true rfl⟩ ⟨Nat.le_refl 0, Nat.le_refl 0⟩ (Nat.le_of_ble_eq_true rfl) rfl d_M_feed_33 (fun h9 hw => ?_)
    refine qx_aload_n (x := x0) X d_M_feed_36 rfl 0 rfl ?_
    refine qx_iload (x := x5) X d_M_feed_37 5 rfl ?_
    obtain ⟨g10, hw⟩ := hw
    refine qx_callVV (st := []) (As := [.int x5]) X (t_M_put (adK := adK) (adV := adV) l D cy b N x0 x5 h9 _ hw) qm_M_put wm_M_181 wi_M_put wl_M_put qcls12 g10 rfl rfl rfl ⟨Nat.le_of_ble_eq_true rfl, Nat.le_of_ble_eq_true rfl⟩ ⟨Nat.le_refl 0, Nat.le_refl 0⟩ (Nat.le_of_ble_eq_true rfl) rfl d_M_feed_39 (fun h11 hw => ?_)
    refine qx_aload_n (x := x0) X d_M_feed_42 rfl 0 rfl ?_
    obtain ⟨g12, hw⟩ := hw
    refine qx_getI X qcls12 g12 2 (by decide) rfl wf_M_178 d_M_feed_43 ?_
    exact qx_iret X hw (Nat.le_refl 0) (Nat.le_refl 0) rfl d_M_feed_46
  · have hw := hw.2 q2
    refine qx_iconst (v := (-1 : Int32)) X d_M_feed_13 (by decide) ?_
    exact qx_iret X hw (Nat.le_refl 0) (Nat.le_refl 0) rfl d_M_feed_14
set_option maxRecDepth 4000 in
theorem t_M_back {adK adV : Nat → Nat} (l : Launch) (D : va_G) (cy : Nat → ClassId) (b : Nat) (N : Nat) (x0 : Nat) (x1 : Int32) (h : qH) (Q : Int32 → qH → Prop) (hw : w_M_back N x0 x1 h Q) : Met l y_M_back (Cond.code y_M_back prog_14_method_5_code 2 (some .int) :: qT) (qrm 0 0 0 0) (qPc D cy b adK adV h [qr b x0, .int x1]) (qQc D cy b qrI Q) 0 0 (qA b) := by
  refine qmet (L0 := [(0, .inr (.inr (.inl x0))), (1, .inl x1)]) qm_M_back (plainFor_of_name (by decide)) [.inr (.inr (.inl x0)), .inl x1] rfl (Nat.le_of_ble_eq_true rfl) rfl (fun p e s m args below meth c X => ?_)
  unfold w_M_back at hw
  refine qx_iload_n (x := x1) X d_M_back_0 rfl 1 rfl ?_
  refine qx_if_lt X 12 d_M_back_1 (by decide) (fun q1 => ?_) (fun q1 => ?_)
  · have hw := hw.1 q1
    refine qx_iconst (v := (-1 : Int32)) X d_M_back_12 (by decide) ?_
    exact qx_iret X hw (Nat.le_refl 0) (Nat.le_refl 0) rfl d_M_back_13
  · have hw := hw.2 q1
    refine qx_iload_n (x := x1) X d_M_back_4 rfl 1 rfl ?_
    refine qx_aload_n (x := x0) X d_M_back_5 rfl 0 rfl ?_
    obtain ⟨g2, hw⟩ := hw
    refine qx_getI X qcls12 g2 2 (by decide) rfl wf_M_178 d_M_back_6 ?_
    refine qx_icmp_le X 14 d_M_back_9 (by decide) (fun q3 => ?_) (fun q3 => ?_)
    · have hw := hw.1 q3
      refine qx_aload_n (x := x0) X d_M_back_14 rfl 0 rfl ?_
      refine qx_dup X (qr_cat _ _) d_M_back_15 ?_
      refine qx_getI X qcls12 g2 2 (by decide) rfl wf_M_178 d_M_back_16 ?_
      refine qx_iload_n (x := x1) X d_M_back_19 rfl 1 rfl ?_
      refine qx_isub X d_M_back_20 ?_
      refine qx_putI X qcls12 g2 2 (by decide) rfl wf_M_178 rfl rfl rfl d_M_back_21 ?_
      refine qx_toph (fun h4 eh4 => ?_)
      have hw := hw h4 eh4
      refine qx_aload_n (x := x0) X d_M_back_24 rfl 0 rfl ?_
      obtain ⟨g5, hw⟩ := hw
      refine qx_getI X qcls12 g5 2 (by decide) rfl wf_M_178 d_M_back_25 ?_
      exact qx_iret X hw (Nat.le_refl 0) (Nat.le_refl 0) rfl d_M_back_28
    · have hw := hw.2 q3
      refine qx_iconst (v := (-1 : Int32)) X d_M_back_12 (by decide) ?_
      exact qx_iret X hw (Nat.le_refl 0) (Nat.le_refl 0) rfl d_M_back_13
set_option maxRecDepth 4000 in
theorem t_M_byteAt {adK adV : Nat → Nat} (l : Launch) (D : va_G) (cy : Nat → ClassId) (b : Nat) (N : Nat) (x0 : Nat) (x1 : Int32) (h : qH) (Q : Int32 → qH → Prop) (hw : w_M_byteAt N x0 x1 h Q) : Met l y_M_byteAt (Cond.code y_M_byteAt prog_14_method_6_code 2 (some .int) :: qT) (qrm 0 0 0 0) (qPc D cy b adK adV h [qr b x0, .int x1]) (qQc D cy b qrI Q) 0 0 (qA b) := by
  refine qmet (L0 := [(0, .inr (.inr (.inl x0))), (1, .inl x1)]) qm_M_byteAt (plainFor_of_name (by decide)) [.inr (.inr (.inl x0)), .inl x1] rfl (Nat.le_of_ble_eq_true rfl) rfl (fun p e s m args below meth c X => ?_)
  unfold w_M_byteAt at hw
  refine qx_iload_n (x := x1) X d_M_byteAt_0 rfl 1 rfl ?_
  refine qx_aload_n (x := x0) X d_M_byteAt_1 rfl 0 rfl ?_
  obtain ⟨g1, hw⟩ := hw
  refine qx_getI X qcls12 g1 4 (by decide) rfl wf_M_184 d_M_byteAt_2 ?_
  refine qx_icmp_ge X 21 d_M_byteAt_5 (by decide) (fun q2 => ?_) (fun q2 => ?_)
  · have hw := hw.1 q2
    refine qx_iconst (v := (0 : Int32)) X d_M_byteAt_21 (by decide) ?_
    exact qx_iret X hw (Nat.le_refl 0) (Nat.le_refl 0) rfl d_M_byteAt_22
  · have hw := hw.2 q2
    refine qx_aload_n (x := x0) X d_M_byteAt_8 rfl 0 rfl ?_
    refine qx_getR X qcls12 g1 3 (by decide) rfl wf_M_17 d_M_byteAt_9 ?_
    refine qx_iload_n (x := x1) X d_M_byteAt_12 rfl 1 rfl ?_
    obtain ⟨g3, hw⟩ := hw
    refine qx_bld X g3 d_M_byteAt_13 ?_
    refine qx_sipush (v := (255 : Int32)) X d_M_byteAt_14 (by decide) ?_
    refine qx_iand X d_M_byteAt_17 ?_
    refine qx_goto X 22 d_M_byteAt_18 (by decide) ?_
    exact qx_iret X hw (Nat.le_refl 0) (Nat.le_refl 0) rfl d_M_byteAt_22
set_option maxRecDepth 4000 in
theorem t_M_isDigit {adK adV : Nat → Nat} (l : Launch) (D : va_G) (cy : Nat → ClassId) (b : Nat) (N : Nat) (x0 : Int32) (h : qH) (Q : Int32 → qH → Prop) (hw : w_M_isDigit N x0 h Q) : Met l y_M_isDigit (Cond.code y_M_isDigit prog_14_method_7_code 1 (some .boolean) :: qT) (qrm 0 0 0 0) (qPc D cy b adK adV h [.int x0]) (qQc D cy b qrI Q) 0 0 (qA b) := by
  refine qmet (L0 := [(0, .inl x0)]) qm_M_isDigit (plainFor_of_name (by decide)) [.inl x0] rfl (Nat.le_of_ble_eq_true rfl) rfl (fun p e s m args below meth c X => ?_)
  unfold w_M_isDigit at hw
  refine qx_iload_n (x := x0) X d_M_isDigit_0 rfl 0 rfl ?_
  refine qx_bipush (v := (48 : Int32)) X d_M_isDigit_1 (by decide) ?_
  refine qx_icmp_lt X 16 d_M_isDigit_3 (by decide) (fun q1 => ?_) (fun q1 => ?_)
  · have hw := hw.1 q1
    refine qx_iconst (v := (0 : Int32)) X d_M_isDigit_16 (by decide) ?_
    exact qx_zret X hw (Nat.le_refl 0) (Nat.le_refl 0) rfl d_M_isDigit_17
  · have hw := hw.2 q1
    refine qx_iload_n (x := x0) X d_M_isDigit_6 rfl 0 rfl ?_
    refine qx_bipush (v := (57 : Int32)) X d_M_isDigit_7 (by decide) ?_
    refine qx_icmp_gt X 16 d_M_isDigit_9 (by decide) (fun q2 => ?_) (fun q2 => ?_)
    · have hw := hw.1 q2
      refine qx_iconst (v := (0 : Int32)) X d_M_isDigit_16 (by decide) ?_
      exact qx_zret X hw (Nat.le_refl 0) (Nat.le_refl 0) rfl d_M_isDigit_17
    · have hw := hw.2 q2
      refine qx_iconst (v := (1 : Int32)) X d_M_isDigit_12 (by decide) ?_
      refine qx_goto X 17 d_M_isDigit_13 (by decide) ?_
      exact qx_zret X hw (Nat.le_refl 0) (Nat.le_refl 0) rfl d_M_isDigit_17
set_option maxRecDepth 4000 in
theorem t_M_isLetter {adK adV : Nat → Nat} (l : Launch) (D : va_G) (cy : Nat → ClassId) (b : Nat) (N : Nat) (x0 : Int32) (h : qH) (Q : Int32 → qH → Prop) (hw : w_M_isLetter N x0 h Q) : Met l y_M_isLetter (Cond.code y_M_isLetter prog_14_method_8_code 1 (some .boolean) :: qT) (qrm 0 0 0 0) (qPc D cy b adK adV h [.int x0]) (qQc D cy b qrI Q) 0 0 (qA b) := by
  refine qmet (L0 := [(0, .inl x0)]) qm_M_isLetter (plainFor_of_name (by decide)) [.inl x0] rfl (Nat.le_of_ble_eq_true rfl) rfl (fun p e s m args below meth c X => ?_)
  unfold w_M_isLetter at hw
  refine qx_iload_n (x := x0) X d_M_isLetter_0 rfl 0 rfl ?_
  refine qx_bipush (v := (97 : Int32)) X d_M_isLetter_1 (by decide) ?_
  refine qx_icmp_lt X 16 d_M_isLetter_3 (by decide) (fun q1 => ?_) (fun q1 => ?_)
  · have hw := hw.1 q1
    refine qx_iconst (v := (0 : Int32)) X d_M_isLetter_16 (by decide) ?_
    exact qx_zret X hw (Nat.le_refl 0) (Nat.le_refl 0) rfl d_M_isLetter_17
  · have hw := hw.2 q1
    refine qx_iload_n (x := x0) X d_M_isLetter_6 rfl 0 rfl ?_
    refine qx_bipush (v := (122 : Int32)) X d_M_isLetter_7 (by decide) ?_
    refine qx_icmp_gt X 16 d_M_isLetter_9 (by decide) (fun q2 => ?_) (fun q2 => ?_)
    · have hw := hw.1 q2
      refine qx_iconst (v := (0 : Int32)) X d_M_isLetter_16 (by decide) ?_
      exact qx_zret X hw (Nat.le_refl 0) (Nat.le_refl 0) rfl d_M_isLetter_17
    · have hw := hw.2 q2
      refine qx_iconst (v := (1 : Int32)) X d_M_isLetter_12 (by decide) ?_
      refine qx_goto X 17 d_M_isLetter_13 (by decide) ?_
      exact qx_zret X hw (Nat.le_refl 0) (Nat.le_refl 0) rfl d_M_isLetter_17
set_option maxRecDepth 4000 in
theorem t_M_token {adK adV : Nat → Nat} (l : Launch) (D : va_G) (cy : Nat → ClassId) (b : Nat) (N : Nat) (x0 : Nat) (x1 : Int32) (x2 : Int32) (x3 : Int32) (x4 : Int64) (h : qH) (Q : qH → Prop) (hw : w_M_token N x0 x1 x2 x3 x4 h Q) : Met l y_M_token (Cond.code y_M_token prog_14_method_11_code 6 (none) :: qT) (qrm 0 0 0 0) (qPc D cy b adK adV h [qr b x0, .int x1, .int x2, .int x3, .long x4]) (qQc D cy b qrV (fun (_ : Unit) h => Q h)) 0 0 (qA b) := by
  refine qmet (L0 := [(0, .inr (.inr (.inl x0))), (1, .inl x1), (2, .inl x2), (3, .inl x3), (4, .inr (.inl x4))]) qm_M_token (plainFor_of_name (by decide)) [.inr (.inr (.inl x0)), .inl x1, .inl x2, .inl x3, .inr (.inl x4)] rfl (Nat.le_of_ble_eq_true rfl) rfl (fun p e s m args below meth c X => ?_)
  unfold w_M_token at hw
  refine qx_aload_n (x := x0) X d_M_token_0 rfl 0 rfl ?_
  obtain ⟨g1, hw⟩ := hw
  refine qx_getR X qcls12 g1 5 (by decide) rfl wf_M_20 d_M_token_1 ?_
  refine qx_aload_n (x := x0) X d_M_token_4 rfl 0 rfl ?_
  refine qx_getI X qcls12 g1 10 (by decide) rfl wf_M_193 d_M_token_5 ?_
  refine qx_iload_n (x := x1) X d_M_token_8 rfl 1 rfl ?_
  obtain ⟨g2, hw⟩ := hw
  refine qx_ist X g2 d_M_token_9 ?_
  refine qx_toph (fun h3 eh3 => ?_)
  have hw := hw h3 eh3
  refine qx_aload_n (x := x0) X d_M_token_10 rfl 0 rfl ?_
  obtain ⟨g4, hw⟩ := hw
  refine qx_getR X qcls12 g4 6 (by decide) rfl wf_M_24 d_M_token_11 ?_
  refine qx_aload_n (x := x0) X d_M_token_14 rfl 0 rfl ?_
  refine qx_getI X qcls12 g4 10 (by decide) rfl wf_M_193 d_M_token_15 ?_
  refine qx_iload_n (x := x2) X d_M_token_18 rfl 2 rfl ?_
  obtain ⟨g5, hw⟩ := hw
  refine qx_ist X g5 d_M_token_19 ?_
  refine qx_toph (fun h6 eh6 => ?_)
  have hw := hw h6 eh6
  refine qx_aload_n (x := x0) X d_M_token_20 rfl 0 rfl ?_
  obtain ⟨g7, hw⟩ := hw
  refine qx_getR X qcls12 g7 7 (by decide) rfl wf_M_27 d_M_token_21 ?_
  refine qx_aload_n (x := x0) X d_M_token_24 rfl 0 rfl ?_
  refine qx_getI X qcls12 g7 10 (by decide) rfl wf_M_193 d_M_token_25 ?_
  refine qx_iload_n (x := x3) X d_M_token_28 rfl 3 rfl ?_
  obtain ⟨g8, hw⟩ := hw
  refine qx_ist X g8 d_M_token_29 ?_
  refine qx_toph (fun h9 eh9 => ?_)
  have hw := hw h9 eh9
  refine qx_aload_n (x := x0) X d_M_token_30 rfl 0 rfl ?_
  obtain ⟨g10, hw⟩ := hw
  refine qx_getR X qcls12 g10 8 (by decide) rfl wf_M_30 d_M_token_31 ?_
  refine qx_aload_n (x := x0) X d_M_token_34 rfl 0 rfl ?_
  refine qx_getI X qcls12 g10 10 (by decide) rfl wf_M_193 d_M_token_35 ?_
  refine qx_lload (x := x4) X d_M_token_38 4 rfl ?_
  obtain ⟨g11, hw⟩ := hw
  refine qx_lst X g11 d_M_token_40 ?_
  refine qx_toph (fun h12 eh12 => ?_)
  have hw := hw h12 eh12
  refine qx_aload_n (x := x0) X d_M_token_41 rfl 0 rfl ?_
  refine qx_dup X (qr_cat _ _) d_M_token_42 ?_
  obtain ⟨g13, hw⟩ := hw
  refine qx_getI X qcls12 g13 10 (by decide) rfl wf_M_193 d_M_token_43 ?_
  refine qx_iconst (v := (1 : Int32)) X d_M_token_46 (by decide) ?_
  refine qx_iadd X d_M_token_47 ?_
  refine qx_putI X qcls12 g13 10 (by decide) rfl wf_M_193 rfl rfl rfl d_M_token_48 ?_
  refine qx_toph (fun h14 eh14 => ?_)
  have hw := hw h14 eh14
  exact qx_vret X hw (Nat.le_refl 0) (Nat.le_refl 0) rfl d_M_token_51
set_option maxRecDepth 4000 in
theorem t_M_sign_85 (X : qX p s m args meth c D cy b adK adV prog_14_method_13_code "CoatHangersModel" 5 (some .int) "sign") (N : Nat) (x0 : Nat) (x1 : Int32) (x2 : Int32) (x4 : Int32) (h : qH) (Q : Int32 → qH → Prop)  (hw : w_M_sign_85 N x0 x1 x2 x4 h Q ) : qW p l e (qrm 1 0 0 25) s m args below meth c D cy b 5 0 0 (MQ below (qQc D cy b qrI Q) args s 0 0 (qA b)) 85 [(0, .inr (.inr (.inl x0))), (1, .inl x1), (2, .inl x2), (4, .inl x4)] [] h := by
  unfold w_M_sign_85 at hw
  refine qx_iload_n (x := x2) X d_M_sign_85 rfl 2 rfl ?_
  refine qx_bipush (v := (60 : Int32)) X d_M_sign_86 (by decide) ?_
  refine qx_icmp_ne X 95 d_M_sign_88 (by decide) (fun q1 => ?_) (fun q1 => ?_)
  · have hw := hw.1 q1
    refine qx_aload_n (x := x0) X d_M_sign_95 rfl 0 rfl ?_
    refine qx_iload (x := x4) X d_M_sign_96 3 rfl ?_
    refine qx_iload_n (x := x1) X d_M_sign_98 rfl 1 rfl ?_
    refine qx_iconst (v := (0 : Int32)) X d_M_sign_99 (by decide) ?_
    refine qx_lconst (v := (0 : Int64)) X d_M_sign_100 (by decide) ?_
    obtain ⟨g2, hw⟩ := hw
    refine qx_callVV (st := []) (As := [.int x4, .int x1, .int (0 : Int32), .long (0 : Int64)]) X (t_M_token (adK := adK) (adV := adV) l D cy b N x0 x4 x1 (0 : Int32) (0 : Int64) h _ hw) qm_M_token wm_M_200 wi_M_token wl_M_token qcls12 g2 rfl rfl rfl ⟨Nat.le_of_ble_eq_true rfl, Nat.le_of_ble_eq_true rfl⟩ ⟨Nat.le_refl 0, Nat.le_refl 0⟩ (Nat.le_of_ble_eq_true rfl) rfl d_M_sign_101 (fun h3 hw => ?_)
    refine qx_iconst (v := (1 : Int32)) X d_M_sign_104 (by decide) ?_
    exact qx_iret X hw (Nat.le_refl 0) (Nat.le_refl 0) rfl d_M_sign_105
  · have hw := hw.2 q1
    refine qx_bipush (v := (13 : Int32)) X d_M_sign_91 (by decide) ?_
    refine qx_istore (L' := [(4, .inl (13 : Int32)), (0, .inr (.inr (.inl x0))), (1, .inl x1), (2, .inl x2)]) X d_M_sign_93 (by decide) rfl ?_
    refine qx_aload_n (x := x0) X d_M_sign_95 rfl 1 rfl ?_
    refine qx_iload (x := (13 : Int32)) X d_M_sign_96 0 rfl ?_
    refine qx_iload_n (x := x1) X d_M_sign_98 rfl 2 rfl ?_
    refine qx_iconst (v := (0 : Int32)) X d_M_sign_99 (by decide) ?_
    refine qx_lconst (v := (0 : Int64)) X d_M_sign_100 (by decide) ?_
    obtain ⟨g4, hw⟩ := hw
    refine qx_callVV (st := []) (As := [.int (13 : Int32), .int x1, .int (0 : Int32), .long (0 : Int64)]) X (t_M_token (adK := adK) (adV := adV) l D cy b N x0 (13 : Int32) x1 (0 : Int32) (0 : Int64) h _ hw) qm_M_token wm_M_200 wi_M_token wl_M_token qcls12 g4 rfl rfl rfl ⟨Nat.le_of_ble_eq_true rfl, Nat.le_of_ble_eq_true rfl⟩ ⟨Nat.le_refl 0, Nat.le_refl 0⟩ (Nat.le_of_ble_eq_true rfl) rfl d_M_sign_101 (fun h5 hw => ?_)
    refine qx_iconst (v := (1 : Int32)) X d_M_sign_104 (by decide) ?_
    exact qx_iret X hw (Nat.le_refl 0) (Nat.le_refl 0) rfl d_M_sign_105
set_option maxRecDepth 4000 in
theorem t_M_sign_75 (X : qX p s m args meth c D cy b adK adV prog_14_method_13_code "CoatHangersModel" 5 (some .int) "sign") (N : Nat) (x0 : Nat) (x1 : Int32) (x2 : Int32) (x4 : Int32) (h : qH) (Q : Int32 → qH → Prop)  (hw : w_M_sign_75 N x0 x1 x2 x4 h Q ) : qW p l e (qrm 1 0 0 25) s m args below meth c D cy b 5 0 0 (MQ below (qQc D cy b qrI Q) args s 0 0 (qA b)) 75 [(0, .inr (.inr (.inl x0))), (1, .inl x1), (2, .inl x2), (4, .inl x4)] [] h := by
  unfold w_M_sign_75 at hw
  refine qx_iload_n (x := x2) X d_M_sign_75 rfl 2 rfl ?_
  refine qx_bipush (v := (47 : Int32)) X d_M_sign_76 (by decide) ?_
  refine qx_icmp_ne X 85 d_M_sign_78 (by decide) (fun q1 => ?_) (fun q1 => ?_)
  · have hw := hw.1 q1
    exact t_M_sign_85 X N x0 x1 x2 x4 h Q  hw 
  · have hw := hw.2 q1
    refine qx_bipush (v := (15 : Int32)) X d_M_sign_81 (by decide) ?_
    refine qx_istore (L' := [(4, .inl (15 : Int32)), (0, .inr (.inr (.inl x0))), (1, .inl x1), (2, .inl x2)]) X d_M_sign_83 (by decide) rfl ?_
    refine qx_sub [1, 2, 3, 0] rfl ?_
    exact t_M_sign_85 X N x0 x1 x2 (15 : Int32) h Q  hw 
set_option maxRecDepth 4000 in
theorem t_M_sign_65 (X : qX p s m args meth c D cy b adK adV prog_14_method_13_code "CoatHangersModel" 5 (some .int) "sign") (N : Nat) (x0 : Nat) (x1 : Int32) (x2 : Int32) (x4 : Int32) (h : qH) (Q : Int32 → qH → Prop)  (hw : w_M_sign_65 N x0 x1 x2 x4 h Q ) : qW p l e (qrm 1 0 0 25) s m args below meth c D cy b 5 0 0 (MQ below (qQc D cy b qrI Q) args s 0 0 (qA b)) 65 [(0, .inr (.inr (.inl x0))), (1, .inl x1), (2, .inl x2), (4, .inl x4)] [] h := by
  unfold w_M_sign_65 at hw
  refine qx_iload_n (x := x2) X d_M_sign_65 rfl 2 rfl ?_
  refine qx_bipush (v := (42 : Int32)) X d_M_sign_66 (by decide) ?_
  refine qx_icmp_ne X 75 d_M_sign_68 (by decide) (fun q1 => ?_) (fun q1 => ?_)
  · have hw := hw.1 q1
    exact t_M_sign_75 X N x0 x1 x2 x4 h Q  hw 
  · have hw := hw.2 q1
    refine qx_bipush (v := (10 : Int32)) X d_M_sign_71 (by decide) ?_
    refine qx_istore (L' := [(4, .inl (10 : Int32)), (0, .inr (.inr (.inl x0))), (1, .inl x1), (2, .inl x2)]) X d_M_sign_73 (by decide) rfl ?_
    refine qx_sub [1, 2, 3, 0] rfl ?_
    exact t_M_sign_75 X N x0 x1 x2 (10 : Int32) h Q  hw 
set_option maxRecDepth 4000 in
theorem t_M_sign_55 (X : qX p s m args meth c D cy b adK adV prog_14_method_13_code "CoatHangersModel" 5 (some .int) "sign") (N : Nat) (x0 : Nat) (x1 : Int32) (x2 : Int32) (x4 : Int32) (h : qH) (Q : Int32 → qH → Prop)  (hw : w_M_sign_55 N x0 x1 x2 x4 h Q ) : qW p l e (qrm 1 0 0 25) s m args below meth c D cy b 5 0 0 (MQ below (qQc D cy b qrI Q) args s 0 0 (qA b)) 55 [(0, .inr (.inr (.inl x0))), (1, .inl x1), (2, .inl x2), (4, .inl x4)] [] h := by
  unfold w_M_sign_55 at hw
  refine qx_iload_n (x := x2) X d_M_sign_55 rfl 2 rfl ?_
  refine qx_bipush (v := (45 : Int32)) X d_M_sign_56 (by decide) ?_
  refine qx_icmp_ne X 65 d_M_sign_58 (by decide) (fun q1 => ?_) (fun q1 => ?_)
  · have hw := hw.1 q1
    exact t_M_sign_65 X N x0 x1 x2 x4 h Q  hw 
  · have hw := hw.2 q1
    refine qx_bipush (v := (9 : Int32)) X d_M_sign_61 (by decide) ?_
    refine qx_istore (L' := [(4, .inl (9 : Int32)), (0, .inr (.inr (.inl x0))), (1, .inl x1), (2, .inl x2)]) X d_M_sign_63 (by decide) rfl ?_
    refine qx_sub [1, 2, 3, 0] rfl ?_
    exact t_M_sign_65 X N x0 x1 x2 (9 : Int32) h Q  hw 
set_option maxRecDepth 4000 in
theorem t_M_sign_43 (X : qX p s m args meth c D cy b adK adV prog_14_method_13_code "CoatHangersModel" 5 (some .int) "sign") (N : Nat) (x0 : Nat) (x1 : Int32) (x2 : Int32) (z0 : Int32) (h : qH) (Q : Int32 → qH → Prop)  (hw : w_M_sign_43 N x0 x1 x2 z0 h Q ) : qW p l e (qrm 1 0 0 25) s m args below meth c D cy b 5 0 0 (MQ below (qQc D cy b qrI Q) args s 0 0 (qA b)) 43 [(0, .inr (.inr (.inl x0))), (1, .inl x1), (2, .inl x2)] [.int z0] h := by
  unfold w_M_sign_43 at hw
  refine qx_istore (L' := [(4, .inl z0), (0, .inr (.inr (.inl x0))), (1, .inl x1), (2, .inl x2)]) X d_M_sign_43 (by decide) rfl ?_
  refine qx_iload_n (x := x2) X d_M_sign_45 rfl 3 rfl ?_
  refine qx_bipush (v := (43 : Int32)) X d_M_sign_46 (by decide) ?_
  refine qx_icmp_ne X 55 d_M_sign_48 (by decide) (fun q1 => ?_) (fun q1 => ?_)
  · have hw := hw.1 q1
    refine qx_sub [1, 2, 3, 0] rfl ?_
    exact t_M_sign_55 X N x0 x1 x2 z0 h Q  hw 
  · have hw := hw.2 q1
    refine qx_bipush (v := (8 : Int32)) X d_M_sign_51 (by decide) ?_
    refine qx_istore (L' := [(4, .inl (8 : Int32)), (0, .inr (.inr (.inl x0))), (1, .inl x1), (2, .inl x2)]) X d_M_sign_53 (by decide) rfl ?_
    refine qx_sub [1, 2, 3, 0] rfl ?_
    exact t_M_sign_55 X N x0 x1 x2 (8 : Int32) h Q  hw 
set_option maxRecDepth 4000 in
theorem t_M_sign {adK adV : Nat → Nat} (l : Launch) (D : va_G) (cy : Nat → ClassId) (b : Nat) (N : Nat) (x0 : Nat) (x1 : Int32) (x2 : Int32) (x3 : Int32) (h : qH) (Q : Int32 → qH → Prop) (hw : w_M_sign N x0 x1 x2 x3 h Q) : Met l y_M_sign (Cond.code y_M_sign prog_14_method_13_code 5 (some .int) :: qT) (qrm 1 0 0 25) (qPc D cy b adK adV h [qr b x0, .int x1, .int x2, .int x3]) (qQc D cy b qrI Q) 0 0 (qA b) := by
  refine qmet (L0 := [(0, .inr (.inr (.inl x0))), (1, .inl x1), (2, .inl x2), (3, .inl x3)]) qm_M_sign (plainFor_of_name (by decide)) [.inr (.inr (.inl x0)), .inl x1, .inl x2, .inl x3] rfl (Nat.le_of_ble_eq_true rfl) rfl (fun p e s m args below meth c X => ?_)
  unfold w_M_sign at hw
  refine qx_iload_n (x := x2) X d_M_sign_0 rfl 2 rfl ?_
  refine qx_bipush (v := (59 : Int32)) X d_M_sign_1 (by decide) ?_
  refine qx_icmp_ne X 10 d_M_sign_3 (by decide) (fun q1 => ?_) (fun q1 => ?_)
  · have hw := hw.1 q1
    refine qx_iload_n (x := x2) X d_M_sign_10 rfl 2 rfl ?_
    refine qx_bipush (v := (61 : Int32)) X d_M_sign_11 (by decide) ?_
    refine qx_icmp_ne X 20 d_M_sign_13 (by decide) (fun q2 => ?_) (fun q2 => ?_)
    · have hw := hw.1 q2
      refine qx_iload_n (x := x2) X d_M_sign_20 rfl 2 rfl ?_
      refine qx_bipush (v := (40 : Int32)) X d_M_sign_21 (by decide) ?_
      refine qx_icmp_ne X 31 d_M_sign_23 (by decide) (fun q3 => ?_) (fun q3 => ?_)
      · have hw := hw.1 q3
        refine qx_iload_n (x := x2) X d_M_sign_31 rfl 2 rfl ?_
        refine qx_bipush (v := (41 : Int32)) X d_M_sign_32 (by decide) ?_
        refine qx_icmp_ne X 42 d_M_sign_34 (by decide) (fun q4 => ?_) (fun q4 => ?_)
        · have hw := hw.1 q4
          refine qx_iconst (v := (3 : Int32)) X d_M_sign_42 (by decide) ?_
          refine qx_sub [0, 1, 2] rfl ?_
          exact t_M_sign_43 X N x0 x1 x2 (3 : Int32) h Q  hw 
        · have hw := hw.2 q4
          refine qx_bipush (v := (7 : Int32)) X d_M_sign_37 (by decide) ?_
          refine qx_goto X 43 d_M_sign_39 (by decide) ?_
          refine qx_sub [0, 1, 2] rfl ?_
          exact t_M_sign_43 X N x0 x1 x2 (7 : Int32) h Q  hw 
      · have hw := hw.2 q3
        refine qx_bipush (v := (6 : Int32)) X d_M_sign_26 (by decide) ?_
        refine qx_goto X 43 d_M_sign_28 (by decide) ?_
        refine qx_sub [0, 1, 2] rfl ?_
        exact t_M_sign_43 X N x0 x1 x2 (6 : Int32) h Q  hw 
    · have hw := hw.2 q2
      refine qx_iconst (v := (5 : Int32)) X d_M_sign_16 (by decide) ?_
      refine qx_goto X 43 d_M_sign_17 (by decide) ?_
      refine qx_sub [0, 1, 2] rfl ?_
      exact t_M_sign_43 X N x0 x1 x2 (5 : Int32) h Q  hw 
  · have hw := hw.2 q1
    refine qx_iconst (v := (4 : Int32)) X d_M_sign_6 (by decide) ?_
    refine qx_goto X 43 d_M_sign_7 (by decide) ?_
    refine qx_sub [0, 1, 2] rfl ?_
    exact t_M_sign_43 X N x0 x1 x2 (4 : Int32) h Q  hw 
set_option maxRecDepth 4000 in
theorem t_M_cut_208 (X : qX p s m args meth c D cy b adK adV prog_14_method_12_code "CoatHangersModel" 8 (none) "cut") (N k : Nat) (x0 : Nat) (x1 : Int32) (x3 : Int32) (x4 : Int32) (h : qH) (Q : qH → Prop) (K250 : Nat → Int32 → Int32 → Int32 → qH → Prop) (hw : w_M_cut_208 N k x0 x1 x3 x4 h Q K250) (hK250 : ∀ (x0 : Nat) (x1 : Int32) (x3 : Int32) (x4 : Int32) (h : qH), K250 x0 x1 x3 x4 h → qW p l e (qrm 2 0 0 49) s m args below meth c D cy b 8 0 0 (MQ below (qQc D cy b qrV (fun (_ : Unit) h => Q h)) args s 0 0 (qA b)) 250 [(0, .inr (.inr (.inl x0))), (1, .inl x1), (3, .inl x3), (4, .inl x4)] [] h) : qW p l e (qrm 2 0 0 49) s m args below meth c D cy b 8 0 0 (MQ below (qQc D cy b qrV (fun (_ : Unit) h => Q h)) args s 0 0 (qA b)) 208 [(0, .inr (.inr (.inl x0))), (1, .inl x1), (3, .inl x3), (4, .inl x4)] [] h := by
  induction k generalizing x0 x1 x3 x4 h with
  | zero => exact hw.elim
  | succ k ih =>
    refine qx_aload_n (x := x0) X d_M_cut_208 rfl 0 rfl ?_
    refine qx_iload_n (x := x1) X d_M_cut_209 rfl 1 rfl ?_
    refine qx_iload_n (x := x3) X d_M_cut_210 rfl 2 rfl ?_
    refine qx_iadd X d_M_cut_211 ?_
    obtain ⟨g1, hw⟩ := hw
    refine qx_callVI (st := []) (As := [.int (x1 + x3)]) X (t_M_byteAt (adK := adK) (adV := adV) l D cy b N x0 (x1 + x3) h _ hw) qm_M_byteAt wm_M_196 wi_M_byteAt wl_M_byteAt qcls12 g1 rfl rfl rfl ⟨Nat.le_of_ble_eq_true rfl, Nat.le_of_ble_eq_true rfl⟩ ⟨Nat.le_refl 0, Nat.le_refl 0⟩ (Nat.le_of_ble_eq_true rfl) rfl d_M_cut_212 (fun r2 h3 hw => ?_)
    refine qx_callSI (st := []) (As := [.int r2]) X (t_M_isDigit (adK := adK) (adV := adV) l D cy b N r2 h3 _ hw) qm_M_isDigit wm_M_208 wi_M_isDigit rfl rfl rfl ⟨Nat.le_of_ble_eq_true rfl, Nat.le_of_ble_eq_true rfl⟩ ⟨Nat.le_refl 0, Nat.le_refl 0⟩ (Nat.le_of_ble_eq_true rfl) rfl d_M_cut_215 (fun r4 h5 hw => ?_)
    refine qx_if_eq X 250 d_M_cut_218 (by decide) (fun q6 => ?_) (fun q6 => ?_)
    · have hw := hw.1 q6
      exact hK250 x0 x1 x3 x4 h5 hw
    · have hw := hw.2 q6
      refine qx_iload_n (x := x3) X d_M_cut_221 rfl 2 rfl ?_
      refine qx_iconst (v := (4 : Int32)) X d_M_cut_222 (by decide) ?_
      refine qx_icmp_ge X 244 d_M_cut_223 (by decide) (fun q7 => ?_) (fun q7 => ?_)
      · have hw := hw.1 q7
        refine qx_iinc (v := (x3 + (1 : Int32))) (L' := [(3, .inl (x3 + (1 : Int32))), (0, .inr (.inr (.inl x0))), (1, .inl x1), (4, .inl x4)]) X d_M_cut_244 2 rfl rfl (by decide) rfl ?_
        refine qx_goto X 208 d_M_cut_247 (by decide) ?_
        refine qx_sub [1, 2, 0, 3] rfl ?_
        exact ih x0 x1 (x3 + (1 : Int32)) x4 h5 hw
      · have hw := hw.2 q7
        refine qx_bipush (v := (10 : Int32)) X d_M_cut_226 (by decide) ?_
        refine qx_iload (x := x4) X d_M_cut_228 3 rfl ?_
        refine qx_imul X d_M_cut_230 ?_
        refine qx_aload_n (x := x0) X d_M_cut_231 rfl 0 rfl ?_
        refine qx_iload_n (x := x1) X d_M_cut_232 rfl 1 rfl ?_
        refine qx_iload_n (x := x3) X d_M_cut_233 rfl 2 rfl ?_
        refine qx_iadd X d_M_cut_234 ?_
        obtain ⟨g8, hw⟩ := hw
        refine qx_callVI (st := [.int ((10 : Int32) * x4)]) (As := [.int (x1 + x3)]) X (t_M_byteAt (adK := adK) (adV := adV) l D cy b N x0 (x1 + x3) h5 _ hw) qm_M_byteAt wm_M_196 wi_M_byteAt wl_M_byteAt qcls12 g8 rfl rfl rfl ⟨Nat.le_of_ble_eq_true rfl, Nat.le_of_ble_eq_true rfl⟩ ⟨Nat.le_refl 0, Nat.le_refl 0⟩ (Nat.le_of_ble_eq_true rfl) rfl d_M_cut_235 (fun r9 h10 hw => ?_)
        refine qx_iadd X d_M_cut_238 ?_
        refine qx_bipush (v := (48 : Int32)) X d_M_cut_239 (by decide) ?_
        refine qx_isub X d_M_cut_241 ?_
        refine qx_topi (fun y11 ey11 => ?_)
        have hw := hw y11 ey11
        refine qx_istore (L' := [(4, .inl y11), (0, .inr (.inr (.inl x0))), (1, .inl x1), (3, .inl x3)]) X d_M_cut_242 (by decide) rfl ?_
        refine qx_iinc (v := (x3 + (1 : Int32))) (L' := [(3, .inl (x3 + (1 : Int32))), (4, .inl y11), (0, .inr (.inr (.inl x0))), (1, .inl x1)]) X d_M_cut_244 3 rfl rfl (by decide) rfl ?_
        refine qx_goto X 208 d_M_cut_247 (by decide) ?_
        refine qx_sub [2, 3, 0, 1] rfl ?_
        exact ih x0 x1 (x3 + (1 : Int32)) y11 h10 hw
set_option maxRecDepth 4000 in
theorem t_M_cut_85 (X : qX p s m args meth c D cy b adK adV prog_14_method_12_code "CoatHangersModel" 8 (none) "cut") (N k : Nat) (x0 : Nat) (x1 : Int32) (x3 : Int32) (x4 : Int64) (h : qH) (Q : qH → Prop) (K124 : Nat → Int32 → Int32 → Int64 → qH → Prop) (hw : w_M_cut_85 N k x0 x1 x3 x4 h Q K124) (hK124 : ∀ (x0 : Nat) (x1 : Int32) (x3 : Int32) (x4 : Int64) (h : qH), K124 x0 x1 x3 x4 h → qW p l e (qrm 2 0 0 49) s m args below meth c D cy b 8 0 0 (MQ below (qQc D cy b qrV (fun (_ : Unit) h => Q h)) args s 0 0 (qA b)) 124 [(0, .inr (.inr (.inl x0))), (1, .inl x1), (3, .inl x3), (4, .inr (.inl x4))] [] h) : qW p l e (qrm 2 0 0 49) s m args below meth c D cy b 8 0 0 (MQ below (qQc D cy b qrV (fun (_ : Unit) h => Q h)) args s 0 0 (qA b)) 85 [(0, .inr (.inr (.inl x0))), (1, .inl x1), (3, .inl x3), (4, .inr (.inl x4))] [] h := by
  induction k generalizing x0 x1 x3 x4 h with
  | zero => exact hw.elim
  | succ k ih =>
    refine qx_aload_n (x := x0) X d_M_cut_85 rfl 0 rfl ?_
    refine qx_iload_n (x := x1) X d_M_cut_86 rfl 1 rfl ?_
    refine qx_iload_n (x := x3) X d_M_cut_87 rfl 2 rfl ?_
    refine qx_iadd X d_M_cut_88 ?_
    obtain ⟨g1, hw⟩ := hw
    refine qx_callVI (st := []) (As := [.int (x1 + x3)]) X (t_M_byteAt (adK := adK) (adV := adV) l D cy b N x0 (x1 + x3) h _ hw) qm_M_byteAt wm_M_196 wi_M_byteAt wl_M_byteAt qcls12 g1 rfl rfl rfl ⟨Nat.le_of_ble_eq_true rfl, Nat.le_of_ble_eq_true rfl⟩ ⟨Nat.le_refl 0, Nat.le_refl 0⟩ (Nat.le_of_ble_eq_true rfl) rfl d_M_cut_89 (fun r2 h3 hw => ?_)
    refine qx_callSI (st := []) (As := [.int r2]) X (t_M_isLetter (adK := adK) (adV := adV) l D cy b N r2 h3 _ hw) qm_M_isLetter wm_M_204 wi_M_isLetter rfl rfl rfl ⟨Nat.le_of_ble_eq_true rfl, Nat.le_of_ble_eq_true rfl⟩ ⟨Nat.le_refl 0, Nat.le_refl 0⟩ (Nat.le_of_ble_eq_true rfl) rfl d_M_cut_92 (fun r4 h5 hw => ?_)
    refine qx_if_eq X 124 d_M_cut_95 (by decide) (fun q6 => ?_) (fun q6 => ?_)
    · have hw := hw.1 q6
      exact hK124 x0 x1 x3 x4 h5 hw
    · have hw := hw.2 q6
      refine qx_iload_n (x := x3) X d_M_cut_98 rfl 2 rfl ?_
      refine qx_bipush (v := (8 : Int32)) X d_M_cut_99 (by decide) ?_
      refine qx_icmp_ge X 118 d_M_cut_101 (by decide) (fun q7 => ?_) (fun q7 => ?_)
      · have hw := hw.1 q7
        refine qx_iinc (v := (x3 + (1 : Int32))) (L' := [(3, .inl (x3 + (1 : Int32))), (0, .inr (.inr (.inl x0))), (1, .inl x1), (4, .inr (.inl x4))]) X d_M_cut_118 2 rfl rfl (by decide) rfl ?_
        refine qx_goto X 85 d_M_cut_121 (by decide) ?_
        refine qx_sub [1, 2, 0, 3] rfl ?_
        exact ih x0 x1 (x3 + (1 : Int32)) x4 h5 hw
      · have hw := hw.2 q7
        refine qx_lload (x := x4) X d_M_cut_104 3 rfl ?_
        refine qx_aload_n (x := x0) X d_M_cut_106 rfl 0 rfl ?_
        refine qx_iload_n (x := x1) X d_M_cut_107 rfl 1 rfl ?_
        refine qx_iload_n (x := x3) X d_M_cut_108 rfl 2 rfl ?_
        refine qx_iadd X d_M_cut_109 ?_
        obtain ⟨g8, hw⟩ := hw
        refine qx_callVI (st := [.long x4]) (As := [.int (x1 + x3)]) X (t_M_byteAt (adK := adK) (adV := adV) l D cy b N x0 (x1 + x3) h5 _ hw) qm_M_byteAt wm_M_196 wi_M_byteAt wl_M_byteAt qcls12 g8 rfl rfl rfl ⟨Nat.le_of_ble_eq_true rfl, Nat.le_of_ble_eq_true rfl⟩ ⟨Nat.le_refl 0, Nat.le_refl 0⟩ (Nat.le_of_ble_eq_true rfl) rfl d_M_cut_110 (fun r9 h10 hw => ?_)
        refine qx_callSJ (st := []) (As := [.long x4, .int r9]) X (t_M_appends (adK := adK) (adV := adV) l D cy b N x4 r9 h10 _ hw) qm_M_appends wm_M_189 wi_M_appends rfl rfl rfl ⟨Nat.le_of_ble_eq_true rfl, Nat.le_of_ble_eq_true rfl⟩ ⟨Nat.le_refl 0, Nat.le_refl 0⟩ (Nat.le_of_ble_eq_true rfl) rfl d_M_cut_113 (fun r11 h12 hw => ?_)
        refine qx_lstore (L' := [(4, .inr (.inl r11)), (0, .inr (.inr (.inl x0))), (1, .inl x1), (3, .inl x3)]) X d_M_cut_116 (by decide) rfl ?_
        refine qx_iinc (v := (x3 + (1 : Int32))) (L' := [(3, .inl (x3 + (1 : Int32))), (4, .inr (.inl r11)), (0, .inr (.inr (.inl x0))), (1, .inl x1)]) X d_M_cut_118 3 rfl rfl (by decide) rfl ?_
        refine qx_goto X 85 d_M_cut_121 (by decide) ?_
        refine qx_sub [2, 3, 0, 1] rfl ?_
        exact ih x0 x1 (x3 + (1 : Int32)) r11 h12 hw
set_option maxRecDepth 4000 in
theorem t_M_cut_179 (X : qX p s m args meth c D cy b adK adV prog_14_method_12_code "CoatHangersModel" 8 (none) "cut") (N : Nat) (x0 : Nat) (x1 : Int32) (x3 : Int32) (x4 : Int64) (x6 : Int32) (h : qH) (Q : qH → Prop) (K7 : Nat → Int32 → qH → Prop) (hw : w_M_cut_179 N x0 x1 x3 x4 x6 h Q K7) (hK7 : ∀ (x0 : Nat) (x1 : Int32) (h : qH), K7 x0 x1 h → qW p l e (qrm 2 0 0 49) s m args below meth c D cy b 8 0 0 (MQ below (qQc D cy b qrV (fun (_ : Unit) h => Q h)) args s 0 0 (qA b)) 7 [(0, .inr (.inr (.inl x0))), (1, .inl x1)] [] h) : qW p l e (qrm 2 0 0 49) s m args below meth c D cy b 8 0 0 (MQ below (qQc D cy b qrV (fun (_ : Unit) h => Q h)) args s 0 0 (qA b)) 179 [(0, .inr (.inr (.inl x0))), (1, .inl x1), (3, .inl x3), (4, .inr (.inl x4)), (6, .inl x6)] [] h := by
  unfold w_M_cut_179 at hw
  refine qx_aload_n (x := x0) X d_M_cut_179 rfl 0 rfl ?_
  refine qx_iload (x := x6) X d_M_cut_180 4 rfl ?_
  refine qx_iload_n (x := x1) X d_M_cut_182 rfl 1 rfl ?_
  refine qx_iconst (v := (0 : Int32)) X d_M_cut_183 (by decide) ?_
  refine qx_lload (x := x4) X d_M_cut_184 3 rfl ?_
  obtain ⟨g1, hw⟩ := hw
  refine qx_callVV (st := []) (As := [.int x6, .int x1, .int (0 : Int32), .long x4]) X (t_M_token (adK := adK) (adV := adV) l D cy b N x0 x6 x1 (0 : Int32) x4 h _ hw) qm_M_token wm_M_200 wi_M_token wl_M_token qcls12 g1 rfl rfl rfl ⟨Nat.le_of_ble_eq_true rfl, Nat.le_of_ble_eq_true rfl⟩ ⟨Nat.le_refl 0, Nat.le_refl 0⟩ (Nat.le_of_ble_eq_true rfl) rfl d_M_cut_186 (fun h2 hw => ?_)
  refine qx_iload_n (x := x1) X d_M_cut_189 rfl 1 rfl ?_
  refine qx_iload_n (x := x3) X d_M_cut_190 rfl 2 rfl ?_
  refine qx_iadd X d_M_cut_191 ?_
  refine qx_topi (fun y3 ey3 => ?_)
  have hw := hw y3 ey3
  refine qx_istore_n (L' := [(1, .inl y3), (0, .inr (.inr (.inl x0))), (3, .inl x3), (4, .inr (.inl x4)), (6, .inl x6)]) X d_M_cut_192 rfl (by decide) rfl ?_
  refine qx_goto X 291 d_M_cut_193 (by decide) ?_
  refine qx_goto X 7 d_M_cut_291 (by decide) ?_
  refine qx_sub [1, 0] rfl ?_
  exact hK7 x0 y3 h2 hw
set_option maxRecDepth 4000 in
theorem t_M_cut_146 (X : qX p s m args meth c D cy b adK adV prog_14_method_12_code "CoatHangersModel" 8 (none) "cut") (N k : Nat) (x0 : Nat) (x1 : Int32) (x3 : Int32) (x4 : Int64) (x6 : Int32) (x7 : Int32) (h : qH) (Q : qH → Prop) (K179 : Nat → Int32 → Int32 → Int64 → Int32 → qH → Prop) (hw : w_M_cut_146 N k x0 x1 x3 x4 x6 x7 h Q K179) (hK179 : ∀ (x0 : Nat) (x1 : Int32) (x3 : Int32) (x4 : Int64) (x6 : Int32) (h : qH), K179 x0 x1 x3 x4 x6 h → qW p l e (qrm 2 0 0 49) s m args below meth c D cy b 8 0 0 (MQ below (qQc D cy b qrV (fun (_ : Unit) h => Q h)) args s 0 0 (qA b)) 179 [(0, .inr (.inr (.inl x0))), (1, .inl x1), (3, .inl x3), (4, .inr (.inl x4)), (6, .inl x6)] [] h) : qW p l e (qrm 2 0 0 49) s m args below meth c D cy b 8 0 0 (MQ below (qQc D cy b qrV (fun (_ : Unit) h => Q h)) args s 0 0 (qA b)) 146 [(0, .inr (.inr (.inl x0))), (1, .inl x1), (3, .inl x3), (4, .inr (.inl x4)), (6, .inl x6), (7, .inl x7)] [] h := by
  induction k generalizing x0 x1 x3 x4 x6 x7 h with
  | zero => exact hw.elim
  | succ k ih =>
    refine qx_iload (x := x7) X d_M_cut_146 5 rfl ?_
    refine qx_bipush (v := (21 : Int32)) X d_M_cut_148 (by decide) ?_
    refine qx_icmp_ge X 179 d_M_cut_150 (by decide) (fun q1 => ?_) (fun q1 => ?_)
    · have hw := hw.1 q1
      refine qx_sub [0, 1, 2, 3, 4] rfl ?_
      exact hK179 x0 x1 x3 x4 x6 h hw
    · have hw := hw.2 q1
      refine qx_aload_n (x := x0) X d_M_cut_153 rfl 0 rfl ?_
      obtain ⟨g2, hw⟩ := hw
      refine qx_getR X qcls12 g2 9 (by decide) rfl wf_M_34 d_M_cut_154 ?_
      refine qx_iload (x := x7) X d_M_cut_157 5 rfl ?_
      obtain ⟨g3, hw⟩ := hw
      refine qx_lld X g3 d_M_cut_159 ?_
      refine qx_lload (x := x4) X d_M_cut_160 3 rfl ?_
      refine qx_lcmp X d_M_cut_162 ?_
      refine qx_if_ne X 173 d_M_cut_163 (by decide) (fun q4 => ?_) (fun q4 => ?_)
      · have hw := hw.1 q4
        refine qx_iinc (v := (x7 + (1 : Int32))) (L' := [(7, .inl (x7 + (1 : Int32))), (0, .inr (.inr (.inl x0))), (1, .inl x1), (3, .inl x3), (4, .inr (.inl x4)), (6, .inl x6)]) X d_M_cut_173 5 rfl rfl (by decide) rfl ?_
        refine qx_goto X 146 d_M_cut_176 (by decide) ?_
        refine qx_sub [1, 2, 3, 4, 5, 0] rfl ?_
        exact ih x0 x1 x3 x4 x6 (x7 + (1 : Int32)) h hw
      · have hw := hw.2 q4
        refine qx_bipush (v := (20 : Int32)) X d_M_cut_166 (by decide) ?_
        refine qx_iload (x := x7) X d_M_cut_168 5 rfl ?_
        refine qx_iadd X d_M_cut_170 ?_
        refine qx_topi (fun y5 ey5 => ?_)
        have hw := hw y5 ey5
        refine qx_istore (L' := [(6, .inl y5), (0, .inr (.inr (.inl x0))), (1, .inl x1), (3, .inl x3), (4, .inr (.inl x4)), (7, .inl x7)]) X d_M_cut_171 (by decide) rfl ?_
        refine qx_iinc (v := (x7 + (1 : Int32))) (L' := [(7, .inl (x7 + (1 : Int32))), (6, .inl y5), (0, .inr (.inr (.inl x0))), (1, .inl x1), (3, .inl x3), (4, .inr (.inl x4))]) X d_M_cut_173 5 rfl rfl (by decide) rfl ?_
        refine qx_goto X 146 d_M_cut_176 (by decide) ?_
        refine qx_sub [2, 3, 4, 5, 1, 0] rfl ?_
        exact ih x0 x1 x3 x4 y5 (x7 + (1 : Int32)) h hw
set_option maxRecDepth 4000 in
theorem t_M_cut_135 (X : qX p s m args meth c D cy b adK adV prog_14_method_12_code "CoatHangersModel" 8 (none) "cut") (N : Nat) (x0 : Nat) (x1 : Int32) (x3 : Int32) (x4 : Int64) (z0 : Int32) (h : qH) (Q : qH → Prop) (K7 : Nat → Int32 → qH → Prop) (hw : w_M_cut_135 N x0 x1 x3 x4 z0 h Q K7) (hK7 : ∀ (x0 : Nat) (x1 : Int32) (h : qH), K7 x0 x1 h → qW p l e (qrm 2 0 0 49) s m args below meth c D cy b 8 0 0 (MQ below (qQc D cy b qrV (fun (_ : Unit) h => Q h)) args s 0 0 (qA b)) 7 [(0, .inr (.inr (.inl x0))), (1, .inl x1)] [] h) : qW p l e (qrm 2 0 0 49) s m args below meth c D cy b 8 0 0 (MQ below (qQc D cy b qrV (fun (_ : Unit) h => Q h)) args s 0 0 (qA b)) 135 [(0, .inr (.inr (.inl x0))), (1, .inl x1), (3, .inl x3), (4, .inr (.inl x4))] [.int z0] h := by
  unfold w_M_cut_135 at hw
  refine qx_istore (L' := [(6, .inl z0), (0, .inr (.inr (.inl x0))), (1, .inl x1), (3, .inl x3), (4, .inr (.inl x4))]) X d_M_cut_135 (by decide) rfl ?_
  refine qx_iload_n (x := x3) X d_M_cut_137 rfl 3 rfl ?_
  refine qx_bipush (v := (8 : Int32)) X d_M_cut_138 (by decide) ?_
  refine qx_icmp_gt X 179 d_M_cut_140 (by decide) (fun q1 => ?_) (fun q1 => ?_)
  · have hw := hw.1 q1
    refine qx_sub [1, 2, 3, 4, 0] rfl ?_
    exact t_M_cut_179 X N x0 x1 x3 x4 z0 h Q _ hw hK7
  · have hw := hw.2 q1
    refine qx_iconst (v := (0 : Int32)) X d_M_cut_143 (by decide) ?_
    refine qx_istore (L' := [(7, .inl (0 : Int32)), (6, .inl z0), (0, .inr (.inr (.inl x0))), (1, .inl x1), (3, .inl x3), (4, .inr (.inl x4))]) X d_M_cut_144 (by decide) rfl ?_
    refine qx_sub [2, 3, 4, 5, 1, 0] rfl ?_
    refine t_M_cut_146 X N N x0 x1 x3 x4 z0 (0 : Int32) h Q _ hw (fun x2 x3 x4 x5 x6 h7 hw => ?_)
    exact t_M_cut_179 X N x2 x3 x4 x5 x6 h7 Q _ hw hK7
set_option maxRecDepth 4000 in
theorem t_M_cut_7 (X : qX p s m args meth c D cy b adK adV prog_14_method_12_code "CoatHangersModel" 8 (none) "cut") (N k : Nat) (x0 : Nat) (x1 : Int32) (h : qH) (Q : qH → Prop)  (hw : w_M_cut_7 N k x0 x1 h Q ) : qW p l e (qrm 2 0 0 49) s m args below meth c D cy b 8 0 0 (MQ below (qQc D cy b qrV (fun (_ : Unit) h => Q h)) args s 0 0 (qA b)) 7 [(0, .inr (.inr (.inl x0))), (1, .inl x1)] [] h := by
  induction k generalizing x0 x1 h with
  | zero => exact hw.elim
  | succ k ih =>
    refine qx_aload_n (x := x0) X d_M_cut_7 rfl 0 rfl ?_
    obtain ⟨g1, hw⟩ := hw
    refine qx_getI X qcls12 g1 10 (by decide) rfl wf_M_193 d_M_cut_8 ?_
    refine qx_sipush (v := (400 : Int32)) X d_M_cut_11 (by decide) ?_
    refine qx_icmp_gt X 294 d_M_cut_14 (by decide) (fun q2 => ?_) (fun q2 => ?_)
    · have hw := hw.1 q2
      exact qx_vret X hw (Nat.le_refl 0) (Nat.le_refl 0) rfl d_M_cut_294
    · have hw := hw.2 q2
      refine qx_aload_n (x := x0) X d_M_cut_17 rfl 0 rfl ?_
      refine qx_iload_n (x := x1) X d_M_cut_18 rfl 1 rfl ?_
      refine qx_callVI (st := []) (As := [.int x1]) X (t_M_byteAt (adK := adK) (adV := adV) l D cy b N x0 x1 h _ hw) qm_M_byteAt wm_M_196 wi_M_byteAt wl_M_byteAt qcls12 g1 rfl rfl rfl ⟨Nat.le_of_ble_eq_true rfl, Nat.le_of_ble_eq_true rfl⟩ ⟨Nat.le_refl 0, Nat.le_refl 0⟩ (Nat.le_of_ble_eq_true rfl) rfl d_M_cut_19 (fun r3 h4 hw => ?_)
      refine qx_istore_n (L' := [(2, .inl r3), (0, .inr (.inr (.inl x0))), (1, .inl x1)]) X d_M_cut_22 rfl (by decide) rfl ?_
      refine qx_iload_n (x := x1) X d_M_cut_23 rfl 2 rfl ?_
      refine qx_aload_n (x := x0) X d_M_cut_24 rfl 1 rfl ?_
      obtain ⟨g5, hw⟩ := hw
      refine qx_getI X qcls12 g5 4 (by decide) rfl wf_M_184 d_M_cut_25 ?_
      refine qx_icmp_lt X 43 d_M_cut_28 (by decide) (fun q6 => ?_) (fun q6 => ?_)
      · have hw := hw.1 q6
        refine qx_iload_n (x := r3) X d_M_cut_43 rfl 0 rfl ?_
        refine qx_bipush (v := (9 : Int32)) X d_M_cut_44 (by decide) ?_
        refine qx_icmp_eq X 67 d_M_cut_46 (by decide) (fun q7 => ?_) (fun q7 => ?_)
        · have hw := hw.1 q7
          refine qx_iinc (v := (x1 + (1 : Int32))) (L' := [(1, .inl (x1 + (1 : Int32))), (2, .inl r3), (0, .inr (.inr (.inl x0)))]) X d_M_cut_67 2 rfl rfl (by decide) rfl ?_
          refine qx_goto X 291 d_M_cut_70 (by decide) ?_
          refine qx_goto X 7 d_M_cut_291 (by decide) ?_
          refine qx_sub [2, 0] rfl ?_
          exact ih x0 (x1 + (1 : Int32)) h4 hw
        · have hw := hw.2 q7
          refine qx_iload_n (x := r3) X d_M_cut_49 rfl 0 rfl ?_
          refine qx_bipush (v := (10 : Int32)) X d_M_cut_50 (by decide) ?_
          refine qx_icmp_eq X 67 d_M_cut_52 (by decide) (fun q8 => ?_) (fun q8 => ?_)
          · have hw := hw.1 q8
            refine qx_iinc (v := (x1 + (1 : Int32))) (L' := [(1, .inl (x1 + (1 : Int32))), (2, .inl r3), (0, .inr (.inr (.inl x0)))]) X d_M_cut_67 2 rfl rfl (by decide) rfl ?_
            refine qx_goto X 291 d_M_cut_70 (by decide) ?_
            refine qx_goto X 7 d_M_cut_291 (by decide) ?_
            refine qx_sub [2, 0] rfl ?_
            exact ih x0 (x1 + (1 : Int32)) h4 hw
          · have hw := hw.2 q8
            refine qx_iload_n (x := r3) X d_M_cut_55 rfl 0 rfl ?_
            refine qx_bipush (v := (13 : Int32)) X d_M_cut_56 (by decide) ?_
            refine qx_icmp_eq X 67 d_M_cut_58 (by decide) (fun q9 => ?_) (fun q9 => ?_)
            · have hw := hw.1 q9
              refine qx_iinc (v := (x1 + (1 : Int32))) (L' := [(1, .inl (x1 + (1 : Int32))), (2, .inl r3), (0, .inr (.inr (.inl x0)))]) X d_M_cut_67 2 rfl rfl (by decide) rfl ?_
              refine qx_goto X 291 d_M_cut_70 (by decide) ?_
              refine qx_goto X 7 d_M_cut_291 (by decide) ?_
              refine qx_sub [2, 0] rfl ?_
              exact ih x0 (x1 + (1 : Int32)) h4 hw
            · have hw := hw.2 q9
              refine qx_iload_n (x := r3) X d_M_cut_61 rfl 0 rfl ?_
              refine qx_bipush (v := (32 : Int32)) X d_M_cut_62 (by decide) ?_
              refine qx_icmp_ne X 73 d_M_cut_64 (by decide) (fun q10 => ?_) (fun q10 => ?_)
              · have hw := hw.1 q10
                refine qx_iload_n (x := r3) X d_M_cut_73 rfl 0 rfl ?_
                refine qx_callSI (st := []) (As := [.int r3]) X (t_M_isLetter (adK := adK) (adV := adV) l D cy b N r3 h4 _ hw) qm_M_isLetter wm_M_204 wi_M_isLetter rfl rfl rfl ⟨Nat.le_of_ble_eq_true rfl, Nat.le_of_ble_eq_true rfl⟩ ⟨Nat.le_refl 0, Nat.le_refl 0⟩ (Nat.le_of_ble_eq_true rfl) rfl d_M_cut_74 (fun r11 h12 hw => ?_)
                refine qx_if_eq X 196 d_M_cut_77 (by decide) (fun q13 => ?_) (fun q13 => ?_)
                · have hw := hw.1 q13
                  refine qx_iload_n (x := r3) X d_M_cut_196 rfl 0 rfl ?_
                  refine qx_callSI (st := []) (As := [.int r3]) X (t_M_isDigit (adK := adK) (adV := adV) l D cy b N r3 h12 _ hw) qm_M_isDigit wm_M_208 wi_M_isDigit rfl rfl rfl ⟨Nat.le_of_ble_eq_true rfl, Nat.le_of_ble_eq_true rfl⟩ ⟨Nat.le_refl 0, Nat.le_refl 0⟩ (Nat.le_of_ble_eq_true rfl) rfl d_M_cut_197 (fun r14 h15 hw => ?_)
                  refine qx_if_eq X 275 d_M_cut_200 (by decide) (fun q16 => ?_) (fun q16 => ?_)
                  · have hw := hw.1 q16
                    refine qx_iload_n (x := x1) X d_M_cut_275 rfl 2 rfl ?_
                    refine qx_aload_n (x := x0) X d_M_cut_276 rfl 1 rfl ?_
                    refine qx_iload_n (x := x1) X d_M_cut_277 rfl 2 rfl ?_
                    refine qx_iload_n (x := r3) X d_M_cut_278 rfl 0 rfl ?_
                    refine qx_aload_n (x := x0) X d_M_cut_279 rfl 1 rfl ?_
                    refine qx_iload_n (x := x1) X d_M_cut_280 rfl 2 rfl ?_
                    refine qx_iconst (v := (1 : Int32)) X d_M_cut_281 (by decide) ?_
                    refine qx_iadd X d_M_cut_282 ?_
                    obtain ⟨g17, hw⟩ := hw
                    refine qx_callVI (st := [.int r3, .int x1, qr b x0, .int x1]) (As := [.int (x1 + (1 : Int32))]) X (t_M_byteAt (adK := adK) (adV := adV) l D cy b N x0 (x1 + (1 : Int32)) h15 _ hw) qm_M_byteAt wm_M_196 wi_M_byteAt wl_M_byteAt qcls12 g17 rfl rfl rfl ⟨Nat.le_of_ble_eq_true rfl, Nat.le_of_ble_eq_true rfl⟩ ⟨Nat.le_refl 0, Nat.le_refl 0⟩ (Nat.le_of_ble_eq_true rfl) rfl d_M_cut_283 (fun r18 h19 hw => ?_)
                    obtain ⟨g20, hw⟩ := hw
                    refine qx_callVI (st := [.int x1]) (As := [.int x1, .int r3, .int r18]) X (t_M_sign (adK := adK) (adV := adV) l D cy b N x0 x1 r3 r18 h19 _ hw) qm_M_sign wm_M_211 wi_M_sign wl_M_sign qcls12 g20 rfl rfl rfl ⟨Nat.le_of_ble_eq_true rfl, Nat.le_of_ble_eq_true rfl⟩ ⟨Nat.le_refl 0, Nat.le_refl 0⟩ (Nat.le_of_ble_eq_true rfl) rfl d_M_cut_286 (fun r21 h22 hw => ?_)
                    refine qx_iadd X d_M_cut_289 ?_
                    refine qx_topi (fun y23 ey23 => ?_)
                    have hw := hw y23 ey23
                    refine qx_istore_n (L' := [(1, .inl y23), (2, .inl r3), (0, .inr (.inr (.inl x0)))]) X d_M_cut_290 rfl (by decide) rfl ?_
                    refine qx_goto X 7 d_M_cut_291 (by decide) ?_
                    refine qx_sub [2, 0] rfl ?_
                    exact ih x0 y23 h22 hw
                  · have hw := hw.2 q16
                    refine qx_iconst (v := (0 : Int32)) X d_M_cut_203 (by decide) ?_
                    refine qx_istore_n (L' := [(3, .inl (0 : Int32)), (2, .inl r3), (0, .inr (.inr (.inl x0))), (1, .inl x1)]) X d_M_cut_204 rfl (by decide) rfl ?_
                    refine qx_iconst (v := (0 : Int32)) X d_M_cut_205 (by decide) ?_
                    refine qx_istore (L' := [(4, .inl (0 : Int32)), (3, .inl (0 : Int32)), (2, .inl r3), (0, .inr (.inr (.inl x0))), (1, .inl x1)]) X d_M_cut_206 (by decide) rfl ?_
                    refine qx_sub [3, 4, 1, 0] rfl ?_
                    refine t_M_cut_208 X N N x0 x1 (0 : Int32) (0 : Int32) h15 Q _ hw (fun x24 x25 x26 x27 h28 hw => ?_)
                    refine qx_aload_n (x := x24) X d_M_cut_250 rfl 0 rfl ?_
                    refine qx_iload_n (x := x26) X d_M_cut_251 rfl 2 rfl ?_
                    refine qx_iconst (v := (4 : Int32)) X d_M_cut_252 (by decide) ?_
                    refine qx_icmp_le X 260 d_M_cut_253 (by decide) (fun q29 => ?_) (fun q29 => ?_)
                    · have hw := hw.1 q29
                      refine qx_iconst (v := (2 : Int32)) X d_M_cut_260 (by decide) ?_
                      refine qx_iload_n (x := x25) X d_M_cut_261 rfl 1 rfl ?_
                      refine qx_iload (x := x27) X d_M_cut_262 3 rfl ?_
                      refine qx_lconst (v := (0 : Int64)) X d_M_cut_264 (by decide) ?_
                      obtain ⟨g30, hw⟩ := hw
                      refine qx_callVV (st := []) (As := [.int (2 : Int32), .int x25, .int x27, .long (0 : Int64)]) X (t_M_token (adK := adK) (adV := adV) l D cy b N x24 (2 : Int32) x25 x27 (0 : Int64) h28 _ hw) qm_M_token wm_M_200 wi_M_token wl_M_token qcls12 g30 rfl rfl rfl ⟨Nat.le_of_ble_eq_true rfl, Nat.le_of_ble_eq_true rfl⟩ ⟨Nat.le_refl 0, Nat.le_refl 0⟩ (Nat.le_of_ble_eq_true rfl) rfl d_M_cut_265 (fun h31 hw => ?_)
                      refine qx_iload_n (x := x25) X d_M_cut_268 rfl 1 rfl ?_
                      refine qx_iload_n (x := x26) X d_M_cut_269 rfl 2 rfl ?_
                      refine qx_iadd X d_M_cut_270 ?_
                      refine qx_topi (fun y32 ey32 => ?_)
                      have hw := hw y32 ey32
                      refine qx_istore_n (L' := [(1, .inl y32), (0, .inr (.inr (.inl x24))), (3, .inl x26), (4, .inl x27)]) X d_M_cut_271 rfl (by decide) rfl ?_
                      refine qx_goto X 291 d_M_cut_272 (by decide) ?_
                      refine qx_goto X 7 d_M_cut_291 (by decide) ?_
                      refine qx_sub [1, 0] rfl ?_
                      exact ih x24 y32 h31 hw
                    · have hw := hw.2 q29
                      refine qx_iconst (v := (3 : Int32)) X d_M_cut_256 (by decide) ?_
                      refine qx_goto X 261 d_M_cut_257 (by decide) ?_
                      refine qx_iload_n (x := x25) X d_M_cut_261 rfl 1 rfl ?_
                      refine qx_iload (x := x27) X d_M_cut_262 3 rfl ?_
                      refine qx_lconst (v := (0 : Int64)) X d_M_cut_264 (by decide) ?_
                      obtain ⟨g33, hw⟩ := hw
                      refine qx_callVV (st := []) (As := [.int (3 : Int32), .int x25, .int x27, .long (0 : Int64)]) X (t_M_token (adK := adK) (adV := adV) l D cy b N x24 (3 : Int32) x25 x27 (0 : Int64) h28 _ hw) qm_M_token wm_M_200 wi_M_token wl_M_token qcls12 g33 rfl rfl rfl ⟨Nat.le_of_ble_eq_true rfl, Nat.le_of_ble_eq_true rfl⟩ ⟨Nat.le_refl 0, Nat.le_refl 0⟩ (Nat.le_of_ble_eq_true rfl) rfl d_M_cut_265 (fun h34 hw => ?_)
                      refine qx_iload_n (x := x25) X d_M_cut_268 rfl 1 rfl ?_
                      refine qx_iload_n (x := x26) X d_M_cut_269 rfl 2 rfl ?_
                      refine qx_iadd X d_M_cut_270 ?_
                      refine qx_topi (fun y35 ey35 => ?_)
                      have hw := hw y35 ey35
                      refine qx_istore_n (L' := [(1, .inl y35), (0, .inr (.inr (.inl x24))), (3, .inl x26), (4, .inl x27)]) X d_M_cut_271 rfl (by decide) rfl ?_
                      refine qx_goto X 291 d_M_cut_272 (by decide) ?_
                      refine qx_goto X 7 d_M_cut_291 (by decide) ?_
                      refine qx_sub [1, 0] rfl ?_
                      exact ih x24 y35 h34 hw
                · have hw := hw.2 q13
                  refine qx_iconst (v := (0 : Int32)) X d_M_cut_80 (by decide) ?_
                  refine qx_istore_n (L' := [(3, .inl (0 : Int32)), (2, .inl r3), (0, .inr (.inr (.inl x0))), (1, .inl x1)]) X d_M_cut_81 rfl (by decide) rfl ?_
                  refine qx_lconst (v := (0 : Int64)) X d_M_cut_82 (by decide) ?_
                  refine qx_lstore (L' := [(4, .inr (.inl (0 : Int64))), (3, .inl (0 : Int32)), (2, .inl r3), (0, .inr (.inr (.inl x0))), (1, .inl x1)]) X d_M_cut_83 (by decide) rfl ?_
                  refine qx_sub [3, 4, 1, 0] rfl ?_
                  refine t_M_cut_85 X N N x0 x1 (0 : Int32) (0 : Int64) h12 Q _ hw (fun x36 x37 x38 x39 h40 hw => ?_)
                  refine qx_iload_n (x := x38) X d_M_cut_124 rfl 2 rfl ?_
                  refine qx_bipush (v := (8 : Int32)) X d_M_cut_125 (by decide) ?_
                  refine qx_icmp_le X 134 d_M_cut_127 (by decide) (fun q41 => ?_) (fun q41 => ?_)
                  · have hw := hw.1 q41
                    refine qx_iconst (v := (1 : Int32)) X d_M_cut_134 (by decide) ?_
                    exact t_M_cut_135 X N x36 x37 x38 x39 (1 : Int32) h40 Q _ hw ih
                  · have hw := hw.2 q41
                    refine qx_iconst (v := (3 : Int32)) X d_M_cut_130 (by decide) ?_
                    refine qx_goto X 135 d_M_cut_131 (by decide) ?_
                    exact t_M_cut_135 X N x36 x37 x38 x39 (3 : Int32) h40 Q _ hw ih
              · have hw := hw.2 q10
                refine qx_iinc (v := (x1 + (1 : Int32))) (L' := [(1, .inl (x1 + (1 : Int32))), (2, .inl r3), (0, .inr (.inr (.inl x0)))]) X d_M_cut_67 2 rfl rfl (by decide) rfl ?_
                refine qx_goto X 291 d_M_cut_70 (by decide) ?_
                refine qx_goto X 7 d_M_cut_291 (by decide) ?_
                refine qx_sub [2, 0] rfl ?_
                exact ih x0 (x1 + (1 : Int32)) h4 hw
      · have hw := hw.2 q6
        refine qx_aload_n (x := x0) X d_M_cut_31 rfl 1 rfl ?_
        refine qx_iconst (v := (0 : Int32)) X d_M_cut_32 (by decide) ?_
        refine qx_aload_n (x := x0) X d_M_cut_33 rfl 1 rfl ?_
        refine qx_getI X qcls12 g5 4 (by decide) rfl wf_M_184 d_M_cut_34 ?_
        refine qx_iconst (v := (0 : Int32)) X d_M_cut_37 (by decide) ?_
        refine qx_lconst (v := (0 : Int64)) X d_M_cut_38 (by decide) ?_
        refine qx_callVV (st := []) (As := [.int (0 : Int32), .int (qI h4 x0 4), .int (0 : Int32), .long (0 : Int64)]) X (t_M_token (adK := adK) (adV := adV) l D cy b N x0 (0 : Int32) (qI h4 x0 4) (0 : Int32) (0 : Int64) h4 _ hw) qm_M_token wm_M_200 wi_M_token wl_M_token qcls12 g5 rfl rfl rfl ⟨Nat.le_of_ble_eq_true rfl, Nat.le_of_ble_eq_true rfl⟩ ⟨Nat.le_refl 0, Nat.le_refl 0⟩ (Nat.le_of_ble_eq_true rfl) rfl d_M_cut_39 (fun h42 hw => ?_)
        exact qx_vret X hw (Nat.le_refl 0) (Nat.le_refl 0) rfl d_M_cut_42
set_option maxRecDepth 4000 in
theorem t_M_cut {adK adV : Nat → Nat} (l : Launch) (D : va_G) (cy : Nat → ClassId) (b : Nat) (N : Nat) (x0 : Nat) (h : qH) (Q : qH → Prop) (hw : w_M_cut N x0 h Q) : Met l y_M_cut (Cond.code y_M_cut prog_14_method_12_code 8 (none) :: qT) (qrm 2 0 0 49) (qPc D cy b adK adV h [qr b x0]) (qQc D cy b qrV (fun (_ : Unit) h => Q h)) 0 0 (qA b) := by
  refine qmet (L0 := [(0, .inr (.inr (.inl x0)))]) qm_M_cut (plainFor_of_name (by decide)) [.inr (.inr (.inl x0))] rfl (Nat.le_of_ble_eq_true rfl) rfl (fun p e s m args below meth c X => ?_)
  unfold w_M_cut at hw
  refine qx_aload_n (x := x0) X d_M_cut_0 rfl 0 rfl ?_
  refine qx_iconst (v := (0 : Int32)) X d_M_cut_1 (by decide) ?_
  obtain ⟨g1, hw⟩ := hw
  refine qx_putI X qcls12 g1 10 (by decide) rfl wf_M_193 rfl rfl rfl d_M_cut_2 ?_
  refine qx_toph (fun h2 eh2 => ?_)
  have hw := hw h2 eh2
  refine qx_iconst (v := (0 : Int32)) X d_M_cut_5 (by decide) ?_
  refine qx_istore_n (L' := [(1, .inl (0 : Int32)), (0, .inr (.inr (.inl x0)))]) X d_M_cut_6 rfl (by decide) rfl ?_
  refine qx_sub [1, 0] rfl ?_
  exact t_M_cut_7 X N N x0 (0 : Int32) h2 Q  hw 
set_option maxRecDepth 4000 in
theorem t_M_is {adK adV : Nat → Nat} (l : Launch) (D : va_G) (cy : Nat → ClassId) (b : Nat) (N : Nat) (x0 : Nat) (x1 : Int32) (h : qH) (Q : Int32 → qH → Prop) (hw : w_M_is N x0 x1 h Q) : Met l y_M_is (Cond.code y_M_is prog_14_method_14_code 2 (some .boolean) :: qT) (qrm 0 0 0 0) (qPc D cy b adK adV h [qr b x0, .int x1]) (qQc D cy b qrI Q) 0 0 (qA b) := by
  refine qmet (L0 := [(0, .inr (.inr (.inl x0))), (1, .inl x1)]) qm_M_is (plainFor_of_name (by decide)) [.inr (.inr (.inl x0)), .inl x1] rfl (Nat.le_of_ble_eq_true rfl) rfl (fun p e s m args below meth c X => ?_)
  unfold w_M_is at hw
  refine qx_aload_n (x := x0) X d_M_is_0 rfl 0 rfl ?_
  obtain ⟨g1, hw⟩ := hw
  refine qx_getI X qcls12 g1 13 (by decide) rfl wf_M_215 d_M_is_1 ?_
  refine qx_if_ne X 24 d_M_is_4 (by decide) (fun q2 => ?_) (fun q2 => ?_)
  · have hw := hw.1 q2
    refine qx_iconst (v := (0 : Int32)) X d_M_is_24 (by decide) ?_
    exact qx_zret X hw (Nat.le_refl 0) (Nat.le_refl 0) rfl d_M_is_25
  · have hw := hw.2 q2
    refine qx_aload_n (x := x0) X d_M_is_7 rfl 0 rfl ?_
    refine qx_getR X qcls12 g1 5 (by decide) rfl wf_M_20 d_M_is_8 ?_
    refine qx_aload_n (x := x0) X d_M_is_11 rfl 0 rfl ?_
    refine qx_getI X qcls12 g1 11 (by decide) rfl wf_M_218 d_M_is_12 ?_
    obtain ⟨g3, hw⟩ := hw
    refine qx_ild X g3 d_M_is_15 ?_
    refine qx_iload_n (x := x1) X d_M_is_16 rfl 1 rfl ?_
    refine qx_icmp_ne X 24 d_M_is_17 (by decide) (fun q4 => ?_) (fun q4 => ?_)
    · have hw := hw.1 q4
      refine qx_iconst (v := (0 : Int32)) X d_M_is_24 (by decide) ?_
      exact qx_zret X hw (Nat.le_refl 0) (Nat.le_refl 0) rfl d_M_is_25
    · have hw := hw.2 q4
      refine qx_iconst (v := (1 : Int32)) X d_M_is_20 (by decide) ?_
      refine qx_goto X 25 d_M_is_21 (by decide) ?_
      exact qx_zret X hw (Nat.le_refl 0) (Nat.le_refl 0) rfl d_M_is_25
set_option maxRecDepth 4000 in
theorem t_M_fail {adK adV : Nat → Nat} (l : Launch) (D : va_G) (cy : Nat → ClassId) (b : Nat) (N : Nat) (x0 : Nat) (x1 : Int32) (h : qH) (Q : qH → Prop) (hw : w_M_fail N x0 x1 h Q) : Met l y_M_fail (Cond.code y_M_fail prog_14_method_15_code 2 (none) :: qT) (qrm 0 0 0 0) (qPc D cy b adK adV h [qr b x0, .int x1]) (qQc D cy b qrV (fun (_ : Unit) h => Q h)) 0 0 (qA b) := by
  refine qmet (L0 := [(0, .inr (.inr (.inl x0))), (1, .inl x1)]) qm_M_fail (plainFor_of_name (by decide)) [.inr (.inr (.inl x0)), .inl x1] rfl (Nat.le_of_ble_eq_true rfl) rfl (fun p e s m args below meth c X => ?_)
  unfold w_M_fail at hw
  refine qx_aload_n (x := x0) X d_M_fail_0 rfl 0 rfl ?_
  obtain ⟨g1, hw⟩ := hw
  refine qx_getI X qcls12 g1 13 (by decide) rfl wf_M_215 d_M_fail_1 ?_
  refine qx_if_le X 8 d_M_fail_4 (by decide) (fun q2 => ?_) (fun q2 => ?_)
  · have hw := hw.1 q2
    refine qx_aload_n (x := x0) X d_M_fail_8 rfl 0 rfl ?_
    refine qx_iload_n (x := x1) X d_M_fail_9 rfl 1 rfl ?_
    refine qx_putI X qcls12 g1 13 (by decide) rfl wf_M_215 rfl rfl rfl d_M_fail_10 ?_
    refine qx_toph (fun h3 eh3 => ?_)
    have hw := hw h3 eh3
    refine qx_aload_n (x := x0) X d_M_fail_13 rfl 0 rfl ?_
    refine qx_aload_n (x := x0) X d_M_fail_14 rfl 0 rfl ?_
    obtain ⟨g4, hw⟩ := hw
    refine qx_getR X qcls12 g4 6 (by decide) rfl wf_M_24 d_M_fail_15 ?_
    refine qx_aload_n (x := x0) X d_M_fail_18 rfl 0 rfl ?_
    refine qx_getI X qcls12 g4 11 (by decide) rfl wf_M_218 d_M_fail_19 ?_
    obtain ⟨g5, hw⟩ := hw
    refine qx_ild X g5 d_M_fail_22 ?_
    refine qx_putI X qcls12 g4 14 (by decide) rfl wf_M_221 rfl rfl rfl d_M_fail_23 ?_
    refine qx_toph (fun h6 eh6 => ?_)
    have hw := hw h6 eh6
    exact qx_vret X hw (Nat.le_refl 0) (Nat.le_refl 0) rfl d_M_fail_26
  · have hw := hw.2 q2
    exact qx_vret X hw (Nat.le_refl 0) (Nat.le_refl 0) rfl d_M_fail_7
set_option maxRecDepth 4000 in
theorem t_M_wrong {adK adV : Nat → Nat} (l : Launch) (D : va_G) (cy : Nat → ClassId) (b : Nat) (N : Nat) (x0 : Nat) (x1 : Int32) (x2 : Int32) (h : qH) (Q : qH → Prop) (hw : w_M_wrong N x0 x1 x2 h Q) : Met l y_M_wrong (Cond.code y_M_wrong prog_14_method_16_code 4 (none) :: qT) (qrm 0 0 0 0) (qPc D cy b adK adV h [qr b x0, .int x1, .int x2]) (qQc D cy b qrV (fun (_ : Unit) h => Q h)) 0 0 (qA b) := by
  refine qmet (L0 := [(0, .inr (.inr (.inl x0))), (1, .inl x1), (2, .inl x2)]) qm_M_wrong (plainFor_of_name (by decide)) [.inr (.inr (.inl x0)), .inl x1, .inl x2] rfl (Nat.le_of_ble_eq_true rfl) rfl (fun p e s m args below meth c X => ?_)
  unfold w_M_wrong at hw
  refine qx_aload_n (x := x0) X d_M_wrong_0 rfl 0 rfl ?_
  obtain ⟨g1, hw⟩ := hw
  refine qx_getR X qcls12 g1 6 (by decide) rfl wf_M_24 d_M_wrong_1 ?_
  refine qx_iload_n (x := x2) X d_M_wrong_4 rfl 2 rfl ?_
  obtain ⟨g2, hw⟩ := hw
  refine qx_ild X g2 d_M_wrong_5 ?_
  refine qx_topi (fun y3 ey3 => ?_)
  have hw := hw y3 ey3
  refine qx_istore_n (L' := [(3, .inl y3), (0, .inr (.inr (.inl x0))), (1, .inl x1), (2, .inl x2)]) X d_M_wrong_6 rfl (by decide) rfl ?_
  refine qx_aload_n (x := x0) X d_M_wrong_7 rfl 1 rfl ?_
  refine qx_getI X qcls12 g1 13 (by decide) rfl wf_M_215 d_M_wrong_8 ?_
  refine qx_if_gt X 45 d_M_wrong_11 (by decide) (fun q4 => ?_) (fun q4 => ?_)
  · have hw := hw.1 q4
    exact qx_vret X hw (Nat.le_refl 0) (Nat.le_refl 0) rfl d_M_wrong_45
  · have hw := hw.2 q4
    refine qx_aload_n (x := x0) X d_M_wrong_14 rfl 1 rfl ?_
    refine qx_getI X qcls12 g1 15 (by decide) rfl wf_M_224 d_M_wrong_15 ?_
    refine qx_if_eq X 46 d_M_wrong_18 (by decide) (fun q5 => ?_) (fun q5 => ?_)
    · have hw := hw.1 q5
      refine qx_aload_n (x := x0) X d_M_wrong_46 rfl 1 rfl ?_
      refine qx_iload_n (x := x1) X d_M_wrong_47 rfl 2 rfl ?_
      refine qx_putI X qcls12 g1 15 (by decide) rfl wf_M_224 rfl rfl rfl d_M_wrong_48 ?_
      refine qx_toph (fun h6 eh6 => ?_)
      have hw := hw h6 eh6
      refine qx_aload_n (x := x0) X d_M_wrong_51 rfl 1 rfl ?_
      refine qx_iload_n (x := y3) X d_M_wrong_52 rfl 0 rfl ?_
      obtain ⟨g7, hw⟩ := hw
      refine qx_putI X qcls12 g7 16 (by decide) rfl wf_M_227 rfl rfl rfl d_M_wrong_53 ?_
      refine qx_toph (fun h8 eh8 => ?_)
      have hw := hw h8 eh8
      exact qx_vret X hw (Nat.le_refl 0) (Nat.le_refl 0) rfl d_M_wrong_56
    · have hw := hw.2 q5
      refine qx_iload_n (x := y3) X d_M_wrong_21 rfl 0 rfl ?_
      refine qx_aload_n (x := x0) X d_M_wrong_22 rfl 1 rfl ?_
      refine qx_getI X qcls12 g1 16 (by decide) rfl wf_M_227 d_M_wrong_23 ?_
      refine qx_icmp_gt X 45 d_M_wrong_26 (by decide) (fun q9 => ?_) (fun q9 => ?_)
      · have hw := hw.1 q9
        exact qx_vret X hw (Nat.le_refl 0) (Nat.le_refl 0) rfl d_M_wrong_45
      · have hw := hw.2 q9
        refine qx_iload_n (x := y3) X d_M_wrong_29 rfl 0 rfl ?_
        refine qx_aload_n (x := x0) X d_M_wrong_30 rfl 1 rfl ?_
        refine qx_getI X qcls12 g1 16 (by decide) rfl wf_M_227 d_M_wrong_31 ?_
        refine qx_icmp_ne X 46 d_M_wrong_34 (by decide) (fun q10 => ?_) (fun q10 => ?_)
        · have hw := hw.1 q10
          refine qx_aload_n (x := x0) X d_M_wrong_46 rfl 1 rfl ?_
          refine qx_iload_n (x := x1) X d_M_wrong_47 rfl 2 rfl ?_
          refine qx_putI X qcls12 g1 15 (by decide) rfl wf_M_224 rfl rfl rfl d_M_wrong_48 ?_
          refine qx_toph (fun h11 eh11 => ?_)
          have hw := hw h11 eh11
          refine qx_aload_n (x := x0) X d_M_wrong_51 rfl 1 rfl ?_
          refine qx_iload_n (x := y3) X d_M_wrong_52 rfl 0 rfl ?_
          obtain ⟨g12, hw⟩ := hw
          refine qx_putI X qcls12 g12 16 (by decide) rfl wf_M_227 rfl rfl rfl d_M_wrong_53 ?_
          refine qx_toph (fun h13 eh13 => ?_)
          have hw := hw h13 eh13
          exact qx_vret X hw (Nat.le_refl 0) (Nat.le_refl 0) rfl d_M_wrong_56
        · have hw := hw.2 q10
          refine qx_iload_n (x := x1) X d_M_wrong_37 rfl 2 rfl ?_
          refine qx_aload_n (x := x0) X d_M_wrong_38 rfl 1 rfl ?_
          refine qx_getI X qcls12 g1 15 (by decide) rfl wf_M_224 d_M_wrong_39 ?_
          refine qx_icmp_lt X 46 d_M_wrong_42 (by decide) (fun q14 => ?_) (fun q14 => ?_)
          · have hw := hw.1 q14
            refine qx_aload_n (x := x0) X d_M_wrong_46 rfl 1 rfl ?_
            refine qx_iload_n (x := x1) X d_M_wrong_47 rfl 2 rfl ?_
            refine qx_putI X qcls12 g1 15 (by decide) rfl wf_M_224 rfl rfl rfl d_M_wrong_48 ?_
            refine qx_toph (fun h15 eh15 => ?_)
            have hw := hw h15 eh15
            refine qx_aload_n (x := x0) X d_M_wrong_51 rfl 1 rfl ?_
            refine qx_iload_n (x := y3) X d_M_wrong_52 rfl 0 rfl ?_
            obtain ⟨g16, hw⟩ := hw
            refine qx_putI X qcls12 g16 16 (by decide) rfl wf_M_227 rfl rfl rfl d_M_wrong_53 ?_
            refine qx_toph (fun h17 eh17 => ?_)
            have hw := hw h17 eh17
            exact qx_vret X hw (Nat.le_refl 0) (Nat.le_refl 0) rfl d_M_wrong_56
          · have hw := hw.2 q14
            exact qx_vret X hw (Nat.le_refl 0) (Nat.le_refl 0) rfl d_M_wrong_45
set_option maxRecDepth 4000 in
theorem t_M_goesOn {adK adV : Nat → Nat} (l : Launch) (D : va_G) (cy : Nat → ClassId) (b : Nat) (N : Nat) (x0 : Nat) (h : qH) (Q : qH → Prop) (hw : w_M_goesOn N x0 h Q) : Met l y_M_goesOn (Cond.code y_M_goesOn prog_14_method_17_code 1 (none) :: qT) (qrm 1 0 0 21) (qPc D cy b adK adV h [qr b x0]) (qQc D cy b qrV (fun (_ : Unit) h => Q h)) 0 0 (qA b) := by
  refine qmet (L0 := [(0, .inr (.inr (.inl x0)))]) qm_M_goesOn (plainFor_of_name (by decide)) [.inr (.inr (.inl x0))] rfl (Nat.le_of_ble_eq_true rfl) rfl (fun p e s m args below meth c X => ?_)
  unfold w_M_goesOn at hw
  refine qx_aload_n (x := x0) X d_M_goesOn_0 rfl 0 rfl ?_
  obtain ⟨g1, hw⟩ := hw
  refine qx_getI X qcls12 g1 11 (by decide) rfl wf_M_218 d_M_goesOn_1 ?_
  refine qx_sipush (v := (400 : Int32)) X d_M_goesOn_4 (by decide) ?_
  refine qx_icmp_ne X 18 d_M_goesOn_7 (by decide) (fun q2 => ?_) (fun q2 => ?_)
  · have hw := hw.1 q2
    refine qx_aload_n (x := x0) X d_M_goesOn_18 rfl 0 rfl ?_
    refine qx_dup X (qr_cat _ _) d_M_goesOn_19 ?_
    refine qx_getI X qcls12 g1 11 (by decide) rfl wf_M_218 d_M_goesOn_20 ?_
    refine qx_iconst (v := (1 : Int32)) X d_M_goesOn_23 (by decide) ?_
    refine qx_iadd X d_M_goesOn_24 ?_
    refine qx_putI X qcls12 g1 11 (by decide) rfl wf_M_218 rfl rfl rfl d_M_goesOn_25 ?_
    refine qx_toph (fun h3 eh3 => ?_)
    have hw := hw h3 eh3
    exact qx_vret X hw (Nat.le_refl 0) (Nat.le_refl 0) rfl d_M_goesOn_28
  · have hw := hw.2 q2
    refine qx_aload_n (x := x0) X d_M_goesOn_10 rfl 0 rfl ?_
    refine qx_iconst (v := (2 : Int32)) X d_M_goesOn_11 (by decide) ?_
    refine qx_callVV (st := []) (As := [.int (2 : Int32)]) X (t_M_fail (adK := adK) (adV := adV) l D cy b N x0 (2 : Int32) h _ hw) qm_M_fail wm_M_230 wi_M_fail wl_M_fail qcls12 g1 rfl rfl rfl ⟨Nat.le_of_ble_eq_true rfl, Nat.le_of_ble_eq_true rfl⟩ ⟨Nat.le_refl 0, Nat.le_refl 0⟩ (Nat.le_of_ble_eq_true rfl) rfl d_M_goesOn_12 (fun h4 hw => ?_)
    refine qx_goto X 28 d_M_goesOn_15 (by decide) ?_
    exact qx_vret X hw (Nat.le_refl 0) (Nat.le_refl 0) rfl d_M_goesOn_28
set_option maxRecDepth 4000 in
theorem t_M_must {adK adV : Nat → Nat} (l : Launch) (D : va_G) (cy : Nat → ClassId) (b : Nat) (N : Nat) (x0 : Nat) (x1 : Int32) (h : qH) (Q : qH → Prop) (hw : w_M_must N x0 x1 h Q) : Met l y_M_must (Cond.code y_M_must prog_14_method_18_code 2 (none) :: qT) (qrm 2 0 0 41) (qPc D cy b adK adV h [qr b x0, .int x1]) (qQc D cy b qrV (fun (_ : Unit) h => Q h)) 0 0 (qA b) := by
  refine qmet (L0 := [(0, .inr (.inr (.inl x0))), (1, .inl x1)]) qm_M_must (plainFor_of_name (by decide)) [.inr (.inr (.inl x0)), .inl x1] rfl (Nat.le_of_ble_eq_true rfl) rfl (fun p e s m args below meth c X => ?_)
  unfold w_M_must at hw
  refine qx_aload_n (x := x0) X d_M_must_0 rfl 0 rfl ?_
  refine qx_iload_n (x := x1) X d_M_must_1 rfl 1 rfl ?_
  obtain ⟨g1, hw⟩ := hw
  refine qx_callVI (st := []) (As := [.int x1]) X (t_M_is (adK := adK) (adV := adV) l D cy b N x0 x1 h _ hw) qm_M_is wm_M_233 wi_M_is wl_M_is qcls12 g1 rfl rfl rfl ⟨Nat.le_of_ble_eq_true rfl, Nat.le_of_ble_eq_true rfl⟩ ⟨Nat.le_refl 0, Nat.le_refl 0⟩ (Nat.le_of_ble_eq_true rfl) rfl d_M_must_2 (fun r2 h3 hw => ?_)
  refine qx_if_eq X 15 d_M_must_5 (by decide) (fun q4 => ?_) (fun q4 => ?_)
  · have hw := hw.1 q4
    refine qx_aload_n (x := x0) X d_M_must_15 rfl 0 rfl ?_
    refine qx_iconst (v := (1 : Int32)) X d_M_must_16 (by decide) ?_
    obtain ⟨g5, hw⟩ := hw
    refine qx_callVV (st := []) (As := [.int (1 : Int32)]) X (t_M_fail (adK := adK) (adV := adV) l D cy b N x0 (1 : Int32) h3 _ hw) qm_M_fail wm_M_230 wi_M_fail wl_M_fail qcls12 g5 rfl rfl rfl ⟨Nat.le_of_ble_eq_true rfl, Nat.le_of_ble_eq_true rfl⟩ ⟨Nat.le_refl 0, Nat.le_refl 0⟩ (Nat.le_of_ble_eq_true rfl) rfl d_M_must_17 (fun h6 hw => ?_)
    exact qx_vret X hw (Nat.le_refl 0) (Nat.le_refl 0) rfl d_M_must_20
  · have hw := hw.2 q4
    refine qx_aload_n (x := x0) X d_M_must_8 rfl 0 rfl ?_
    obtain ⟨g7, hw⟩ := hw
    refine qx_callVV (st := []) (As := []) X (t_M_goesOn (adK := adK) (adV := adV) l D cy b N x0 h3 _ hw) qm_M_goesOn wm_M_236 wi_M_goesOn wl_M_goesOn qcls12 g7 rfl rfl rfl ⟨Nat.le_of_ble_eq_true rfl, Nat.le_of_ble_eq_true rfl⟩ ⟨Nat.le_refl 0, Nat.le_refl 0⟩ (Nat.le_of_ble_eq_true rfl) rfl d_M_must_9 (fun h8 hw => ?_)
    refine qx_goto X 20 d_M_must_12 (by decide) ?_
    exact qx_vret X hw (Nat.le_refl 0) (Nat.le_refl 0) rfl d_M_must_20
set_option maxRecDepth 4000 in
theorem t_M_bounded {adK adV : Nat → Nat} (l : Launch) (D : va_G) (cy : Nat → ClassId) (b : Nat) (N : Nat) (x0 : Nat) (x1 : Int32) (x2 : Int32) (h : qH) (Q : Int32 → qH → Prop) (hw : w_M_bounded N x0 x1 x2 h Q) : Met l y_M_bounded (Cond.code y_M_bounded prog_14_method_27_code 4 (some .int) :: qT) (qrm 2 0 0 41) (qPc D cy b adK adV h [qr b x0, .int x1, .int x2]) (qQc D cy b qrI Q) 0 0 (qA b) := by
  refine qmet (L0 := [(0, .inr (.inr (.inl x0))), (1, .inl x1), (2, .inl x2)]) qm_M_bounded (plainFor_of_name (by decide)) [.inr (.inr (.inl x0)), .inl x1, .inl x2] rfl (Nat.le_of_ble_eq_true rfl) rfl (fun p e s m args below meth c X => ?_)
  unfold w_M_bounded at hw
  refine qx_aload_n (x := x0) X d_M_bounded_0 rfl 0 rfl ?_
  obtain ⟨g1, hw⟩ := hw
  refine qx_getI X qcls12 g1 13 (by decide) rfl wf_M_215 d_M_bounded_1 ?_
  refine qx_if_gt X 15 d_M_bounded_4 (by decide) (fun q2 => ?_) (fun q2 => ?_)
  · have hw := hw.1 q2
    refine qx_aload_n (x := x0) X d_M_bounded_15 rfl 0 rfl ?_
    refine qx_iconst (v := (1 : Int32)) X d_M_bounded_16 (by decide) ?_
    refine qx_callVV (st := []) (As := [.int (1 : Int32)]) X (t_M_fail (adK := adK) (adV := adV) l D cy b N x0 (1 : Int32) h _ hw) qm_M_fail wm_M_230 wi_M_fail wl_M_fail qcls12 g1 rfl rfl rfl ⟨Nat.le_of_ble_eq_true rfl, Nat.le_of_ble_eq_true rfl⟩ ⟨Nat.le_refl 0, Nat.le_refl 0⟩ (Nat.le_of_ble_eq_true rfl) rfl d_M_bounded_17 (fun h3 hw => ?_)
    refine qx_iload_n (x := x1) X d_M_bounded_20 rfl 1 rfl ?_
    exact qx_iret X hw (Nat.le_refl 0) (Nat.le_refl 0) rfl d_M_bounded_21
  · have hw := hw.2 q2
    refine qx_aload_n (x := x0) X d_M_bounded_7 rfl 0 rfl ?_
    refine qx_iconst (v := (2 : Int32)) X d_M_bounded_8 (by decide) ?_
    refine qx_callVI (st := []) (As := [.int (2 : Int32)]) X (t_M_is (adK := adK) (adV := adV) l D cy b N x0 (2 : Int32) h _ hw) qm_M_is wm_M_233 wi_M_is wl_M_is qcls12 g1 rfl rfl rfl ⟨Nat.le_of_ble_eq_true rfl, Nat.le_of_ble_eq_true rfl⟩ ⟨Nat.le_refl 0, Nat.le_refl 0⟩ (Nat.le_of_ble_eq_true rfl) rfl d_M_bounded_9 (fun r4 h5 hw => ?_)
    refine qx_if_ne X 22 d_M_bounded_12 (by decide) (fun q6 => ?_) (fun q6 => ?_)
    · have hw := hw.1 q6
      refine qx_aload_n (x := x0) X d_M_bounded_22 rfl 0 rfl ?_
      obtain ⟨g7, hw⟩ := hw
      refine qx_getR X qcls12 g7 7 (by decide) rfl wf_M_27 d_M_bounded_23 ?_
      refine qx_aload_n (x := x0) X d_M_bounded_26 rfl 0 rfl ?_
      refine qx_getI X qcls12 g7 11 (by decide) rfl wf_M_218 d_M_bounded_27 ?_
      obtain ⟨g8, hw⟩ := hw
      refine qx_ild X g8 d_M_bounded_30 ?_
      refine qx_topi (fun y9 ey9 => ?_)
      have hw := hw y9 ey9
      refine qx_istore_n (L' := [(3, .inl y9), (0, .inr (.inr (.inl x0))), (1, .inl x1), (2, .inl x2)]) X d_M_bounded_31 rfl (by decide) rfl ?_
      refine qx_iload_n (x := y9) X d_M_bounded_32 rfl 0 rfl ?_
      refine qx_iload_n (x := x1) X d_M_bounded_33 rfl 2 rfl ?_
      refine qx_icmp_lt X 42 d_M_bounded_34 (by decide) (fun q10 => ?_) (fun q10 => ?_)
      · have hw := hw.1 q10
        refine qx_aload_n (x := x0) X d_M_bounded_42 rfl 1 rfl ?_
        refine qx_iconst (v := (5 : Int32)) X d_M_bounded_43 (by decide) ?_
        refine qx_aload_n (x := x0) X d_M_bounded_44 rfl 1 rfl ?_
        refine qx_getI X qcls12 g7 11 (by decide) rfl wf_M_218 d_M_bounded_45 ?_
        refine qx_callVV (st := []) (As := [.int (5 : Int32), .int (qI h5 x0 11)]) X (t_M_wrong (adK := adK) (adV := adV) l D cy b N x0 (5 : Int32) (qI h5 x0 11) h5 _ hw) qm_M_wrong wm_M_293 wi_M_wrong wl_M_wrong qcls12 g7 rfl rfl rfl ⟨Nat.le_of_ble_eq_true rfl, Nat.le_of_ble_eq_true rfl⟩ ⟨Nat.le_refl 0, Nat.le_refl 0⟩ (Nat.le_of_ble_eq_true rfl) rfl d_M_bounded_48 (fun h11 hw => ?_)
        refine qx_aload_n (x := x0) X d_M_bounded_51 rfl 1 rfl ?_
        obtain ⟨g12, hw⟩ := hw
        refine qx_callVV (st := []) (As := []) X (t_M_goesOn (adK := adK) (adV := adV) l D cy b N x0 h11 _ hw) qm_M_goesOn wm_M_236 wi_M_goesOn wl_M_goesOn qcls12 g12 rfl rfl rfl ⟨Nat.le_of_ble_eq_true rfl, Nat.le_of_ble_eq_true rfl⟩ ⟨Nat.le_refl 0, Nat.le_refl 0⟩ (Nat.le_of_ble_eq_true rfl) rfl d_M_bounded_52 (fun h13 hw => ?_)
        refine qx_iload_n (x := y9) X d_M_bounded_55 rfl 0 rfl ?_
        exact qx_iret X hw (Nat.le_refl 0) (Nat.le_refl 0) rfl d_M_bounded_56
      · have hw := hw.2 q10
        refine qx_iload_n (x := y9) X d_M_bounded_37 rfl 0 rfl ?_
        refine qx_iload_n (x := x2) X d_M_bounded_38 rfl 3 rfl ?_
        refine qx_icmp_le X 51 d_M_bounded_39 (by decide) (fun q14 => ?_) (fun q14 => ?_)
        · have hw := hw.1 q14
          refine qx_aload_n (x := x0) X d_M_bounded_51 rfl 1 rfl ?_
          refine qx_callVV (st := []) (As := []) X (t_M_goesOn (adK := adK) (adV := adV) l D cy b N x0 h5 _ hw) qm_M_goesOn wm_M_236 wi_M_goesOn wl_M_goesOn qcls12 g7 rfl rfl rfl ⟨Nat.le_of_ble_eq_true rfl, Nat.le_of_ble_eq_true rfl⟩ ⟨Nat.le_refl 0, Nat.le_refl 0⟩ (Nat.le_of_ble_eq_true rfl) rfl d_M_bounded_52 (fun h15 hw => ?_)
          refine qx_iload_n (x := y9) X d_M_bounded_55 rfl 0 rfl ?_
          exact qx_iret X hw (Nat.le_refl 0) (Nat.le_refl 0) rfl d_M_bounded_56
        · have hw := hw.2 q14
          refine qx_aload_n (x := x0) X d_M_bounded_42 rfl 1 rfl ?_
          refine qx_iconst (v := (5 : Int32)) X d_M_bounded_43 (by decide) ?_
          refine qx_aload_n (x := x0) X d_M_bounded_44 rfl 1 rfl ?_
          refine qx_getI X qcls12 g7 11 (by decide) rfl wf_M_218 d_M_bounded_45 ?_
          refine qx_callVV (st := []) (As := [.int (5 : Int32), .int (qI h5 x0 11)]) X (t_M_wrong (adK := adK) (adV := adV) l D cy b N x0 (5 : Int32) (qI h5 x0 11) h5 _ hw) qm_M_wrong wm_M_293 wi_M_wrong wl_M_wrong qcls12 g7 rfl rfl rfl ⟨Nat.le_of_ble_eq_true rfl, Nat.le_of_ble_eq_true rfl⟩ ⟨Nat.le_refl 0, Nat.le_refl 0⟩ (Nat.le_of_ble_eq_true rfl) rfl d_M_bounded_48 (fun h16 hw => ?_)
          refine qx_aload_n (x := x0) X d_M_bounded_51 rfl 1 rfl ?_
          obtain ⟨g17, hw⟩ := hw
          refine qx_callVV (st := []) (As := []) X (t_M_goesOn (adK := adK) (adV := adV) l D cy b N x0 h16 _ hw) qm_M_goesOn wm_M_236 wi_M_goesOn wl_M_goesOn qcls12 g17 rfl rfl rfl ⟨Nat.le_of_ble_eq_true rfl, Nat.le_of_ble_eq_true rfl⟩ ⟨Nat.le_refl 0, Nat.le_refl 0⟩ (Nat.le_of_ble_eq_true rfl) rfl d_M_bounded_52 (fun h18 hw => ?_)
          refine qx_iload_n (x := y9) X d_M_bounded_55 rfl 0 rfl ?_
          exact qx_iret X hw (Nat.le_refl 0) (Nat.le_refl 0) rfl d_M_bounded_56
    · have hw := hw.2 q6
      refine qx_aload_n (x := x0) X d_M_bounded_15 rfl 0 rfl ?_
      refine qx_iconst (v := (1 : Int32)) X d_M_bounded_16 (by decide) ?_
      obtain ⟨g19, hw⟩ := hw
      refine qx_callVV (st := []) (As := [.int (1 : Int32)]) X (t_M_fail (adK := adK) (adV := adV) l D cy b N x0 (1 : Int32) h5 _ hw) qm_M_fail wm_M_230 wi_M_fail wl_M_fail qcls12 g19 rfl rfl rfl ⟨Nat.le_of_ble_eq_true rfl, Nat.le_of_ble_eq_true rfl⟩ ⟨Nat.le_refl 0, Nat.le_refl 0⟩ (Nat.le_of_ble_eq_true rfl) rfl d_M_bounded_17 (fun h20 hw => ?_)
      refine qx_iload_n (x := x1) X d_M_bounded_20 rfl 1 rfl ?_
      exact qx_iret X hw (Nat.le_refl 0) (Nat.le_refl 0) rfl d_M_bounded_21
set_option maxRecDepth 4000 in
theorem t_M_endsName {adK adV : Nat → Nat} (l : Launch) (D : va_G) (cy : Nat → ClassId) (b : Nat) (N : Nat) (x0 : Nat) (x1 : Int32) (x2 : Int32) (h : qH) (Q : qH → Prop) (hw : w_M_endsName N x0 x1 x2 h Q) : Met l y_M_endsName (Cond.code y_M_endsName prog_14_method_25_code 3 (none) :: qT) (qrm 3 0 0 62) (qPc D cy b adK adV h [qr b x0, .int x1, .int x2]) (qQc D cy b qrV (fun (_ : Unit) h => Q h)) 0 0 (qA b) := by
  refine qmet (L0 := [(0, .inr (.inr (.inl x0))), (1, .inl x1), (2, .inl x2)]) qm_M_endsName (plainFor_of_name (by decide)) [.inr (.inr (.inl x0)), .inl x1, .inl x2] rfl (Nat.le_of_ble_eq_true rfl) rfl (fun p e s m args below meth c X => ?_)
  unfold w_M_endsName at hw
  refine qx_aload_n (x := x0) X d_M_endsName_0 rfl 0 rfl ?_
  refine qx_iconst (v := (4 : Int32)) X d_M_endsName_1 (by decide) ?_
  obtain ⟨g1, hw⟩ := hw
  refine qx_callVV (st := []) (As := [.int (4 : Int32)]) X (t_M_must (adK := adK) (adV := adV) l D cy b N x0 (4 : Int32) h _ hw) qm_M_must wm_M_287 wi_M_must wl_M_must qcls12 g1 rfl rfl rfl ⟨Nat.le_of_ble_eq_true rfl, Nat.le_of_ble_eq_true rfl⟩ ⟨Nat.le_refl 0, Nat.le_refl 0⟩ (Nat.le_of_ble_eq_true rfl) rfl d_M_endsName_2 (fun h2 hw => ?_)
  refine qx_aload_n (x := x0) X d_M_endsName_5 rfl 0 rfl ?_
  obtain ⟨g3, hw⟩ := hw
  refine qx_getI X qcls12 g3 13 (by decide) rfl wf_M_215 d_M_endsName_6 ?_
  refine qx_if_le X 13 d_M_endsName_9 (by decide) (fun q4 => ?_) (fun q4 => ?_)
  · have hw := hw.1 q4
    refine qx_aload_n (x := x0) X d_M_endsName_13 rfl 0 rfl ?_
    refine qx_getR X qcls12 g3 21 (by decide) rfl wf_M_40 d_M_endsName_14 ?_
    refine qx_aload_n (x := x0) X d_M_endsName_17 rfl 0 rfl ?_
    refine qx_getI X qcls12 g3 20 (by decide) rfl wf_M_251 d_M_endsName_18 ?_
    refine qx_aload_n (x := x0) X d_M_endsName_21 rfl 0 rfl ?_
    refine qx_getR X qcls12 g3 8 (by decide) rfl wf_M_30 d_M_endsName_22 ?_
    refine qx_iload_n (x := x1) X d_M_endsName_25 rfl 1 rfl ?_
    obtain ⟨g5, hw⟩ := hw
    refine qx_lld X g5 d_M_endsName_26 ?_
    obtain ⟨g6, hw⟩ := hw
    refine qx_lst X g6 d_M_endsName_27 ?_
    refine qx_toph (fun h7 eh7 => ?_)
    have hw := hw h7 eh7
    refine qx_aload_n (x := x0) X d_M_endsName_28 rfl 0 rfl ?_
    obtain ⟨g8, hw⟩ := hw
    refine qx_getR X qcls12 g8 22 (by decide) rfl wf_M_43 d_M_endsName_29 ?_
    refine qx_aload_n (x := x0) X d_M_endsName_32 rfl 0 rfl ?_
    refine qx_getI X qcls12 g8 20 (by decide) rfl wf_M_251 d_M_endsName_33 ?_
    refine qx_iload_n (x := x2) X d_M_endsName_36 rfl 2 rfl ?_
    obtain ⟨g9, hw⟩ := hw
    refine qx_ist X g9 d_M_endsName_37 ?_
    refine qx_toph (fun h10 eh10 => ?_)
    have hw := hw h10 eh10
    refine qx_aload_n (x := x0) X d_M_endsName_38 rfl 0 rfl ?_
    refine qx_dup X (qr_cat _ _) d_M_endsName_39 ?_
    obtain ⟨g11, hw⟩ := hw
    refine qx_getI X qcls12 g11 20 (by decide) rfl wf_M_251 d_M_endsName_40 ?_
    refine qx_iconst (v := (1 : Int32)) X d_M_endsName_43 (by decide) ?_
    refine qx_iadd X d_M_endsName_44 ?_
    refine qx_putI X qcls12 g11 20 (by decide) rfl wf_M_251 rfl rfl rfl d_M_endsName_45 ?_
    refine qx_toph (fun h12 eh12 => ?_)
    have hw := hw h12 eh12
    exact qx_vret X hw (Nat.le_refl 0) (Nat.le_refl 0) rfl d_M_endsName_48
  · have hw := hw.2 q4
    exact qx_vret X hw (Nat.le_refl 0) (Nat.le_refl 0) rfl d_M_endsName_12
set_option maxRecDepth 4000 in
theorem t_M_named_12 (X : qX p s m args meth c D cy b adK adV prog_14_method_24_code "CoatHangersModel" 3 (some .int) "named") (N k : Nat) (x0 : Nat) (x1 : Int32) (x2 : Int32) (h : qH) (Q : Int32 → qH → Prop)  (hw : w_M_named_12 N k x0 x1 x2 h Q ) : qW p l e (qrm 3 0 0 62) s m args below meth c D cy b 3 0 0 (MQ below (qQc D cy b qrI Q) args s 0 0 (qA b)) 12 [(0, .inr (.inr (.inl x0))), (1, .inl x1), (2, .inl x2)] [] h := by
  induction k generalizing x0 x1 x2 h with
  | zero => exact hw.elim
  | succ k ih =>
    refine qx_iload_n (x := x2) X d_M_named_12 rfl 2 rfl ?_
    refine qx_aload_n (x := x0) X d_M_named_13 rfl 0 rfl ?_
    obtain ⟨g1, hw⟩ := hw
    refine qx_getI X qcls12 g1 20 (by decide) rfl wf_M_251 d_M_named_14 ?_
    refine qx_icmp_ge X 55 d_M_named_17 (by decide) (fun q2 => ?_) (fun q2 => ?_)
    · have hw := hw.1 q2
      refine qx_iload_n (x := x1) X d_M_named_55 rfl 1 rfl ?_
      exact qx_iret X hw (Nat.le_refl 0) (Nat.le_refl 0) rfl d_M_named_56
    · have hw := hw.2 q2
      refine qx_aload_n (x := x0) X d_M_named_20 rfl 0 rfl ?_
      refine qx_getI X qcls12 g1 13 (by decide) rfl wf_M_215 d_M_named_21 ?_
      refine qx_if_ne X 55 d_M_named_24 (by decide) (fun q3 => ?_) (fun q3 => ?_)
      · have hw := hw.1 q3
        refine qx_iload_n (x := x1) X d_M_named_55 rfl 1 rfl ?_
        exact qx_iret X hw (Nat.le_refl 0) (Nat.le_refl 0) rfl d_M_named_56
      · have hw := hw.2 q3
        refine qx_aload_n (x := x0) X d_M_named_27 rfl 0 rfl ?_
        refine qx_getR X qcls12 g1 21 (by decide) rfl wf_M_40 d_M_named_28 ?_
        refine qx_iload_n (x := x2) X d_M_named_31 rfl 2 rfl ?_
        obtain ⟨g4, hw⟩ := hw
        refine qx_lld X g4 d_M_named_32 ?_
        refine qx_aload_n (x := x0) X d_M_named_33 rfl 0 rfl ?_
        refine qx_getR X qcls12 g1 8 (by decide) rfl wf_M_30 d_M_named_34 ?_
        refine qx_iload_n (x := x1) X d_M_named_37 rfl 1 rfl ?_
        obtain ⟨g5, hw⟩ := hw
        refine qx_lld X g5 d_M_named_38 ?_
        refine qx_lcmp X d_M_named_39 ?_
        refine qx_if_ne X 49 d_M_named_40 (by decide) (fun q6 => ?_) (fun q6 => ?_)
        · have hw := hw.1 q6
          refine qx_iinc (v := (x2 + (1 : Int32))) (L' := [(2, .inl (x2 + (1 : Int32))), (0, .inr (.inr (.inl x0))), (1, .inl x1)]) X d_M_named_49 2 rfl rfl (by decide) rfl ?_
          refine qx_goto X 12 d_M_named_52 (by decide) ?_
          refine qx_sub [1, 2, 0] rfl ?_
          exact ih x0 x1 (x2 + (1 : Int32)) h hw
        · have hw := hw.2 q6
          refine qx_aload_n (x := x0) X d_M_named_43 rfl 0 rfl ?_
          refine qx_iconst (v := (3 : Int32)) X d_M_named_44 (by decide) ?_
          refine qx_iload_n (x := x1) X d_M_named_45 rfl 1 rfl ?_
          refine qx_callVV (st := []) (As := [.int (3 : Int32), .int x1]) X (t_M_wrong (adK := adK) (adV := adV) l D cy b N x0 (3 : Int32) x1 h _ hw) qm_M_wrong wm_M_293 wi_M_wrong wl_M_wrong qcls12 g1 rfl rfl rfl ⟨Nat.le_of_ble_eq_true rfl, Nat.le_of_ble_eq_true rfl⟩ ⟨Nat.le_refl 0, Nat.le_refl 0⟩ (Nat.le_of_ble_eq_true rfl) rfl d_M_named_46 (fun h7 hw => ?_)
          refine qx_iinc (v := (x2 + (1 : Int32))) (L' := [(2, .inl (x2 + (1 : Int32))), (0, .inr (.inr (.inl x0))), (1, .inl x1)]) X d_M_named_49 2 rfl rfl (by decide) rfl ?_
          refine qx_goto X 12 d_M_named_52 (by decide) ?_
          refine qx_sub [1, 2, 0] rfl ?_
          exact ih x0 x1 (x2 + (1 : Int32)) h7 hw
set_option maxRecDepth 4000 in
theorem t_M_named {adK adV : Nat → Nat} (l : Launch) (D : va_G) (cy : Nat → ClassId) (b : Nat) (N : Nat) (x0 : Nat) (h : qH) (Q : Int32 → qH → Prop) (hw : w_M_named N x0 h Q) : Met l y_M_named (Cond.code y_M_named prog_14_method_24_code 3 (some .int) :: qT) (qrm 3 0 0 62) (qPc D cy b adK adV h [qr b x0]) (qQc D cy b qrI Q) 0 0 (qA b) := by
  refine qmet (L0 := [(0, .inr (.inr (.inl x0)))]) qm_M_named (plainFor_of_name (by decide)) [.inr (.inr (.inl x0))] rfl (Nat.le_of_ble_eq_true rfl) rfl (fun p e s m args below meth c X => ?_)
  unfold w_M_named at hw
  refine qx_aload_n (x := x0) X d_M_named_0 rfl 0 rfl ?_
  obtain ⟨g1, hw⟩ := hw
  refine qx_getI X qcls12 g1 11 (by decide) rfl wf_M_218 d_M_named_1 ?_
  refine qx_topi (fun y2 ey2 => ?_)
  have hw := hw y2 ey2
  refine qx_istore_n (L' := [(1, .inl y2), (0, .inr (.inr (.inl x0)))]) X d_M_named_4 rfl (by decide) rfl ?_
  refine qx_aload_n (x := x0) X d_M_named_5 rfl 1 rfl ?_
  refine qx_iconst (v := (1 : Int32)) X d_M_named_6 (by decide) ?_
  refine qx_callVV (st := []) (As := [.int (1 : Int32)]) X (t_M_must (adK := adK) (adV := adV) l D cy b N x0 (1 : Int32) h _ hw) qm_M_must wm_M_287 wi_M_must wl_M_must qcls12 g1 rfl rfl rfl ⟨Nat.le_of_ble_eq_true rfl, Nat.le_of_ble_eq_true rfl⟩ ⟨Nat.le_refl 0, Nat.le_refl 0⟩ (Nat.le_of_ble_eq_true rfl) rfl d_M_named_7 (fun h3 hw => ?_)
  refine qx_iconst (v := (0 : Int32)) X d_M_named_10 (by decide) ?_
  refine qx_istore_n (L' := [(2, .inl (0 : Int32)), (1, .inl y2), (0, .inr (.inr (.inl x0)))]) X d_M_named_11 rfl (by decide) rfl ?_
  refine qx_sub [2, 1, 0] rfl ?_
  exact t_M_named_12 X N N x0 y2 (0 : Int32) h3 Q  hw 
end QG
