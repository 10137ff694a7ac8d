/-! the reference, part 2: written by wip/whole/emit.py out of the bytecode -/
def y_M_read : MethodName := ⟨"CoatHangersModel", "read", "()I"⟩
theorem qm_M_read : qMt y_M_read prog_14_method_20_code 2 (some .int) 0 := ⟨qT_7 (i := 33) (by decide +kernel) rfl, qT_1 (i := 17) (by decide +kernel) rfl, by decide, by decide, by decide +kernel⟩
theorem wi_M_read : Cond.instanceMethod y_M_read ∈ qT := qT_7 (i := 31) (by decide +kernel) rfl
theorem wl_M_read : Cond.selects y_M_read.cls y_M_read y_M_read ∈ qT := qT_7 (i := 32) (by decide +kernel) rfl
def y_M_place : MethodName := ⟨"CoatHangersModel", "place", "()I"⟩
theorem qm_M_place : qMt y_M_place prog_14_method_21_code 1 (some .int) 0 := ⟨qT_7 (i := 131) (by decide +kernel) rfl, qT_1 (i := 17) (by decide +kernel) rfl, by decide, by decide, by decide +kernel⟩
theorem wi_M_place : Cond.instanceMethod y_M_place ∈ qT := qT_7 (i := 129) (by decide +kernel) rfl
theorem wl_M_place : Cond.selects y_M_place.cls y_M_place y_M_place ∈ qT := qT_7 (i := 130) (by decide +kernel) rfl
def y_M_termOf : MethodName := ⟨"CoatHangersModel", "termOf", "(II)I"⟩
theorem qm_M_termOf : qMt y_M_termOf prog_14_method_35_code 8 (some .int) 2 := ⟨qT_7 (i := 197) (by decide +kernel) rfl, qT_1 (i := 17) (by decide +kernel) rfl, by decide, by decide, by decide +kernel⟩
theorem wi_M_termOf : Cond.instanceMethod y_M_termOf ∈ qT := qT_7 (i := 196) (by decide +kernel) rfl
theorem wl_M_termOf : Cond.selects y_M_termOf.cls y_M_termOf y_M_termOf ∈ qT := qT_s (i := 90) (by decide +kernel) rfl
def y_M_in : MethodName := ⟨"CoatHangersModel", "in", "(III)Z"⟩
theorem qm_M_in : qMt y_M_in prog_14_method_36_code 3 (some .boolean) 3 := ⟨qT_7 (i := 142) (by decide +kernel) rfl, qT_1 (i := 17) (by decide +kernel) rfl, by decide, by decide, by decide +kernel⟩
theorem wi_M_in : Cond.static y_M_in ∈ qT := qT_7 (i := 141) (by decide +kernel) rfl
def y_M_within : MethodName := ⟨"CoatHangersModel", "within", "(III)I"⟩
theorem qm_M_within : qMt y_M_within prog_14_method_37_code 3 (some .int) 3 := ⟨qT_7 (i := 200) (by decide +kernel) rfl, qT_1 (i := 17) (by decide +kernel) rfl, by decide, by decide, by decide +kernel⟩
theorem wi_M_within : Cond.static y_M_within ∈ qT := qT_7 (i := 199) (by decide +kernel) rfl
def y_M_off : MethodName := ⟨"CoatHangersModel", "off", "(II)I"⟩
theorem qm_M_off : qMt y_M_off prog_14_method_38_code 2 (some .int) 2 := ⟨qT_7 (i := 189) (by decide +kernel) rfl, qT_1 (i := 17) (by decide +kernel) rfl, by decide, by decide, by decide +kernel⟩
theorem wi_M_off : Cond.static y_M_off ∈ qT := qT_7 (i := 188) (by decide +kernel) rfl
def y_M_isHanger : MethodName := ⟨"CoatHangersModel", "isHanger", "(I)Z"⟩
theorem qm_M_isHanger : qMt y_M_isHanger prog_14_method_39_code 2 (some .boolean) 1 := ⟨qT_7 (i := 139) (by decide +kernel) rfl, qT_1 (i := 17) (by decide +kernel) rfl, by decide, by decide, by decide +kernel⟩
theorem wi_M_isHanger : Cond.instanceMethod y_M_isHanger ∈ qT := qT_7 (i := 138) (by decide +kernel) rfl
theorem wl_M_isHanger : Cond.selects y_M_isHanger.cls y_M_isHanger y_M_isHanger ∈ qT := qT_s (i := 79) (by decide +kernel) rfl
def y_M_isPerson : MethodName := ⟨"CoatHangersModel", "isPerson", "(I)Z"⟩
theorem qm_M_isPerson : qMt y_M_isPerson prog_14_method_40_code 2 (some .boolean) 1 := ⟨qT_7 (i := 162) (by decide +kernel) rfl, qT_1 (i := 17) (by decide +kernel) rfl, by decide, by decide, by decide +kernel⟩
theorem wi_M_isPerson : Cond.instanceMethod y_M_isPerson ∈ qT := qT_7 (i := 161) (by decide +kernel) rfl
theorem wl_M_isPerson : Cond.selects y_M_isPerson.cls y_M_isPerson y_M_isPerson ∈ qT := qT_s (i := 83) (by decide +kernel) rfl
def y_M_copies : MethodName := ⟨"CoatHangersModel", "copies", "()V"⟩
theorem qm_M_copies : qMt y_M_copies prog_14_method_43_code 2 (none) 0 := ⟨qT_7 (i := 146) (by decide +kernel) rfl, qT_1 (i := 17) (by decide +kernel) rfl, by decide, by decide, by decide +kernel⟩
theorem wi_M_copies : Cond.instanceMethod y_M_copies ∈ qT := qT_7 (i := 145) (by decide +kernel) rfl
theorem wl_M_copies : Cond.selects y_M_copies.cls y_M_copies y_M_copies ∈ qT := qT_s (i := 80) (by decide +kernel) rfl
def y_M_copiesStill : MethodName := ⟨"CoatHangersModel", "copiesStill", "()V"⟩
theorem qm_M_copiesStill : qMt y_M_copiesStill prog_14_method_44_code 1 (none) 0 := ⟨qT_7 (i := 232) (by decide +kernel) rfl, qT_1 (i := 17) (by decide +kernel) rfl, by decide, by decide, by decide +kernel⟩
theorem wi_M_copiesStill : Cond.instanceMethod y_M_copiesStill ∈ qT := qT_7 (i := 231) (by decide +kernel) rfl
theorem wl_M_copiesStill : Cond.selects y_M_copiesStill.cls y_M_copiesStill y_M_copiesStill ∈ qT := qT_s (i := 95) (by decide +kernel) rfl
def y_M_mixed : MethodName := ⟨"CoatHangersModel", "mixed", "(II)I"⟩
theorem qm_M_mixed : qMt y_M_mixed prog_14_method_45_code 3 (some .int) 2 := ⟨qT_8 (i := 18) (by decide +kernel) rfl, qT_1 (i := 17) (by decide +kernel) rfl, by decide, by decide, by decide +kernel⟩
theorem wi_M_mixed : Cond.static y_M_mixed ∈ qT := qT_8 (i := 17) (by decide +kernel) rfl
def y_M_lotOf : MethodName := ⟨"CoatHangersModel", "lotOf", "(II)I"⟩
theorem qm_M_lotOf : qMt y_M_lotOf prog_14_method_46_code 3 (some .int) 2 := ⟨qT_8 (i := 15) (by decide +kernel) rfl, qT_1 (i := 17) (by decide +kernel) rfl, by decide, by decide, by decide +kernel⟩
theorem wi_M_lotOf : Cond.instanceMethod y_M_lotOf ∈ qT := qT_8 (i := 14) (by decide +kernel) rfl
theorem wl_M_lotOf : Cond.selects y_M_lotOf.cls y_M_lotOf y_M_lotOf ∈ qT := qT_s (i := 98) (by decide +kernel) rfl
def y_M_isMoth : MethodName := ⟨"CoatHangersModel", "isMoth", "()Z"⟩
theorem qm_M_isMoth : qMt y_M_isMoth prog_14_method_47_code 1 (some .boolean) 0 := ⟨qT_8 (i := 31) (by decide +kernel) rfl, qT_1 (i := 17) (by decide +kernel) rfl, by decide, by decide, by decide +kernel⟩
theorem wi_M_isMoth : Cond.instanceMethod y_M_isMoth ∈ qT := qT_8 (i := 30) (by decide +kernel) rfl
theorem wl_M_isMoth : Cond.selects y_M_isMoth.cls y_M_isMoth y_M_isMoth ∈ qT := qT_s (i := 101) (by decide +kernel) rfl
def y_M_isUp : MethodName := ⟨"CoatHangersModel", "isUp", "(I)Z"⟩
theorem qm_M_isUp : qMt y_M_isUp prog_14_method_48_code 2 (some .boolean) 1 := ⟨qT_7 (i := 170) (by decide +kernel) rfl, qT_1 (i := 17) (by decide +kernel) rfl, by decide, by decide, by decide +kernel⟩
theorem wi_M_isUp : Cond.instanceMethod y_M_isUp ∈ qT := qT_7 (i := 169) (by decide +kernel) rfl
theorem wl_M_isUp : Cond.selects y_M_isUp.cls y_M_isUp y_M_isUp ∈ qT := qT_s (i := 85) (by decide +kernel) rfl
def y_M_whoIsOn : MethodName := ⟨"CoatHangersModel", "whoIsOn", "(I)I"⟩
theorem qm_M_whoIsOn : qMt y_M_whoIsOn prog_14_method_49_code 3 (some .int) 1 := ⟨qT_7 (i := 154) (by decide +kernel) rfl, qT_1 (i := 17) (by decide +kernel) rfl, by decide, by decide, by decide +kernel⟩
theorem wi_M_whoIsOn : Cond.instanceMethod y_M_whoIsOn ∈ qT := qT_7 (i := 153) (by decide +kernel) rfl
theorem wl_M_whoIsOn : Cond.selects y_M_whoIsOn.cls y_M_whoIsOn y_M_whoIsOn ∈ qT := qT_s (i := 82) (by decide +kernel) rfl
def y_M_nailAt : MethodName := ⟨"CoatHangersModel", "nailAt", "(I)I"⟩
theorem qm_M_nailAt : qMt y_M_nailAt prog_14_method_50_code 2 (some .int) 1 := ⟨qT_7 (i := 150) (by decide +kernel) rfl, qT_1 (i := 17) (by decide +kernel) rfl, by decide, by decide, by decide +kernel⟩
theorem wi_M_nailAt : Cond.instanceMethod y_M_nailAt ∈ qT := qT_7 (i := 149) (by decide +kernel) rfl
theorem wl_M_nailAt : Cond.selects y_M_nailAt.cls y_M_nailAt y_M_nailAt ∈ qT := qT_s (i := 81) (by decide +kernel) rfl
def y_M_manyOn : MethodName := ⟨"CoatHangersModel", "manyOn", "(I)I"⟩
theorem qm_M_manyOn : qMt y_M_manyOn prog_14_method_51_code 4 (some .int) 1 := ⟨qT_7 (i := 174) (by decide +kernel) rfl, qT_1 (i := 17) (by decide +kernel) rfl, by decide, by decide, by decide +kernel⟩
theorem wi_M_manyOn : Cond.instanceMethod y_M_manyOn ∈ qT := qT_7 (i := 173) (by decide +kernel) rfl
theorem wl_M_manyOn : Cond.selects y_M_manyOn.cls y_M_manyOn y_M_manyOn ∈ qT := qT_s (i := 86) (by decide +kernel) rfl
def y_M_looks : MethodName := ⟨"CoatHangersModel", "looks", "(III)V"⟩
theorem qm_M_looks : qMt y_M_looks prog_14_method_52_code 4 (none) 3 := ⟨qT_7 (i := 186) (by decide +kernel) rfl, qT_1 (i := 17) (by decide +kernel) rfl, by decide, by decide, by decide +kernel⟩
theorem wi_M_looks : Cond.instanceMethod y_M_looks ∈ qT := qT_7 (i := 185) (by decide +kernel) rfl
theorem wl_M_looks : Cond.selects y_M_looks.cls y_M_looks y_M_looks ∈ qT := qT_s (i := 88) (by decide +kernel) rfl
def y_M_lawTells : MethodName := ⟨"CoatHangersModel", "lawTells", "(II)I"⟩
theorem qm_M_lawTells : qMt y_M_lawTells prog_14_method_53_code 7 (some .int) 2 := ⟨qT_7 (i := 193) (by decide +kernel) rfl, qT_1 (i := 17) (by decide +kernel) rfl, by decide, by decide, by decide +kernel⟩
theorem wi_M_lawTells : Cond.instanceMethod y_M_lawTells ∈ qT := qT_7 (i := 192) (by decide +kernel) rfl
theorem wl_M_lawTells : Cond.selects y_M_lawTells.cls y_M_lawTells y_M_lawTells ∈ qT := qT_s (i := 89) (by decide +kernel) rfl
def y_M_besideOf : MethodName := ⟨"CoatHangersModel", "besideOf", "(I)I"⟩
theorem qm_M_besideOf : qMt y_M_besideOf prog_14_method_54_code 2 (some .int) 1 := ⟨qT_7 (i := 166) (by decide +kernel) rfl, qT_1 (i := 17) (by decide +kernel) rfl, by decide, by decide, by decide +kernel⟩
theorem wi_M_besideOf : Cond.instanceMethod y_M_besideOf ∈ qT := qT_7 (i := 165) (by decide +kernel) rfl
theorem wl_M_besideOf : Cond.selects y_M_besideOf.cls y_M_besideOf y_M_besideOf ∈ qT := qT_s (i := 84) (by decide +kernel) rfl
def y_M_toldOf : MethodName := ⟨"CoatHangersModel", "toldOf", "(II)I"⟩
theorem qm_M_toldOf : qMt y_M_toldOf prog_14_method_55_code 3 (some .int) 2 := ⟨qT_7 (i := 182) (by decide +kernel) rfl, qT_1 (i := 17) (by decide +kernel) rfl, by decide, by decide, by decide +kernel⟩
theorem wi_M_toldOf : Cond.instanceMethod y_M_toldOf ∈ qT := qT_7 (i := 181) (by decide +kernel) rfl
theorem wl_M_toldOf : Cond.selects y_M_toldOf.cls y_M_toldOf y_M_toldOf ∈ qT := qT_s (i := 87) (by decide +kernel) rfl
def y_M_costsAt : MethodName := ⟨"CoatHangersModel", "costsAt", "(II)I"⟩
theorem qm_M_costsAt : qMt y_M_costsAt prog_14_method_56_code 3 (some .int) 2 := ⟨qT_8 (i := 55) (by decide +kernel) rfl, qT_1 (i := 17) (by decide +kernel) rfl, by decide, by decide, by decide +kernel⟩
theorem wi_M_costsAt : Cond.instanceMethod y_M_costsAt ∈ qT := qT_8 (i := 54) (by decide +kernel) rfl
theorem wl_M_costsAt : Cond.selects y_M_costsAt.cls y_M_costsAt y_M_costsAt ∈ qT := qT_s (i := 105) (by decide +kernel) rfl
def y_M_costsAll : MethodName := ⟨"CoatHangersModel", "costsAll", "()I"⟩
theorem qm_M_costsAll : qMt y_M_costsAll prog_14_method_57_code 3 (some .int) 0 := ⟨qT_8 (i := 139) (by decide +kernel) rfl, qT_1 (i := 17) (by decide +kernel) rfl, by decide, by decide, by decide +kernel⟩
theorem wi_M_costsAll : Cond.instanceMethod y_M_costsAll ∈ qT := qT_8 (i := 138) (by decide +kernel) rfl
theorem wl_M_costsAll : Cond.selects y_M_costsAll.cls y_M_costsAll y_M_costsAll ∈ qT := qT_s (i := 111) (by decide +kernel) rfl
theorem wm_M_239 : Cond.methodLink "CoatHangersModel" 239 y_M_cut ∈ qT := qT_7 (i := 34) (by decide +kernel) rfl
theorem wm_M_164 : Cond.methodLink "CoatHangersModel" 164 y_M_plain ∈ qT := qT_6 (i := 26) (by decide +kernel) rfl
theorem wm_M_260 : Cond.methodLink "CoatHangersModel" 260 y_M_tellOne ∈ qT := qT_7 (i := 60) (by decide +kernel) rfl
theorem wf_M_37 : Cond.fieldLink "CoatHangersModel" 37 "CoatHangersModel" "place" "I" ∈ qT := qT_6 (i := 61) (by decide +kernel) rfl
theorem wm_M_172 : Cond.methodLink "CoatHangersModel" 172 y_M_begins ∈ qT := qT_6 (i := 37) (by decide +kernel) rfl
theorem wm_M_175 : Cond.methodLink "CoatHangersModel" 175 y_M_keepsRow ∈ qT := qT_6 (i := 41) (by decide +kernel) rfl
theorem wf_M_263 : Cond.fieldLink "CoatHangersModel" 263 "CoatHangersModel" "undos" "I" ∈ qT := qT_6 (i := 101) (by decide +kernel) rfl
theorem wf_M_266 : Cond.fieldLink "CoatHangersModel" 266 "CoatHangersModel" "tolds" "I" ∈ qT := qT_6 (i := 107) (by decide +kernel) rfl
theorem wf_M_158 : Cond.fieldLink "CoatHangersModel" 158 "CoatHangersModel" "isHeld" "[Z" ∈ qT := qT_6 (i := 113) (by decide +kernel) rfl
theorem wf_M_110 : Cond.fieldLink "CoatHangersModel" 110 "CoatHangersModel" "pile" "[I" ∈ qT := qT_6 (i := 91) (by decide +kernel) rfl
theorem wf_M_318 : Cond.fieldLink "CoatHangersModel" 318 "CoatHangersModel" "isBroken" "Z" ∈ qT := qT_6 (i := 92) (by decide +kernel) rfl
theorem wf_M_107 : Cond.fieldLink "CoatHangersModel" 107 "CoatHangersModel" "variables" "[I" ∈ qT := qT_6 (i := 90) (by decide +kernel) rfl
theorem wm_M_322 : Cond.methodLink "CoatHangersModel" 322 y_M_in ∈ qT := qT_7 (i := 140) (by decide +kernel) rfl
theorem wm_M_332 : Cond.methodLink "CoatHangersModel" 332 y_M_copies ∈ qT := qT_7 (i := 143) (by decide +kernel) rfl
theorem wk_M_335 : Cond.constant "CoatHangersModel" 335 (1103515245 : Int32) ∈ qT := qT_8 (i := 19) (by decide +kernel) rfl
theorem wm_M_336 : Cond.methodLink "CoatHangersModel" 336 y_M_mixed ∈ qT := qT_8 (i := 16) (by decide +kernel) rfl
theorem wm_M_339 : Cond.methodLink "CoatHangersModel" 339 y_M_lotOf ∈ qT := qT_8 (i := 12) (by decide +kernel) rfl
theorem wm_M_342 : Cond.methodLink "CoatHangersModel" 342 y_M_isUp ∈ qT := qT_7 (i := 167) (by decide +kernel) rfl
theorem wm_M_345 : Cond.methodLink "CoatHangersModel" 345 y_M_nailAt ∈ qT := qT_7 (i := 147) (by decide +kernel) rfl
theorem wm_M_348 : Cond.methodLink "CoatHangersModel" 348 y_M_off ∈ qT := qT_7 (i := 187) (by decide +kernel) rfl
theorem wm_M_351 : Cond.methodLink "CoatHangersModel" 351 y_M_termOf ∈ qT := qT_7 (i := 194) (by decide +kernel) rfl
theorem wm_M_354 : Cond.methodLink "CoatHangersModel" 354 y_M_manyOn ∈ qT := qT_7 (i := 171) (by decide +kernel) rfl
theorem wm_M_357 : Cond.methodLink "CoatHangersModel" 357 y_M_besideOf ∈ qT := qT_7 (i := 163) (by decide +kernel) rfl
theorem wm_M_360 : Cond.methodLink "CoatHangersModel" 360 y_M_looks ∈ qT := qT_7 (i := 183) (by decide +kernel) rfl
theorem wm_M_364 : Cond.methodLink "CoatHangersModel" 364 y_M_lawTells ∈ qT := qT_7 (i := 190) (by decide +kernel) rfl
theorem wm_M_367 : Cond.methodLink "CoatHangersModel" 367 y_M_within ∈ qT := qT_7 (i := 198) (by decide +kernel) rfl
theorem wm_M_370 : Cond.methodLink "CoatHangersModel" 370 y_M_toldOf ∈ qT := qT_7 (i := 179) (by decide +kernel) rfl
theorem d_M_read_0 : decode prog_14_method_20_code 0 = .ok (.aload_n 0, 1) := by decide +kernel
theorem d_M_read_1 : decode prog_14_method_20_code 1 = .ok (.aload_n 0, 1) := by decide +kernel
theorem d_M_read_2 : decode prog_14_method_20_code 2 = .ok (.getfield 178, 3) := by decide +kernel
theorem d_M_read_5 : decode prog_14_method_20_code 5 = .ok (.putfield 184, 3) := by decide +kernel
theorem d_M_read_8 : decode prog_14_method_20_code 8 = .ok (.iconst 0, 1) := by decide +kernel
theorem d_M_read_9 : decode prog_14_method_20_code 9 = .ok (.istore_n 1, 1) := by decide +kernel
theorem d_M_read_10 : decode prog_14_method_20_code 10 = .ok (.iload_n 1, 1) := by decide +kernel
theorem d_M_read_11 : decode prog_14_method_20_code 11 = .ok (.aload_n 0, 1) := by decide +kernel
theorem d_M_read_12 : decode prog_14_method_20_code 12 = .ok (.getfield 184, 3) := by decide +kernel
theorem d_M_read_15 : decode prog_14_method_20_code 15 = .ok (.if_icmp .ge 21, 3) := by decide +kernel
theorem d_M_read_18 : decode prog_14_method_20_code 18 = .ok (.aload_n 0, 1) := by decide +kernel
theorem d_M_read_19 : decode prog_14_method_20_code 19 = .ok (.getfield 17, 3) := by decide +kernel
theorem d_M_read_22 : decode prog_14_method_20_code 22 = .ok (.iload_n 1, 1) := by decide +kernel
theorem d_M_read_23 : decode prog_14_method_20_code 23 = .ok (.aload_n 0, 1) := by decide +kernel
theorem d_M_read_24 : decode prog_14_method_20_code 24 = .ok (.getfield 13, 3) := by decide +kernel
theorem d_M_read_27 : decode prog_14_method_20_code 27 = .ok (.iload_n 1, 1) := by decide +kernel
theorem d_M_read_28 : decode prog_14_method_20_code 28 = .ok (.baload, 1) := by decide +kernel
theorem d_M_read_29 : decode prog_14_method_20_code 29 = .ok (.bastore, 1) := by decide +kernel
theorem d_M_read_30 : decode prog_14_method_20_code 30 = .ok (.iinc 1 1, 3) := by decide +kernel
theorem d_M_read_33 : decode prog_14_method_20_code 33 = .ok (.goto (-23), 3) := by decide +kernel
theorem d_M_read_36 : decode prog_14_method_20_code 36 = .ok (.aload_n 0, 1) := by decide +kernel
theorem d_M_read_37 : decode prog_14_method_20_code 37 = .ok (.iconst 0, 1) := by decide +kernel
theorem d_M_read_38 : decode prog_14_method_20_code 38 = .ok (.putfield 178, 3) := by decide +kernel
theorem d_M_read_41 : decode prog_14_method_20_code 41 = .ok (.aload_n 0, 1) := by decide +kernel
theorem d_M_read_42 : decode prog_14_method_20_code 42 = .ok (.invokevirtual 239, 3) := by decide +kernel
theorem d_M_read_45 : decode prog_14_method_20_code 45 = .ok (.aload_n 0, 1) := by decide +kernel
theorem d_M_read_46 : decode prog_14_method_20_code 46 = .ok (.iconst 0, 1) := by decide +kernel
theorem d_M_read_47 : decode prog_14_method_20_code 47 = .ok (.putfield 218, 3) := by decide +kernel
theorem d_M_read_50 : decode prog_14_method_20_code 50 = .ok (.aload_n 0, 1) := by decide +kernel
theorem d_M_read_51 : decode prog_14_method_20_code 51 = .ok (.iconst 0, 1) := by decide +kernel
theorem d_M_read_52 : decode prog_14_method_20_code 52 = .ok (.putfield 242, 3) := by decide +kernel
theorem d_M_read_55 : decode prog_14_method_20_code 55 = .ok (.aload_n 0, 1) := by decide +kernel
theorem d_M_read_56 : decode prog_14_method_20_code 56 = .ok (.iconst 0, 1) := by decide +kernel
theorem d_M_read_57 : decode prog_14_method_20_code 57 = .ok (.putfield 215, 3) := by decide +kernel
theorem d_M_read_60 : decode prog_14_method_20_code 60 = .ok (.aload_n 0, 1) := by decide +kernel
theorem d_M_read_61 : decode prog_14_method_20_code 61 = .ok (.iconst 0, 1) := by decide +kernel
theorem d_M_read_62 : decode prog_14_method_20_code 62 = .ok (.putfield 224, 3) := by decide +kernel
theorem d_M_read_65 : decode prog_14_method_20_code 65 = .ok (.aload_n 0, 1) := by decide +kernel
theorem d_M_read_66 : decode prog_14_method_20_code 66 = .ok (.iconst 1, 1) := by decide +kernel
theorem d_M_read_67 : decode prog_14_method_20_code 67 = .ok (.aload_n 0, 1) := by decide +kernel
theorem d_M_read_68 : decode prog_14_method_20_code 68 = .ok (.getfield 245, 3) := by decide +kernel
theorem d_M_read_71 : decode prog_14_method_20_code 71 = .ok (.isub, 1) := by decide +kernel
theorem d_M_read_72 : decode prog_14_method_20_code 72 = .ok (.putfield 248, 3) := by decide +kernel
theorem d_M_read_75 : decode prog_14_method_20_code 75 = .ok (.aload_n 0, 1) := by decide +kernel
theorem d_M_read_76 : decode prog_14_method_20_code 76 = .ok (.iconst 0, 1) := by decide +kernel
theorem d_M_read_77 : decode prog_14_method_20_code 77 = .ok (.putfield 251, 3) := by decide +kernel
theorem d_M_read_80 : decode prog_14_method_20_code 80 = .ok (.aload_n 0, 1) := by decide +kernel
theorem d_M_read_81 : decode prog_14_method_20_code 81 = .ok (.aload_n 0, 1) := by decide +kernel
theorem d_M_read_82 : decode prog_14_method_20_code 82 = .ok (.getfield 248, 3) := by decide +kernel
theorem d_M_read_85 : decode prog_14_method_20_code 85 = .ok (.invokevirtual 164, 3) := by decide +kernel
theorem d_M_read_88 : decode prog_14_method_20_code 88 = .ok (.aload_n 0, 1) := by decide +kernel
theorem d_M_read_89 : decode prog_14_method_20_code 89 = .ok (.sipush 130, 3) := by decide +kernel
theorem d_M_read_92 : decode prog_14_method_20_code 92 = .ok (.aload_n 0, 1) := by decide +kernel
theorem d_M_read_93 : decode prog_14_method_20_code 93 = .ok (.getfield 248, 3) := by decide +kernel
theorem d_M_read_96 : decode prog_14_method_20_code 96 = .ok (.imul, 1) := by decide +kernel
theorem d_M_read_97 : decode prog_14_method_20_code 97 = .ok (.putfield 254, 3) := by decide +kernel
theorem d_M_read_100 : decode prog_14_method_20_code 100 = .ok (.aload_n 0, 1) := by decide +kernel
theorem d_M_read_101 : decode prog_14_method_20_code 101 = .ok (.sipush 420, 3) := by decide +kernel
theorem d_M_read_104 : decode prog_14_method_20_code 104 = .ok (.aload_n 0, 1) := by decide +kernel
theorem d_M_read_105 : decode prog_14_method_20_code 105 = .ok (.getfield 248, 3) := by decide +kernel
theorem d_M_read_108 : decode prog_14_method_20_code 108 = .ok (.imul, 1) := by decide +kernel
theorem d_M_read_109 : decode prog_14_method_20_code 109 = .ok (.putfield 257, 3) := by decide +kernel
theorem d_M_read_112 : decode prog_14_method_20_code 112 = .ok (.aload_n 0, 1) := by decide +kernel
theorem d_M_read_113 : decode prog_14_method_20_code 113 = .ok (.getfield 215, 3) := by decide +kernel
theorem d_M_read_116 : decode prog_14_method_20_code 116 = .ok (.ifCond .ne 18, 3) := by decide +kernel
theorem d_M_read_119 : decode prog_14_method_20_code 119 = .ok (.aload_n 0, 1) := by decide +kernel
theorem d_M_read_120 : decode prog_14_method_20_code 120 = .ok (.iconst 0, 1) := by decide +kernel
theorem d_M_read_121 : decode prog_14_method_20_code 121 = .ok (.invokevirtual 233, 3) := by decide +kernel
theorem d_M_read_124 : decode prog_14_method_20_code 124 = .ok (.ifCond .ne 10, 3) := by decide +kernel
theorem d_M_read_127 : decode prog_14_method_20_code 127 = .ok (.aload_n 0, 1) := by decide +kernel
theorem d_M_read_128 : decode prog_14_method_20_code 128 = .ok (.invokevirtual 260, 3) := by decide +kernel
theorem d_M_read_131 : decode prog_14_method_20_code 131 = .ok (.goto (-19), 3) := by decide +kernel
theorem d_M_read_134 : decode prog_14_method_20_code 134 = .ok (.aload_n 0, 1) := by decide +kernel
theorem d_M_read_135 : decode prog_14_method_20_code 135 = .ok (.aload_n 0, 1) := by decide +kernel
theorem d_M_read_136 : decode prog_14_method_20_code 136 = .ok (.getfield 215, 3) := by decide +kernel
theorem d_M_read_139 : decode prog_14_method_20_code 139 = .ok (.ifCond .le 10, 3) := by decide +kernel
theorem d_M_read_142 : decode prog_14_method_20_code 142 = .ok (.aload_n 0, 1) := by decide +kernel
theorem d_M_read_143 : decode prog_14_method_20_code 143 = .ok (.getfield 221, 3) := by decide +kernel
theorem d_M_read_146 : decode prog_14_method_20_code 146 = .ok (.goto 18, 3) := by decide +kernel
theorem d_M_read_149 : decode prog_14_method_20_code 149 = .ok (.aload_n 0, 1) := by decide +kernel
theorem d_M_read_150 : decode prog_14_method_20_code 150 = .ok (.getfield 224, 3) := by decide +kernel
theorem d_M_read_153 : decode prog_14_method_20_code 153 = .ok (.ifCond .le 10, 3) := by decide +kernel
theorem d_M_read_156 : decode prog_14_method_20_code 156 = .ok (.aload_n 0, 1) := by decide +kernel
theorem d_M_read_157 : decode prog_14_method_20_code 157 = .ok (.getfield 227, 3) := by decide +kernel
theorem d_M_read_160 : decode prog_14_method_20_code 160 = .ok (.goto 4, 3) := by decide +kernel
theorem d_M_read_163 : decode prog_14_method_20_code 163 = .ok (.iconst (-1), 1) := by decide +kernel
theorem d_M_read_164 : decode prog_14_method_20_code 164 = .ok (.putfield 37, 3) := by decide +kernel
theorem d_M_read_167 : decode prog_14_method_20_code 167 = .ok (.aload_n 0, 1) := by decide +kernel
theorem d_M_read_168 : decode prog_14_method_20_code 168 = .ok (.getfield 215, 3) := by decide +kernel
theorem d_M_read_171 : decode prog_14_method_20_code 171 = .ok (.ifCond .le 8, 3) := by decide +kernel
theorem d_M_read_174 : decode prog_14_method_20_code 174 = .ok (.aload_n 0, 1) := by decide +kernel
theorem d_M_read_175 : decode prog_14_method_20_code 175 = .ok (.getfield 215, 3) := by decide +kernel
theorem d_M_read_178 : decode prog_14_method_20_code 178 = .ok (.ireturn, 1) := by decide +kernel
theorem d_M_read_179 : decode prog_14_method_20_code 179 = .ok (.aload_n 0, 1) := by decide +kernel
theorem d_M_read_180 : decode prog_14_method_20_code 180 = .ok (.getfield 224, 3) := by decide +kernel
theorem d_M_read_183 : decode prog_14_method_20_code 183 = .ok (.ifCond .le 8, 3) := by decide +kernel
theorem d_M_read_186 : decode prog_14_method_20_code 186 = .ok (.aload_n 0, 1) := by decide +kernel
theorem d_M_read_187 : decode prog_14_method_20_code 187 = .ok (.getfield 224, 3) := by decide +kernel
theorem d_M_read_190 : decode prog_14_method_20_code 190 = .ok (.ireturn, 1) := by decide +kernel
theorem d_M_read_191 : decode prog_14_method_20_code 191 = .ok (.aload_n 0, 1) := by decide +kernel
theorem d_M_read_192 : decode prog_14_method_20_code 192 = .ok (.aload_n 0, 1) := by decide +kernel
theorem d_M_read_193 : decode prog_14_method_20_code 193 = .ok (.getfield 248, 3) := by decide +kernel
theorem d_M_read_196 : decode prog_14_method_20_code 196 = .ok (.putfield 245, 3) := by decide +kernel
theorem d_M_read_199 : decode prog_14_method_20_code 199 = .ok (.aload_n 0, 1) := by decide +kernel
theorem d_M_read_200 : decode prog_14_method_20_code 200 = .ok (.invokevirtual 172, 3) := by decide +kernel
theorem d_M_read_203 : decode prog_14_method_20_code 203 = .ok (.aload_n 0, 1) := by decide +kernel
theorem d_M_read_204 : decode prog_14_method_20_code 204 = .ok (.invokevirtual 175, 3) := by decide +kernel
theorem d_M_read_207 : decode prog_14_method_20_code 207 = .ok (.aload_n 0, 1) := by decide +kernel
theorem d_M_read_208 : decode prog_14_method_20_code 208 = .ok (.iconst 0, 1) := by decide +kernel
theorem d_M_read_209 : decode prog_14_method_20_code 209 = .ok (.putfield 263, 3) := by decide +kernel
theorem d_M_read_212 : decode prog_14_method_20_code 212 = .ok (.aload_n 0, 1) := by decide +kernel
theorem d_M_read_213 : decode prog_14_method_20_code 213 = .ok (.iconst 0, 1) := by decide +kernel
theorem d_M_read_214 : decode prog_14_method_20_code 214 = .ok (.putfield 266, 3) := by decide +kernel
theorem d_M_read_217 : decode prog_14_method_20_code 217 = .ok (.iconst 0, 1) := by decide +kernel
theorem d_M_read_218 : decode prog_14_method_20_code 218 = .ok (.istore_n 1, 1) := by decide +kernel
theorem d_M_read_219 : decode prog_14_method_20_code 219 = .ok (.iload_n 1, 1) := by decide +kernel
theorem d_M_read_220 : decode prog_14_method_20_code 220 = .ok (.iconst 3, 1) := by decide +kernel
theorem d_M_read_221 : decode prog_14_method_20_code 221 = .ok (.if_icmp .ge 16, 3) := by decide +kernel
theorem d_M_read_224 : decode prog_14_method_20_code 224 = .ok (.aload_n 0, 1) := by decide +kernel
theorem d_M_read_225 : decode prog_14_method_20_code 225 = .ok (.getfield 158, 3) := by decide +kernel
theorem d_M_read_228 : decode prog_14_method_20_code 228 = .ok (.iload_n 1, 1) := by decide +kernel
theorem d_M_read_229 : decode prog_14_method_20_code 229 = .ok (.iconst 0, 1) := by decide +kernel
theorem d_M_read_230 : decode prog_14_method_20_code 230 = .ok (.bastore, 1) := by decide +kernel
theorem d_M_read_231 : decode prog_14_method_20_code 231 = .ok (.iinc 1 1, 3) := by decide +kernel
theorem d_M_read_234 : decode prog_14_method_20_code 234 = .ok (.goto (-15), 3) := by decide +kernel
theorem d_M_read_237 : decode prog_14_method_20_code 237 = .ok (.iconst 0, 1) := by decide +kernel
theorem d_M_read_238 : decode prog_14_method_20_code 238 = .ok (.ireturn, 1) := by decide +kernel
theorem d_M_place_0 : decode prog_14_method_21_code 0 = .ok (.aload_n 0, 1) := by decide +kernel
theorem d_M_place_1 : decode prog_14_method_21_code 1 = .ok (.getfield 37, 3) := by decide +kernel
theorem d_M_place_4 : decode prog_14_method_21_code 4 = .ok (.ireturn, 1) := by decide +kernel
theorem d_M_termOf_0 : decode prog_14_method_35_code 0 = .ok (.iconst 0, 1) := by decide +kernel
theorem d_M_termOf_1 : decode prog_14_method_35_code 1 = .ok (.istore_n 3, 1) := by decide +kernel
theorem d_M_termOf_2 : decode prog_14_method_35_code 2 = .ok (.iload_n 1, 1) := by decide +kernel
theorem d_M_termOf_3 : decode prog_14_method_35_code 3 = .ok (.istore 4, 2) := by decide +kernel
theorem d_M_termOf_5 : decode prog_14_method_35_code 5 = .ok (.iload 4, 2) := by decide +kernel
theorem d_M_termOf_7 : decode prog_14_method_35_code 7 = .ok (.iload_n 2, 1) := by decide +kernel
theorem d_M_termOf_8 : decode prog_14_method_35_code 8 = .ok (.if_icmp .ge 157, 3) := by decide +kernel
theorem d_M_termOf_11 : decode prog_14_method_35_code 11 = .ok (.aload_n 0, 1) := by decide +kernel
theorem d_M_termOf_12 : decode prog_14_method_35_code 12 = .ok (.getfield 98, 3) := by decide +kernel
theorem d_M_termOf_15 : decode prog_14_method_35_code 15 = .ok (.iload 4, 2) := by decide +kernel
theorem d_M_termOf_17 : decode prog_14_method_35_code 17 = .ok (.iaload, 1) := by decide +kernel
theorem d_M_termOf_18 : decode prog_14_method_35_code 18 = .ok (.istore 5, 2) := by decide +kernel
theorem d_M_termOf_20 : decode prog_14_method_35_code 20 = .ok (.iload 5, 2) := by decide +kernel
theorem d_M_termOf_22 : decode prog_14_method_35_code 22 = .ok (.iconst 2, 1) := by decide +kernel
theorem d_M_termOf_23 : decode prog_14_method_35_code 23 = .ok (.if_icmp .ge 42, 3) := by decide +kernel
theorem d_M_termOf_26 : decode prog_14_method_35_code 26 = .ok (.aload_n 0, 1) := by decide +kernel
theorem d_M_termOf_27 : decode prog_14_method_35_code 27 = .ok (.getfield 110, 3) := by decide +kernel
theorem d_M_termOf_30 : decode prog_14_method_35_code 30 = .ok (.iload_n 3, 1) := by decide +kernel
theorem d_M_termOf_31 : decode prog_14_method_35_code 31 = .ok (.iload 5, 2) := by decide +kernel
theorem d_M_termOf_33 : decode prog_14_method_35_code 33 = .ok (.ifCond .ne 13, 3) := by decide +kernel
theorem d_M_termOf_36 : decode prog_14_method_35_code 36 = .ok (.aload_n 0, 1) := by decide +kernel
theorem d_M_termOf_37 : decode prog_14_method_35_code 37 = .ok (.getfield 101, 3) := by decide +kernel
theorem d_M_termOf_40 : decode prog_14_method_35_code 40 = .ok (.iload 4, 2) := by decide +kernel
theorem d_M_termOf_42 : decode prog_14_method_35_code 42 = .ok (.iaload, 1) := by decide +kernel
theorem d_M_termOf_43 : decode prog_14_method_35_code 43 = .ok (.goto 15, 3) := by decide +kernel
theorem d_M_termOf_46 : decode prog_14_method_35_code 46 = .ok (.aload_n 0, 1) := by decide +kernel
theorem d_M_termOf_47 : decode prog_14_method_35_code 47 = .ok (.getfield 107, 3) := by decide +kernel
theorem d_M_termOf_50 : decode prog_14_method_35_code 50 = .ok (.aload_n 0, 1) := by decide +kernel
theorem d_M_termOf_51 : decode prog_14_method_35_code 51 = .ok (.getfield 101, 3) := by decide +kernel
theorem d_M_termOf_54 : decode prog_14_method_35_code 54 = .ok (.iload 4, 2) := by decide +kernel
theorem d_M_termOf_56 : decode prog_14_method_35_code 56 = .ok (.iaload, 1) := by decide +kernel
theorem d_M_termOf_57 : decode prog_14_method_35_code 57 = .ok (.iaload, 1) := by decide +kernel
theorem d_M_termOf_58 : decode prog_14_method_35_code 58 = .ok (.iastore, 1) := by decide +kernel
theorem d_M_termOf_59 : decode prog_14_method_35_code 59 = .ok (.iinc 3 1, 3) := by decide +kernel
theorem d_M_termOf_62 : decode prog_14_method_35_code 62 = .ok (.goto 97, 3) := by decide +kernel
theorem d_M_termOf_65 : decode prog_14_method_35_code 65 = .ok (.iinc 3 (-1), 3) := by decide +kernel
theorem d_M_termOf_68 : decode prog_14_method_35_code 68 = .ok (.aload_n 0, 1) := by decide +kernel
theorem d_M_termOf_69 : decode prog_14_method_35_code 69 = .ok (.getfield 110, 3) := by decide +kernel
theorem d_M_termOf_72 : decode prog_14_method_35_code 72 = .ok (.iload_n 3, 1) := by decide +kernel
theorem d_M_termOf_73 : decode prog_14_method_35_code 73 = .ok (.iconst 1, 1) := by decide +kernel
theorem d_M_termOf_74 : decode prog_14_method_35_code 74 = .ok (.isub, 1) := by decide +kernel
theorem d_M_termOf_75 : decode prog_14_method_35_code 75 = .ok (.iaload, 1) := by decide +kernel
theorem d_M_termOf_76 : decode prog_14_method_35_code 76 = .ok (.istore 6, 2) := by decide +kernel
theorem d_M_termOf_78 : decode prog_14_method_35_code 78 = .ok (.aload_n 0, 1) := by decide +kernel
theorem d_M_termOf_79 : decode prog_14_method_35_code 79 = .ok (.getfield 110, 3) := by decide +kernel
theorem d_M_termOf_82 : decode prog_14_method_35_code 82 = .ok (.iload_n 3, 1) := by decide +kernel
theorem d_M_termOf_83 : decode prog_14_method_35_code 83 = .ok (.iaload, 1) := by decide +kernel
theorem d_M_termOf_84 : decode prog_14_method_35_code 84 = .ok (.istore 7, 2) := by decide +kernel
theorem d_M_termOf_86 : decode prog_14_method_35_code 86 = .ok (.iload 5, 2) := by decide +kernel
theorem d_M_termOf_88 : decode prog_14_method_35_code 88 = .ok (.iconst 5, 1) := by decide +kernel
theorem d_M_termOf_89 : decode prog_14_method_35_code 89 = .ok (.if_icmp .ne 15, 3) := by decide +kernel
theorem d_M_termOf_92 : decode prog_14_method_35_code 92 = .ok (.iload 7, 2) := by decide +kernel
theorem d_M_termOf_94 : decode prog_14_method_35_code 94 = .ok (.ifCond .ne 10, 3) := by decide +kernel
theorem d_M_termOf_97 : decode prog_14_method_35_code 97 = .ok (.aload_n 0, 1) := by decide +kernel
theorem d_M_termOf_98 : decode prog_14_method_35_code 98 = .ok (.iconst 1, 1) := by decide +kernel
theorem d_M_termOf_99 : decode prog_14_method_35_code 99 = .ok (.putfield 318, 3) := by decide +kernel
theorem d_M_termOf_102 : decode prog_14_method_35_code 102 = .ok (.iconst 0, 1) := by decide +kernel
theorem d_M_termOf_103 : decode prog_14_method_35_code 103 = .ok (.ireturn, 1) := by decide +kernel
theorem d_M_termOf_104 : decode prog_14_method_35_code 104 = .ok (.aload_n 0, 1) := by decide +kernel
theorem d_M_termOf_105 : decode prog_14_method_35_code 105 = .ok (.getfield 110, 3) := by decide +kernel
theorem d_M_termOf_108 : decode prog_14_method_35_code 108 = .ok (.iload_n 3, 1) := by decide +kernel
theorem d_M_termOf_109 : decode prog_14_method_35_code 109 = .ok (.iconst 1, 1) := by decide +kernel
theorem d_M_termOf_110 : decode prog_14_method_35_code 110 = .ok (.isub, 1) := by decide +kernel
theorem d_M_termOf_111 : decode prog_14_method_35_code 111 = .ok (.iload 5, 2) := by decide +kernel
theorem d_M_termOf_113 : decode prog_14_method_35_code 113 = .ok (.iconst 2, 1) := by decide +kernel
theorem d_M_termOf_114 : decode prog_14_method_35_code 114 = .ok (.if_icmp .ne 11, 3) := by decide +kernel
theorem d_M_termOf_117 : decode prog_14_method_35_code 117 = .ok (.iload 6, 2) := by decide +kernel
theorem d_M_termOf_119 : decode prog_14_method_35_code 119 = .ok (.iload 7, 2) := by decide +kernel
theorem d_M_termOf_121 : decode prog_14_method_35_code 121 = .ok (.iadd, 1) := by decide +kernel
theorem d_M_termOf_122 : decode prog_14_method_35_code 122 = .ok (.goto 36, 3) := by decide +kernel
theorem d_M_termOf_125 : decode prog_14_method_35_code 125 = .ok (.iload 5, 2) := by decide +kernel
theorem d_M_termOf_127 : decode prog_14_method_35_code 127 = .ok (.iconst 3, 1) := by decide +kernel
theorem d_M_termOf_128 : decode prog_14_method_35_code 128 = .ok (.if_icmp .ne 11, 3) := by decide +kernel
theorem d_M_termOf_131 : decode prog_14_method_35_code 131 = .ok (.iload 6, 2) := by decide +kernel
theorem d_M_termOf_133 : decode prog_14_method_35_code 133 = .ok (.iload 7, 2) := by decide +kernel
theorem d_M_termOf_135 : decode prog_14_method_35_code 135 = .ok (.isub, 1) := by decide +kernel
theorem d_M_termOf_136 : decode prog_14_method_35_code 136 = .ok (.goto 22, 3) := by decide +kernel
theorem d_M_termOf_139 : decode prog_14_method_35_code 139 = .ok (.iload 5, 2) := by decide +kernel
theorem d_M_termOf_141 : decode prog_14_method_35_code 141 = .ok (.iconst 4, 1) := by decide +kernel
theorem d_M_termOf_142 : decode prog_14_method_35_code 142 = .ok (.if_icmp .ne 11, 3) := by decide +kernel
theorem d_M_termOf_145 : decode prog_14_method_35_code 145 = .ok (.iload 6, 2) := by decide +kernel
theorem d_M_termOf_147 : decode prog_14_method_35_code 147 = .ok (.iload 7, 2) := by decide +kernel
theorem d_M_termOf_149 : decode prog_14_method_35_code 149 = .ok (.imul, 1) := by decide +kernel
theorem d_M_termOf_150 : decode prog_14_method_35_code 150 = .ok (.goto 8, 3) := by decide +kernel
theorem d_M_termOf_153 : decode prog_14_method_35_code 153 = .ok (.iload 6, 2) := by decide +kernel
theorem d_M_termOf_155 : decode prog_14_method_35_code 155 = .ok (.iload 7, 2) := by decide +kernel
theorem d_M_termOf_157 : decode prog_14_method_35_code 157 = .ok (.idiv, 1) := by decide +kernel
theorem d_M_termOf_158 : decode prog_14_method_35_code 158 = .ok (.iastore, 1) := by decide +kernel
theorem d_M_termOf_159 : decode prog_14_method_35_code 159 = .ok (.iinc 4 1, 3) := by decide +kernel
theorem d_M_termOf_162 : decode prog_14_method_35_code 162 = .ok (.goto (-157), 3) := by decide +kernel
theorem d_M_termOf_165 : decode prog_14_method_35_code 165 = .ok (.aload_n 0, 1) := by decide +kernel
theorem d_M_termOf_166 : decode prog_14_method_35_code 166 = .ok (.getfield 110, 3) := by decide +kernel
theorem d_M_termOf_169 : decode prog_14_method_35_code 169 = .ok (.iconst 0, 1) := by decide +kernel
theorem d_M_termOf_170 : decode prog_14_method_35_code 170 = .ok (.iaload, 1) := by decide +kernel
theorem d_M_termOf_171 : decode prog_14_method_35_code 171 = .ok (.ireturn, 1) := by decide +kernel
theorem d_M_in_0 : decode prog_14_method_36_code 0 = .ok (.iload_n 0, 1) := by decide +kernel
theorem d_M_in_1 : decode prog_14_method_36_code 1 = .ok (.iload_n 1, 1) := by decide +kernel
theorem d_M_in_2 : decode prog_14_method_36_code 2 = .ok (.if_icmp .lt 12, 3) := by decide +kernel
theorem d_M_in_5 : decode prog_14_method_36_code 5 = .ok (.iload_n 0, 1) := by decide +kernel
theorem d_M_in_6 : decode prog_14_method_36_code 6 = .ok (.iload_n 2, 1) := by decide +kernel
theorem d_M_in_7 : decode prog_14_method_36_code 7 = .ok (.if_icmp .gt 7, 3) := by decide +kernel
theorem d_M_in_10 : decode prog_14_method_36_code 10 = .ok (.iconst 1, 1) := by decide +kernel
theorem d_M_in_11 : decode prog_14_method_36_code 11 = .ok (.goto 4, 3) := by decide +kernel
theorem d_M_in_14 : decode prog_14_method_36_code 14 = .ok (.iconst 0, 1) := by decide +kernel
theorem d_M_in_15 : decode prog_14_method_36_code 15 = .ok (.ireturn, 1) := by decide +kernel
theorem d_M_within_0 : decode prog_14_method_37_code 0 = .ok (.iload_n 0, 1) := by decide +kernel
theorem d_M_within_1 : decode prog_14_method_37_code 1 = .ok (.iload_n 1, 1) := by decide +kernel
theorem d_M_within_2 : decode prog_14_method_37_code 2 = .ok (.if_icmp .ge 7, 3) := by decide +kernel
theorem d_M_within_5 : decode prog_14_method_37_code 5 = .ok (.iload_n 1, 1) := by decide +kernel
theorem d_M_within_6 : decode prog_14_method_37_code 6 = .ok (.goto 13, 3) := by decide +kernel
theorem d_M_within_9 : decode prog_14_method_37_code 9 = .ok (.iload_n 0, 1) := by decide +kernel
theorem d_M_within_10 : decode prog_14_method_37_code 10 = .ok (.iload_n 2, 1) := by decide +kernel
theorem d_M_within_11 : decode prog_14_method_37_code 11 = .ok (.if_icmp .le 7, 3) := by decide +kernel
theorem d_M_within_14 : decode prog_14_method_37_code 14 = .ok (.iload_n 2, 1) := by decide +kernel
theorem d_M_within_15 : decode prog_14_method_37_code 15 = .ok (.goto 4, 3) := by decide +kernel
theorem d_M_within_18 : decode prog_14_method_37_code 18 = .ok (.iload_n 0, 1) := by decide +kernel
theorem d_M_within_19 : decode prog_14_method_37_code 19 = .ok (.ireturn, 1) := by decide +kernel
theorem d_M_off_0 : decode prog_14_method_38_code 0 = .ok (.iload_n 0, 1) := by decide +kernel
theorem d_M_off_1 : decode prog_14_method_38_code 1 = .ok (.iload_n 1, 1) := by decide +kernel
theorem d_M_off_2 : decode prog_14_method_38_code 2 = .ok (.if_icmp .ge 9, 3) := by decide +kernel
theorem d_M_off_5 : decode prog_14_method_38_code 5 = .ok (.iload_n 1, 1) := by decide +kernel
theorem d_M_off_6 : decode prog_14_method_38_code 6 = .ok (.iload_n 0, 1) := by decide +kernel
theorem d_M_off_7 : decode prog_14_method_38_code 7 = .ok (.isub, 1) := by decide +kernel
theorem d_M_off_8 : decode prog_14_method_38_code 8 = .ok (.goto 6, 3) := by decide +kernel
theorem d_M_off_11 : decode prog_14_method_38_code 11 = .ok (.iload_n 0, 1) := by decide +kernel
theorem d_M_off_12 : decode prog_14_method_38_code 12 = .ok (.iload_n 1, 1) := by decide +kernel
theorem d_M_off_13 : decode prog_14_method_38_code 13 = .ok (.isub, 1) := by decide +kernel
theorem d_M_off_14 : decode prog_14_method_38_code 14 = .ok (.ireturn, 1) := by decide +kernel
theorem d_M_isHanger_0 : decode prog_14_method_39_code 0 = .ok (.iload_n 1, 1) := by decide +kernel
theorem d_M_isHanger_1 : decode prog_14_method_39_code 1 = .ok (.iconst 0, 1) := by decide +kernel
theorem d_M_isHanger_2 : decode prog_14_method_39_code 2 = .ok (.aload_n 0, 1) := by decide +kernel
theorem d_M_isHanger_3 : decode prog_14_method_39_code 3 = .ok (.getfield 46, 3) := by decide +kernel
theorem d_M_isHanger_6 : decode prog_14_method_39_code 6 = .ok (.aload_n 0, 1) := by decide +kernel
theorem d_M_isHanger_7 : decode prog_14_method_39_code 7 = .ok (.getfield 245, 3) := by decide +kernel
theorem d_M_isHanger_10 : decode prog_14_method_39_code 10 = .ok (.iaload, 1) := by decide +kernel
theorem d_M_isHanger_11 : decode prog_14_method_39_code 11 = .ok (.iconst 1, 1) := by decide +kernel
theorem d_M_isHanger_12 : decode prog_14_method_39_code 12 = .ok (.isub, 1) := by decide +kernel
theorem d_M_isHanger_13 : decode prog_14_method_39_code 13 = .ok (.invokestatic 322, 3) := by decide +kernel
theorem d_M_isHanger_16 : decode prog_14_method_39_code 16 = .ok (.ireturn, 1) := by decide +kernel
theorem d_M_isPerson_0 : decode prog_14_method_40_code 0 = .ok (.iload_n 1, 1) := by decide +kernel
theorem d_M_isPerson_1 : decode prog_14_method_40_code 1 = .ok (.iconst 0, 1) := by decide +kernel
theorem d_M_isPerson_2 : decode prog_14_method_40_code 2 = .ok (.aload_n 0, 1) := by decide +kernel
theorem d_M_isPerson_3 : decode prog_14_method_40_code 3 = .ok (.getfield 55, 3) := by decide +kernel
theorem d_M_isPerson_6 : decode prog_14_method_40_code 6 = .ok (.aload_n 0, 1) := by decide +kernel
theorem d_M_isPerson_7 : decode prog_14_method_40_code 7 = .ok (.getfield 245, 3) := by decide +kernel
theorem d_M_isPerson_10 : decode prog_14_method_40_code 10 = .ok (.iaload, 1) := by decide +kernel
theorem d_M_isPerson_11 : decode prog_14_method_40_code 11 = .ok (.iconst 1, 1) := by decide +kernel
theorem d_M_isPerson_12 : decode prog_14_method_40_code 12 = .ok (.isub, 1) := by decide +kernel
theorem d_M_isPerson_13 : decode prog_14_method_40_code 13 = .ok (.invokestatic 322, 3) := by decide +kernel
theorem d_M_isPerson_16 : decode prog_14_method_40_code 16 = .ok (.ireturn, 1) := by decide +kernel
theorem d_M_copies_0 : decode prog_14_method_43_code 0 = .ok (.iconst 0, 1) := by decide +kernel
theorem d_M_copies_1 : decode prog_14_method_43_code 1 = .ok (.istore_n 1, 1) := by decide +kernel
theorem d_M_copies_2 : decode prog_14_method_43_code 2 = .ok (.iload_n 1, 1) := by decide +kernel
theorem d_M_copies_3 : decode prog_14_method_43_code 3 = .ok (.bipush 32, 2) := by decide +kernel
theorem d_M_copies_5 : decode prog_14_method_43_code 5 = .ok (.if_icmp .ge 21, 3) := by decide +kernel
theorem d_M_copies_8 : decode prog_14_method_43_code 8 = .ok (.aload_n 0, 1) := by decide +kernel
theorem d_M_copies_9 : decode prog_14_method_43_code 9 = .ok (.getfield 116, 3) := by decide +kernel
theorem d_M_copies_12 : decode prog_14_method_43_code 12 = .ok (.iload_n 1, 1) := by decide +kernel
theorem d_M_copies_13 : decode prog_14_method_43_code 13 = .ok (.aload_n 0, 1) := by decide +kernel
theorem d_M_copies_14 : decode prog_14_method_43_code 14 = .ok (.getfield 113, 3) := by decide +kernel
theorem d_M_copies_17 : decode prog_14_method_43_code 17 = .ok (.iload_n 1, 1) := by decide +kernel
theorem d_M_copies_18 : decode prog_14_method_43_code 18 = .ok (.iaload, 1) := by decide +kernel
theorem d_M_copies_19 : decode prog_14_method_43_code 19 = .ok (.iastore, 1) := by decide +kernel
theorem d_M_copies_20 : decode prog_14_method_43_code 20 = .ok (.iinc 1 1, 3) := by decide +kernel
theorem d_M_copies_23 : decode prog_14_method_43_code 23 = .ok (.goto (-21), 3) := by decide +kernel
theorem d_M_copies_26 : decode prog_14_method_43_code 26 = .ok (.aload_n 0, 1) := by decide +kernel
theorem d_M_copies_27 : decode prog_14_method_43_code 27 = .ok (.aload_n 0, 1) := by decide +kernel
theorem d_M_copies_28 : decode prog_14_method_43_code 28 = .ok (.getfield 73, 3) := by decide +kernel
theorem d_M_copies_31 : decode prog_14_method_43_code 31 = .ok (.aload_n 0, 1) := by decide +kernel
theorem d_M_copies_32 : decode prog_14_method_43_code 32 = .ok (.getfield 245, 3) := by decide +kernel
theorem d_M_copies_35 : decode prog_14_method_43_code 35 = .ok (.iaload, 1) := by decide +kernel
theorem d_M_copies_36 : decode prog_14_method_43_code 36 = .ok (.putfield 326, 3) := by decide +kernel
theorem d_M_copies_39 : decode prog_14_method_43_code 39 = .ok (.aload_n 0, 1) := by decide +kernel
theorem d_M_copies_40 : decode prog_14_method_43_code 40 = .ok (.iconst 0, 1) := by decide +kernel
theorem d_M_copies_41 : decode prog_14_method_43_code 41 = .ok (.putfield 329, 3) := by decide +kernel
theorem d_M_copies_44 : decode prog_14_method_43_code 44 = .ok (.return_, 1) := by decide +kernel
theorem d_M_copiesStill_0 : decode prog_14_method_44_code 0 = .ok (.aload_n 0, 1) := by decide +kernel
theorem d_M_copiesStill_1 : decode prog_14_method_44_code 1 = .ok (.invokevirtual 332, 3) := by decide +kernel
theorem d_M_copiesStill_4 : decode prog_14_method_44_code 4 = .ok (.aload_n 0, 1) := by decide +kernel
theorem d_M_copiesStill_5 : decode prog_14_method_44_code 5 = .ok (.iconst 1, 1) := by decide +kernel
theorem d_M_copiesStill_6 : decode prog_14_method_44_code 6 = .ok (.putfield 329, 3) := by decide +kernel
theorem d_M_copiesStill_9 : decode prog_14_method_44_code 9 = .ok (.return_, 1) := by decide +kernel
theorem d_M_mixed_0 : decode prog_14_method_45_code 0 = .ok (.iload_n 0, 1) := by decide +kernel
theorem d_M_mixed_1 : decode prog_14_method_45_code 1 = .ok (.iload_n 1, 1) := by decide +kernel
theorem d_M_mixed_2 : decode prog_14_method_45_code 2 = .ok (.ixor, 1) := by decide +kernel
theorem d_M_mixed_3 : decode prog_14_method_45_code 3 = .ok (.ldc_w 335, 3) := by decide +kernel
theorem d_M_mixed_6 : decode prog_14_method_45_code 6 = .ok (.imul, 1) := by decide +kernel
theorem d_M_mixed_7 : decode prog_14_method_45_code 7 = .ok (.sipush 12345, 3) := by decide +kernel
theorem d_M_mixed_10 : decode prog_14_method_45_code 10 = .ok (.iadd, 1) := by decide +kernel
theorem d_M_mixed_11 : decode prog_14_method_45_code 11 = .ok (.istore_n 2, 1) := by decide +kernel
theorem d_M_mixed_12 : decode prog_14_method_45_code 12 = .ok (.iload_n 2, 1) := by decide +kernel
theorem d_M_mixed_13 : decode prog_14_method_45_code 13 = .ok (.iload_n 2, 1) := by decide +kernel
theorem d_M_mixed_14 : decode prog_14_method_45_code 14 = .ok (.bipush 15, 2) := by decide +kernel
theorem d_M_mixed_16 : decode prog_14_method_45_code 16 = .ok (.iushr, 1) := by decide +kernel
theorem d_M_mixed_17 : decode prog_14_method_45_code 17 = .ok (.ixor, 1) := by decide +kernel
theorem d_M_mixed_18 : decode prog_14_method_45_code 18 = .ok (.ireturn, 1) := by decide +kernel
theorem d_M_lotOf_0 : decode prog_14_method_46_code 0 = .ok (.aload_n 0, 1) := by decide +kernel
theorem d_M_lotOf_1 : decode prog_14_method_46_code 1 = .ok (.getfield 326, 3) := by decide +kernel
theorem d_M_lotOf_4 : decode prog_14_method_46_code 4 = .ok (.sipush 159, 3) := by decide +kernel
theorem d_M_lotOf_7 : decode prog_14_method_46_code 7 = .ok (.invokestatic 336, 3) := by decide +kernel
theorem d_M_lotOf_10 : decode prog_14_method_46_code 10 = .ok (.iload_n 1, 1) := by decide +kernel
theorem d_M_lotOf_11 : decode prog_14_method_46_code 11 = .ok (.invokestatic 336, 3) := by decide +kernel
theorem d_M_lotOf_14 : decode prog_14_method_46_code 14 = .ok (.iconst 1, 1) := by decide +kernel
theorem d_M_lotOf_15 : decode prog_14_method_46_code 15 = .ok (.iushr, 1) := by decide +kernel
theorem d_M_lotOf_16 : decode prog_14_method_46_code 16 = .ok (.iload_n 2, 1) := by decide +kernel
theorem d_M_lotOf_17 : decode prog_14_method_46_code 17 = .ok (.irem, 1) := by decide +kernel
theorem d_M_lotOf_18 : decode prog_14_method_46_code 18 = .ok (.ireturn, 1) := by decide +kernel
theorem d_M_isMoth_0 : decode prog_14_method_47_code 0 = .ok (.aload_n 0, 1) := by decide +kernel
theorem d_M_isMoth_1 : decode prog_14_method_47_code 1 = .ok (.bipush 16, 2) := by decide +kernel
theorem d_M_isMoth_3 : decode prog_14_method_47_code 3 = .ok (.aload_n 0, 1) := by decide +kernel
theorem d_M_isMoth_4 : decode prog_14_method_47_code 4 = .ok (.getfield 116, 3) := by decide +kernel
theorem d_M_isMoth_7 : decode prog_14_method_47_code 7 = .ok (.bipush 31, 2) := by decide +kernel
theorem d_M_isMoth_9 : decode prog_14_method_47_code 9 = .ok (.iaload, 1) := by decide +kernel
theorem d_M_isMoth_10 : decode prog_14_method_47_code 10 = .ok (.imul, 1) := by decide +kernel
theorem d_M_isMoth_11 : decode prog_14_method_47_code 11 = .ok (.bipush 8, 2) := by decide +kernel
theorem d_M_isMoth_13 : decode prog_14_method_47_code 13 = .ok (.iadd, 1) := by decide +kernel
theorem d_M_isMoth_14 : decode prog_14_method_47_code 14 = .ok (.bipush 100, 2) := by decide +kernel
theorem d_M_isMoth_16 : decode prog_14_method_47_code 16 = .ok (.invokevirtual 339, 3) := by decide +kernel
theorem d_M_isMoth_19 : decode prog_14_method_47_code 19 = .ok (.aload_n 0, 1) := by decide +kernel
theorem d_M_isMoth_20 : decode prog_14_method_47_code 20 = .ok (.getfield 70, 3) := by decide +kernel
theorem d_M_isMoth_23 : decode prog_14_method_47_code 23 = .ok (.aload_n 0, 1) := by decide +kernel
theorem d_M_isMoth_24 : decode prog_14_method_47_code 24 = .ok (.getfield 245, 3) := by decide +kernel
theorem d_M_isMoth_27 : decode prog_14_method_47_code 27 = .ok (.iaload, 1) := by decide +kernel
theorem d_M_isMoth_28 : decode prog_14_method_47_code 28 = .ok (.if_icmp .ge 7, 3) := by decide +kernel
theorem d_M_isMoth_31 : decode prog_14_method_47_code 31 = .ok (.iconst 1, 1) := by decide +kernel
theorem d_M_isMoth_32 : decode prog_14_method_47_code 32 = .ok (.goto 4, 3) := by decide +kernel
theorem d_M_isMoth_35 : decode prog_14_method_47_code 35 = .ok (.iconst 0, 1) := by decide +kernel
theorem d_M_isMoth_36 : decode prog_14_method_47_code 36 = .ok (.ireturn, 1) := by decide +kernel
theorem d_M_isUp_0 : decode prog_14_method_48_code 0 = .ok (.aload_n 0, 1) := by decide +kernel
theorem d_M_isUp_1 : decode prog_14_method_48_code 1 = .ok (.getfield 116, 3) := by decide +kernel
theorem d_M_isUp_4 : decode prog_14_method_48_code 4 = .ok (.bipush 6, 2) := by decide +kernel
theorem d_M_isUp_6 : decode prog_14_method_48_code 6 = .ok (.iload_n 1, 1) := by decide +kernel
theorem d_M_isUp_7 : decode prog_14_method_48_code 7 = .ok (.iadd, 1) := by decide +kernel
theorem d_M_isUp_8 : decode prog_14_method_48_code 8 = .ok (.iaload, 1) := by decide +kernel
theorem d_M_isUp_9 : decode prog_14_method_48_code 9 = .ok (.ifCond .lt 7, 3) := by decide +kernel
theorem d_M_isUp_12 : decode prog_14_method_48_code 12 = .ok (.iconst 1, 1) := by decide +kernel
theorem d_M_isUp_13 : decode prog_14_method_48_code 13 = .ok (.goto 4, 3) := by decide +kernel
theorem d_M_isUp_16 : decode prog_14_method_48_code 16 = .ok (.iconst 0, 1) := by decide +kernel
theorem d_M_isUp_17 : decode prog_14_method_48_code 17 = .ok (.ireturn, 1) := by decide +kernel
theorem d_M_whoIsOn_0 : decode prog_14_method_49_code 0 = .ok (.iconst 0, 1) := by decide +kernel
theorem d_M_whoIsOn_1 : decode prog_14_method_49_code 1 = .ok (.istore_n 2, 1) := by decide +kernel
theorem d_M_whoIsOn_2 : decode prog_14_method_49_code 2 = .ok (.iload_n 2, 1) := by decide +kernel
theorem d_M_whoIsOn_3 : decode prog_14_method_49_code 3 = .ok (.aload_n 0, 1) := by decide +kernel
theorem d_M_whoIsOn_4 : decode prog_14_method_49_code 4 = .ok (.getfield 55, 3) := by decide +kernel
theorem d_M_whoIsOn_7 : decode prog_14_method_49_code 7 = .ok (.aload_n 0, 1) := by decide +kernel
theorem d_M_whoIsOn_8 : decode prog_14_method_49_code 8 = .ok (.getfield 245, 3) := by decide +kernel
theorem d_M_whoIsOn_11 : decode prog_14_method_49_code 11 = .ok (.iaload, 1) := by decide +kernel
theorem d_M_whoIsOn_12 : decode prog_14_method_49_code 12 = .ok (.if_icmp .ge 24, 3) := by decide +kernel
theorem d_M_whoIsOn_15 : decode prog_14_method_49_code 15 = .ok (.aload_n 0, 1) := by decide +kernel
theorem d_M_whoIsOn_16 : decode prog_14_method_49_code 16 = .ok (.getfield 116, 3) := by decide +kernel
theorem d_M_whoIsOn_19 : decode prog_14_method_49_code 19 = .ok (.bipush 6, 2) := by decide +kernel
theorem d_M_whoIsOn_21 : decode prog_14_method_49_code 21 = .ok (.iload_n 2, 1) := by decide +kernel
theorem d_M_whoIsOn_22 : decode prog_14_method_49_code 22 = .ok (.iadd, 1) := by decide +kernel
theorem d_M_whoIsOn_23 : decode prog_14_method_49_code 23 = .ok (.iaload, 1) := by decide +kernel
theorem d_M_whoIsOn_24 : decode prog_14_method_49_code 24 = .ok (.iload_n 1, 1) := by decide +kernel
theorem d_M_whoIsOn_25 : decode prog_14_method_49_code 25 = .ok (.if_icmp .ne 5, 3) := by decide +kernel
theorem d_M_whoIsOn_28 : decode prog_14_method_49_code 28 = .ok (.iload_n 2, 1) := by decide +kernel
theorem d_M_whoIsOn_29 : decode prog_14_method_49_code 29 = .ok (.ireturn, 1) := by decide +kernel
theorem d_M_whoIsOn_30 : decode prog_14_method_49_code 30 = .ok (.iinc 2 1, 3) := by decide +kernel
theorem d_M_whoIsOn_33 : decode prog_14_method_49_code 33 = .ok (.goto (-31), 3) := by decide +kernel
theorem d_M_whoIsOn_36 : decode prog_14_method_49_code 36 = .ok (.bipush (-2), 2) := by decide +kernel
theorem d_M_whoIsOn_38 : decode prog_14_method_49_code 38 = .ok (.ireturn, 1) := by decide +kernel
theorem d_M_nailAt_0 : decode prog_14_method_50_code 0 = .ok (.aload_n 0, 1) := by decide +kernel
theorem d_M_nailAt_1 : decode prog_14_method_50_code 1 = .ok (.getfield 49, 3) := by decide +kernel
theorem d_M_nailAt_4 : decode prog_14_method_50_code 4 = .ok (.bipush 7, 2) := by decide +kernel
theorem d_M_nailAt_6 : decode prog_14_method_50_code 6 = .ok (.aload_n 0, 1) := by decide +kernel
theorem d_M_nailAt_7 : decode prog_14_method_50_code 7 = .ok (.getfield 245, 3) := by decide +kernel
theorem d_M_nailAt_10 : decode prog_14_method_50_code 10 = .ok (.imul, 1) := by decide +kernel
theorem d_M_nailAt_11 : decode prog_14_method_50_code 11 = .ok (.iload_n 1, 1) := by decide +kernel
theorem d_M_nailAt_12 : decode prog_14_method_50_code 12 = .ok (.iadd, 1) := by decide +kernel
theorem d_M_nailAt_13 : decode prog_14_method_50_code 13 = .ok (.iaload, 1) := by decide +kernel
theorem d_M_nailAt_14 : decode prog_14_method_50_code 14 = .ok (.ireturn, 1) := by decide +kernel
theorem d_M_manyOn_0 : decode prog_14_method_51_code 0 = .ok (.iconst 0, 1) := by decide +kernel
theorem d_M_manyOn_1 : decode prog_14_method_51_code 1 = .ok (.istore_n 2, 1) := by decide +kernel
theorem d_M_manyOn_2 : decode prog_14_method_51_code 2 = .ok (.iconst 0, 1) := by decide +kernel
theorem d_M_manyOn_3 : decode prog_14_method_51_code 3 = .ok (.istore_n 3, 1) := by decide +kernel
theorem d_M_manyOn_4 : decode prog_14_method_51_code 4 = .ok (.iload_n 3, 1) := by decide +kernel
theorem d_M_manyOn_5 : decode prog_14_method_51_code 5 = .ok (.aload_n 0, 1) := by decide +kernel
theorem d_M_manyOn_6 : decode prog_14_method_51_code 6 = .ok (.getfield 55, 3) := by decide +kernel
theorem d_M_manyOn_9 : decode prog_14_method_51_code 9 = .ok (.aload_n 0, 1) := by decide +kernel
theorem d_M_manyOn_10 : decode prog_14_method_51_code 10 = .ok (.getfield 245, 3) := by decide +kernel
theorem d_M_manyOn_13 : decode prog_14_method_51_code 13 = .ok (.iaload, 1) := by decide +kernel
theorem d_M_manyOn_14 : decode prog_14_method_51_code 14 = .ok (.if_icmp .ge 37, 3) := by decide +kernel
theorem d_M_manyOn_17 : decode prog_14_method_51_code 17 = .ok (.aload_n 0, 1) := by decide +kernel
theorem d_M_manyOn_18 : decode prog_14_method_51_code 18 = .ok (.iload_n 3, 1) := by decide +kernel
theorem d_M_manyOn_19 : decode prog_14_method_51_code 19 = .ok (.invokevirtual 342, 3) := by decide +kernel
theorem d_M_manyOn_22 : decode prog_14_method_51_code 22 = .ok (.ifCond .eq 23, 3) := by decide +kernel
theorem d_M_manyOn_25 : decode prog_14_method_51_code 25 = .ok (.aload_n 0, 1) := by decide +kernel
theorem d_M_manyOn_26 : decode prog_14_method_51_code 26 = .ok (.aload_n 0, 1) := by decide +kernel
theorem d_M_manyOn_27 : decode prog_14_method_51_code 27 = .ok (.getfield 116, 3) := by decide +kernel
theorem d_M_manyOn_30 : decode prog_14_method_51_code 30 = .ok (.bipush 6, 2) := by decide +kernel
theorem d_M_manyOn_32 : decode prog_14_method_51_code 32 = .ok (.iload_n 3, 1) := by decide +kernel
theorem d_M_manyOn_33 : decode prog_14_method_51_code 33 = .ok (.iadd, 1) := by decide +kernel
theorem d_M_manyOn_34 : decode prog_14_method_51_code 34 = .ok (.iaload, 1) := by decide +kernel
theorem d_M_manyOn_35 : decode prog_14_method_51_code 35 = .ok (.invokevirtual 345, 3) := by decide +kernel
theorem d_M_manyOn_38 : decode prog_14_method_51_code 38 = .ok (.iload_n 1, 1) := by decide +kernel
theorem d_M_manyOn_39 : decode prog_14_method_51_code 39 = .ok (.if_icmp .ne 6, 3) := by decide +kernel
theorem d_M_manyOn_42 : decode prog_14_method_51_code 42 = .ok (.iinc 2 1, 3) := by decide +kernel
theorem d_M_manyOn_45 : decode prog_14_method_51_code 45 = .ok (.iinc 3 1, 3) := by decide +kernel
theorem d_M_manyOn_48 : decode prog_14_method_51_code 48 = .ok (.goto (-44), 3) := by decide +kernel
theorem d_M_manyOn_51 : decode prog_14_method_51_code 51 = .ok (.iload_n 2, 1) := by decide +kernel
theorem d_M_manyOn_52 : decode prog_14_method_51_code 52 = .ok (.ireturn, 1) := by decide +kernel
theorem d_M_looks_0 : decode prog_14_method_52_code 0 = .ok (.aload_n 0, 1) := by decide +kernel
theorem d_M_looks_1 : decode prog_14_method_52_code 1 = .ok (.getfield 107, 3) := by decide +kernel
theorem d_M_looks_4 : decode prog_14_method_52_code 4 = .ok (.iconst 0, 1) := by decide +kernel
theorem d_M_looks_5 : decode prog_14_method_52_code 5 = .ok (.aload_n 0, 1) := by decide +kernel
theorem d_M_looks_6 : decode prog_14_method_52_code 6 = .ok (.getfield 116, 3) := by decide +kernel
theorem d_M_looks_9 : decode prog_14_method_52_code 9 = .ok (.iload_n 1, 1) := by decide +kernel
theorem d_M_looks_10 : decode prog_14_method_52_code 10 = .ok (.iaload, 1) := by decide +kernel
theorem d_M_looks_11 : decode prog_14_method_52_code 11 = .ok (.aload_n 0, 1) := by decide +kernel
theorem d_M_looks_12 : decode prog_14_method_52_code 12 = .ok (.getfield 52, 3) := by decide +kernel
theorem d_M_looks_15 : decode prog_14_method_52_code 15 = .ok (.bipush 7, 2) := by decide +kernel
theorem d_M_looks_17 : decode prog_14_method_52_code 17 = .ok (.aload_n 0, 1) := by decide +kernel
theorem d_M_looks_18 : decode prog_14_method_52_code 18 = .ok (.getfield 245, 3) := by decide +kernel
theorem d_M_looks_21 : decode prog_14_method_52_code 21 = .ok (.imul, 1) := by decide +kernel
theorem d_M_looks_22 : decode prog_14_method_52_code 22 = .ok (.iload_n 2, 1) := by decide +kernel
theorem d_M_looks_23 : decode prog_14_method_52_code 23 = .ok (.iadd, 1) := by decide +kernel
theorem d_M_looks_24 : decode prog_14_method_52_code 24 = .ok (.iaload, 1) := by decide +kernel
theorem d_M_looks_25 : decode prog_14_method_52_code 25 = .ok (.invokestatic 348, 3) := by decide +kernel
theorem d_M_looks_28 : decode prog_14_method_52_code 28 = .ok (.aload_n 0, 1) := by decide +kernel
theorem d_M_looks_29 : decode prog_14_method_52_code 29 = .ok (.getfield 116, 3) := by decide +kernel
theorem d_M_looks_32 : decode prog_14_method_52_code 32 = .ok (.bipush 24, 2) := by decide +kernel
theorem d_M_looks_34 : decode prog_14_method_52_code 34 = .ok (.iload_n 2, 1) := by decide +kernel
theorem d_M_looks_35 : decode prog_14_method_52_code 35 = .ok (.iadd, 1) := by decide +kernel
theorem d_M_looks_36 : decode prog_14_method_52_code 36 = .ok (.iaload, 1) := by decide +kernel
theorem d_M_looks_37 : decode prog_14_method_52_code 37 = .ok (.iadd, 1) := by decide +kernel
theorem d_M_looks_38 : decode prog_14_method_52_code 38 = .ok (.iastore, 1) := by decide +kernel
theorem d_M_looks_39 : decode prog_14_method_52_code 39 = .ok (.aload_n 0, 1) := by decide +kernel
theorem d_M_looks_40 : decode prog_14_method_52_code 40 = .ok (.getfield 107, 3) := by decide +kernel
theorem d_M_looks_43 : decode prog_14_method_52_code 43 = .ok (.iconst 1, 1) := by decide +kernel
theorem d_M_looks_44 : decode prog_14_method_52_code 44 = .ok (.aload_n 0, 1) := by decide +kernel
theorem d_M_looks_45 : decode prog_14_method_52_code 45 = .ok (.getfield 116, 3) := by decide +kernel
theorem d_M_looks_48 : decode prog_14_method_52_code 48 = .ok (.bipush 24, 2) := by decide +kernel
theorem d_M_looks_50 : decode prog_14_method_52_code 50 = .ok (.iload_n 2, 1) := by decide +kernel
theorem d_M_looks_51 : decode prog_14_method_52_code 51 = .ok (.iadd, 1) := by decide +kernel
theorem d_M_looks_52 : decode prog_14_method_52_code 52 = .ok (.iaload, 1) := by decide +kernel
theorem d_M_looks_53 : decode prog_14_method_52_code 53 = .ok (.iastore, 1) := by decide +kernel
theorem d_M_looks_54 : decode prog_14_method_52_code 54 = .ok (.aload_n 0, 1) := by decide +kernel
theorem d_M_looks_55 : decode prog_14_method_52_code 55 = .ok (.getfield 107, 3) := by decide +kernel
theorem d_M_looks_58 : decode prog_14_method_52_code 58 = .ok (.iconst 2, 1) := by decide +kernel
theorem d_M_looks_59 : decode prog_14_method_52_code 59 = .ok (.aload_n 0, 1) := by decide +kernel
theorem d_M_looks_60 : decode prog_14_method_52_code 60 = .ok (.getfield 116, 3) := by decide +kernel
theorem d_M_looks_63 : decode prog_14_method_52_code 63 = .ok (.iload_n 1, 1) := by decide +kernel
theorem d_M_looks_64 : decode prog_14_method_52_code 64 = .ok (.iaload, 1) := by decide +kernel
theorem d_M_looks_65 : decode prog_14_method_52_code 65 = .ok (.iastore, 1) := by decide +kernel
theorem d_M_looks_66 : decode prog_14_method_52_code 66 = .ok (.aload_n 0, 1) := by decide +kernel
theorem d_M_looks_67 : decode prog_14_method_52_code 67 = .ok (.getfield 107, 3) := by decide +kernel
theorem d_M_looks_70 : decode prog_14_method_52_code 70 = .ok (.iconst 3, 1) := by decide +kernel
theorem d_M_looks_71 : decode prog_14_method_52_code 71 = .ok (.aload_n 0, 1) := by decide +kernel
theorem d_M_looks_72 : decode prog_14_method_52_code 72 = .ok (.getfield 61, 3) := by decide +kernel
theorem d_M_looks_75 : decode prog_14_method_52_code 75 = .ok (.bipush 6, 2) := by decide +kernel
theorem d_M_looks_77 : decode prog_14_method_52_code 77 = .ok (.aload_n 0, 1) := by decide +kernel
theorem d_M_looks_78 : decode prog_14_method_52_code 78 = .ok (.getfield 245, 3) := by decide +kernel
theorem d_M_looks_81 : decode prog_14_method_52_code 81 = .ok (.imul, 1) := by decide +kernel
theorem d_M_looks_82 : decode prog_14_method_52_code 82 = .ok (.iload_n 1, 1) := by decide +kernel
theorem d_M_looks_83 : decode prog_14_method_52_code 83 = .ok (.iadd, 1) := by decide +kernel
theorem d_M_looks_84 : decode prog_14_method_52_code 84 = .ok (.iaload, 1) := by decide +kernel
theorem d_M_looks_85 : decode prog_14_method_52_code 85 = .ok (.iastore, 1) := by decide +kernel
theorem d_M_looks_86 : decode prog_14_method_52_code 86 = .ok (.aload_n 0, 1) := by decide +kernel
theorem d_M_looks_87 : decode prog_14_method_52_code 87 = .ok (.getfield 107, 3) := by decide +kernel
theorem d_M_looks_90 : decode prog_14_method_52_code 90 = .ok (.iconst 4, 1) := by decide +kernel
theorem d_M_looks_91 : decode prog_14_method_52_code 91 = .ok (.aload_n 0, 1) := by decide +kernel
theorem d_M_looks_92 : decode prog_14_method_52_code 92 = .ok (.getfield 116, 3) := by decide +kernel
theorem d_M_looks_95 : decode prog_14_method_52_code 95 = .ok (.bipush 31, 2) := by decide +kernel
theorem d_M_looks_97 : decode prog_14_method_52_code 97 = .ok (.iaload, 1) := by decide +kernel
theorem d_M_looks_98 : decode prog_14_method_52_code 98 = .ok (.iastore, 1) := by decide +kernel
theorem d_M_looks_99 : decode prog_14_method_52_code 99 = .ok (.aload_n 0, 1) := by decide +kernel
theorem d_M_looks_100 : decode prog_14_method_52_code 100 = .ok (.getfield 107, 3) := by decide +kernel
theorem d_M_looks_103 : decode prog_14_method_52_code 103 = .ok (.iconst 5, 1) := by decide +kernel
theorem d_M_looks_104 : decode prog_14_method_52_code 104 = .ok (.aload_n 0, 1) := by decide +kernel
theorem d_M_looks_105 : decode prog_14_method_52_code 105 = .ok (.getfield 116, 3) := by decide +kernel
theorem d_M_looks_108 : decode prog_14_method_52_code 108 = .ok (.bipush 18, 2) := by decide +kernel
theorem d_M_looks_110 : decode prog_14_method_52_code 110 = .ok (.iload_n 1, 1) := by decide +kernel
theorem d_M_looks_111 : decode prog_14_method_52_code 111 = .ok (.iadd, 1) := by decide +kernel
theorem d_M_looks_112 : decode prog_14_method_52_code 112 = .ok (.iaload, 1) := by decide +kernel
theorem d_M_looks_113 : decode prog_14_method_52_code 113 = .ok (.iastore, 1) := by decide +kernel
theorem d_M_looks_114 : decode prog_14_method_52_code 114 = .ok (.aload_n 0, 1) := by decide +kernel
theorem d_M_looks_115 : decode prog_14_method_52_code 115 = .ok (.getfield 107, 3) := by decide +kernel
theorem d_M_looks_118 : decode prog_14_method_52_code 118 = .ok (.bipush 6, 2) := by decide +kernel
theorem d_M_looks_120 : decode prog_14_method_52_code 120 = .ok (.iload_n 3, 1) := by decide +kernel
theorem d_M_looks_121 : decode prog_14_method_52_code 121 = .ok (.iastore, 1) := by decide +kernel
theorem d_M_looks_122 : decode prog_14_method_52_code 122 = .ok (.aload_n 0, 1) := by decide +kernel
theorem d_M_looks_123 : decode prog_14_method_52_code 123 = .ok (.getfield 107, 3) := by decide +kernel
theorem d_M_looks_126 : decode prog_14_method_52_code 126 = .ok (.bipush 7, 2) := by decide +kernel
theorem d_M_looks_128 : decode prog_14_method_52_code 128 = .ok (.iload_n 1, 1) := by decide +kernel
theorem d_M_looks_129 : decode prog_14_method_52_code 129 = .ok (.iastore, 1) := by decide +kernel
theorem d_M_looks_130 : decode prog_14_method_52_code 130 = .ok (.aload_n 0, 1) := by decide +kernel
theorem d_M_looks_131 : decode prog_14_method_52_code 131 = .ok (.getfield 107, 3) := by decide +kernel
theorem d_M_looks_134 : decode prog_14_method_52_code 134 = .ok (.bipush 8, 2) := by decide +kernel
theorem d_M_looks_136 : decode prog_14_method_52_code 136 = .ok (.aload_n 0, 1) := by decide +kernel
theorem d_M_looks_137 : decode prog_14_method_52_code 137 = .ok (.iload_n 2, 1) := by decide +kernel
theorem d_M_looks_138 : decode prog_14_method_52_code 138 = .ok (.invokevirtual 345, 3) := by decide +kernel
theorem d_M_looks_141 : decode prog_14_method_52_code 141 = .ok (.iastore, 1) := by decide +kernel
theorem d_M_looks_142 : decode prog_14_method_52_code 142 = .ok (.return_, 1) := by decide +kernel
theorem d_M_lawTells_0 : decode prog_14_method_53_code 0 = .ok (.iconst 4, 1) := by decide +kernel
theorem d_M_lawTells_1 : decode prog_14_method_53_code 1 = .ok (.aload_n 0, 1) := by decide +kernel
theorem d_M_lawTells_2 : decode prog_14_method_53_code 2 = .ok (.getfield 245, 3) := by decide +kernel
theorem d_M_lawTells_5 : decode prog_14_method_53_code 5 = .ok (.imul, 1) := by decide +kernel
theorem d_M_lawTells_6 : decode prog_14_method_53_code 6 = .ok (.iload_n 1, 1) := by decide +kernel
theorem d_M_lawTells_7 : decode prog_14_method_53_code 7 = .ok (.iadd, 1) := by decide +kernel
theorem d_M_lawTells_8 : decode prog_14_method_53_code 8 = .ok (.istore_n 3, 1) := by decide +kernel
theorem d_M_lawTells_9 : decode prog_14_method_53_code 9 = .ok (.aload_n 0, 1) := by decide +kernel
theorem d_M_lawTells_10 : decode prog_14_method_53_code 10 = .ok (.getfield 76, 3) := by decide +kernel
theorem d_M_lawTells_13 : decode prog_14_method_53_code 13 = .ok (.iload_n 3, 1) := by decide +kernel
theorem d_M_lawTells_14 : decode prog_14_method_53_code 14 = .ok (.iaload, 1) := by decide +kernel
theorem d_M_lawTells_15 : decode prog_14_method_53_code 15 = .ok (.aload_n 0, 1) := by decide +kernel
theorem d_M_lawTells_16 : decode prog_14_method_53_code 16 = .ok (.getfield 79, 3) := by decide +kernel
theorem d_M_lawTells_19 : decode prog_14_method_53_code 19 = .ok (.iload_n 3, 1) := by decide +kernel
theorem d_M_lawTells_20 : decode prog_14_method_53_code 20 = .ok (.iaload, 1) := by decide +kernel
theorem d_M_lawTells_21 : decode prog_14_method_53_code 21 = .ok (.if_icmp .ne 5, 3) := by decide +kernel
theorem d_M_lawTells_24 : decode prog_14_method_53_code 24 = .ok (.iload_n 2, 1) := by decide +kernel
theorem d_M_lawTells_25 : decode prog_14_method_53_code 25 = .ok (.ireturn, 1) := by decide +kernel
theorem d_M_lawTells_26 : decode prog_14_method_53_code 26 = .ok (.aload_n 0, 1) := by decide +kernel
theorem d_M_lawTells_27 : decode prog_14_method_53_code 27 = .ok (.iconst 0, 1) := by decide +kernel
theorem d_M_lawTells_28 : decode prog_14_method_53_code 28 = .ok (.putfield 318, 3) := by decide +kernel
theorem d_M_lawTells_31 : decode prog_14_method_53_code 31 = .ok (.aload_n 0, 1) := by decide +kernel
theorem d_M_lawTells_32 : decode prog_14_method_53_code 32 = .ok (.getfield 76, 3) := by decide +kernel
theorem d_M_lawTells_35 : decode prog_14_method_53_code 35 = .ok (.iload_n 3, 1) := by decide +kernel
theorem d_M_lawTells_36 : decode prog_14_method_53_code 36 = .ok (.iaload, 1) := by decide +kernel
theorem d_M_lawTells_37 : decode prog_14_method_53_code 37 = .ok (.istore 4, 2) := by decide +kernel
theorem d_M_lawTells_39 : decode prog_14_method_53_code 39 = .ok (.iload 4, 2) := by decide +kernel
theorem d_M_lawTells_41 : decode prog_14_method_53_code 41 = .ok (.aload_n 0, 1) := by decide +kernel
theorem d_M_lawTells_42 : decode prog_14_method_53_code 42 = .ok (.getfield 79, 3) := by decide +kernel
theorem d_M_lawTells_45 : decode prog_14_method_53_code 45 = .ok (.iload_n 3, 1) := by decide +kernel
theorem d_M_lawTells_46 : decode prog_14_method_53_code 46 = .ok (.iaload, 1) := by decide +kernel
theorem d_M_lawTells_47 : decode prog_14_method_53_code 47 = .ok (.if_icmp .ge 112, 3) := by decide +kernel
theorem d_M_lawTells_50 : decode prog_14_method_53_code 50 = .ok (.aload_n 0, 1) := by decide +kernel
theorem d_M_lawTells_51 : decode prog_14_method_53_code 51 = .ok (.getfield 82, 3) := by decide +kernel
theorem d_M_lawTells_54 : decode prog_14_method_53_code 54 = .ok (.iload 4, 2) := by decide +kernel
theorem d_M_lawTells_56 : decode prog_14_method_53_code 56 = .ok (.baload, 1) := by decide +kernel
theorem d_M_lawTells_57 : decode prog_14_method_53_code 57 = .ok (.ifCond .eq 62, 3) := by decide +kernel
theorem d_M_lawTells_60 : decode prog_14_method_53_code 60 = .ok (.aload_n 0, 1) := by decide +kernel
theorem d_M_lawTells_61 : decode prog_14_method_53_code 61 = .ok (.aload_n 0, 1) := by decide +kernel
theorem d_M_lawTells_62 : decode prog_14_method_53_code 62 = .ok (.getfield 86, 3) := by decide +kernel
theorem d_M_lawTells_65 : decode prog_14_method_53_code 65 = .ok (.iload 4, 2) := by decide +kernel
theorem d_M_lawTells_67 : decode prog_14_method_53_code 67 = .ok (.iaload, 1) := by decide +kernel
theorem d_M_lawTells_68 : decode prog_14_method_53_code 68 = .ok (.aload_n 0, 1) := by decide +kernel
theorem d_M_lawTells_69 : decode prog_14_method_53_code 69 = .ok (.getfield 89, 3) := by decide +kernel
theorem d_M_lawTells_72 : decode prog_14_method_53_code 72 = .ok (.iload 4, 2) := by decide +kernel
theorem d_M_lawTells_74 : decode prog_14_method_53_code 74 = .ok (.iaload, 1) := by decide +kernel
theorem d_M_lawTells_75 : decode prog_14_method_53_code 75 = .ok (.invokevirtual 351, 3) := by decide +kernel
theorem d_M_lawTells_78 : decode prog_14_method_53_code 78 = .ok (.istore 5, 2) := by decide +kernel
theorem d_M_lawTells_80 : decode prog_14_method_53_code 80 = .ok (.aload_n 0, 1) := by decide +kernel
theorem d_M_lawTells_81 : decode prog_14_method_53_code 81 = .ok (.aload_n 0, 1) := by decide +kernel
theorem d_M_lawTells_82 : decode prog_14_method_53_code 82 = .ok (.getfield 89, 3) := by decide +kernel
theorem d_M_lawTells_85 : decode prog_14_method_53_code 85 = .ok (.iload 4, 2) := by decide +kernel
theorem d_M_lawTells_87 : decode prog_14_method_53_code 87 = .ok (.iaload, 1) := by decide +kernel
theorem d_M_lawTells_88 : decode prog_14_method_53_code 88 = .ok (.aload_n 0, 1) := by decide +kernel
theorem d_M_lawTells_89 : decode prog_14_method_53_code 89 = .ok (.getfield 92, 3) := by decide +kernel
theorem d_M_lawTells_92 : decode prog_14_method_53_code 92 = .ok (.iload 4, 2) := by decide +kernel
theorem d_M_lawTells_94 : decode prog_14_method_53_code 94 = .ok (.iaload, 1) := by decide +kernel
theorem d_M_lawTells_95 : decode prog_14_method_53_code 95 = .ok (.invokevirtual 351, 3) := by decide +kernel
theorem d_M_lawTells_98 : decode prog_14_method_53_code 98 = .ok (.istore 6, 2) := by decide +kernel
theorem d_M_lawTells_100 : decode prog_14_method_53_code 100 = .ok (.aload_n 0, 1) := by decide +kernel
theorem d_M_lawTells_101 : decode prog_14_method_53_code 101 = .ok (.getfield 318, 3) := by decide +kernel
theorem d_M_lawTells_104 : decode prog_14_method_53_code 104 = .ok (.ifCond .eq 5, 3) := by decide +kernel
theorem d_M_lawTells_107 : decode prog_14_method_53_code 107 = .ok (.iconst 0, 1) := by decide +kernel
theorem d_M_lawTells_108 : decode prog_14_method_53_code 108 = .ok (.ireturn, 1) := by decide +kernel
theorem d_M_lawTells_109 : decode prog_14_method_53_code 109 = .ok (.iload 5, 2) := by decide +kernel
theorem d_M_lawTells_111 : decode prog_14_method_53_code 111 = .ok (.iload 6, 2) := by decide +kernel
theorem d_M_lawTells_113 : decode prog_14_method_53_code 113 = .ok (.if_icmp .lt 6, 3) := by decide +kernel
theorem d_M_lawTells_116 : decode prog_14_method_53_code 116 = .ok (.goto 37, 3) := by decide +kernel
theorem d_M_lawTells_119 : decode prog_14_method_53_code 119 = .ok (.aload_n 0, 1) := by decide +kernel
theorem d_M_lawTells_120 : decode prog_14_method_53_code 120 = .ok (.aload_n 0, 1) := by decide +kernel
theorem d_M_lawTells_121 : decode prog_14_method_53_code 121 = .ok (.getfield 92, 3) := by decide +kernel
theorem d_M_lawTells_124 : decode prog_14_method_53_code 124 = .ok (.iload 4, 2) := by decide +kernel
theorem d_M_lawTells_126 : decode prog_14_method_53_code 126 = .ok (.iaload, 1) := by decide +kernel
theorem d_M_lawTells_127 : decode prog_14_method_53_code 127 = .ok (.aload_n 0, 1) := by decide +kernel
theorem d_M_lawTells_128 : decode prog_14_method_53_code 128 = .ok (.getfield 95, 3) := by decide +kernel
theorem d_M_lawTells_131 : decode prog_14_method_53_code 131 = .ok (.iload 4, 2) := by decide +kernel
theorem d_M_lawTells_133 : decode prog_14_method_53_code 133 = .ok (.iaload, 1) := by decide +kernel
theorem d_M_lawTells_134 : decode prog_14_method_53_code 134 = .ok (.invokevirtual 351, 3) := by decide +kernel
theorem d_M_lawTells_137 : decode prog_14_method_53_code 137 = .ok (.istore 5, 2) := by decide +kernel
theorem d_M_lawTells_139 : decode prog_14_method_53_code 139 = .ok (.aload_n 0, 1) := by decide +kernel
theorem d_M_lawTells_140 : decode prog_14_method_53_code 140 = .ok (.getfield 318, 3) := by decide +kernel
theorem d_M_lawTells_143 : decode prog_14_method_53_code 143 = .ok (.ifCond .eq 7, 3) := by decide +kernel
theorem d_M_lawTells_146 : decode prog_14_method_53_code 146 = .ok (.iconst 0, 1) := by decide +kernel
theorem d_M_lawTells_147 : decode prog_14_method_53_code 147 = .ok (.goto 5, 3) := by decide +kernel
theorem d_M_lawTells_150 : decode prog_14_method_53_code 150 = .ok (.iload 5, 2) := by decide +kernel
theorem d_M_lawTells_152 : decode prog_14_method_53_code 152 = .ok (.ireturn, 1) := by decide +kernel
theorem d_M_lawTells_153 : decode prog_14_method_53_code 153 = .ok (.iinc 4 1, 3) := by decide +kernel
theorem d_M_lawTells_156 : decode prog_14_method_53_code 156 = .ok (.goto (-117), 3) := by decide +kernel
theorem d_M_lawTells_159 : decode prog_14_method_53_code 159 = .ok (.iconst 0, 1) := by decide +kernel
theorem d_M_lawTells_160 : decode prog_14_method_53_code 160 = .ok (.ireturn, 1) := by decide +kernel
theorem d_M_besideOf_0 : decode prog_14_method_54_code 0 = .ok (.aload_n 0, 1) := by decide +kernel
theorem d_M_besideOf_1 : decode prog_14_method_54_code 1 = .ok (.iload_n 1, 1) := by decide +kernel
theorem d_M_besideOf_2 : decode prog_14_method_54_code 2 = .ok (.invokevirtual 342, 3) := by decide +kernel
theorem d_M_besideOf_5 : decode prog_14_method_54_code 5 = .ok (.ifCond .eq 25, 3) := by decide +kernel
theorem d_M_besideOf_8 : decode prog_14_method_54_code 8 = .ok (.aload_n 0, 1) := by decide +kernel
theorem d_M_besideOf_9 : decode prog_14_method_54_code 9 = .ok (.aload_n 0, 1) := by decide +kernel
theorem d_M_besideOf_10 : decode prog_14_method_54_code 10 = .ok (.aload_n 0, 1) := by decide +kernel
theorem d_M_besideOf_11 : decode prog_14_method_54_code 11 = .ok (.getfield 116, 3) := by decide +kernel
theorem d_M_besideOf_14 : decode prog_14_method_54_code 14 = .ok (.bipush 6, 2) := by decide +kernel
theorem d_M_besideOf_16 : decode prog_14_method_54_code 16 = .ok (.iload_n 1, 1) := by decide +kernel
theorem d_M_besideOf_17 : decode prog_14_method_54_code 17 = .ok (.iadd, 1) := by decide +kernel
theorem d_M_besideOf_18 : decode prog_14_method_54_code 18 = .ok (.iaload, 1) := by decide +kernel
theorem d_M_besideOf_19 : decode prog_14_method_54_code 19 = .ok (.invokevirtual 345, 3) := by decide +kernel
theorem d_M_besideOf_22 : decode prog_14_method_54_code 22 = .ok (.invokevirtual 354, 3) := by decide +kernel
theorem d_M_besideOf_25 : decode prog_14_method_54_code 25 = .ok (.iconst 1, 1) := by decide +kernel
theorem d_M_besideOf_26 : decode prog_14_method_54_code 26 = .ok (.isub, 1) := by decide +kernel
theorem d_M_besideOf_27 : decode prog_14_method_54_code 27 = .ok (.goto 4, 3) := by decide +kernel
theorem d_M_besideOf_30 : decode prog_14_method_54_code 30 = .ok (.iconst 0, 1) := by decide +kernel
theorem d_M_besideOf_31 : decode prog_14_method_54_code 31 = .ok (.ireturn, 1) := by decide +kernel
theorem d_M_toldOf_0 : decode prog_14_method_55_code 0 = .ok (.aload_n 0, 1) := by decide +kernel
theorem d_M_toldOf_1 : decode prog_14_method_55_code 1 = .ok (.iload_n 1, 1) := by decide +kernel
theorem d_M_toldOf_2 : decode prog_14_method_55_code 2 = .ok (.aload_n 0, 1) := by decide +kernel
theorem d_M_toldOf_3 : decode prog_14_method_55_code 3 = .ok (.getfield 116, 3) := by decide +kernel
theorem d_M_toldOf_6 : decode prog_14_method_55_code 6 = .ok (.bipush 6, 2) := by decide +kernel
theorem d_M_toldOf_8 : decode prog_14_method_55_code 8 = .ok (.iload_n 1, 1) := by decide +kernel
theorem d_M_toldOf_9 : decode prog_14_method_55_code 9 = .ok (.iadd, 1) := by decide +kernel
theorem d_M_toldOf_10 : decode prog_14_method_55_code 10 = .ok (.iaload, 1) := by decide +kernel
theorem d_M_toldOf_11 : decode prog_14_method_55_code 11 = .ok (.aload_n 0, 1) := by decide +kernel
theorem d_M_toldOf_12 : decode prog_14_method_55_code 12 = .ok (.iload_n 1, 1) := by decide +kernel
theorem d_M_toldOf_13 : decode prog_14_method_55_code 13 = .ok (.invokevirtual 357, 3) := by decide +kernel
theorem d_M_toldOf_16 : decode prog_14_method_55_code 16 = .ok (.invokevirtual 360, 3) := by decide +kernel
theorem d_M_toldOf_19 : decode prog_14_method_55_code 19 = .ok (.aload_n 0, 1) := by decide +kernel
theorem d_M_toldOf_20 : decode prog_14_method_55_code 20 = .ok (.iload_n 2, 1) := by decide +kernel
theorem d_M_toldOf_21 : decode prog_14_method_55_code 21 = .ok (.iload_n 2, 1) := by decide +kernel
theorem d_M_toldOf_22 : decode prog_14_method_55_code 22 = .ok (.ifCond .eq 8, 3) := by decide +kernel
theorem d_M_toldOf_25 : decode prog_14_method_55_code 25 = .ok (.iload_n 2, 1) := by decide +kernel
theorem d_M_toldOf_26 : decode prog_14_method_55_code 26 = .ok (.iconst 3, 1) := by decide +kernel
theorem d_M_toldOf_27 : decode prog_14_method_55_code 27 = .ok (.if_icmp .ne 12, 3) := by decide +kernel
theorem d_M_toldOf_30 : decode prog_14_method_55_code 30 = .ok (.aload_n 0, 1) := by decide +kernel
theorem d_M_toldOf_31 : decode prog_14_method_55_code 31 = .ok (.getfield 107, 3) := by decide +kernel
theorem d_M_toldOf_34 : decode prog_14_method_55_code 34 = .ok (.iconst 0, 1) := by decide +kernel
theorem d_M_toldOf_35 : decode prog_14_method_55_code 35 = .ok (.iaload, 1) := by decide +kernel
theorem d_M_toldOf_36 : decode prog_14_method_55_code 36 = .ok (.goto 4, 3) := by decide +kernel
theorem d_M_toldOf_39 : decode prog_14_method_55_code 39 = .ok (.iconst 0, 1) := by decide +kernel
theorem d_M_toldOf_40 : decode prog_14_method_55_code 40 = .ok (.invokevirtual 364, 3) := by decide +kernel
theorem d_M_toldOf_43 : decode prog_14_method_55_code 43 = .ok (.iconst 0, 1) := by decide +kernel
theorem d_M_toldOf_44 : decode prog_14_method_55_code 44 = .ok (.iload_n 2, 1) := by decide +kernel
theorem d_M_toldOf_45 : decode prog_14_method_55_code 45 = .ok (.iconst 2, 1) := by decide +kernel
theorem d_M_toldOf_46 : decode prog_14_method_55_code 46 = .ok (.if_icmp .ne 8, 3) := by decide +kernel
theorem d_M_toldOf_49 : decode prog_14_method_55_code 49 = .ok (.bipush 100, 2) := by decide +kernel
theorem d_M_toldOf_51 : decode prog_14_method_55_code 51 = .ok (.goto 5, 3) := by decide +kernel
theorem d_M_toldOf_54 : decode prog_14_method_55_code 54 = .ok (.bipush 99, 2) := by decide +kernel
theorem d_M_toldOf_56 : decode prog_14_method_55_code 56 = .ok (.invokestatic 367, 3) := by decide +kernel
theorem d_M_toldOf_59 : decode prog_14_method_55_code 59 = .ok (.ireturn, 1) := by decide +kernel
theorem d_M_costsAt_0 : decode prog_14_method_56_code 0 = .ok (.aload_n 0, 1) := by decide +kernel
theorem d_M_costsAt_1 : decode prog_14_method_56_code 1 = .ok (.iload_n 1, 1) := by decide +kernel
theorem d_M_costsAt_2 : decode prog_14_method_56_code 2 = .ok (.iload_n 2, 1) := by decide +kernel
theorem d_M_costsAt_3 : decode prog_14_method_56_code 3 = .ok (.iconst 0, 1) := by decide +kernel
theorem d_M_costsAt_4 : decode prog_14_method_56_code 4 = .ok (.invokevirtual 360, 3) := by decide +kernel
theorem d_M_costsAt_7 : decode prog_14_method_56_code 7 = .ok (.aload_n 0, 1) := by decide +kernel
theorem d_M_costsAt_8 : decode prog_14_method_56_code 8 = .ok (.iconst 3, 1) := by decide +kernel
theorem d_M_costsAt_9 : decode prog_14_method_56_code 9 = .ok (.aload_n 0, 1) := by decide +kernel
theorem d_M_costsAt_10 : decode prog_14_method_56_code 10 = .ok (.getfield 107, 3) := by decide +kernel
theorem d_M_costsAt_13 : decode prog_14_method_56_code 13 = .ok (.iconst 0, 1) := by decide +kernel
theorem d_M_costsAt_14 : decode prog_14_method_56_code 14 = .ok (.iaload, 1) := by decide +kernel
theorem d_M_costsAt_15 : decode prog_14_method_56_code 15 = .ok (.invokevirtual 364, 3) := by decide +kernel
theorem d_M_costsAt_18 : decode prog_14_method_56_code 18 = .ok (.iconst 0, 1) := by decide +kernel
theorem d_M_costsAt_19 : decode prog_14_method_56_code 19 = .ok (.bipush 99, 2) := by decide +kernel
theorem d_M_costsAt_21 : decode prog_14_method_56_code 21 = .ok (.invokestatic 367, 3) := by decide +kernel
theorem d_M_costsAt_24 : decode prog_14_method_56_code 24 = .ok (.ireturn, 1) := by decide +kernel
theorem d_M_costsAll_0 : decode prog_14_method_57_code 0 = .ok (.iconst 0, 1) := by decide +kernel
theorem d_M_costsAll_1 : decode prog_14_method_57_code 1 = .ok (.istore_n 1, 1) := by decide +kernel
theorem d_M_costsAll_2 : decode prog_14_method_57_code 2 = .ok (.iconst 0, 1) := by decide +kernel
theorem d_M_costsAll_3 : decode prog_14_method_57_code 3 = .ok (.istore_n 2, 1) := by decide +kernel
theorem d_M_costsAll_4 : decode prog_14_method_57_code 4 = .ok (.iload_n 2, 1) := by decide +kernel
theorem d_M_costsAll_5 : decode prog_14_method_57_code 5 = .ok (.aload_n 0, 1) := by decide +kernel
theorem d_M_costsAll_6 : decode prog_14_method_57_code 6 = .ok (.getfield 55, 3) := by decide +kernel
theorem d_M_costsAll_9 : decode prog_14_method_57_code 9 = .ok (.aload_n 0, 1) := by decide +kernel
theorem d_M_costsAll_10 : decode prog_14_method_57_code 10 = .ok (.getfield 245, 3) := by decide +kernel
theorem d_M_costsAll_13 : decode prog_14_method_57_code 13 = .ok (.iaload, 1) := by decide +kernel
theorem d_M_costsAll_14 : decode prog_14_method_57_code 14 = .ok (.if_icmp .ge 26, 3) := by decide +kernel
theorem d_M_costsAll_17 : decode prog_14_method_57_code 17 = .ok (.aload_n 0, 1) := by decide +kernel
theorem d_M_costsAll_18 : decode prog_14_method_57_code 18 = .ok (.iload_n 2, 1) := by decide +kernel
theorem d_M_costsAll_19 : decode prog_14_method_57_code 19 = .ok (.invokevirtual 342, 3) := by decide +kernel
theorem d_M_costsAll_22 : decode prog_14_method_57_code 22 = .ok (.ifCond .eq 12, 3) := by decide +kernel
theorem d_M_costsAll_25 : decode prog_14_method_57_code 25 = .ok (.iload_n 1, 1) := by decide +kernel
theorem d_M_costsAll_26 : decode prog_14_method_57_code 26 = .ok (.aload_n 0, 1) := by decide +kernel
theorem d_M_costsAll_27 : decode prog_14_method_57_code 27 = .ok (.iload_n 2, 1) := by decide +kernel
theorem d_M_costsAll_28 : decode prog_14_method_57_code 28 = .ok (.iconst 3, 1) := by decide +kernel
theorem d_M_costsAll_29 : decode prog_14_method_57_code 29 = .ok (.invokevirtual 370, 3) := by decide +kernel
theorem d_M_costsAll_32 : decode prog_14_method_57_code 32 = .ok (.iadd, 1) := by decide +kernel
theorem d_M_costsAll_33 : decode prog_14_method_57_code 33 = .ok (.istore_n 1, 1) := by decide +kernel
theorem d_M_costsAll_34 : decode prog_14_method_57_code 34 = .ok (.iinc 2 1, 3) := by decide +kernel
theorem d_M_costsAll_37 : decode prog_14_method_57_code 37 = .ok (.goto (-33), 3) := by decide +kernel
theorem d_M_costsAll_40 : decode prog_14_method_57_code 40 = .ok (.iload_n 1, 1) := by decide +kernel
theorem d_M_costsAll_41 : decode prog_14_method_57_code 41 = .ok (.ireturn, 1) := by decide +kernel
def w_M_read_10 (N : Nat) : Nat → Nat → Int32 → qH → (Int32 → qH → Prop) → (Nat → qH → Prop) → Prop
  | 0 => fun _ _ _ _ _ => False
  | k + 1 => fun x0 x1 h Q K36 => (qS h x0 = .inl 12 ∧ (((qI h x0 4) ≤ x1 → (K36 x0 h)) ∧ (¬ (qI h x0 4) ≤ x1 → (qok h (qR h x0 1) 1 x1 ∧ (qok h (qR h x0 3) 1 x1 ∧ ∀ h5 : qH, h5 = qsI h (qR h x0 3) (x1).toNatClampNeg (vp_nar .byte (qI h (qR h x0 1) (x1).toNatClampNeg)) → (w_M_read_10 N k x0 (x1 + (1 : Int32)) h5 Q K36))))))
def w_M_read_112 (N : Nat) : Nat → Nat → qH → (Int32 → qH → Prop) → (Nat → qH → Prop) → Prop
  | 0 => fun _ _ _ _ => False
  | k + 1 => fun x0 h Q K134 => (qS h x0 = .inl 12 ∧ ((¬ (qI h x0 13) = 0 → (K134 x0 h)) ∧ ((qI h x0 13) = 0 → (w_M_is N x0 (0 : Int32) h (fun r3 h4 => ((¬ r3 = 0 → (K134 x0 h4)) ∧ (r3 = 0 → (qS h4 x0 = .inl 12 ∧ w_M_tellOne N x0 h4 (fun h7 => (w_M_read_112 N k x0 h7 Q K134))))))))))
def w_M_read_219 (N : Nat) : Nat → Nat → Int32 → qH → (Int32 → qH → Prop) → Prop
  | 0 => fun _ _ _ _ => False
  | k + 1 => fun x0 x1 h Q => (((3 : Int32) ≤ x1 → Q (0 : Int32) h) ∧ (¬ (3 : Int32) ≤ x1 → (qS h x0 = .inl 12 ∧ (qok h (qR h x0 69) 2 x1 ∧ ∀ h4 : qH, h4 = qsI h (qR h x0 69) (x1).toNatClampNeg (vp_nar .boolean (0 : Int32)) → (w_M_read_219 N k x0 (x1 + (1 : Int32)) h4 Q)))))
def w_M_read_164 (N : Nat) (x0 : Nat) (z0 : Int32) (z1 : Nat) (h : qH) (Q : Int32 → qH → Prop)  : Prop := (qS h z1 = .inl 12 ∧ ∀ h2 : qH, h2 = qsI h z1 17 z0 → (qS h2 x0 = .inl 12 ∧ (((qI h2 x0 13) ≤ 0 → (((qI h2 x0 15) ≤ 0 → (∀ h6 : qH, h6 = qsI h2 x0 18 (qI h2 x0 19) → (qS h6 x0 = .inl 12 ∧ w_M_begins N x0 h6 (fun h8 => (qS h8 x0 = .inl 12 ∧ w_M_keepsRow N x0 h8 (fun h10 => (qS h10 x0 = .inl 12 ∧ ∀ h12 : qH, h12 = qsI h10 x0 57 (0 : Int32) → (qS h12 x0 = .inl 12 ∧ ∀ h14 : qH, h14 = qsI h12 x0 63 (0 : Int32) → (w_M_read_219 N N x0 (0 : Int32) h14 Q ))))))))) ∧ (¬ (qI h2 x0 15) ≤ 0 → Q (qI h2 x0 15) h2))) ∧ (¬ (qI h2 x0 13) ≤ 0 → Q (qI h2 x0 13) h2))))
def w_M_read_134 (N : Nat) (x0 : Nat) (h : qH) (Q : Int32 → qH → Prop)  : Prop := (qS h x0 = .inl 12 ∧ (((qI h x0 13) ≤ 0 → (((qI h x0 15) ≤ 0 → (w_M_read_164 N x0 (-1 : Int32) x0 h Q )) ∧ (¬ (qI h x0 15) ≤ 0 → (w_M_read_164 N x0 (qI h x0 16) x0 h Q )))) ∧ (¬ (qI h x0 13) ≤ 0 → (w_M_read_164 N x0 (qI h x0 14) x0 h Q ))))
def w_M_read (N : Nat) (x0 : Nat) (h : qH) (Q : Int32 → qH → Prop) : Prop := (qS h x0 = .inl 12 ∧ (∀ h2 : qH, h2 = qsI h x0 4 (qI h x0 2) → (w_M_read_10 N N x0 (0 : Int32) h2 Q (fun x3 h4 => (qS h4 x3 = .inl 12 ∧ ∀ h6 : qH, h6 = qsI h4 x3 2 (0 : Int32) → (qS h6 x3 = .inl 12 ∧ w_M_cut N x3 h6 (fun h8 => (qS h8 x3 = .inl 12 ∧ ∀ h10 : qH, h10 = qsI h8 x3 11 (0 : Int32) → (qS h10 x3 = .inl 12 ∧ ∀ h12 : qH, h12 = qsI h10 x3 12 (0 : Int32) → (qS h12 x3 = .inl 12 ∧ ∀ h14 : qH, h14 = qsI h12 x3 13 (0 : Int32) → (qS h14 x3 = .inl 12 ∧ ∀ h16 : qH, h16 = qsI h14 x3 15 (0 : Int32) → (qS h16 x3 = .inl 12 ∧ (∀ h18 : qH, h18 = qsI h16 x3 19 ((1 : Int32) - (qI h16 x3 18)) → (qS h18 x3 = .inl 12 ∧ ∀ h20 : qH, h20 = qsI h18 x3 20 (0 : Int32) → (qS h20 x3 = .inl 12 ∧ (w_M_plain N x3 (qI h20 x3 19) h20 (fun h22 => (qS h22 x3 = .inl 12 ∧ (∀ h24 : qH, h24 = qsI h22 x3 35 ((130 : Int32) * (qI h22 x3 19)) → (qS h24 x3 = .inl 12 ∧ (∀ h26 : qH, h26 = qsI h24 x3 41 ((420 : Int32) * (qI h24 x3 19)) → (w_M_read_112 N N x3 h26 Q (fun x27 h28 => (w_M_read_134 N x27 h28 Q ))))))))))))))))))))))))
def w_M_place (N : Nat) (x0 : Nat) (h : qH) (Q : Int32 → qH → Prop) : Prop := (qS h x0 = .inl 12 ∧ Q (qI h x0 17) h)
def w_M_termOf_104 (N : Nat) (x0 : Nat) (x2 : Int32) (x3 : Int32) (x4 : Int32) (x5 : Int32) (x6 : Int32) (x7 : Int32) (h : qH) (Q : Int32 → qH → Prop) (K5 : Nat → Int32 → Int32 → Int32 → qH → Prop) : Prop := (qS h x0 = .inl 12 ∧ ((¬ x5 = (2 : Int32) → ((¬ x5 = (3 : Int32) → ((¬ x5 = (4 : Int32) → (¬ x7 = 0 ∧ (qok h (qR h x0 47) 0 (x3 - (1 : Int32)) ∧ ∀ h7 : qH, h7 = qsI h (qR h x0 47) ((x3 - (1 : Int32))).toNatClampNeg (x6 / x7) → (K5 x0 x2 x3 (x4 + (1 : Int32)) h7)))) ∧ (x5 = (4 : Int32) → (qok h (qR h x0 47) 0 (x3 - (1 : Int32)) ∧ ∀ h9 : qH, h9 = qsI h (qR h x0 47) ((x3 - (1 : Int32))).toNatClampNeg (x6 * x7) → (K5 x0 x2 x3 (x4 + (1 : Int32)) h9))))) ∧ (x5 = (3 : Int32) → (qok h (qR h x0 47) 0 (x3 - (1 : Int32)) ∧ ∀ h11 : qH, h11 = qsI h (qR h x0 47) ((x3 - (1 : Int32))).toNatClampNeg (x6 - x7) → (K5 x0 x2 x3 (x4 + (1 : Int32)) h11))))) ∧ (x5 = (2 : Int32) → (qok h (qR h x0 47) 0 (x3 - (1 : Int32)) ∧ ∀ h13 : qH, h13 = qsI h (qR h x0 47) ((x3 - (1 : Int32))).toNatClampNeg (x6 + x7) → (K5 x0 x2 x3 (x4 + (1 : Int32)) h13)))))
def w_M_termOf_5 (N : Nat) : Nat → Nat → Int32 → Int32 → Int32 → qH → (Int32 → qH → Prop) → Prop
  | 0 => fun _ _ _ _ _ _ => False
  | k + 1 => fun x0 x2 x3 x4 h Q => ((x2 ≤ x4 → (qS h x0 = .inl 12 ∧ (qok h (qR h x0 47) 0 (0 : Int32) ∧ Q (qI h (qR h x0 47) ((0 : Int32)).toNatClampNeg) h))) ∧ (¬ x2 ≤ x4 → (qS h x0 = .inl 12 ∧ (qok h (qR h x0 42) 0 x4 ∧ (∀ y6 : Int32, y6 = (qI h (qR h x0 42) (x4).toNatClampNeg) → (((2 : Int32) ≤ y6 → (qok h (qR h x0 47) 0 ((x3 + (-1 : Int32)) - (1 : Int32)) ∧ (∀ y9 : Int32, y9 = (qI h (qR h x0 47) (((x3 + (-1 : Int32)) - (1 : Int32))).toNatClampNeg) → (qok h (qR h x0 47) 0 (x3 + (-1 : Int32)) ∧ (∀ y11 : Int32, y11 = (qI h (qR h x0 47) ((x3 + (-1 : Int32))).toNatClampNeg) → ((¬ y6 = (5 : Int32) → (w_M_termOf_104 N x0 x2 (x3 + (-1 : Int32)) x4 y6 y9 y11 h Q (fun x0 x2 x3 x4 h => w_M_termOf_5 N k x0 x2 x3 x4 h Q))) ∧ (y6 = (5 : Int32) → ((¬ y11 = 0 → (w_M_termOf_104 N x0 x2 (x3 + (-1 : Int32)) x4 y6 y9 y11 h Q (fun x0 x2 x3 x4 h => w_M_termOf_5 N k x0 x2 x3 x4 h Q))) ∧ (y11 = 0 → (qzb (1 : Int32) ∧ ∀ h15 : qH, h15 = qsI h x0 48 (1 : Int32) → Q (0 : Int32) h15)))))))))) ∧ (¬ (2 : Int32) ≤ y6 → ((¬ y6 = 0 → (qok h (qR h x0 43) 0 x4 ∧ (qok h (qR h x0 46) 0 (qI h (qR h x0 43) (x4).toNatClampNeg) ∧ (qok h (qR h x0 47) 0 x3 ∧ ∀ h20 : qH, h20 = qsI h (qR h x0 47) (x3).toNatClampNeg (qI h (qR h x0 46) ((qI h (qR h x0 43) (x4).toNatClampNeg)).toNatClampNeg) → (w_M_termOf_5 N k x0 x2 (x3 + (1 : Int32)) (x4 + (1 : Int32)) h20 Q))))) ∧ (y6 = 0 → (qok h (qR h x0 43) 0 x4 ∧ (qok h (qR h x0 47) 0 x3 ∧ ∀ h23 : qH, h23 = qsI h (qR h x0 47) (x3).toNatClampNeg (qI h (qR h x0 43) (x4).toNatClampNeg) → (w_M_termOf_5 N k x0 x2 (x3 + (1 : Int32)) (x4 + (1 : Int32)) h23 Q))))))))))))
def w_M_termOf (N : Nat) (x0 : Nat) (x1 : Int32) (x2 : Int32) (h : qH) (Q : Int32 → qH → Prop) : Prop := (w_M_termOf_5 N N x0 x2 (0 : Int32) x1 h Q )
def w_M_in (N : Nat) (x0 : Int32) (x1 : Int32) (x2 : Int32) (h : qH) (Q : Int32 → qH → Prop) : Prop := ((x0 < x1 → (qzb (0 : Int32) ∧ Q (0 : Int32) h)) ∧ (¬ x0 < x1 → ((x2 < x0 → (qzb (0 : Int32) ∧ Q (0 : Int32) h)) ∧ (¬ x2 < x0 → (qzb (1 : Int32) ∧ Q (1 : Int32) h)))))
def w_M_within (N : Nat) (x0 : Int32) (x1 : Int32) (x2 : Int32) (h : qH) (Q : Int32 → qH → Prop) : Prop := ((x1 ≤ x0 → ((x0 ≤ x2 → Q x0 h) ∧ (¬ x0 ≤ x2 → Q x2 h))) ∧ (¬ x1 ≤ x0 → Q x1 h))
def w_M_off (N : Nat) (x0 : Int32) (x1 : Int32) (h : qH) (Q : Int32 → qH → Prop) : Prop := ((x1 ≤ x0 → Q (x0 - x1) h) ∧ (¬ x1 ≤ x0 → Q (x1 - x0) h))
def w_M_isHanger (N : Nat) (x0 : Nat) (x1 : Int32) (h : qH) (Q : Int32 → qH → Prop) : Prop := (qS h x0 = .inl 12 ∧ (qok h (qR h x0 23) 0 (qI h x0 18) ∧ (w_M_in N x1 (0 : Int32) ((qI h (qR h x0 23) ((qI h x0 18)).toNatClampNeg) - (1 : Int32)) h (fun r3 h4 => (qzb r3 ∧ Q r3 h4)))))
def w_M_isPerson (N : Nat) (x0 : Nat) (x1 : Int32) (h : qH) (Q : Int32 → qH → Prop) : Prop := (qS h x0 = .inl 12 ∧ (qok h (qR h x0 26) 0 (qI h x0 18) ∧ (w_M_in N x1 (0 : Int32) ((qI h (qR h x0 26) ((qI h x0 18)).toNatClampNeg) - (1 : Int32)) h (fun r3 h4 => (qzb r3 ∧ Q r3 h4)))))
def w_M_copies_2 (N : Nat) : Nat → Nat → Int32 → qH → (qH → Prop) → (Nat → qH → Prop) → Prop
  | 0 => fun _ _ _ _ _ => False
  | k + 1 => fun x0 x1 h Q K26 => (((32 : Int32) ≤ x1 → (K26 x0 h)) ∧ (¬ (32 : Int32) ≤ x1 → (qS h x0 = .inl 12 ∧ (qok h (qR h x0 49) 0 x1 ∧ (qok h (qR h x0 50) 0 x1 ∧ ∀ h5 : qH, h5 = qsI h (qR h x0 50) (x1).toNatClampNeg (qI h (qR h x0 49) (x1).toNatClampNeg) → (w_M_copies_2 N k x0 (x1 + (1 : Int32)) h5 Q K26))))))
def w_M_copies (N : Nat) (x0 : Nat) (h : qH) (Q : qH → Prop) : Prop := (w_M_copies_2 N N x0 (0 : Int32) h Q (fun x1 h2 => (qS h2 x1 = .inl 12 ∧ (qok h2 (qR h2 x1 32) 0 (qI h2 x1 18) ∧ (∀ h5 : qH, h5 = qsI h2 x1 51 (qI h2 (qR h2 x1 32) ((qI h2 x1 18)).toNatClampNeg) → (qS h5 x1 = .inl 12 ∧ qzb (0 : Int32) ∧ ∀ h8 : qH, h8 = qsI h5 x1 52 (0 : Int32) → Q h8))))))
def w_M_copiesStill (N : Nat) (x0 : Nat) (h : qH) (Q : qH → Prop) : Prop := (qS h x0 = .inl 12 ∧ w_M_copies N x0 h (fun h2 => (qS h2 x0 = .inl 12 ∧ qzb (1 : Int32) ∧ ∀ h5 : qH, h5 = qsI h2 x0 52 (1 : Int32) → Q h5)))
def w_M_mixed (N : Nat) (x0 : Int32) (x1 : Int32) (h : qH) (Q : Int32 → qH → Prop) : Prop := (∀ y1 : Int32, y1 = (((x0 ^^^ x1) * (1103515245 : Int32)) + (12345 : Int32)) → Q (y1 ^^^ ((y1).toUInt32 >>> (((15 : Int32)).toUInt32 &&& Int32.toUInt32 31)).toInt32) h)
def w_M_lotOf (N : Nat) (x0 : Nat) (x1 : Int32) (x2 : Int32) (h : qH) (Q : Int32 → qH → Prop) : Prop := (qS h x0 = .inl 12 ∧ (w_M_mixed N (qI h x0 51) (159 : Int32) h (fun r2 h3 => (w_M_mixed N r2 x1 h3 (fun r4 h5 => (¬ x2 = 0 ∧ Q (((r4).toUInt32 >>> (((1 : Int32)).toUInt32 &&& Int32.toUInt32 31)).toInt32 - ((r4).toUInt32 >>> (((1 : Int32)).toUInt32 &&& Int32.toUInt32 31)).toInt32 / x2 * x2) h5))))))
def w_M_isMoth (N : Nat) (x0 : Nat) (h : qH) (Q : Int32 → qH → Prop) : Prop := (qS h x0 = .inl 12 ∧ (qok h (qR h x0 50) 0 (31 : Int32) ∧ (w_M_lotOf N x0 (((16 : Int32) * (qI h (qR h x0 50) ((31 : Int32)).toNatClampNeg)) + (8 : Int32)) (100 : Int32) h (fun r3 h4 => (qS h4 x0 = .inl 12 ∧ (qok h4 (qR h4 x0 31) 0 (qI h4 x0 18) ∧ (((qI h4 (qR h4 x0 31) ((qI h4 x0 18)).toNatClampNeg) ≤ r3 → (qzb (0 : Int32) ∧ Q (0 : Int32) h4)) ∧ (¬ (qI h4 (qR h4 x0 31) ((qI h4 x0 18)).toNatClampNeg) ≤ r3 → (qzb (1 : Int32) ∧ Q (1 : Int32) h4)))))))))
def w_M_isUp (N : Nat) (x0 : Nat) (x1 : Int32) (h : qH) (Q : Int32 → qH → Prop) : Prop := (qS h x0 = .inl 12 ∧ (qok h (qR h x0 50) 0 ((6 : Int32) + x1) ∧ (((qI h (qR h x0 50) (((6 : Int32) + x1)).toNatClampNeg) < 0 → (qzb (0 : Int32) ∧ Q (0 : Int32) h)) ∧ (¬ (qI h (qR h x0 50) (((6 : Int32) + x1)).toNatClampNeg) < 0 → (qzb (1 : Int32) ∧ Q (1 : Int32) h)))))
def w_M_whoIsOn_2 (N : Nat) : Nat → Nat → Int32 → Int32 → qH → (Int32 → qH → Prop) → Prop
  | 0 => fun _ _ _ _ _ => False
  | k + 1 => fun x0 x1 x2 h Q => (qS h x0 = .inl 12 ∧ (qok h (qR h x0 26) 0 (qI h x0 18) ∧ (((qI h (qR h x0 26) ((qI h x0 18)).toNatClampNeg) ≤ x2 → Q (-2 : Int32) h) ∧ (¬ (qI h (qR h x0 26) ((qI h x0 18)).toNatClampNeg) ≤ x2 → (qok h (qR h x0 50) 0 ((6 : Int32) + x2) ∧ ((¬ (qI h (qR h x0 50) (((6 : Int32) + x2)).toNatClampNeg) = x1 → (w_M_whoIsOn_2 N k x0 x1 (x2 + (1 : Int32)) h Q)) ∧ ((qI h (qR h x0 50) (((6 : Int32) + x2)).toNatClampNeg) = x1 → Q x2 h)))))))
def w_M_whoIsOn (N : Nat) (x0 : Nat) (x1 : Int32) (h : qH) (Q : Int32 → qH → Prop) : Prop := (w_M_whoIsOn_2 N N x0 x1 (0 : Int32) h Q )
def w_M_nailAt (N : Nat) (x0 : Nat) (x1 : Int32) (h : qH) (Q : Int32 → qH → Prop) : Prop := (qS h x0 = .inl 12 ∧ (qok h (qR h x0 24) 0 (((7 : Int32) * (qI h x0 18)) + x1) ∧ Q (qI h (qR h x0 24) ((((7 : Int32) * (qI h x0 18)) + x1)).toNatClampNeg) h))
def w_M_manyOn_4 (N : Nat) : Nat → Nat → Int32 → Int32 → Int32 → qH → (Int32 → qH → Prop) → Prop
  | 0 => fun _ _ _ _ _ _ => False
  | k + 1 => fun x0 x1 x2 x3 h Q => (qS h x0 = .inl 12 ∧ (qok h (qR h x0 26) 0 (qI h x0 18) ∧ (((qI h (qR h x0 26) ((qI h x0 18)).toNatClampNeg) ≤ x3 → Q x2 h) ∧ (¬ (qI h (qR h x0 26) ((qI h x0 18)).toNatClampNeg) ≤ x3 → (w_M_isUp N x0 x3 h (fun r4 h5 => ((r4 = 0 → (w_M_manyOn_4 N k x0 x1 x2 (x3 + (1 : Int32)) h5 Q)) ∧ (¬ r4 = 0 → (qS h5 x0 = .inl 12 ∧ (qok h5 (qR h5 x0 50) 0 ((6 : Int32) + x3) ∧ (w_M_nailAt N x0 (qI h5 (qR h5 x0 50) (((6 : Int32) + x3)).toNatClampNeg) h5 (fun r9 h10 => ((¬ r9 = x1 → (w_M_manyOn_4 N k x0 x1 x2 (x3 + (1 : Int32)) h10 Q)) ∧ (r9 = x1 → (w_M_manyOn_4 N k x0 x1 (x2 + (1 : Int32)) (x3 + (1 : Int32)) h10 Q)))))))))))))))
def w_M_manyOn (N : Nat) (x0 : Nat) (x1 : Int32) (h : qH) (Q : Int32 → qH → Prop) : Prop := (w_M_manyOn_4 N N x0 x1 (0 : Int32) (0 : Int32) h Q )
def w_M_looks (N : Nat) (x0 : Nat) (x1 : Int32) (x2 : Int32) (x3 : Int32) (h : qH) (Q : qH → Prop) : Prop := (qS h x0 = .inl 12 ∧ (qok h (qR h x0 50) 0 x1 ∧ (qok h (qR h x0 25) 0 (((7 : Int32) * (qI h x0 18)) + x2) ∧ (w_M_off N (qI h (qR h x0 50) (x1).toNatClampNeg) (qI h (qR h x0 25) ((((7 : Int32) * (qI h x0 18)) + x2)).toNatClampNeg) h (fun r4 h5 => (qS h5 x0 = .inl 12 ∧ (qok h5 (qR h5 x0 50) 0 ((24 : Int32) + x2) ∧ (qok h5 (qR h x0 46) 0 (0 : Int32) ∧ ∀ h9 : qH, h9 = qsI h5 (qR h x0 46) ((0 : Int32)).toNatClampNeg (r4 + (qI h5 (qR h5 x0 50) (((24 : Int32) + x2)).toNatClampNeg)) → (qS h9 x0 = .inl 12 ∧ (qok h9 (qR h9 x0 50) 0 ((24 : Int32) + x2) ∧ (qok h9 (qR h9 x0 46) 0 (1 : Int32) ∧ ∀ h13 : qH, h13 = qsI h9 (qR h9 x0 46) ((1 : Int32)).toNatClampNeg (qI h9 (qR h9 x0 50) (((24 : Int32) + x2)).toNatClampNeg) → (qS h13 x0 = .inl 12 ∧ (qok h13 (qR h13 x0 50) 0 x1 ∧ (qok h13 (qR h13 x0 46) 0 (2 : Int32) ∧ ∀ h17 : qH, h17 = qsI h13 (qR h13 x0 46) ((2 : Int32)).toNatClampNeg (qI h13 (qR h13 x0 50) (x1).toNatClampNeg) → (qS h17 x0 = .inl 12 ∧ (qok h17 (qR h17 x0 28) 0 (((6 : Int32) * (qI h17 x0 18)) + x1) ∧ (qok h17 (qR h17 x0 46) 0 (3 : Int32) ∧ ∀ h21 : qH, h21 = qsI h17 (qR h17 x0 46) ((3 : Int32)).toNatClampNeg (qI h17 (qR h17 x0 28) ((((6 : Int32) * (qI h17 x0 18)) + x1)).toNatClampNeg) → (qS h21 x0 = .inl 12 ∧ (qok h21 (qR h21 x0 50) 0 (31 : Int32) ∧ (qok h21 (qR h21 x0 46) 0 (4 : Int32) ∧ ∀ h25 : qH, h25 = qsI h21 (qR h21 x0 46) ((4 : Int32)).toNatClampNeg (qI h21 (qR h21 x0 50) ((31 : Int32)).toNatClampNeg) → (qS h25 x0 = .inl 12 ∧ (qok h25 (qR h25 x0 50) 0 ((18 : Int32) + x1) ∧ (qok h25 (qR h25 x0 46) 0 (5 : Int32) ∧ ∀ h29 : qH, h29 = qsI h25 (qR h25 x0 46) ((5 : Int32)).toNatClampNeg (qI h25 (qR h25 x0 50) (((18 : Int32) + x1)).toNatClampNeg) → (qS h29 x0 = .inl 12 ∧ (qok h29 (qR h29 x0 46) 0 (6 : Int32) ∧ ∀ h32 : qH, h32 = qsI h29 (qR h29 x0 46) ((6 : Int32)).toNatClampNeg x3 → (qS h32 x0 = .inl 12 ∧ (qok h32 (qR h32 x0 46) 0 (7 : Int32) ∧ ∀ h35 : qH, h35 = qsI h32 (qR h32 x0 46) ((7 : Int32)).toNatClampNeg x1 → (qS h35 x0 = .inl 12 ∧ (w_M_nailAt N x0 x2 h35 (fun r37 h38 => (qok h38 (qR h35 x0 46) 0 (8 : Int32) ∧ ∀ h40 : qH, h40 = qsI h38 (qR h35 x0 46) ((8 : Int32)).toNatClampNeg r37 → Q h40)))))))))))))))))))))))))))))))
def w_M_lawTells_39 (N : Nat) : Nat → Nat → Int32 → Int32 → qH → (Int32 → qH → Prop) → (Nat → Int32 → qH → Prop) → Prop
  | 0 => fun _ _ _ _ _ _ => False
  | k + 1 => fun x0 x3 x4 h Q K119 => (qS h x0 = .inl 12 ∧ (qok h (qR h x0 34) 0 x3 ∧ (((qI h (qR h x0 34) (x3).toNatClampNeg) ≤ x4 → Q (0 : Int32) h) ∧ (¬ (qI h (qR h x0 34) (x3).toNatClampNeg) ≤ x4 → (qok h (qR h x0 36) 2 x4 ∧ (((qI h (qR h x0 36) (x4).toNatClampNeg) = 0 → (K119 x0 x4 h)) ∧ (¬ (qI h (qR h x0 36) (x4).toNatClampNeg) = 0 → (qok h (qR h x0 37) 0 x4 ∧ (qok h (qR h x0 38) 0 x4 ∧ (w_M_termOf N x0 (qI h (qR h x0 37) (x4).toNatClampNeg) (qI h (qR h x0 38) (x4).toNatClampNeg) h (fun r8 h9 => (qS h9 x0 = .inl 12 ∧ (qok h9 (qR h9 x0 38) 0 x4 ∧ (qok h9 (qR h9 x0 39) 0 x4 ∧ (w_M_termOf N x0 (qI h9 (qR h9 x0 38) (x4).toNatClampNeg) (qI h9 (qR h9 x0 39) (x4).toNatClampNeg) h9 (fun r13 h14 => (qS h14 x0 = .inl 12 ∧ (((qI h14 x0 48) = 0 → ((r8 < r13 → (K119 x0 x4 h14)) ∧ (¬ r8 < r13 → (w_M_lawTells_39 N k x0 x3 (x4 + (1 : Int32)) h14 Q K119)))) ∧ (¬ (qI h14 x0 48) = 0 → Q (0 : Int32) h14)))))))))))))))))))
def w_M_lawTells_119 (N : Nat) (x0 : Nat) (x4 : Int32) (h : qH) (Q : Int32 → qH → Prop)  : Prop := (qS h x0 = .inl 12 ∧ (qok h (qR h x0 39) 0 x4 ∧ (qok h (qR h x0 40) 0 x4 ∧ (w_M_termOf N x0 (qI h (qR h x0 39) (x4).toNatClampNeg) (qI h (qR h x0 40) (x4).toNatClampNeg) h (fun r4 h5 => (qS h5 x0 = .inl 12 ∧ (((qI h5 x0 48) = 0 → Q r4 h5) ∧ (¬ (qI h5 x0 48) = 0 → Q (0 : Int32) h5))))))))
def w_M_lawTells (N : Nat) (x0 : Nat) (x1 : Int32) (x2 : Int32) (h : qH) (Q : Int32 → qH → Prop) : Prop := (qS h x0 = .inl 12 ∧ (∀ y2 : Int32, y2 = (((4 : Int32) * (qI h x0 18)) + x1) → (qok h (qR h x0 33) 0 y2 ∧ (qok h (qR h x0 34) 0 y2 ∧ ((¬ (qI h (qR h x0 33) (y2).toNatClampNeg) = (qI h (qR h x0 34) (y2).toNatClampNeg) → (qzb (0 : Int32) ∧ ∀ h7 : qH, h7 = qsI h x0 48 (0 : Int32) → (qS h7 x0 = .inl 12 ∧ (qok h7 (qR h7 x0 33) 0 y2 ∧ (∀ y10 : Int32, y10 = (qI h7 (qR h7 x0 33) (y2).toNatClampNeg) → (w_M_lawTells_39 N N x0 y2 y10 h7 Q (fun x11 x12 h13 => (w_M_lawTells_119 N x11 x12 h13 Q )))))))) ∧ ((qI h (qR h x0 33) (y2).toNatClampNeg) = (qI h (qR h x0 34) (y2).toNatClampNeg) → Q x2 h))))))
def w_M_besideOf (N : Nat) (x0 : Nat) (x1 : Int32) (h : qH) (Q : Int32 → qH → Prop) : Prop := (qS h x0 = .inl 12 ∧ w_M_isUp N x0 x1 h (fun r2 h3 => ((r2 = 0 → Q (0 : Int32) h3) ∧ (¬ r2 = 0 → (qS h3 x0 = .inl 12 ∧ (qok h3 (qR h3 x0 50) 0 ((6 : Int32) + x1) ∧ (w_M_nailAt N x0 (qI h3 (qR h3 x0 50) (((6 : Int32) + x1)).toNatClampNeg) h3 (fun r7 h8 => (qS h8 x0 = .inl 12 ∧ w_M_manyOn N x0 r7 h8 (fun r10 h11 => Q (r10 - (1 : Int32)) h11))))))))))
def w_M_toldOf_30 (N : Nat) (x0 : Nat) (x2 : Int32) (z0 : Int32) (z1 : Nat) (h : qH) (Q : Int32 → qH → Prop)  : Prop := (qS h x0 = .inl 12 ∧ (qok h (qR h x0 46) 0 (0 : Int32) ∧ (qS h z1 = .inl 12 ∧ w_M_lawTells N z1 z0 (qI h (qR h x0 46) ((0 : Int32)).toNatClampNeg) h (fun r4 h5 => ((¬ x2 = (2 : Int32) → (w_M_within N r4 (0 : Int32) (99 : Int32) h5 (fun r7 h8 => Q r7 h8))) ∧ (x2 = (2 : Int32) → (w_M_within N r4 (0 : Int32) (100 : Int32) h5 (fun r9 h10 => Q r9 h10))))))))
def w_M_toldOf (N : Nat) (x0 : Nat) (x1 : Int32) (x2 : Int32) (h : qH) (Q : Int32 → qH → Prop) : Prop := (qS h x0 = .inl 12 ∧ (qok h (qR h x0 50) 0 ((6 : Int32) + x1) ∧ (w_M_besideOf N x0 x1 h (fun r3 h4 => (qS h4 x0 = .inl 12 ∧ w_M_looks N x0 x1 (qI h (qR h x0 50) (((6 : Int32) + x1)).toNatClampNeg) r3 h4 (fun h6 => ((x2 = 0 → (w_M_toldOf_30 N x0 x2 x2 x0 h6 Q )) ∧ (¬ x2 = 0 → ((¬ x2 = (3 : Int32) → (qS h6 x0 = .inl 12 ∧ w_M_lawTells N x0 x2 (0 : Int32) h6 (fun r10 h11 => ((¬ x2 = (2 : Int32) → (w_M_within N r10 (0 : Int32) (99 : Int32) h11 (fun r13 h14 => Q r13 h14))) ∧ (x2 = (2 : Int32) → (w_M_within N r10 (0 : Int32) (100 : Int32) h11 (fun r15 h16 => Q r15 h16))))))) ∧ (x2 = (3 : Int32) → (w_M_toldOf_30 N x0 x2 x2 x0 h6 Q )))))))))))
def w_M_costsAt (N : Nat) (x0 : Nat) (x1 : Int32) (x2 : Int32) (h : qH) (Q : Int32 → qH → Prop) : Prop := (qS h x0 = .inl 12 ∧ w_M_looks N x0 x1 x2 (0 : Int32) h (fun h2 => (qS h2 x0 = .inl 12 ∧ (qok h2 (qR h2 x0 46) 0 (0 : Int32) ∧ (w_M_lawTells N x0 (3 : Int32) (qI h2 (qR h2 x0 46) ((0 : Int32)).toNatClampNeg) h2 (fun r5 h6 => (w_M_within N r5 (0 : Int32) (99 : Int32) h6 (fun r7 h8 => Q r7 h8))))))))
def w_M_costsAll_4 (N : Nat) : Nat → Nat → Int32 → Int32 → qH → (Int32 → qH → Prop) → Prop
  | 0 => fun _ _ _ _ _ => False
  | k + 1 => fun x0 x1 x2 h Q => (qS h x0 = .inl 12 ∧ (qok h (qR h x0 26) 0 (qI h x0 18) ∧ (((qI h (qR h x0 26) ((qI h x0 18)).toNatClampNeg) ≤ x2 → Q x1 h) ∧ (¬ (qI h (qR h x0 26) ((qI h x0 18)).toNatClampNeg) ≤ x2 → (w_M_isUp N x0 x2 h (fun r4 h5 => ((r4 = 0 → (w_M_costsAll_4 N k x0 x1 (x2 + (1 : Int32)) h5 Q)) ∧ (¬ r4 = 0 → (qS h5 x0 = .inl 12 ∧ w_M_toldOf N x0 x2 (3 : Int32) h5 (fun r8 h9 => (∀ y10 : Int32, y10 = (x1 + r8) → (w_M_costsAll_4 N k x0 y10 (x2 + (1 : Int32)) h9 Q))))))))))))
def w_M_costsAll (N : Nat) (x0 : Nat) (h : qH) (Q : Int32 → qH → Prop) : Prop := (w_M_costsAll_4 N N x0 (0 : Int32) (0 : Int32) h Q )
section QG
variable {p : Program} {l : Launch} {e : Env} {s : State} {m : MethodId} {args : Array Value} {below : List Frame} {meth : Method} {c : Code} {D : va_G} {cy : Nat → ClassId} {b : Nat} {adK adV : Nat → Nat}

set_option maxRecDepth 4000 in
theorem t_M_read_10 (X : qX p s m args meth c D cy b adK adV prog_14_method_20_code "CoatHangersModel" 2 (some .int) "read") (N k : Nat) (x0 : Nat) (x1 : Int32) (h : qH) (Q : Int32 → qH → Prop) (K36 : Nat → qH → Prop) (hw : w_M_read_10 N k x0 x1 h Q K36) (hK36 : ∀ (x0 : Nat) (h : qH), K36 x0 h → qW p l e (qrm 7 0 0 148) s m args below meth c D cy b 2 0 0 (MQ below (qQc D cy b qrI Q) args s 0 0 (qA b)) 36 [(0, .inr (.inr (.inl x0)))] [] h) : qW p l e (qrm 7 0 0 148) s m args below meth c D cy b 2 0 0 (MQ below (qQc D cy b qrI Q) args s 0 0 (qA b)) 10 [(0, .inr (.inr (.inl x0))), (1, .inl x1)] [] h := by
  induction k generalizing x0 x1 h with
  | zero => exact hw.elim
  | succ k ih =>
    refine qx_iload_n (x := x1) X d_M_read_10 rfl 1 rfl ?_
    refine qx_aload_n (x := x0) X d_M_read_11 rfl 0 rfl ?_
    obtain ⟨g1, hw⟩ := hw
    refine qx_getI X qcls12 g1 4 (by decide) rfl wf_M_184 d_M_read_12 ?_
    refine qx_icmp_ge X 36 d_M_read_15 (by decide) (fun q2 => ?_) (fun q2 => ?_)
    · have hw := hw.1 q2
      refine qx_sub [0] rfl ?_
      exact hK36 x0 h hw
    · have hw := hw.2 q2
      refine qx_aload_n (x := x0) X d_M_read_18 rfl 0 rfl ?_
      refine qx_getR X qcls12 g1 3 (by decide) rfl wf_M_17 d_M_read_19 ?_
      refine qx_iload_n (x := x1) X d_M_read_22 rfl 1 rfl ?_
      refine qx_aload_n (x := x0) X d_M_read_23 rfl 0 rfl ?_
      refine qx_getR X qcls12 g1 1 (by decide) rfl wf_M_13 d_M_read_24 ?_
      refine qx_iload_n (x := x1) X d_M_read_27 rfl 1 rfl ?_
      obtain ⟨g3, hw⟩ := hw
      refine qx_bld X g3 d_M_read_28 ?_
      obtain ⟨g4, hw⟩ := hw
      refine qx_bst X g4 d_M_read_29 ?_
      refine qx_toph (fun h5 eh5 => ?_)
      have hw := hw h5 eh5
      refine qx_iinc (v := (x1 + (1 : Int32))) (L' := [(1, .inl (x1 + (1 : Int32))), (0, .inr (.inr (.inl x0)))]) X d_M_read_30 1 rfl rfl (by decide) rfl ?_
      refine qx_goto X 10 d_M_read_33 (by decide) ?_
      refine qx_sub [1, 0] rfl ?_
      exact ih x0 (x1 + (1 : Int32)) h5 hw
set_option maxRecDepth 4000 in
theorem t_M_read_112 (X : qX p s m args meth c D cy b adK adV prog_14_method_20_code "CoatHangersModel" 2 (some .int) "read") (N k : Nat) (x0 : Nat) (h : qH) (Q : Int32 → qH → Prop) (K134 : Nat → qH → Prop) (hw : w_M_read_112 N k x0 h Q K134) (hK134 : ∀ (x0 : Nat) (h : qH), K134 x0 h → qW p l e (qrm 7 0 0 148) s m args below meth c D cy b 2 0 0 (MQ below (qQc D cy b qrI Q) args s 0 0 (qA b)) 134 [(0, .inr (.inr (.inl x0)))] [] h) : qW p l e (qrm 7 0 0 148) s m args below meth c D cy b 2 0 0 (MQ below (qQc D cy b qrI Q) args s 0 0 (qA b)) 112 [(0, .inr (.inr (.inl x0)))] [] h := by
  induction k generalizing x0 h with
  | zero => exact hw.elim
  | succ k ih =>
    refine qx_aload_n (x := x0) X d_M_read_112 rfl 0 rfl ?_
    obtain ⟨g1, hw⟩ := hw
    refine qx_getI X qcls12 g1 13 (by decide) rfl wf_M_215 d_M_read_113 ?_
    refine qx_if_ne X 134 d_M_read_116 (by decide) (fun q2 => ?_) (fun q2 => ?_)
    · have hw := hw.1 q2
      exact hK134 x0 h hw
    · have hw := hw.2 q2
      refine qx_aload_n (x := x0) X d_M_read_119 rfl 0 rfl ?_
      refine qx_iconst (v := (0 : Int32)) X d_M_read_120 (by decide) ?_
      refine qx_callVI (st := []) (As := [.int (0 : Int32)]) X (t_M_is (adK := adK) (adV := adV) l D cy b N x0 (0 : Int32) h _ hw) qm_M_is wm_M_233 wi_M_is wl_M_is qcls12 g1 rfl rfl rfl ⟨Nat.le_of_ble_eq_true rfl, Nat.le_of_ble_eq_true rfl⟩ ⟨Nat.le_refl 0, Nat.le_refl 0⟩ (Nat.le_of_ble_eq_true rfl) rfl d_M_read_121 (fun r3 h4 hw => ?_)
      refine qx_if_ne X 134 d_M_read_124 (by decide) (fun q5 => ?_) (fun q5 => ?_)
      · have hw := hw.1 q5
        exact hK134 x0 h4 hw
      · have hw := hw.2 q5
        refine qx_aload_n (x := x0) X d_M_read_127 rfl 0 rfl ?_
        obtain ⟨g6, hw⟩ := hw
        refine qx_callVV (st := []) (As := []) X (t_M_tellOne (adK := adK) (adV := adV) l D cy b N x0 h4 _ hw) qm_M_tellOne wm_M_260 wi_M_tellOne wl_M_tellOne qcls12 g6 rfl rfl rfl ⟨Nat.le_of_ble_eq_true rfl, Nat.le_of_ble_eq_true rfl⟩ ⟨Nat.le_refl 0, Nat.le_refl 0⟩ (Nat.le_of_ble_eq_true rfl) rfl d_M_read_128 (fun h7 hw => ?_)
        refine qx_goto X 112 d_M_read_131 (by decide) ?_
        exact ih x0 h7 hw
set_option maxRecDepth 4000 in
theorem t_M_read_219 (X : qX p s m args meth c D cy b adK adV prog_14_method_20_code "CoatHangersModel" 2 (some .int) "read") (N k : Nat) (x0 : Nat) (x1 : Int32) (h : qH) (Q : Int32 → qH → Prop)  (hw : w_M_read_219 N k x0 x1 h Q ) : qW p l e (qrm 7 0 0 148) s m args below meth c D cy b 2 0 0 (MQ below (qQc D cy b qrI Q) args s 0 0 (qA b)) 219 [(0, .inr (.inr (.inl x0))), (1, .inl x1)] [] h := by
  induction k generalizing x0 x1 h with
  | zero => exact hw.elim
  | succ k ih =>
    refine qx_iload_n (x := x1) X d_M_read_219 rfl 1 rfl ?_
    refine qx_iconst (v := (3 : Int32)) X d_M_read_220 (by decide) ?_
    refine qx_icmp_ge X 237 d_M_read_221 (by decide) (fun q1 => ?_) (fun q1 => ?_)
    · have hw := hw.1 q1
      refine qx_iconst (v := (0 : Int32)) X d_M_read_237 (by decide) ?_
      exact qx_iret X hw (Nat.le_refl 0) (Nat.le_refl 0) rfl d_M_read_238
    · have hw := hw.2 q1
      refine qx_aload_n (x := x0) X d_M_read_224 rfl 0 rfl ?_
      obtain ⟨g2, hw⟩ := hw
      refine qx_getR X qcls12 g2 69 (by decide) rfl wf_M_158 d_M_read_225 ?_
      refine qx_iload_n (x := x1) X d_M_read_228 rfl 1 rfl ?_
      refine qx_iconst (v := (0 : Int32)) X d_M_read_229 (by decide) ?_
      obtain ⟨g3, hw⟩ := hw
      refine qx_zst X g3 d_M_read_230 ?_
      refine qx_toph (fun h4 eh4 => ?_)
      have hw := hw h4 eh4
      refine qx_iinc (v := (x1 + (1 : Int32))) (L' := [(1, .inl (x1 + (1 : Int32))), (0, .inr (.inr (.inl x0)))]) X d_M_read_231 1 rfl rfl (by decide) rfl ?_
      refine qx_goto X 219 d_M_read_234 (by decide) ?_
      refine qx_sub [1, 0] rfl ?_
      exact ih x0 (x1 + (1 : Int32)) h4 hw
set_option maxRecDepth 4000 in
theorem t_M_read_164 (X : qX p s m args meth c D cy b adK adV prog_14_method_20_code "CoatHangersModel" 2 (some .int) "read") (N : Nat) (x0 : Nat) (z0 : Int32) (z1 : Nat) (h : qH) (Q : Int32 → qH → Prop)  (hw : w_M_read_164 N x0 z0 z1 h Q ) : qW p l e (qrm 7 0 0 148) s m args below meth c D cy b 2 0 0 (MQ below (qQc D cy b qrI Q) args s 0 0 (qA b)) 164 [(0, .inr (.inr (.inl x0)))] [.int z0, qr b z1] h := by
  unfold w_M_read_164 at hw
  obtain ⟨g1, hw⟩ := hw
  refine qx_putI X qcls12 g1 17 (by decide) rfl wf_M_37 rfl rfl rfl d_M_read_164 ?_
  refine qx_toph (fun h2 eh2 => ?_)
  have hw := hw h2 eh2
  refine qx_aload_n (x := x0) X d_M_read_167 rfl 0 rfl ?_
  obtain ⟨g3, hw⟩ := hw
  refine qx_getI X qcls12 g3 13 (by decide) rfl wf_M_215 d_M_read_168 ?_
  refine qx_if_le X 179 d_M_read_171 (by decide) (fun q4 => ?_) (fun q4 => ?_)
  · have hw := hw.1 q4
    refine qx_aload_n (x := x0) X d_M_read_179 rfl 0 rfl ?_
    refine qx_getI X qcls12 g3 15 (by decide) rfl wf_M_224 d_M_read_180 ?_
    refine qx_if_le X 191 d_M_read_183 (by decide) (fun q5 => ?_) (fun q5 => ?_)
    · have hw := hw.1 q5
      refine qx_aload_n (x := x0) X d_M_read_191 rfl 0 rfl ?_
      refine qx_aload_n (x := x0) X d_M_read_192 rfl 0 rfl ?_
      refine qx_getI X qcls12 g3 19 (by decide) rfl wf_M_248 d_M_read_193 ?_
      refine qx_putI X qcls12 g3 18 (by decide) rfl wf_M_245 rfl rfl rfl d_M_read_196 ?_
      refine qx_toph (fun h6 eh6 => ?_)
      have hw := hw h6 eh6
      refine qx_aload_n (x := x0) X d_M_read_199 rfl 0 rfl ?_
      obtain ⟨g7, hw⟩ := hw
      refine qx_callVV (st := []) (As := []) X (t_M_begins (adK := adK) (adV := adV) l D cy b N x0 h6 _ hw) qm_M_begins wm_M_172 wi_M_begins wl_M_begins qcls12 g7 rfl rfl rfl ⟨Nat.le_of_ble_eq_true rfl, Nat.le_of_ble_eq_true rfl⟩ ⟨Nat.le_refl 0, Nat.le_refl 0⟩ (Nat.le_of_ble_eq_true rfl) rfl d_M_read_200 (fun h8 hw => ?_)
      refine qx_aload_n (x := x0) X d_M_read_203 rfl 0 rfl ?_
      obtain ⟨g9, hw⟩ := hw
      refine qx_callVV (st := []) (As := []) X (t_M_keepsRow (adK := adK) (adV := adV) l D cy b N x0 h8 _ hw) qm_M_keepsRow wm_M_175 wi_M_keepsRow wl_M_keepsRow qcls12 g9 rfl rfl rfl ⟨Nat.le_of_ble_eq_true rfl, Nat.le_of_ble_eq_true rfl⟩ ⟨Nat.le_refl 0, Nat.le_refl 0⟩ (Nat.le_of_ble_eq_true rfl) rfl d_M_read_204 (fun h10 hw => ?_)
      refine qx_aload_n (x := x0) X d_M_read_207 rfl 0 rfl ?_
      refine qx_iconst (v := (0 : Int32)) X d_M_read_208 (by decide) ?_
      obtain ⟨g11, hw⟩ := hw
      refine qx_putI X qcls12 g11 57 (by decide) rfl wf_M_263 rfl rfl rfl d_M_read_209 ?_
      refine qx_toph (fun h12 eh12 => ?_)
      have hw := hw h12 eh12
      refine qx_aload_n (x := x0) X d_M_read_212 rfl 0 rfl ?_
      refine qx_iconst (v := (0 : Int32)) X d_M_read_213 (by decide) ?_
      obtain ⟨g13, hw⟩ := hw
      refine qx_putI X qcls12 g13 63 (by decide) rfl wf_M_266 rfl rfl rfl d_M_read_214 ?_
      refine qx_toph (fun h14 eh14 => ?_)
      have hw := hw h14 eh14
      refine qx_iconst (v := (0 : Int32)) X d_M_read_217 (by decide) ?_
      refine qx_istore_n (L' := [(1, .inl (0 : Int32)), (0, .inr (.inr (.inl x0)))]) X d_M_read_218 rfl (by decide) rfl ?_
      refine qx_sub [1, 0] rfl ?_
      exact t_M_read_219 X N N x0 (0 : Int32) h14 Q  hw 
    · have hw := hw.2 q5
      refine qx_aload_n (x := x0) X d_M_read_186 rfl 0 rfl ?_
      refine qx_getI X qcls12 g3 15 (by decide) rfl wf_M_224 d_M_read_187 ?_
      exact qx_iret X hw (Nat.le_refl 0) (Nat.le_refl 0) rfl d_M_read_190
  · have hw := hw.2 q4
    refine qx_aload_n (x := x0) X d_M_read_174 rfl 0 rfl ?_
    refine qx_getI X qcls12 g3 13 (by decide) rfl wf_M_215 d_M_read_175 ?_
    exact qx_iret X hw (Nat.le_refl 0) (Nat.le_refl 0) rfl d_M_read_178
set_option maxRecDepth 4000 in
theorem t_M_read_134 (X : qX p s m args meth c D cy b adK adV prog_14_method_20_code "CoatHangersModel" 2 (some .int) "read") (N : Nat) (x0 : Nat) (h : qH) (Q : Int32 → qH → Prop)  (hw : w_M_read_134 N x0 h Q ) : qW p l e (qrm 7 0 0 148) s m args below meth c D cy b 2 0 0 (MQ below (qQc D cy b qrI Q) args s 0 0 (qA b)) 134 [(0, .inr (.inr (.inl x0)))] [] h := by
  unfold w_M_read_134 at hw
  refine qx_aload_n (x := x0) X d_M_read_134 rfl 0 rfl ?_
  refine qx_aload_n (x := x0) X d_M_read_135 rfl 0 rfl ?_
  obtain ⟨g1, hw⟩ := hw
  refine qx_getI X qcls12 g1 13 (by decide) rfl wf_M_215 d_M_read_136 ?_
  refine qx_if_le X 149 d_M_read_139 (by decide) (fun q2 => ?_) (fun q2 => ?_)
  · have hw := hw.1 q2
    refine qx_aload_n (x := x0) X d_M_read_149 rfl 0 rfl ?_
    refine qx_getI X qcls12 g1 15 (by decide) rfl wf_M_224 d_M_read_150 ?_
    refine qx_if_le X 163 d_M_read_153 (by decide) (fun q3 => ?_) (fun q3 => ?_)
    · have hw := hw.1 q3
      refine qx_iconst (v := (-1 : Int32)) X d_M_read_163 (by decide) ?_
      exact t_M_read_164 X N x0 (-1 : Int32) x0 h Q  hw 
    · have hw := hw.2 q3
      refine qx_aload_n (x := x0) X d_M_read_156 rfl 0 rfl ?_
      refine qx_getI X qcls12 g1 16 (by decide) rfl wf_M_227 d_M_read_157 ?_
      refine qx_goto X 164 d_M_read_160 (by decide) ?_
      exact t_M_read_164 X N x0 (qI h x0 16) x0 h Q  hw 
  · have hw := hw.2 q2
    refine qx_aload_n (x := x0) X d_M_read_142 rfl 0 rfl ?_
    refine qx_getI X qcls12 g1 14 (by decide) rfl wf_M_221 d_M_read_143 ?_
    refine qx_goto X 164 d_M_read_146 (by decide) ?_
    exact t_M_read_164 X N x0 (qI h x0 14) x0 h Q  hw 
set_option maxRecDepth 4000 in
theorem t_M_read {adK adV : Nat → Nat} (l : Launch) (D : va_G) (cy : Nat → ClassId) (b : Nat) (N : Nat) (x0 : Nat) (h : qH) (Q : Int32 → qH → Prop) (hw : w_M_read N x0 h Q) : Met l y_M_read (Cond.code y_M_read prog_14_method_20_code 2 (some .int) :: qT) (qrm 7 0 0 148) (qPc D cy b adK adV h [qr b x0]) (qQc D cy b qrI Q) 0 0 (qA b) := by
  refine qmet (L0 := [(0, .inr (.inr (.inl x0)))]) qm_M_read (plainFor_of_name (by decide)) [.inr (.inr (.inl x0))] rfl (Nat.le_of_ble_eq_true rfl) rfl (fun p e s m args below meth c X => ?_)
  unfold w_M_read at hw
  refine qx_aload_n (x := x0) X d_M_read_0 rfl 0 rfl ?_
  refine qx_aload_n (x := x0) X d_M_read_1 rfl 0 rfl ?_
  obtain ⟨g1, hw⟩ := hw
  refine qx_getI X qcls12 g1 2 (by decide) rfl wf_M_178 d_M_read_2 ?_
  refine qx_putI X qcls12 g1 4 (by decide) rfl wf_M_184 rfl rfl rfl d_M_read_5 ?_
  refine qx_toph (fun h2 eh2 => ?_)
  have hw := hw h2 eh2
  refine qx_iconst (v := (0 : Int32)) X d_M_read_8 (by decide) ?_
  refine qx_istore_n (L' := [(1, .inl (0 : Int32)), (0, .inr (.inr (.inl x0)))]) X d_M_read_9 rfl (by decide) rfl ?_
  refine qx_sub [1, 0] rfl ?_
  refine t_M_read_10 X N N x0 (0 : Int32) h2 Q _ hw (fun x3 h4 hw => ?_)
  refine qx_aload_n (x := x3) X d_M_read_36 rfl 0 rfl ?_
  refine qx_iconst (v := (0 : Int32)) X d_M_read_37 (by decide) ?_
  obtain ⟨g5, hw⟩ := hw
  refine qx_putI X qcls12 g5 2 (by decide) rfl wf_M_178 rfl rfl rfl d_M_read_38 ?_
  refine qx_toph (fun h6 eh6 => ?_)
  have hw := hw h6 eh6
  refine qx_aload_n (x := x3) X d_M_read_41 rfl 0 rfl ?_
  obtain ⟨g7, hw⟩ := hw
  refine qx_callVV (st := []) (As := []) X (t_M_cut (adK := adK) (adV := adV) l D cy b N x3 h6 _ hw) qm_M_cut wm_M_239 wi_M_cut wl_M_cut qcls12 g7 rfl rfl rfl ⟨Nat.le_of_ble_eq_true rfl, Nat.le_of_ble_eq_true rfl⟩ ⟨Nat.le_refl 0, Nat.le_refl 0⟩ (Nat.le_of_ble_eq_true rfl) rfl d_M_read_42 (fun h8 hw => ?_)
  refine qx_aload_n (x := x3) X d_M_read_45 rfl 0 rfl ?_
  refine qx_iconst (v := (0 : Int32)) X d_M_read_46 (by decide) ?_
  obtain ⟨g9, hw⟩ := hw
  refine qx_putI X qcls12 g9 11 (by decide) rfl wf_M_218 rfl rfl rfl d_M_read_47 ?_
  refine qx_toph (fun h10 eh10 => ?_)
  have hw := hw h10 eh10
  refine qx_aload_n (x := x3) X d_M_read_50 rfl 0 rfl ?_
  refine qx_iconst (v := (0 : Int32)) X d_M_read_51 (by decide) ?_
  obtain ⟨g11, hw⟩ := hw
  refine qx_putI X qcls12 g11 12 (by decide) rfl wf_M_242 rfl rfl rfl d_M_read_52 ?_
  refine qx_toph (fun h12 eh12 => ?_)
  have hw := hw h12 eh12
  refine qx_aload_n (x := x3) X d_M_read_55 rfl 0 rfl ?_
  refine qx_iconst (v := (0 : Int32)) X d_M_read_56 (by decide) ?_
  obtain ⟨g13, hw⟩ := hw
  refine qx_putI X qcls12 g13 13 (by decide) rfl wf_M_215 rfl rfl rfl d_M_read_57 ?_
  refine qx_toph (fun h14 eh14 => ?_)
  have hw := hw h14 eh14
  refine qx_aload_n (x := x3) X d_M_read_60 rfl 0 rfl ?_
  refine qx_iconst (v := (0 : Int32)) X d_M_read_61 (by decide) ?_
  obtain ⟨g15, hw⟩ := hw
  refine qx_putI X qcls12 g15 15 (by decide) rfl wf_M_224 rfl rfl rfl d_M_read_62 ?_
  refine qx_toph (fun h16 eh16 => ?_)
  have hw := hw h16 eh16
  refine qx_aload_n (x := x3) X d_M_read_65 rfl 0 rfl ?_
  refine qx_iconst (v := (1 : Int32)) X d_M_read_66 (by decide) ?_
  refine qx_aload_n (x := x3) X d_M_read_67 rfl 0 rfl ?_
  obtain ⟨g17, hw⟩ := hw
  refine qx_getI X qcls12 g17 18 (by decide) rfl wf_M_245 d_M_read_68 ?_
  refine qx_isub X d_M_read_71 ?_
  refine qx_putI X qcls12 g17 19 (by decide) rfl wf_M_248 rfl rfl rfl d_M_read_72 ?_
  refine qx_toph (fun h18 eh18 => ?_)
  have hw := hw h18 eh18
  refine qx_aload_n (x := x3) X d_M_read_75 rfl 0 rfl ?_
  refine qx_iconst (v := (0 : Int32)) X d_M_read_76 (by decide) ?_
  obtain ⟨g19, hw⟩ := hw
  refine qx_putI X qcls12 g19 20 (by decide) rfl wf_M_251 rfl rfl rfl d_M_read_77 ?_
  refine qx_toph (fun h20 eh20 => ?_)
  have hw := hw h20 eh20
  refine qx_aload_n (x := x3) X d_M_read_80 rfl 0 rfl ?_
  refine qx_aload_n (x := x3) X d_M_read_81 rfl 0 rfl ?_
  obtain ⟨g21, hw⟩ := hw
  refine qx_getI X qcls12 g21 19 (by decide) rfl wf_M_248 d_M_read_82 ?_
  refine qx_callVV (st := []) (As := [.int (qI h20 x3 19)]) X (t_M_plain (adK := adK) (adV := adV) l D cy b N x3 (qI h20 x3 19) h20 _ hw) qm_M_plain wm_M_164 wi_M_plain wl_M_plain qcls12 g21 rfl rfl rfl ⟨Nat.le_of_ble_eq_true rfl, Nat.le_of_ble_eq_true rfl⟩ ⟨Nat.le_refl 0, Nat.le_refl 0⟩ (Nat.le_of_ble_eq_true rfl) rfl d_M_read_85 (fun h22 hw => ?_)
  refine qx_aload_n (x := x3) X d_M_read_88 rfl 0 rfl ?_
  refine qx_sipush (v := (130 : Int32)) X d_M_read_89 (by decide) ?_
  refine qx_aload_n (x := x3) X d_M_read_92 rfl 0 rfl ?_
  obtain ⟨g23, hw⟩ := hw
  refine qx_getI X qcls12 g23 19 (by decide) rfl wf_M_248 d_M_read_93 ?_
  refine qx_imul X d_M_read_96 ?_
  refine qx_putI X qcls12 g23 35 (by decide) rfl wf_M_254 rfl rfl rfl d_M_read_97 ?_
  refine qx_toph (fun h24 eh24 => ?_)
  have hw := hw h24 eh24
  refine qx_aload_n (x := x3) X d_M_read_100 rfl 0 rfl ?_
  refine qx_sipush (v := (420 : Int32)) X d_M_read_101 (by decide) ?_
  refine qx_aload_n (x := x3) X d_M_read_104 rfl 0 rfl ?_
  obtain ⟨g25, hw⟩ := hw
  refine qx_getI X qcls12 g25 19 (by decide) rfl wf_M_248 d_M_read_105 ?_
  refine qx_imul X d_M_read_108 ?_
  refine qx_putI X qcls12 g25 41 (by decide) rfl wf_M_257 rfl rfl rfl d_M_read_109 ?_
  refine qx_toph (fun h26 eh26 => ?_)
  have hw := hw h26 eh26
  refine t_M_read_112 X N N x3 h26 Q _ hw (fun x27 h28 hw => ?_)
  exact t_M_read_134 X N x27 h28 Q  hw 
set_option maxRecDepth 4000 in
theorem t_M_place {adK adV : Nat → Nat} (l : Launch) (D : va_G) (cy : Nat → ClassId) (b : Nat) (N : Nat) (x0 : Nat) (h : qH) (Q : Int32 → qH → Prop) (hw : w_M_place N x0 h Q) : Met l y_M_place (Cond.code y_M_place prog_14_method_21_code 1 (some .int) :: qT) (qrm 0 0 0 0) (qPc D cy b adK adV h [qr b x0]) (qQc D cy b qrI Q) 0 0 (qA b) := by
  refine qmet (L0 := [(0, .inr (.inr (.inl x0)))]) qm_M_place (plainFor_of_name (by decide)) [.inr (.inr (.inl x0))] rfl (Nat.le_of_ble_eq_true rfl) rfl (fun p e s m args below meth c X => ?_)
  unfold w_M_place at hw
  refine qx_aload_n (x := x0) X d_M_place_0 rfl 0 rfl ?_
  obtain ⟨g1, hw⟩ := hw
  refine qx_getI X qcls12 g1 17 (by decide) rfl wf_M_37 d_M_place_1 ?_
  exact qx_iret X hw (Nat.le_refl 0) (Nat.le_refl 0) rfl d_M_place_4
set_option maxRecDepth 4000 in
theorem t_M_termOf_104 (X : qX p s m args meth c D cy b adK adV prog_14_method_35_code "CoatHangersModel" 8 (some .int) "termOf") (N : Nat) (x0 : Nat) (x2 : Int32) (x3 : Int32) (x4 : Int32) (x5 : Int32) (x6 : Int32) (x7 : Int32) (h : qH) (Q : Int32 → qH → Prop) (K5 : Nat → Int32 → Int32 → Int32 → qH → Prop) (hw : w_M_termOf_104 N x0 x2 x3 x4 x5 x6 x7 h Q K5) (hK5 : ∀ (x0 : Nat) (x2 : Int32) (x3 : Int32) (x4 : Int32) (h : qH), K5 x0 x2 x3 x4 h → qW p l e (qrm 0 0 0 0) s m args below meth c D cy b 8 0 0 (MQ below (qQc D cy b qrI Q) args s 0 0 (qA b)) 5 [(0, .inr (.inr (.inl x0))), (2, .inl x2), (3, .inl x3), (4, .inl x4)] [] h) : qW p l e (qrm 0 0 0 0) s m args below meth c D cy b 8 0 0 (MQ below (qQc D cy b qrI Q) args s 0 0 (qA b)) 104 [(0, .inr (.inr (.inl x0))), (2, .inl x2), (3, .inl x3), (4, .inl x4), (5, .inl x5), (6, .inl x6), (7, .inl x7)] [] h := by
  unfold w_M_termOf_104 at hw
  refine qx_aload_n (x := x0) X d_M_termOf_104 rfl 0 rfl ?_
  obtain ⟨g1, hw⟩ := hw
  refine qx_getR X qcls12 g1 47 (by decide) rfl wf_M_110 d_M_termOf_105 ?_
  refine qx_iload_n (x := x3) X d_M_termOf_108 rfl 2 rfl ?_
  refine qx_iconst (v := (1 : Int32)) X d_M_termOf_109 (by decide) ?_
  refine qx_isub X d_M_termOf_110 ?_
  refine qx_iload (x := x5) X d_M_termOf_111 4 rfl ?_
  refine qx_iconst (v := (2 : Int32)) X d_M_termOf_113 (by decide) ?_
  refine qx_icmp_ne X 125 d_M_termOf_114 (by decide) (fun q2 => ?_) (fun q2 => ?_)
  · have hw := hw.1 q2
    refine qx_iload (x := x5) X d_M_termOf_125 4 rfl ?_
    refine qx_iconst (v := (3 : Int32)) X d_M_termOf_127 (by decide) ?_
    refine qx_icmp_ne X 139 d_M_termOf_128 (by decide) (fun q3 => ?_) (fun q3 => ?_)
    · have hw := hw.1 q3
      refine qx_iload (x := x5) X d_M_termOf_139 4 rfl ?_
      refine qx_iconst (v := (4 : Int32)) X d_M_termOf_141 (by decide) ?_
      refine qx_icmp_ne X 153 d_M_termOf_142 (by decide) (fun q4 => ?_) (fun q4 => ?_)
      · have hw := hw.1 q4
        refine qx_iload (x := x6) X d_M_termOf_153 5 rfl ?_
        refine qx_iload (x := x7) X d_M_termOf_155 6 rfl ?_
        obtain ⟨g5, hw⟩ := hw
        refine qx_idiv X g5 d_M_termOf_157 ?_
        obtain ⟨g6, hw⟩ := hw
        refine qx_ist X g6 d_M_termOf_158 ?_
        refine qx_toph (fun h7 eh7 => ?_)
        have hw := hw h7 eh7
        refine qx_iinc (v := (x4 + (1 : Int32))) (L' := [(4, .inl (x4 + (1 : Int32))), (0, .inr (.inr (.inl x0))), (2, .inl x2), (3, .inl x3), (5, .inl x5), (6, .inl x6), (7, .inl x7)]) X d_M_termOf_159 3 rfl rfl (by decide) rfl ?_
        refine qx_goto X 5 d_M_termOf_162 (by decide) ?_
        refine qx_sub [1, 2, 3, 0] rfl ?_
        exact hK5 x0 x2 x3 (x4 + (1 : Int32)) h7 hw
      · have hw := hw.2 q4
        refine qx_iload (x := x6) X d_M_termOf_145 5 rfl ?_
        refine qx_iload (x := x7) X d_M_termOf_147 6 rfl ?_
        refine qx_imul X d_M_termOf_149 ?_
        refine qx_goto X 158 d_M_termOf_150 (by decide) ?_
        obtain ⟨g8, hw⟩ := hw
        refine qx_ist X g8 d_M_termOf_158 ?_
        refine qx_toph (fun h9 eh9 => ?_)
        have hw := hw h9 eh9
        refine qx_iinc (v := (x4 + (1 : Int32))) (L' := [(4, .inl (x4 + (1 : Int32))), (0, .inr (.inr (.inl x0))), (2, .inl x2), (3, .inl x3), (5, .inl x5), (6, .inl x6), (7, .inl x7)]) X d_M_termOf_159 3 rfl rfl (by decide) rfl ?_
        refine qx_goto X 5 d_M_termOf_162 (by decide) ?_
        refine qx_sub [1, 2, 3, 0] rfl ?_
        exact hK5 x0 x2 x3 (x4 + (1 : Int32)) h9 hw
    · have hw := hw.2 q3
      refine qx_iload (x := x6) X d_M_termOf_131 5 rfl ?_
      refine qx_iload (x := x7) X d_M_termOf_133 6 rfl ?_
      refine qx_isub X d_M_termOf_135 ?_
      refine qx_goto X 158 d_M_termOf_136 (by decide) ?_
      obtain ⟨g10, hw⟩ := hw
      refine qx_ist X g10 d_M_termOf_158 ?_
      refine qx_toph (fun h11 eh11 => ?_)
      have hw := hw h11 eh11
      refine qx_iinc (v := (x4 + (1 : Int32))) (L' := [(4, .inl (x4 + (1 : Int32))), (0, .inr (.inr (.inl x0))), (2, .inl x2), (3, .inl x3), (5, .inl x5), (6, .inl x6), (7, .inl x7)]) X d_M_termOf_159 3 rfl rfl (by decide) rfl ?_
      refine qx_goto X 5 d_M_termOf_162 (by decide) ?_
      refine qx_sub [1, 2, 3, 0] rfl ?_
      exact hK5 x0 x2 x3 (x4 + (1 : Int32)) h11 hw
  · have hw := hw.2 q2
    refine qx_iload (x := x6) X d_M_termOf_117 5 rfl ?_
    refine qx_iload (x := x7) X d_M_termOf_119 6 rfl ?_
    refine qx_iadd X d_M_termOf_121 ?_
    refine qx_goto X 158 d_M_termOf_122 (by decide) ?_
    obtain ⟨g12, hw⟩ := hw
    refine qx_ist X g12 d_M_termOf_158 ?_
    refine qx_toph (fun h13 eh13 => ?_)
    have hw := hw h13 eh13
    refine qx_iinc (v := (x4 + (1 : Int32))) (L' := [(4, .inl (x4 + (1 : Int32))), (0, .inr (.inr (.inl x0))), (2, .inl x2), (3, .inl x3), (5, .inl x5), (6, .inl x6), (7, .inl x7)]) X d_M_termOf_159 3 rfl rfl (by decide) rfl ?_
    refine qx_goto X 5 d_M_termOf_162 (by decide) ?_
    refine qx_sub [1, 2, 3, 0] rfl ?_
    exact hK5 x0 x2 x3 (x4 + (1 : Int32)) h13 hw
set_option maxRecDepth 4000 in
theorem t_M_termOf_5 (X : qX p s m args meth c D cy b adK adV prog_14_method_35_code "CoatHangersModel" 8 (some .int) "termOf") (N k : Nat) (x0 : Nat) (x2 : Int32) (x3 : Int32) (x4 : Int32) (h : qH) (Q : Int32 → qH → Prop)  (hw : w_M_termOf_5 N k x0 x2 x3 x4 h Q ) : qW p l e (qrm 0 0 0 0) s m args below meth c D cy b 8 0 0 (MQ below (qQc D cy b qrI Q) args s 0 0 (qA b)) 5 [(0, .inr (.inr (.inl x0))), (2, .inl x2), (3, .inl x3), (4, .inl x4)] [] h := by
  induction k generalizing x0 x2 x3 x4 h with
  | zero => exact hw.elim
  | succ k ih =>
    refine qx_iload (x := x4) X d_M_termOf_5 3 rfl ?_
    refine qx_iload_n (x := x2) X d_M_termOf_7 rfl 1 rfl ?_
    refine qx_icmp_ge X 165 d_M_termOf_8 (by decide) (fun q1 => ?_) (fun q1 => ?_)
    · have hw := hw.1 q1
      refine qx_aload_n (x := x0) X d_M_termOf_165 rfl 0 rfl ?_
      obtain ⟨g2, hw⟩ := hw
      refine qx_getR X qcls12 g2 47 (by decide) rfl wf_M_110 d_M_termOf_166 ?_
      refine qx_iconst (v := (0 : Int32)) X d_M_termOf_169 (by decide) ?_
      obtain ⟨g3, hw⟩ := hw
      refine qx_ild X g3 d_M_termOf_170 ?_
      exact qx_iret X hw (Nat.le_refl 0) (Nat.le_refl 0) rfl d_M_termOf_171
    · have hw := hw.2 q1
      refine qx_aload_n (x := x0) X d_M_termOf_11 rfl 0 rfl ?_
      obtain ⟨g4, hw⟩ := hw
      refine qx_getR X qcls12 g4 42 (by decide) rfl wf_M_98 d_M_termOf_12 ?_
      refine qx_iload (x := x4) X d_M_termOf_15 3 rfl ?_
      obtain ⟨g5, hw⟩ := hw
      refine qx_ild X g5 d_M_termOf_17 ?_
      refine qx_topi (fun y6 ey6 => ?_)
      have hw := hw y6 ey6
      refine qx_istore (L' := [(5, .inl y6), (0, .inr (.inr (.inl x0))), (2, .inl x2), (3, .inl x3), (4, .inl x4)]) X d_M_termOf_18 (by decide) rfl ?_
      refine qx_iload (x := y6) X d_M_termOf_20 0 rfl ?_
      refine qx_iconst (v := (2 : Int32)) X d_M_termOf_22 (by decide) ?_
      refine qx_icmp_ge X 65 d_M_termOf_23 (by decide) (fun q7 => ?_) (fun q7 => ?_)
      · have hw := hw.1 q7
        refine qx_iinc (v := (x3 + (-1 : Int32))) (L' := [(3, .inl (x3 + (-1 : Int32))), (5, .inl y6), (0, .inr (.inr (.inl x0))), (2, .inl x2), (4, .inl x4)]) X d_M_termOf_65 3 rfl rfl (by decide) rfl ?_
        refine qx_aload_n (x := x0) X d_M_termOf_68 rfl 2 rfl ?_
        refine qx_getR X qcls12 g4 47 (by decide) rfl wf_M_110 d_M_termOf_69 ?_
        refine qx_iload_n (x := (x3 + (-1 : Int32))) X d_M_termOf_72 rfl 0 rfl ?_
        refine qx_iconst (v := (1 : Int32)) X d_M_termOf_73 (by decide) ?_
        refine qx_isub X d_M_termOf_74 ?_
        obtain ⟨g8, hw⟩ := hw
        refine qx_ild X g8 d_M_termOf_75 ?_
        refine qx_topi (fun y9 ey9 => ?_)
        have hw := hw y9 ey9
        refine qx_istore (L' := [(6, .inl y9), (3, .inl (x3 + (-1 : Int32))), (5, .inl y6), (0, .inr (.inr (.inl x0))), (2, .inl x2), (4, .inl x4)]) X d_M_termOf_76 (by decide) rfl ?_
        refine qx_aload_n (x := x0) X d_M_termOf_78 rfl 3 rfl ?_
        refine qx_getR X qcls12 g4 47 (by decide) rfl wf_M_110 d_M_termOf_79 ?_
        refine qx_iload_n (x := (x3 + (-1 : Int32))) X d_M_termOf_82 rfl 1 rfl ?_
        obtain ⟨g10, hw⟩ := hw
        refine qx_ild X g10 d_M_termOf_83 ?_
        refine qx_topi (fun y11 ey11 => ?_)
        have hw := hw y11 ey11
        refine qx_istore (L' := [(7, .inl y11), (6, .inl y9), (3, .inl (x3 + (-1 : Int32))), (5, .inl y6), (0, .inr (.inr (.inl x0))), (2, .inl x2), (4, .inl x4)]) X d_M_termOf_84 (by decide) rfl ?_
        refine qx_iload (x := y6) X d_M_termOf_86 3 rfl ?_
        refine qx_iconst (v := (5 : Int32)) X d_M_termOf_88 (by decide) ?_
        refine qx_icmp_ne X 104 d_M_termOf_89 (by decide) (fun q12 => ?_) (fun q12 => ?_)
        · have hw := hw.1 q12
          refine qx_sub [4, 5, 2, 6, 3, 1, 0] rfl ?_
          exact t_M_termOf_104 X N x0 x2 (x3 + (-1 : Int32)) x4 y6 y9 y11 h Q _ hw ih
        · have hw := hw.2 q12
          refine qx_iload (x := y11) X d_M_termOf_92 0 rfl ?_
          refine qx_if_ne X 104 d_M_termOf_94 (by decide) (fun q13 => ?_) (fun q13 => ?_)
          · have hw := hw.1 q13
            refine qx_sub [4, 5, 2, 6, 3, 1, 0] rfl ?_
            exact t_M_termOf_104 X N x0 x2 (x3 + (-1 : Int32)) x4 y6 y9 y11 h Q _ hw ih
          · have hw := hw.2 q13
            refine qx_aload_n (x := x0) X d_M_termOf_97 rfl 4 rfl ?_
            refine qx_iconst (v := (1 : Int32)) X d_M_termOf_98 (by decide) ?_
            obtain ⟨g14, hw⟩ := hw
            refine qx_putI X qcls12 g4 48 (by decide) rfl wf_M_318 rfl (qzb_nar g14) (qzb_fit g14) d_M_termOf_99 ?_
            refine qx_toph (fun h15 eh15 => ?_)
            have hw := hw h15 eh15
            refine qx_iconst (v := (0 : Int32)) X d_M_termOf_102 (by decide) ?_
            exact qx_iret X hw (Nat.le_refl 0) (Nat.le_refl 0) rfl d_M_termOf_103
      · have hw := hw.2 q7
        refine qx_aload_n (x := x0) X d_M_termOf_26 rfl 1 rfl ?_
        refine qx_getR X qcls12 g4 47 (by decide) rfl wf_M_110 d_M_termOf_27 ?_
        refine qx_iload_n (x := x3) X d_M_termOf_30 rfl 3 rfl ?_
        refine qx_iload (x := y6) X d_M_termOf_31 0 rfl ?_
        refine qx_if_ne X 46 d_M_termOf_33 (by decide) (fun q16 => ?_) (fun q16 => ?_)
        · have hw := hw.1 q16
          refine qx_aload_n (x := x0) X d_M_termOf_46 rfl 1 rfl ?_
          refine qx_getR X qcls12 g4 46 (by decide) rfl wf_M_107 d_M_termOf_47 ?_
          refine qx_aload_n (x := x0) X d_M_termOf_50 rfl 1 rfl ?_
          refine qx_getR X qcls12 g4 43 (by decide) rfl wf_M_101 d_M_termOf_51 ?_
          refine qx_iload (x := x4) X d_M_termOf_54 4 rfl ?_
          obtain ⟨g17, hw⟩ := hw
          refine qx_ild X g17 d_M_termOf_56 ?_
          obtain ⟨g18, hw⟩ := hw
          refine qx_ild X g18 d_M_termOf_57 ?_
          obtain ⟨g19, hw⟩ := hw
          refine qx_ist X g19 d_M_termOf_58 ?_
          refine qx_toph (fun h20 eh20 => ?_)
          have hw := hw h20 eh20
          refine qx_iinc (v := (x3 + (1 : Int32))) (L' := [(3, .inl (x3 + (1 : Int32))), (5, .inl y6), (0, .inr (.inr (.inl x0))), (2, .inl x2), (4, .inl x4)]) X d_M_termOf_59 3 rfl rfl (by decide) rfl ?_
          refine qx_goto X 159 d_M_termOf_62 (by decide) ?_
          refine qx_iinc (v := (x4 + (1 : Int32))) (L' := [(4, .inl (x4 + (1 : Int32))), (3, .inl (x3 + (1 : Int32))), (5, .inl y6), (0, .inr (.inr (.inl x0))), (2, .inl x2)]) X d_M_termOf_159 4 rfl rfl (by decide) rfl ?_
          refine qx_goto X 5 d_M_termOf_162 (by decide) ?_
          refine qx_sub [3, 4, 1, 0] rfl ?_
          exact ih x0 x2 (x3 + (1 : Int32)) (x4 + (1 : Int32)) h20 hw
        · have hw := hw.2 q16
          refine qx_aload_n (x := x0) X d_M_termOf_36 rfl 1 rfl ?_
          refine qx_getR X qcls12 g4 43 (by decide) rfl wf_M_101 d_M_termOf_37 ?_
          refine qx_iload (x := x4) X d_M_termOf_40 4 rfl ?_
          obtain ⟨g21, hw⟩ := hw
          refine qx_ild X g21 d_M_termOf_42 ?_
          refine qx_goto X 58 d_M_termOf_43 (by decide) ?_
          obtain ⟨g22, hw⟩ := hw
          refine qx_ist X g22 d_M_termOf_58 ?_
          refine qx_toph (fun h23 eh23 => ?_)
          have hw := hw h23 eh23
          refine qx_iinc (v := (x3 + (1 : Int32))) (L' := [(3, .inl (x3 + (1 : Int32))), (5, .inl y6), (0, .inr (.inr (.inl x0))), (2, .inl x2), (4, .inl x4)]) X d_M_termOf_59 3 rfl rfl (by decide) rfl ?_
          refine qx_goto X 159 d_M_termOf_62 (by decide) ?_
          refine qx_iinc (v := (x4 + (1 : Int32))) (L' := [(4, .inl (x4 + (1 : Int32))), (3, .inl (x3 + (1 : Int32))), (5, .inl y6), (0, .inr (.inr (.inl x0))), (2, .inl x2)]) X d_M_termOf_159 4 rfl rfl (by decide) rfl ?_
          refine qx_goto X 5 d_M_termOf_162 (by decide) ?_
          refine qx_sub [3, 4, 1, 0] rfl ?_
          exact ih x0 x2 (x3 + (1 : Int32)) (x4 + (1 : Int32)) h23 hw
set_option maxRecDepth 4000 in
theorem t_M_termOf {adK adV : Nat → Nat} (l : Launch) (D : va_G) (cy : Nat → ClassId) (b : Nat) (N : Nat) (x0 : Nat) (x1 : Int32) (x2 : Int32) (h : qH) (Q : Int32 → qH → Prop) (hw : w_M_termOf N x0 x1 x2 h Q) : Met l y_M_termOf (Cond.code y_M_termOf prog_14_method_35_code 8 (some .int) :: qT) (qrm 0 0 0 0) (qPc D cy b adK adV h [qr b x0, .int x1, .int x2]) (qQc D cy b qrI Q) 0 0 (qA b) := by
  refine qmet (L0 := [(0, .inr (.inr (.inl x0))), (1, .inl x1), (2, .inl x2)]) qm_M_termOf (plainFor_of_name (by decide)) [.inr (.inr (.inl x0)), .inl x1, .inl x2] rfl (Nat.le_of_ble_eq_true rfl) rfl (fun p e s m args below meth c X => ?_)
  unfold w_M_termOf at hw
  refine qx_iconst (v := (0 : Int32)) X d_M_termOf_0 (by decide) ?_
  refine qx_istore_n (L' := [(3, .inl (0 : Int32)), (0, .inr (.inr (.inl x0))), (1, .inl x1), (2, .inl x2)]) X d_M_termOf_1 rfl (by decide) rfl ?_
  refine qx_iload_n (x := x1) X d_M_termOf_2 rfl 2 rfl ?_
  refine qx_istore (L' := [(4, .inl x1), (3, .inl (0 : Int32)), (0, .inr (.inr (.inl x0))), (1, .inl x1), (2, .inl x2)]) X d_M_termOf_3 (by decide) rfl ?_
  refine qx_sub [2, 4, 1, 0] rfl ?_
  exact t_M_termOf_5 X N N x0 x2 (0 : Int32) x1 h Q  hw 
set_option maxRecDepth 4000 in
theorem t_M_in {adK adV : Nat → Nat} (l : Launch) (D : va_G) (cy : Nat → ClassId) (b : Nat) (N : Nat) (x0 : Int32) (x1 : Int32) (x2 : Int32) (h : qH) (Q : Int32 → qH → Prop) (hw : w_M_in N x0 x1 x2 h Q) : Met l y_M_in (Cond.code y_M_in prog_14_method_36_code 3 (some .boolean) :: qT) (qrm 0 0 0 0) (qPc D cy b adK adV h [.int x0, .int x1, .int x2]) (qQc D cy b qrI Q) 0 0 (qA b) := by
  refine qmet (L0 := [(0, .inl x0), (1, .inl x1), (2, .inl x2)]) qm_M_in (plainFor_of_name (by decide)) [.inl x0, .inl x1, .inl x2] rfl (Nat.le_of_ble_eq_true rfl) rfl (fun p e s m args below meth c X => ?_)
  unfold w_M_in at hw
  refine qx_iload_n (x := x0) X d_M_in_0 rfl 0 rfl ?_
  refine qx_iload_n (x := x1) X d_M_in_1 rfl 1 rfl ?_
  refine qx_icmp_lt X 14 d_M_in_2 (by decide) (fun q1 => ?_) (fun q1 => ?_)
  · have hw := hw.1 q1
    refine qx_iconst (v := (0 : Int32)) X d_M_in_14 (by decide) ?_
    exact qx_zret X hw (Nat.le_refl 0) (Nat.le_refl 0) rfl d_M_in_15
  · have hw := hw.2 q1
    refine qx_iload_n (x := x0) X d_M_in_5 rfl 0 rfl ?_
    refine qx_iload_n (x := x2) X d_M_in_6 rfl 2 rfl ?_
    refine qx_icmp_gt X 14 d_M_in_7 (by decide) (fun q2 => ?_) (fun q2 => ?_)
    · have hw := hw.1 q2
      refine qx_iconst (v := (0 : Int32)) X d_M_in_14 (by decide) ?_
      exact qx_zret X hw (Nat.le_refl 0) (Nat.le_refl 0) rfl d_M_in_15
    · have hw := hw.2 q2
      refine qx_iconst (v := (1 : Int32)) X d_M_in_10 (by decide) ?_
      refine qx_goto X 15 d_M_in_11 (by decide) ?_
      exact qx_zret X hw (Nat.le_refl 0) (Nat.le_refl 0) rfl d_M_in_15
set_option maxRecDepth 4000 in
theorem t_M_within {adK adV : Nat → Nat} (l : Launch) (D : va_G) (cy : Nat → ClassId) (b : Nat) (N : Nat) (x0 : Int32) (x1 : Int32) (x2 : Int32) (h : qH) (Q : Int32 → qH → Prop) (hw : w_M_within N x0 x1 x2 h Q) : Met l y_M_within (Cond.code y_M_within prog_14_method_37_code 3 (some .int) :: qT) (qrm 0 0 0 0) (qPc D cy b adK adV h [.int x0, .int x1, .int x2]) (qQc D cy b qrI Q) 0 0 (qA b) := by
  refine qmet (L0 := [(0, .inl x0), (1, .inl x1), (2, .inl x2)]) qm_M_within (plainFor_of_name (by decide)) [.inl x0, .inl x1, .inl x2] rfl (Nat.le_of_ble_eq_true rfl) rfl (fun p e s m args below meth c X => ?_)
  unfold w_M_within at hw
  refine qx_iload_n (x := x0) X d_M_within_0 rfl 0 rfl ?_
  refine qx_iload_n (x := x1) X d_M_within_1 rfl 1 rfl ?_
  refine qx_icmp_ge X 9 d_M_within_2 (by decide) (fun q1 => ?_) (fun q1 => ?_)
  · have hw := hw.1 q1
    refine qx_iload_n (x := x0) X d_M_within_9 rfl 0 rfl ?_
    refine qx_iload_n (x := x2) X d_M_within_10 rfl 2 rfl ?_
    refine qx_icmp_le X 18 d_M_within_11 (by decide) (fun q2 => ?_) (fun q2 => ?_)
    · have hw := hw.1 q2
      refine qx_iload_n (x := x0) X d_M_within_18 rfl 0 rfl ?_
      exact qx_iret X hw (Nat.le_refl 0) (Nat.le_refl 0) rfl d_M_within_19
    · have hw := hw.2 q2
      refine qx_iload_n (x := x2) X d_M_within_14 rfl 2 rfl ?_
      refine qx_goto X 19 d_M_within_15 (by decide) ?_
      exact qx_iret X hw (Nat.le_refl 0) (Nat.le_refl 0) rfl d_M_within_19
  · have hw := hw.2 q1
    refine qx_iload_n (x := x1) X d_M_within_5 rfl 1 rfl ?_
    refine qx_goto X 19 d_M_within_6 (by decide) ?_
    exact qx_iret X hw (Nat.le_refl 0) (Nat.le_refl 0) rfl d_M_within_19
set_option maxRecDepth 4000 in
theorem t_M_off {adK adV : Nat → Nat} (l : Launch) (D : va_G) (cy : Nat → ClassId) (b : Nat) (N : Nat) (x0 : Int32) (x1 : Int32) (h : qH) (Q : Int32 → qH → Prop) (hw : w_M_off N x0 x1 h Q) : Met l y_M_off (Cond.code y_M_off prog_14_method_38_code 2 (some .int) :: qT) (qrm 0 0 0 0) (qPc D cy b adK adV h [.int x0, .int x1]) (qQc D cy b qrI Q) 0 0 (qA b) := by
  refine qmet (L0 := [(0, .inl x0), (1, .inl x1)]) qm_M_off (plainFor_of_name (by decide)) [.inl x0, .inl x1] rfl (Nat.le_of_ble_eq_true rfl) rfl (fun p e s m args below meth c X => ?_)
  unfold w_M_off at hw
  refine qx_iload_n (x := x0) X d_M_off_0 rfl 0 rfl ?_
  refine qx_iload_n (x := x1) X d_M_off_1 rfl 1 rfl ?_
  refine qx_icmp_ge X 11 d_M_off_2 (by decide) (fun q1 => ?_) (fun q1 => ?_)
  · have hw := hw.1 q1
    refine qx_iload_n (x := x0) X d_M_off_11 rfl 0 rfl ?_
    refine qx_iload_n (x := x1) X d_M_off_12 rfl 1 rfl ?_
    refine qx_isub X d_M_off_13 ?_
    exact qx_iret X hw (Nat.le_refl 0) (Nat.le_refl 0) rfl d_M_off_14
  · have hw := hw.2 q1
    refine qx_iload_n (x := x1) X d_M_off_5 rfl 1 rfl ?_
    refine qx_iload_n (x := x0) X d_M_off_6 rfl 0 rfl ?_
    refine qx_isub X d_M_off_7 ?_
    refine qx_goto X 14 d_M_off_8 (by decide) ?_
    exact qx_iret X hw (Nat.le_refl 0) (Nat.le_refl 0) rfl d_M_off_14
set_option maxRecDepth 4000 in
theorem t_M_isHanger {adK adV : Nat → Nat} (l : Launch) (D : va_G) (cy : Nat → ClassId) (b : Nat) (N : Nat) (x0 : Nat) (x1 : Int32) (h : qH) (Q : Int32 → qH → Prop) (hw : w_M_isHanger N x0 x1 h Q) : Met l y_M_isHanger (Cond.code y_M_isHanger prog_14_method_39_code 2 (some .boolean) :: qT) (qrm 1 0 0 22) (qPc D cy b adK adV h [qr b x0, .int x1]) (qQc D cy b qrI Q) 0 0 (qA b) := by
  refine qmet (L0 := [(0, .inr (.inr (.inl x0))), (1, .inl x1)]) qm_M_isHanger (plainFor_of_name (by decide)) [.inr (.inr (.inl x0)), .inl x1] rfl (Nat.le_of_ble_eq_true rfl) rfl (fun p e s m args below meth c X => ?_)
  unfold w_M_isHanger at hw
  refine qx_iload_n (x := x1) X d_M_isHanger_0 rfl 1 rfl ?_
  refine qx_iconst (v := (0 : Int32)) X d_M_isHanger_1 (by decide) ?_
  refine qx_aload_n (x := x0) X d_M_isHanger_2 rfl 0 rfl ?_
  obtain ⟨g1, hw⟩ := hw
  refine qx_getR X qcls12 g1 23 (by decide) rfl wf_M_46 d_M_isHanger_3 ?_
  refine qx_aload_n (x := x0) X d_M_isHanger_6 rfl 0 rfl ?_
  refine qx_getI X qcls12 g1 18 (by decide) rfl wf_M_245 d_M_isHanger_7 ?_
  obtain ⟨g2, hw⟩ := hw
  refine qx_ild X g2 d_M_isHanger_10 ?_
  refine qx_iconst (v := (1 : Int32)) X d_M_isHanger_11 (by decide) ?_
  refine qx_isub X d_M_isHanger_12 ?_
  refine qx_callSI (st := []) (As := [.int x1, .int (0 : Int32), .int ((qI h (qR h x0 23) ((qI h x0 18)).toNatClampNeg) - (1 : Int32))]) X (t_M_in (adK := adK) (adV := adV) l D cy b N x1 (0 : Int32) ((qI h (qR h x0 23) ((qI h x0 18)).toNatClampNeg) - (1 : Int32)) h _ hw) qm_M_in wm_M_322 wi_M_in rfl rfl rfl ⟨Nat.le_of_ble_eq_true rfl, Nat.le_of_ble_eq_true rfl⟩ ⟨Nat.le_refl 0, Nat.le_refl 0⟩ (Nat.le_of_ble_eq_true rfl) rfl d_M_isHanger_13 (fun r3 h4 hw => ?_)
  exact qx_zret X hw (Nat.le_refl 0) (Nat.le_refl 0) rfl d_M_isHanger_16
set_option maxRecDepth 4000 in
theorem t_M_isPerson {adK adV : Nat → Nat} (l : Launch) (D : va_G) (cy : Nat → ClassId) (b : Nat) (N : Nat) (x0 : Nat) (x1 : Int32) (h : qH) (Q : Int32 → qH → Prop) (hw : w_M_isPerson N x0 x1 h Q) : Met l y_M_isPerson (Cond.code y_M_isPerson prog_14_method_40_code 2 (some .boolean) :: qT) (qrm 1 0 0 22) (qPc D cy b adK adV h [qr b x0, .int x1]) (qQc D cy b qrI Q) 0 0 (qA b) := by
  refine qmet (L0 := [(0, .inr (.inr (.inl x0))), (1, .inl x1)]) qm_M_isPerson (plainFor_of_name (by decide)) [.inr (.inr (.inl x0)), .inl x1] rfl (Nat.le_of_ble_eq_true rfl) rfl (fun p e s m args below meth c X => ?_)
  unfold w_M_isPerson at hw
  refine qx_iload_n (x := x1) X d_M_isPerson_0 rfl 1 rfl ?_
  refine qx_iconst (v := (0 : Int32)) X d_M_isPerson_1 (by decide) ?_
  refine qx_aload_n (x := x0) X d_M_isPerson_2 rfl 0 rfl ?_
  obtain ⟨g1, hw⟩ := hw
  refine qx_getR X qcls12 g1 26 (by decide) rfl wf_M_55 d_M_isPerson_3 ?_
  refine qx_aload_n (x := x0) X d_M_isPerson_6 rfl 0 rfl ?_
  refine qx_getI X qcls12 g1 18 (by decide) rfl wf_M_245 d_M_isPerson_7 ?_
  obtain ⟨g2, hw⟩ := hw
  refine qx_ild X g2 d_M_isPerson_10 ?_
  refine qx_iconst (v := (1 : Int32)) X d_M_isPerson_11 (by decide) ?_
  refine qx_isub X d_M_isPerson_12 ?_
  refine qx_callSI (st := []) (As := [.int x1, .int (0 : Int32), .int ((qI h (qR h x0 26) ((qI h x0 18)).toNatClampNeg) - (1 : Int32))]) X (t_M_in (adK := adK) (adV := adV) l D cy b N x1 (0 : Int32) ((qI h (qR h x0 26) ((qI h x0 18)).toNatClampNeg) - (1 : Int32)) h _ hw) qm_M_in wm_M_322 wi_M_in rfl rfl rfl ⟨Nat.le_of_ble_eq_true rfl, Nat.le_of_ble_eq_true rfl⟩ ⟨Nat.le_refl 0, Nat.le_refl 0⟩ (Nat.le_of_ble_eq_true rfl) rfl d_M_isPerson_13 (fun r3 h4 hw => ?_)
  exact qx_zret X hw (Nat.le_refl 0) (Nat.le_refl 0) rfl d_M_isPerson_16
set_option maxRecDepth 4000 in
theorem t_M_copies_2 (X : qX p s m args meth c D cy b adK adV prog_14_method_43_code "CoatHangersModel" 2 (none) "copies") (N k : Nat) (x0 : Nat) (x1 : Int32) (h : qH) (Q : qH → Prop) (K26 : Nat → qH → Prop) (hw : w_M_copies_2 N k x0 x1 h Q K26) (hK26 : ∀ (x0 : Nat) (h : qH), K26 x0 h → qW p l e (qrm 0 0 0 0) s m args below meth c D cy b 2 0 0 (MQ below (qQc D cy b qrV (fun (_ : Unit) h => Q h)) args s 0 0 (qA b)) 26 [(0, .inr (.inr (.inl x0)))] [] h) : qW p l e (qrm 0 0 0 0) s m args below meth c D cy b 2 0 0 (MQ below (qQc D cy b qrV (fun (_ : Unit) h => Q h)) args s 0 0 (qA b)) 2 [(0, .inr (.inr (.inl x0))), (1, .inl x1)] [] h := by
  induction k generalizing x0 x1 h with
  | zero => exact hw.elim
  | succ k ih =>
    refine qx_iload_n (x := x1) X d_M_copies_2 rfl 1 rfl ?_
    refine qx_bipush (v := (32 : Int32)) X d_M_copies_3 (by decide) ?_
    refine qx_icmp_ge X 26 d_M_copies_5 (by decide) (fun q1 => ?_) (fun q1 => ?_)
    · have hw := hw.1 q1
      refine qx_sub [0] rfl ?_
      exact hK26 x0 h hw
    · have hw := hw.2 q1
      refine qx_aload_n (x := x0) X d_M_copies_8 rfl 0 rfl ?_
      obtain ⟨g2, hw⟩ := hw
      refine qx_getR X qcls12 g2 50 (by decide) rfl wf_M_116 d_M_copies_9 ?_
      refine qx_iload_n (x := x1) X d_M_copies_12 rfl 1 rfl ?_
      refine qx_aload_n (x := x0) X d_M_copies_13 rfl 0 rfl ?_
      refine qx_getR X qcls12 g2 49 (by decide) rfl wf_M_113 d_M_copies_14 ?_
      refine qx_iload_n (x := x1) X d_M_copies_17 rfl 1 rfl ?_
      obtain ⟨g3, hw⟩ := hw
      refine qx_ild X g3 d_M_copies_18 ?_
      obtain ⟨g4, hw⟩ := hw
      refine qx_ist X g4 d_M_copies_19 ?_
      refine qx_toph (fun h5 eh5 => ?_)
      have hw := hw h5 eh5
      refine qx_iinc (v := (x1 + (1 : Int32))) (L' := [(1, .inl (x1 + (1 : Int32))), (0, .inr (.inr (.inl x0)))]) X d_M_copies_20 1 rfl rfl (by decide) rfl ?_
      refine qx_goto X 2 d_M_copies_23 (by decide) ?_
      refine qx_sub [1, 0] rfl ?_
      exact ih x0 (x1 + (1 : Int32)) h5 hw
set_option maxRecDepth 4000 in
theorem t_M_copies {adK adV : Nat → Nat} (l : Launch) (D : va_G) (cy : Nat → ClassId) (b : Nat) (N : Nat) (x0 : Nat) (h : qH) (Q : qH → Prop) (hw : w_M_copies N x0 h Q) : Met l y_M_copies (Cond.code y_M_copies prog_14_method_43_code 2 (none) :: qT) (qrm 0 0 0 0) (qPc D cy b adK adV h [qr b x0]) (qQc D cy b qrV (fun (_ : Unit) h => Q h)) 0 0 (qA b) := by
  refine qmet (L0 := [(0, .inr (.inr (.inl x0)))]) qm_M_copies (plainFor_of_name (by decide)) [.inr (.inr (.inl x0))] rfl (Nat.le_of_ble_eq_true rfl) rfl (fun p e s m args below meth c X => ?_)
  unfold w_M_copies at hw
  refine qx_iconst (v := (0 : Int32)) X d_M_copies_0 (by decide) ?_
  refine qx_istore_n (L' := [(1, .inl (0 : Int32)), (0, .inr (.inr (.inl x0)))]) X d_M_copies_1 rfl (by decide) rfl ?_
  refine qx_sub [1, 0] rfl ?_
  refine t_M_copies_2 X N N x0 (0 : Int32) h Q _ hw (fun x1 h2 hw => ?_)
  refine qx_aload_n (x := x1) X d_M_copies_26 rfl 0 rfl ?_
  refine qx_aload_n (x := x1) X d_M_copies_27 rfl 0 rfl ?_
  obtain ⟨g3, hw⟩ := hw
  refine qx_getR X qcls12 g3 32 (by decide) rfl wf_M_73 d_M_copies_28 ?_
  refine qx_aload_n (x := x1) X d_M_copies_31 rfl 0 rfl ?_
  refine qx_getI X qcls12 g3 18 (by decide) rfl wf_M_245 d_M_copies_32 ?_
  obtain ⟨g4, hw⟩ := hw
  refine qx_ild X g4 d_M_copies_35 ?_
  refine qx_putI X qcls12 g3 51 (by decide) rfl wf_M_326 rfl rfl rfl d_M_copies_36 ?_
  refine qx_toph (fun h5 eh5 => ?_)
  have hw := hw h5 eh5
  refine qx_aload_n (x := x1) X d_M_copies_39 rfl 0 rfl ?_
  refine qx_iconst (v := (0 : Int32)) X d_M_copies_40 (by decide) ?_
  obtain ⟨g6, hw⟩ := hw
  obtain ⟨g7, hw⟩ := hw
  refine qx_putI X qcls12 g6 52 (by decide) rfl wf_M_329 rfl (qzb_nar g7) (qzb_fit g7) d_M_copies_41 ?_
  refine qx_toph (fun h8 eh8 => ?_)
  have hw := hw h8 eh8
  exact qx_vret X hw (Nat.le_refl 0) (Nat.le_refl 0) rfl d_M_copies_44
set_option maxRecDepth 4000 in
theorem t_M_copiesStill {adK adV : Nat → Nat} (l : Launch) (D : va_G) (cy : Nat → ClassId) (b : Nat) (N : Nat) (x0 : Nat) (h : qH) (Q : qH → Prop) (hw : w_M_copiesStill N x0 h Q) : Met l y_M_copiesStill (Cond.code y_M_copiesStill prog_14_method_44_code 1 (none) :: qT) (qrm 1 0 0 21) (qPc D cy b adK adV h [qr b x0]) (qQc D cy b qrV (fun (_ : Unit) h => Q h)) 0 0 (qA b) := by
  refine qmet (L0 := [(0, .inr (.inr (.inl x0)))]) qm_M_copiesStill (plainFor_of_name (by decide)) [.inr (.inr (.inl x0))] rfl (Nat.le_of_ble_eq_true rfl) rfl (fun p e s m args below meth c X => ?_)
  unfold w_M_copiesStill at hw
  refine qx_aload_n (x := x0) X d_M_copiesStill_0 rfl 0 rfl ?_
  obtain ⟨g1, hw⟩ := hw
  refine qx_callVV (st := []) (As := []) X (t_M_copies (adK := adK) (adV := adV) l D cy b N x0 h _ hw) qm_M_copies wm_M_332 wi_M_copies wl_M_copies qcls12 g1 rfl rfl rfl ⟨Nat.le_of_ble_eq_true rfl, Nat.le_of_ble_eq_true rfl⟩ ⟨Nat.le_refl 0, Nat.le_refl 0⟩ (Nat.le_of_ble_eq_true rfl) rfl d_M_copiesStill_1 (fun h2 hw => ?_)
  refine qx_aload_n (x := x0) X d_M_copiesStill_4 rfl 0 rfl ?_
  refine qx_iconst (v := (1 : Int32)) X d_M_copiesStill_5 (by decide) ?_
  obtain ⟨g3, hw⟩ := hw
  obtain ⟨g4, hw⟩ := hw
  refine qx_putI X qcls12 g3 52 (by decide) rfl wf_M_329 rfl (qzb_nar g4) (qzb_fit g4) d_M_copiesStill_6 ?_
  refine qx_toph (fun h5 eh5 => ?_)
  have hw := hw h5 eh5
  exact qx_vret X hw (Nat.le_refl 0) (Nat.le_refl 0) rfl d_M_copiesStill_9
set_option maxRecDepth 4000 in
theorem t_M_mixed {adK adV : Nat → Nat} (l : Launch) (D : va_G) (cy : Nat → ClassId) (b : Nat) (N : Nat) (x0 : Int32) (x1 : Int32) (h : qH) (Q : Int32 → qH → Prop) (hw : w_M_mixed N x0 x1 h Q) : Met l y_M_mixed (Cond.code y_M_mixed prog_14_method_45_code 3 (some .int) :: qT) (qrm 0 0 0 0) (qPc D cy b adK adV h [.int x0, .int x1]) (qQc D cy b qrI Q) 0 0 (qA b) := by
  refine qmet (L0 := [(0, .inl x0), (1, .inl x1)]) qm_M_mixed (plainFor_of_name (by decide)) [.inl x0, .inl x1] rfl (Nat.le_of_ble_eq_true rfl) rfl (fun p e s m args below meth c X => ?_)
  unfold w_M_mixed at hw
  refine qx_iload_n (x := x0) X d_M_mixed_0 rfl 0 rfl ?_
  refine qx_iload_n (x := x1) X d_M_mixed_1 rfl 1 rfl ?_
  refine qx_ixor X d_M_mixed_2 ?_
  refine qx_ldcw (v := (1103515245 : Int32)) X wk_M_335 d_M_mixed_3 ?_
  refine qx_imul X d_M_mixed_6 ?_
  refine qx_sipush (v := (12345 : Int32)) X d_M_mixed_7 (by decide) ?_
  refine qx_iadd X d_M_mixed_10 ?_
  refine qx_topi (fun y1 ey1 => ?_)
  have hw := hw y1 ey1
  refine qx_istore_n (L' := [(2, .inl y1), (0, .inl x0), (1, .inl x1)]) X d_M_mixed_11 rfl (by decide) rfl ?_
  refine qx_iload_n (x := y1) X d_M_mixed_12 rfl 0 rfl ?_
  refine qx_iload_n (x := y1) X d_M_mixed_13 rfl 0 rfl ?_
  refine qx_bipush (v := (15 : Int32)) X d_M_mixed_14 (by decide) ?_
  refine qx_iushr X d_M_mixed_16 ?_
  refine qx_ixor X d_M_mixed_17 ?_
  exact qx_iret X hw (Nat.le_refl 0) (Nat.le_refl 0) rfl d_M_mixed_18
set_option maxRecDepth 4000 in
theorem t_M_lotOf {adK adV : Nat → Nat} (l : Launch) (D : va_G) (cy : Nat → ClassId) (b : Nat) (N : Nat) (x0 : Nat) (x1 : Int32) (x2 : Int32) (h : qH) (Q : Int32 → qH → Prop) (hw : w_M_lotOf N x0 x1 x2 h Q) : Met l y_M_lotOf (Cond.code y_M_lotOf prog_14_method_46_code 3 (some .int) :: qT) (qrm 1 0 0 22) (qPc D cy b adK adV h [qr b x0, .int x1, .int x2]) (qQc D cy b qrI Q) 0 0 (qA b) := by
  refine qmet (L0 := [(0, .inr (.inr (.inl x0))), (1, .inl x1), (2, .inl x2)]) qm_M_lotOf (plainFor_of_name (by decide)) [.inr (.inr (.inl x0)), .inl x1, .inl x2] rfl (Nat.le_of_ble_eq_true rfl) rfl (fun p e s m args below meth c X => ?_)
  unfold w_M_lotOf at hw
  refine qx_aload_n (x := x0) X d_M_lotOf_0 rfl 0 rfl ?_
  obtain ⟨g1, hw⟩ := hw
  refine qx_getI X qcls12 g1 51 (by decide) rfl wf_M_326 d_M_lotOf_1 ?_
  refine qx_sipush (v := (159 : Int32)) X d_M_lotOf_4 (by decide) ?_
  refine qx_callSI (st := []) (As := [.int (qI h x0 51), .int (159 : Int32)]) X (t_M_mixed (adK := adK) (adV := adV) l D cy b N (qI h x0 51) (159 : Int32) h _ hw) qm_M_mixed wm_M_336 wi_M_mixed rfl rfl rfl ⟨Nat.le_of_ble_eq_true rfl, Nat.le_of_ble_eq_true rfl⟩ ⟨Nat.le_refl 0, Nat.le_refl 0⟩ (Nat.le_of_ble_eq_true rfl) rfl d_M_lotOf_7 (fun r2 h3 hw => ?_)
  refine qx_iload_n (x := x1) X d_M_lotOf_10 rfl 1 rfl ?_
  refine qx_callSI (st := []) (As := [.int r2, .int x1]) X (t_M_mixed (adK := adK) (adV := adV) l D cy b N r2 x1 h3 _ hw) qm_M_mixed wm_M_336 wi_M_mixed rfl rfl rfl ⟨Nat.le_of_ble_eq_true rfl, Nat.le_of_ble_eq_true rfl⟩ ⟨Nat.le_refl 0, Nat.le_refl 0⟩ (Nat.le_of_ble_eq_true rfl) rfl d_M_lotOf_11 (fun r4 h5 hw => ?_)
  refine qx_iconst (v := (1 : Int32)) X d_M_lotOf_14 (by decide) ?_
  refine qx_iushr X d_M_lotOf_15 ?_
  refine qx_iload_n (x := x2) X d_M_lotOf_16 rfl 2 rfl ?_
  obtain ⟨g6, hw⟩ := hw
  refine qx_irem X g6 d_M_lotOf_17 ?_
  exact qx_iret X hw (Nat.le_refl 0) (Nat.le_refl 0) rfl d_M_lotOf_18
set_option maxRecDepth 4000 in
theorem t_M_isMoth {adK adV : Nat → Nat} (l : Launch) (D : va_G) (cy : Nat → ClassId) (b : Nat) (N : Nat) (x0 : Nat) (h : qH) (Q : Int32 → qH → Prop) (hw : w_M_isMoth N x0 h Q) : Met l y_M_isMoth (Cond.code y_M_isMoth prog_14_method_47_code 1 (some .boolean) :: qT) (qrm 2 0 0 44) (qPc D cy b adK adV h [qr b x0]) (qQc D cy b qrI Q) 0 0 (qA b) := by
  refine qmet (L0 := [(0, .inr (.inr (.inl x0)))]) qm_M_isMoth (plainFor_of_name (by decide)) [.inr (.inr (.inl x0))] rfl (Nat.le_of_ble_eq_true rfl) rfl (fun p e s m args below meth c X => ?_)
  unfold w_M_isMoth at hw
  refine qx_aload_n (x := x0) X d_M_isMoth_0 rfl 0 rfl ?_
  refine qx_bipush (v := (16 : Int32)) X d_M_isMoth_1 (by decide) ?_
  refine qx_aload_n (x := x0) X d_M_isMoth_3 rfl 0 rfl ?_
  obtain ⟨g1, hw⟩ := hw
  refine qx_getR X qcls12 g1 50 (by decide) rfl wf_M_116 d_M_isMoth_4 ?_
  refine qx_bipush (v := (31 : Int32)) X d_M_isMoth_7 (by decide) ?_
  obtain ⟨g2, hw⟩ := hw
  refine qx_ild X g2 d_M_isMoth_9 ?_
  refine qx_imul X d_M_isMoth_10 ?_
  refine qx_bipush (v := (8 : Int32)) X d_M_isMoth_11 (by decide) ?_
  refine qx_iadd X d_M_isMoth_13 ?_
  refine qx_bipush (v := (100 : Int32)) X d_M_isMoth_14 (by decide) ?_
  refine qx_callVI (st := []) (As := [.int (((16 : Int32) * (qI h (qR h x0 50) ((31 : Int32)).toNatClampNeg)) + (8 : Int32)), .int (100 : Int32)]) X (t_M_lotOf (adK := adK) (adV := adV) l D cy b N x0 (((16 : Int32) * (qI h (qR h x0 50) ((31 : Int32)).toNatClampNeg)) + (8 : Int32)) (100 : Int32) h _ hw) qm_M_lotOf wm_M_339 wi_M_lotOf wl_M_lotOf qcls12 g1 rfl rfl rfl ⟨Nat.le_of_ble_eq_true rfl, Nat.le_of_ble_eq_true rfl⟩ ⟨Nat.le_refl 0, Nat.le_refl 0⟩ (Nat.le_of_ble_eq_true rfl) rfl d_M_isMoth_16 (fun r3 h4 hw => ?_)
  refine qx_aload_n (x := x0) X d_M_isMoth_19 rfl 0 rfl ?_
  obtain ⟨g5, hw⟩ := hw
  refine qx_getR X qcls12 g5 31 (by decide) rfl wf_M_70 d_M_isMoth_20 ?_
  refine qx_aload_n (x := x0) X d_M_isMoth_23 rfl 0 rfl ?_
  refine qx_getI X qcls12 g5 18 (by decide) rfl wf_M_245 d_M_isMoth_24 ?_
  obtain ⟨g6, hw⟩ := hw
  refine qx_ild X g6 d_M_isMoth_27 ?_
  refine qx_icmp_ge X 35 d_M_isMoth_28 (by decide) (fun q7 => ?_) (fun q7 => ?_)
  · have hw := hw.1 q7
    refine qx_iconst (v := (0 : Int32)) X d_M_isMoth_35 (by decide) ?_
    exact qx_zret X hw (Nat.le_refl 0) (Nat.le_refl 0) rfl d_M_isMoth_36
  · have hw := hw.2 q7
    refine qx_iconst (v := (1 : Int32)) X d_M_isMoth_31 (by decide) ?_
    refine qx_goto X 36 d_M_isMoth_32 (by decide) ?_
    exact qx_zret X hw (Nat.le_refl 0) (Nat.le_refl 0) rfl d_M_isMoth_36
set_option maxRecDepth 4000 in
theorem t_M_isUp {adK adV : Nat → Nat} (l : Launch) (D : va_G) (cy : Nat → ClassId) (b : Nat) (N : Nat) (x0 : Nat) (x1 : Int32) (h : qH) (Q : Int32 → qH → Prop) (hw : w_M_isUp N x0 x1 h Q) : Met l y_M_isUp (Cond.code y_M_isUp prog_14_method_48_code 2 (some .boolean) :: qT) (qrm 0 0 0 0) (qPc D cy b adK adV h [qr b x0, .int x1]) (qQc D cy b qrI Q) 0 0 (qA b) := by
  refine qmet (L0 := [(0, .inr (.inr (.inl x0))), (1, .inl x1)]) qm_M_isUp (plainFor_of_name (by decide)) [.inr (.inr (.inl x0)), .inl x1] rfl (Nat.le_of_ble_eq_true rfl) rfl (fun p e s m args below meth c X => ?_)
  unfold w_M_isUp at hw
  refine qx_aload_n (x := x0) X d_M_isUp_0 rfl 0 rfl ?_
  obtain ⟨g1, hw⟩ := hw
  refine qx_getR X qcls12 g1 50 (by decide) rfl wf_M_116 d_M_isUp_1 ?_
  refine qx_bipush (v := (6 : Int32)) X d_M_isUp_4 (by decide) ?_
  refine qx_iload_n (x := x1) X d_M_isUp_6 rfl 1 rfl ?_
  refine qx_iadd X d_M_isUp_7 ?_
  obtain ⟨g2, hw⟩ := hw
  refine qx_ild X g2 d_M_isUp_8 ?_
  refine qx_if_lt X 16 d_M_isUp_9 (by decide) (fun q3 => ?_) (fun q3 => ?_)
  · have hw := hw.1 q3
    refine qx_iconst (v := (0 : Int32)) X d_M_isUp_16 (by decide) ?_
    exact qx_zret X hw (Nat.le_refl 0) (Nat.le_refl 0) rfl d_M_isUp_17
  · have hw := hw.2 q3
    refine qx_iconst (v := (1 : Int32)) X d_M_isUp_12 (by decide) ?_
    refine qx_goto X 17 d_M_isUp_13 (by decide) ?_
    exact qx_zret X hw (Nat.le_refl 0) (Nat.le_refl 0) rfl d_M_isUp_17
set_option maxRecDepth 4000 in
theorem t_M_whoIsOn_2 (X : qX p s m args meth c D cy b adK adV prog_14_method_49_code "CoatHangersModel" 3 (some .int) "whoIsOn") (N k : Nat) (x0 : Nat) (x1 : Int32) (x2 : Int32) (h : qH) (Q : Int32 → qH → Prop)  (hw : w_M_whoIsOn_2 N k x0 x1 x2 h Q ) : qW p l e (qrm 0 0 0 0) s m args below meth c D cy b 3 0 0 (MQ below (qQc D cy b qrI Q) args s 0 0 (qA b)) 2 [(0, .inr (.inr (.inl x0))), (1, .inl x1), (2, .inl x2)] [] h := by
  induction k generalizing x0 x1 x2 h with
  | zero => exact hw.elim
  | succ k ih =>
    refine qx_iload_n (x := x2) X d_M_whoIsOn_2 rfl 2 rfl ?_
    refine qx_aload_n (x := x0) X d_M_whoIsOn_3 rfl 0 rfl ?_
    obtain ⟨g1, hw⟩ := hw
    refine qx_getR X qcls12 g1 26 (by decide) rfl wf_M_55 d_M_whoIsOn_4 ?_
    refine qx_aload_n (x := x0) X d_M_whoIsOn_7 rfl 0 rfl ?_
    refine qx_getI X qcls12 g1 18 (by decide) rfl wf_M_245 d_M_whoIsOn_8 ?_
    obtain ⟨g2, hw⟩ := hw
    refine qx_ild X g2 d_M_whoIsOn_11 ?_
    refine qx_icmp_ge X 36 d_M_whoIsOn_12 (by decide) (fun q3 => ?_) (fun q3 => ?_)
    · have hw := hw.1 q3
      refine qx_bipush (v := (-2 : Int32)) X d_M_whoIsOn_36 (by decide) ?_
      exact qx_iret X hw (Nat.le_refl 0) (Nat.le_refl 0) rfl d_M_whoIsOn_38
    · have hw := hw.2 q3
      refine qx_aload_n (x := x0) X d_M_whoIsOn_15 rfl 0 rfl ?_
      refine qx_getR X qcls12 g1 50 (by decide) rfl wf_M_116 d_M_whoIsOn_16 ?_
      refine qx_bipush (v := (6 : Int32)) X d_M_whoIsOn_19 (by decide) ?_
      refine qx_iload_n (x := x2) X d_M_whoIsOn_21 rfl 2 rfl ?_
      refine qx_iadd X d_M_whoIsOn_22 ?_
      obtain ⟨g4, hw⟩ := hw
      refine qx_ild X g4 d_M_whoIsOn_23 ?_
      refine qx_iload_n (x := x1) X d_M_whoIsOn_24 rfl 1 rfl ?_
      refine qx_icmp_ne X 30 d_M_whoIsOn_25 (by decide) (fun q5 => ?_) (fun q5 => ?_)
      · have hw := hw.1 q5
        refine qx_iinc (v := (x2 + (1 : Int32))) (L' := [(2, .inl (x2 + (1 : Int32))), (0, .inr (.inr (.inl x0))), (1, .inl x1)]) X d_M_whoIsOn_30 2 rfl rfl (by decide) rfl ?_
        refine qx_goto X 2 d_M_whoIsOn_33 (by decide) ?_
        refine qx_sub [1, 2, 0] rfl ?_
        exact ih x0 x1 (x2 + (1 : Int32)) h hw
      · have hw := hw.2 q5
        refine qx_iload_n (x := x2) X d_M_whoIsOn_28 rfl 2 rfl ?_
        exact qx_iret X hw (Nat.le_refl 0) (Nat.le_refl 0) rfl d_M_whoIsOn_29
set_option maxRecDepth 4000 in
theorem t_M_whoIsOn {adK adV : Nat → Nat} (l : Launch) (D : va_G) (cy : Nat → ClassId) (b : Nat) (N : Nat) (x0 : Nat) (x1 : Int32) (h : qH) (Q : Int32 → qH → Prop) (hw : w_M_whoIsOn N x0 x1 h Q) : Met l y_M_whoIsOn (Cond.code y_M_whoIsOn prog_14_method_49_code 3 (some .int) :: qT) (qrm 0 0 0 0) (qPc D cy b adK adV h [qr b x0, .int x1]) (qQc D cy b qrI Q) 0 0 (qA b) := by
  refine qmet (L0 := [(0, .inr (.inr (.inl x0))), (1, .inl x1)]) qm_M_whoIsOn (plainFor_of_name (by decide)) [.inr (.inr (.inl x0)), .inl x1] rfl (Nat.le_of_ble_eq_true rfl) rfl (fun p e s m args below meth c X => ?_)
  unfold w_M_whoIsOn at hw
  refine qx_iconst (v := (0 : Int32)) X d_M_whoIsOn_0 (by decide) ?_
  refine qx_istore_n (L' := [(2, .inl (0 : Int32)), (0, .inr (.inr (.inl x0))), (1, .inl x1)]) X d_M_whoIsOn_1 rfl (by decide) rfl ?_
  refine qx_sub [1, 2, 0] rfl ?_
  exact t_M_whoIsOn_2 X N N x0 x1 (0 : Int32) h Q  hw 
set_option maxRecDepth 4000 in
theorem t_M_nailAt {adK adV : Nat → Nat} (l : Launch) (D : va_G) (cy : Nat → ClassId) (b : Nat) (N : Nat) (x0 : Nat) (x1 : Int32) (h : qH) (Q : Int32 → qH → Prop) (hw : w_M_nailAt N x0 x1 h Q) : Met l y_M_nailAt (Cond.code y_M_nailAt prog_14_method_50_code 2 (some .int) :: qT) (qrm 0 0 0 0) (qPc D cy b adK adV h [qr b x0, .int x1]) (qQc D cy b qrI Q) 0 0 (qA b) := by
  refine qmet (L0 := [(0, .inr (.inr (.inl x0))), (1, .inl x1)]) qm_M_nailAt (plainFor_of_name (by decide)) [.inr (.inr (.inl x0)), .inl x1] rfl (Nat.le_of_ble_eq_true rfl) rfl (fun p e s m args below meth c X => ?_)
  unfold w_M_nailAt at hw
  refine qx_aload_n (x := x0) X d_M_nailAt_0 rfl 0 rfl ?_
  obtain ⟨g1, hw⟩ := hw
  refine qx_getR X qcls12 g1 24 (by decide) rfl wf_M_49 d_M_nailAt_1 ?_
  refine qx_bipush (v := (7 : Int32)) X d_M_nailAt_4 (by decide) ?_
  refine qx_aload_n (x := x0) X d_M_nailAt_6 rfl 0 rfl ?_
  refine qx_getI X qcls12 g1 18 (by decide) rfl wf_M_245 d_M_nailAt_7 ?_
  refine qx_imul X d_M_nailAt_10 ?_
  refine qx_iload_n (x := x1) X d_M_nailAt_11 rfl 1 rfl ?_
  refine qx_iadd X d_M_nailAt_12 ?_
  obtain ⟨g2, hw⟩ := hw
  refine qx_ild X g2 d_M_nailAt_13 ?_
  exact qx_iret X hw (Nat.le_refl 0) (Nat.le_refl 0) rfl d_M_nailAt_14
set_option maxRecDepth 4000 in
theorem t_M_manyOn_4 (X : qX p s m args meth c D cy b adK adV prog_14_method_51_code "CoatHangersModel" 4 (some .int) "manyOn") (N k : Nat) (x0 : Nat) (x1 : Int32) (x2 : Int32) (x3 : Int32) (h : qH) (Q : Int32 → qH → Prop)  (hw : w_M_manyOn_4 N k x0 x1 x2 x3 h Q ) : qW p l e (qrm 1 0 0 21) s m args below meth c D cy b 4 0 0 (MQ below (qQc D cy b qrI Q) args s 0 0 (qA b)) 4 [(0, .inr (.inr (.inl x0))), (1, .inl x1), (2, .inl x2), (3, .inl x3)] [] h := by
  induction k generalizing x0 x1 x2 x3 h with
  | zero => exact hw.elim
  | succ k ih =>
    refine qx_iload_n (x := x3) X d_M_manyOn_4 rfl 3 rfl ?_
    refine qx_aload_n (x := x0) X d_M_manyOn_5 rfl 0 rfl ?_
    obtain ⟨g1, hw⟩ := hw
    refine qx_getR X qcls12 g1 26 (by decide) rfl wf_M_55 d_M_manyOn_6 ?_
    refine qx_aload_n (x := x0) X d_M_manyOn_9 rfl 0 rfl ?_
    refine qx_getI X qcls12 g1 18 (by decide) rfl wf_M_245 d_M_manyOn_10 ?_
    obtain ⟨g2, hw⟩ := hw
    refine qx_ild X g2 d_M_manyOn_13 ?_
    refine qx_icmp_ge X 51 d_M_manyOn_14 (by decide) (fun q3 => ?_) (fun q3 => ?_)
    · have hw := hw.1 q3
      refine qx_iload_n (x := x2) X d_M_manyOn_51 rfl 2 rfl ?_
      exact qx_iret X hw (Nat.le_refl 0) (Nat.le_refl 0) rfl d_M_manyOn_52
    · have hw := hw.2 q3
      refine qx_aload_n (x := x0) X d_M_manyOn_17 rfl 0 rfl ?_
      refine qx_iload_n (x := x3) X d_M_manyOn_18 rfl 3 rfl ?_
      refine qx_callVI (st := []) (As := [.int x3]) X (t_M_isUp (adK := adK) (adV := adV) l D cy b N x0 x3 h _ hw) qm_M_isUp wm_M_342 wi_M_isUp wl_M_isUp qcls12 g1 rfl rfl rfl ⟨Nat.le_of_ble_eq_true rfl, Nat.le_of_ble_eq_true rfl⟩ ⟨Nat.le_refl 0, Nat.le_refl 0⟩ (Nat.le_of_ble_eq_true rfl) rfl d_M_manyOn_19 (fun r4 h5 hw => ?_)
      refine qx_if_eq X 45 d_M_manyOn_22 (by decide) (fun q6 => ?_) (fun q6 => ?_)
      · have hw := hw.1 q6
        refine qx_iinc (v := (x3 + (1 : Int32))) (L' := [(3, .inl (x3 + (1 : Int32))), (0, .inr (.inr (.inl x0))), (1, .inl x1), (2, .inl x2)]) X d_M_manyOn_45 3 rfl rfl (by decide) rfl ?_
        refine qx_goto X 4 d_M_manyOn_48 (by decide) ?_
        refine qx_sub [1, 2, 3, 0] rfl ?_
        exact ih x0 x1 x2 (x3 + (1 : Int32)) h5 hw
      · have hw := hw.2 q6
        refine qx_aload_n (x := x0) X d_M_manyOn_25 rfl 0 rfl ?_
        refine qx_aload_n (x := x0) X d_M_manyOn_26 rfl 0 rfl ?_
        obtain ⟨g7, hw⟩ := hw
        refine qx_getR X qcls12 g7 50 (by decide) rfl wf_M_116 d_M_manyOn_27 ?_
        refine qx_bipush (v := (6 : Int32)) X d_M_manyOn_30 (by decide) ?_
        refine qx_iload_n (x := x3) X d_M_manyOn_32 rfl 3 rfl ?_
        refine qx_iadd X d_M_manyOn_33 ?_
        obtain ⟨g8, hw⟩ := hw
        refine qx_ild X g8 d_M_manyOn_34 ?_
        refine qx_callVI (st := []) (As := [.int (qI h5 (qR h5 x0 50) (((6 : Int32) + x3)).toNatClampNeg)]) X (t_M_nailAt (adK := adK) (adV := adV) l D cy b N x0 (qI h5 (qR h5 x0 50) (((6 : Int32) + x3)).toNatClampNeg) h5 _ hw) qm_M_nailAt wm_M_345 wi_M_nailAt wl_M_nailAt qcls12 g7 rfl rfl rfl ⟨Nat.le_of_ble_eq_true rfl, Nat.le_of_ble_eq_true rfl⟩ ⟨Nat.le_refl 0, Nat.le_refl 0⟩ (Nat.le_of_ble_eq_true rfl) rfl d_M_manyOn_35 (fun r9 h10 hw => ?_)
        refine qx_iload_n (x := x1) X d_M_manyOn_38 rfl 1 rfl ?_
        refine qx_icmp_ne X 45 d_M_manyOn_39 (by decide) (fun q11 => ?_) (fun q11 => ?_)
        · have hw := hw.1 q11
          refine qx_iinc (v := (x3 + (1 : Int32))) (L' := [(3, .inl (x3 + (1 : Int32))), (0, .inr (.inr (.inl x0))), (1, .inl x1), (2, .inl x2)]) X d_M_manyOn_45 3 rfl rfl (by decide) rfl ?_
          refine qx_goto X 4 d_M_manyOn_48 (by decide) ?_
          refine qx_sub [1, 2, 3, 0] rfl ?_
          exact ih x0 x1 x2 (x3 + (1 : Int32)) h10 hw
        · have hw := hw.2 q11
          refine qx_iinc (v := (x2 + (1 : Int32))) (L' := [(2, .inl (x2 + (1 : Int32))), (0, .inr (.inr (.inl x0))), (1, .inl x1), (3, .inl x3)]) X d_M_manyOn_42 2 rfl rfl (by decide) rfl ?_
          refine qx_iinc (v := (x3 + (1 : Int32))) (L' := [(3, .inl (x3 + (1 : Int32))), (2, .inl (x2 + (1 : Int32))), (0, .inr (.inr (.inl x0))), (1, .inl x1)]) X d_M_manyOn_45 3 rfl rfl (by decide) rfl ?_
          refine qx_goto X 4 d_M_manyOn_48 (by decide) ?_
          refine qx_sub [2, 3, 1, 0] rfl ?_
          exact ih x0 x1 (x2 + (1 : Int32)) (x3 + (1 : Int32)) h10 hw
set_option maxRecDepth 4000 in
theorem t_M_manyOn {adK adV : Nat → Nat} (l : Launch) (D : va_G) (cy : Nat → ClassId) (b : Nat) (N : Nat) (x0 : Nat) (x1 : Int32) (h : qH) (Q : Int32 → qH → Prop) (hw : w_M_manyOn N x0 x1 h Q) : Met l y_M_manyOn (Cond.code y_M_manyOn prog_14_method_51_code 4 (some .int) :: qT) (qrm 1 0 0 21) (qPc D cy b adK adV h [qr b x0, .int x1]) (qQc D cy b qrI Q) 0 0 (qA b) := by
  refine qmet (L0 := [(0, .inr (.inr (.inl x0))), (1, .inl x1)]) qm_M_manyOn (plainFor_of_name (by decide)) [.inr (.inr (.inl x0)), .inl x1] rfl (Nat.le_of_ble_eq_true rfl) rfl (fun p e s m args below meth c X => ?_)
  unfold w_M_manyOn at hw
  refine qx_iconst (v := (0 : Int32)) X d_M_manyOn_0 (by decide) ?_
  refine qx_istore_n (L' := [(2, .inl (0 : Int32)), (0, .inr (.inr (.inl x0))), (1, .inl x1)]) X d_M_manyOn_1 rfl (by decide) rfl ?_
  refine qx_iconst (v := (0 : Int32)) X d_M_manyOn_2 (by decide) ?_
  refine qx_istore_n (L' := [(3, .inl (0 : Int32)), (2, .inl (0 : Int32)), (0, .inr (.inr (.inl x0))), (1, .inl x1)]) X d_M_manyOn_3 rfl (by decide) rfl ?_
  refine qx_sub [2, 3, 1, 0] rfl ?_
  exact t_M_manyOn_4 X N N x0 x1 (0 : Int32) (0 : Int32) h Q  hw 
set_option maxRecDepth 4000 in
theorem t_M_looks {adK adV : Nat → Nat} (l : Launch) (D : va_G) (cy : Nat → ClassId) (b : Nat) (N : Nat) (x0 : Nat) (x1 : Int32) (x2 : Int32) (x3 : Int32) (h : qH) (Q : qH → Prop) (hw : w_M_looks N x0 x1 x2 x3 h Q) : Met l y_M_looks (Cond.code y_M_looks prog_14_method_52_code 4 (none) :: qT) (qrm 1 0 0 21) (qPc D cy b adK adV h [qr b x0, .int x1, .int x2, .int x3]) (qQc D cy b qrV (fun (_ : Unit) h => Q h)) 0 0 (qA b) := by
  refine qmet (L0 := [(0, .inr (.inr (.inl x0))), (1, .inl x1), (2, .inl x2), (3, .inl x3)]) qm_M_looks (plainFor_of_name (by decide)) [.inr (.inr (.inl x0)), .inl x1, .inl x2, .inl x3] rfl (Nat.le_of_ble_eq_true rfl) rfl (fun p e s m args below meth c X => ?_)
  unfold w_M_looks at hw
  refine qx_aload_n (x := x0) X d_M_looks_0 rfl 0 rfl ?_
  obtain ⟨g1, hw⟩ := hw
  refine qx_getR X qcls12 g1 46 (by decide) rfl wf_M_107 d_M_looks_1 ?_
  refine qx_iconst (v := (0 : Int32)) X d_M_looks_4 (by decide) ?_
  refine qx_aload_n (x := x0) X d_M_looks_5 rfl 0 rfl ?_
  refine qx_getR X qcls12 g1 50 (by decide) rfl wf_M_116 d_M_looks_6 ?_
  refine qx_iload_n (x := x1) X d_M_looks_9 rfl 1 rfl ?_
  obtain ⟨g2, hw⟩ := hw
  refine qx_ild X g2 d_M_looks_10 ?_
  refine qx_aload_n (x := x0) X d_M_looks_11 rfl 0 rfl ?_
  refine qx_getR X qcls12 g1 25 (by decide) rfl wf_M_52 d_M_looks_12 ?_
  refine qx_bipush (v := (7 : Int32)) X d_M_looks_15 (by decide) ?_
  refine qx_aload_n (x := x0) X d_M_looks_17 rfl 0 rfl ?_
  refine qx_getI X qcls12 g1 18 (by decide) rfl wf_M_245 d_M_looks_18 ?_
  refine qx_imul X d_M_looks_21 ?_
  refine qx_iload_n (x := x2) X d_M_looks_22 rfl 2 rfl ?_
  refine qx_iadd X d_M_looks_23 ?_
  obtain ⟨g3, hw⟩ := hw
  refine qx_ild X g3 d_M_looks_24 ?_
  refine qx_callSI (st := [.int (0 : Int32), qr b (qR h x0 46)]) (As := [.int (qI h (qR h x0 50) (x1).toNatClampNeg), .int (qI h (qR h x0 25) ((((7 : Int32) * (qI h x0 18)) + x2)).toNatClampNeg)]) X (t_M_off (adK := adK) (adV := adV) l D cy b N (qI h (qR h x0 50) (x1).toNatClampNeg) (qI h (qR h x0 25) ((((7 : Int32) * (qI h x0 18)) + x2)).toNatClampNeg) h _ hw) qm_M_off wm_M_348 wi_M_off rfl rfl rfl ⟨Nat.le_of_ble_eq_true rfl, Nat.le_of_ble_eq_true rfl⟩ ⟨Nat.le_refl 0, Nat.le_refl 0⟩ (Nat.le_of_ble_eq_true rfl) rfl d_M_looks_25 (fun r4 h5 hw => ?_)
  refine qx_aload_n (x := x0) X d_M_looks_28 rfl 0 rfl ?_
  obtain ⟨g6, hw⟩ := hw
  refine qx_getR X qcls12 g6 50 (by decide) rfl wf_M_116 d_M_looks_29 ?_
  refine qx_bipush (v := (24 : Int32)) X d_M_looks_32 (by decide) ?_
  refine qx_iload_n (x := x2) X d_M_looks_34 rfl 2 rfl ?_
  refine qx_iadd X d_M_looks_35 ?_
  obtain ⟨g7, hw⟩ := hw
  refine qx_ild X g7 d_M_looks_36 ?_
  refine qx_iadd X d_M_looks_37 ?_
  obtain ⟨g8, hw⟩ := hw
  refine qx_ist X g8 d_M_looks_38 ?_
  refine qx_toph (fun h9 eh9 => ?_)
  have hw := hw h9 eh9
  refine qx_aload_n (x := x0) X d_M_looks_39 rfl 0 rfl ?_
  obtain ⟨g10, hw⟩ := hw
  refine qx_getR X qcls12 g10 46 (by decide) rfl wf_M_107 d_M_looks_40 ?_
  refine qx_iconst (v := (1 : Int32)) X d_M_looks_43 (by decide) ?_
  refine qx_aload_n (x := x0) X d_M_looks_44 rfl 0 rfl ?_
  refine qx_getR X qcls12 g10 50 (by decide) rfl wf_M_116 d_M_looks_45 ?_
  refine qx_bipush (v := (24 : Int32)) X d_M_looks_48 (by decide) ?_
  refine qx_iload_n (x := x2) X d_M_looks_50 rfl 2 rfl ?_
  refine qx_iadd X d_M_looks_51 ?_
  obtain ⟨g11, hw⟩ := hw
  refine qx_ild X g11 d_M_looks_52 ?_
  obtain ⟨g12, hw⟩ := hw
  refine qx_ist X g12 d_M_looks_53 ?_
  refine qx_toph (fun h13 eh13 => ?_)
  have hw := hw h13 eh13
  refine qx_aload_n (x := x0) X d_M_looks_54 rfl 0 rfl ?_
  obtain ⟨g14, hw⟩ := hw
  refine qx_getR X qcls12 g14 46 (by decide) rfl wf_M_107 d_M_looks_55 ?_
  refine qx_iconst (v := (2 : Int32)) X d_M_looks_58 (by decide) ?_
  refine qx_aload_n (x := x0) X d_M_looks_59 rfl 0 rfl ?_
  refine qx_getR X qcls12 g14 50 (by decide) rfl wf_M_116 d_M_looks_60 ?_
  refine qx_iload_n (x := x1) X d_M_looks_63 rfl 1 rfl ?_
  obtain ⟨g15, hw⟩ := hw
  refine qx_ild X g15 d_M_looks_64 ?_
  obtain ⟨g16, hw⟩ := hw
  refine qx_ist X g16 d_M_looks_65 ?_
  refine qx_toph (fun h17 eh17 => ?_)
  have hw := hw h17 eh17
  refine qx_aload_n (x := x0) X d_M_looks_66 rfl 0 rfl ?_
  obtain ⟨g18, hw⟩ := hw
  refine qx_getR X qcls12 g18 46 (by decide) rfl wf_M_107 d_M_looks_67 ?_
  refine qx_iconst (v := (3 : Int32)) X d_M_looks_70 (by decide) ?_
  refine qx_aload_n (x := x0) X d_M_looks_71 rfl 0 rfl ?_
  refine qx_getR X qcls12 g18 28 (by decide) rfl wf_M_61 d_M_looks_72 ?_
  refine qx_bipush (v := (6 : Int32)) X d_M_looks_75 (by decide) ?_
  refine qx_aload_n (x := x0) X d_M_looks_77 rfl 0 rfl ?_
  refine qx_getI X qcls12 g18 18 (by decide) rfl wf_M_245 d_M_looks_78 ?_
  refine qx_imul X d_M_looks_81 ?_
  refine qx_iload_n (x := x1) X d_M_looks_82 rfl 1 rfl ?_
  refine qx_iadd X d_M_looks_83 ?_
  obtain ⟨g19, hw⟩ := hw
  refine qx_ild X g19 d_M_looks_84 ?_
  obtain ⟨g20, hw⟩ := hw
  refine qx_ist X g20 d_M_looks_85 ?_
  refine qx_toph (fun h21 eh21 => ?_)
  have hw := hw h21 eh21
  refine qx_aload_n (x := x0) X d_M_looks_86 rfl 0 rfl ?_
  obtain ⟨g22, hw⟩ := hw
  refine qx_getR X qcls12 g22 46 (by decide) rfl wf_M_107 d_M_looks_87 ?_
  refine qx_iconst (v := (4 : Int32)) X d_M_looks_90 (by decide) ?_
  refine qx_aload_n (x := x0) X d_M_looks_91 rfl 0 rfl ?_
  refine qx_getR X qcls12 g22 50 (by decide) rfl wf_M_116 d_M_looks_92 ?_
  refine qx_bipush (v := (31 : Int32)) X d_M_looks_95 (by decide) ?_
  obtain ⟨g23, hw⟩ := hw
  refine qx_ild X g23 d_M_looks_97 ?_
  obtain ⟨g24, hw⟩ := hw
  refine qx_ist X g24 d_M_looks_98 ?_
  refine qx_toph (fun h25 eh25 => ?_)
  have hw := hw h25 eh25
  refine qx_aload_n (x := x0) X d_M_looks_99 rfl 0 rfl ?_
  obtain ⟨g26, hw⟩ := hw
  refine qx_getR X qcls12 g26 46 (by decide) rfl wf_M_107 d_M_looks_100 ?_
  refine qx_iconst (v := (5 : Int32)) X d_M_looks_103 (by decide) ?_
  refine qx_aload_n (x := x0) X d_M_looks_104 rfl 0 rfl ?_
  refine qx_getR X qcls12 g26 50 (by decide) rfl wf_M_116 d_M_looks_105 ?_
  refine qx_bipush (v := (18 : Int32)) X d_M_looks_108 (by decide) ?_
  refine qx_iload_n (x := x1) X d_M_looks_110 rfl 1 rfl ?_
  refine qx_iadd X d_M_looks_111 ?_
  obtain ⟨g27, hw⟩ := hw
  refine qx_ild X g27 d_M_looks_112 ?_
  obtain ⟨g28, hw⟩ := hw
  refine qx_ist X g28 d_M_looks_113 ?_
  refine qx_toph (fun h29 eh29 => ?_)
  have hw := hw h29 eh29
  refine qx_aload_n (x := x0) X d_M_looks_114 rfl 0 rfl ?_
  obtain ⟨g30, hw⟩ := hw
  refine qx_getR X qcls12 g30 46 (by decide) rfl wf_M_107 d_M_looks_115 ?_
  refine qx_bipush (v := (6 : Int32)) X d_M_looks_118 (by decide) ?_
  refine qx_iload_n (x := x3) X d_M_looks_120 rfl 3 rfl ?_
  obtain ⟨g31, hw⟩ := hw
  refine qx_ist X g31 d_M_looks_121 ?_
  refine qx_toph (fun h32 eh32 => ?_)
  have hw := hw h32 eh32
  refine qx_aload_n (x := x0) X d_M_looks_122 rfl 0 rfl ?_
  obtain ⟨g33, hw⟩ := hw
  refine qx_getR X qcls12 g33 46 (by decide) rfl wf_M_107 d_M_looks_123 ?_
  refine qx_bipush (v := (7 : Int32)) X d_M_looks_126 (by decide) ?_
  refine qx_iload_n (x := x1) X d_M_looks_128 rfl 1 rfl ?_
  obtain ⟨g34, hw⟩ := hw
  refine qx_ist X g34 d_M_looks_129 ?_
  refine qx_toph (fun h35 eh35 => ?_)
  have hw := hw h35 eh35
  refine qx_aload_n (x := x0) X d_M_looks_130 rfl 0 rfl ?_
  obtain ⟨g36, hw⟩ := hw
  refine qx_getR X qcls12 g36 46 (by decide) rfl wf_M_107 d_M_looks_131 ?_
  refine qx_bipush (v := (8 : Int32)) X d_M_looks_134 (by decide) ?_
  refine qx_aload_n (x := x0) X d_M_looks_136 rfl 0 rfl ?_
  refine qx_iload_n (x := x2) X d_M_looks_137 rfl 2 rfl ?_
  refine qx_callVI (st := [.int (8 : Int32), qr b (qR h35 x0 46)]) (As := [.int x2]) X (t_M_nailAt (adK := adK) (adV := adV) l D cy b N x0 x2 h35 _ hw) qm_M_nailAt wm_M_345 wi_M_nailAt wl_M_nailAt qcls12 g36 rfl rfl rfl ⟨Nat.le_of_ble_eq_true rfl, Nat.le_of_ble_eq_true rfl⟩ ⟨Nat.le_refl 0, Nat.le_refl 0⟩ (Nat.le_of_ble_eq_true rfl) rfl d_M_looks_138 (fun r37 h38 hw => ?_)
  obtain ⟨g39, hw⟩ := hw
  refine qx_ist X g39 d_M_looks_141 ?_
  refine qx_toph (fun h40 eh40 => ?_)
  have hw := hw h40 eh40
  exact qx_vret X hw (Nat.le_refl 0) (Nat.le_refl 0) rfl d_M_looks_142
set_option maxRecDepth 4000 in
theorem t_M_lawTells_39 (X : qX p s m args meth c D cy b adK adV prog_14_method_53_code "CoatHangersModel" 7 (some .int) "lawTells") (N k : Nat) (x0 : Nat) (x3 : Int32) (x4 : Int32) (h : qH) (Q : Int32 → qH → Prop) (K119 : Nat → Int32 → qH → Prop) (hw : w_M_lawTells_39 N k x0 x3 x4 h Q K119) (hK119 : ∀ (x0 : Nat) (x4 : Int32) (h : qH), K119 x0 x4 h → qW p l e (qrm 1 0 0 27) s m args below meth c D cy b 7 0 0 (MQ below (qQc D cy b qrI Q) args s 0 0 (qA b)) 119 [(0, .inr (.inr (.inl x0))), (4, .inl x4)] [] h) : qW p l e (qrm 1 0 0 27) s m args below meth c D cy b 7 0 0 (MQ below (qQc D cy b qrI Q) args s 0 0 (qA b)) 39 [(0, .inr (.inr (.inl x0))), (3, .inl x3), (4, .inl x4)] [] h := by
  induction k generalizing x0 x3 x4 h with
  | zero => exact hw.elim
  | succ k ih =>
    refine qx_iload (x := x4) X d_M_lawTells_39 2 rfl ?_
    refine qx_aload_n (x := x0) X d_M_lawTells_41 rfl 0 rfl ?_
    obtain ⟨g1, hw⟩ := hw
    refine qx_getR X qcls12 g1 34 (by decide) rfl wf_M_79 d_M_lawTells_42 ?_
    refine qx_iload_n (x := x3) X d_M_lawTells_45 rfl 1 rfl ?_
    obtain ⟨g2, hw⟩ := hw
    refine qx_ild X g2 d_M_lawTells_46 ?_
    refine qx_icmp_ge X 159 d_M_lawTells_47 (by decide) (fun q3 => ?_) (fun q3 => ?_)
    · have hw := hw.1 q3
      refine qx_iconst (v := (0 : Int32)) X d_M_lawTells_159 (by decide) ?_
      exact qx_iret X hw (Nat.le_refl 0) (Nat.le_refl 0) rfl d_M_lawTells_160
    · have hw := hw.2 q3
      refine qx_aload_n (x := x0) X d_M_lawTells_50 rfl 0 rfl ?_
      refine qx_getR X qcls12 g1 36 (by decide) rfl wf_M_82 d_M_lawTells_51 ?_
      refine qx_iload (x := x4) X d_M_lawTells_54 2 rfl ?_
      obtain ⟨g4, hw⟩ := hw
      refine qx_zld X g4 d_M_lawTells_56 ?_
      refine qx_if_eq X 119 d_M_lawTells_57 (by decide) (fun q5 => ?_) (fun q5 => ?_)
      · have hw := hw.1 q5
        refine qx_sub [0, 2] rfl ?_
        exact hK119 x0 x4 h hw
      · have hw := hw.2 q5
        refine qx_aload_n (x := x0) X d_M_lawTells_60 rfl 0 rfl ?_
        refine qx_aload_n (x := x0) X d_M_lawTells_61 rfl 0 rfl ?_
        refine qx_getR X qcls12 g1 37 (by decide) rfl wf_M_86 d_M_lawTells_62 ?_
        refine qx_iload (x := x4) X d_M_lawTells_65 2 rfl ?_
        obtain ⟨g6, hw⟩ := hw
        refine qx_ild X g6 d_M_lawTells_67 ?_
        refine qx_aload_n (x := x0) X d_M_lawTells_68 rfl 0 rfl ?_
        refine qx_getR X qcls12 g1 38 (by decide) rfl wf_M_89 d_M_lawTells_69 ?_
        refine qx_iload (x := x4) X d_M_lawTells_72 2 rfl ?_
        obtain ⟨g7, hw⟩ := hw
        refine qx_ild X g7 d_M_lawTells_74 ?_
        refine qx_callVI (st := []) (As := [.int (qI h (qR h x0 37) (x4).toNatClampNeg), .int (qI h (qR h x0 38) (x4).toNatClampNeg)]) X (t_M_termOf (adK := adK) (adV := adV) l D cy b N x0 (qI h (qR h x0 37) (x4).toNatClampNeg) (qI h (qR h x0 38) (x4).toNatClampNeg) h _ hw) qm_M_termOf wm_M_351 wi_M_termOf wl_M_termOf qcls12 g1 rfl rfl rfl ⟨Nat.le_of_ble_eq_true rfl, Nat.le_of_ble_eq_true rfl⟩ ⟨Nat.le_refl 0, Nat.le_refl 0⟩ (Nat.le_of_ble_eq_true rfl) rfl d_M_lawTells_75 (fun r8 h9 hw => ?_)
        refine qx_istore (L' := [(5, .inl r8), (0, .inr (.inr (.inl x0))), (3, .inl x3), (4, .inl x4)]) X d_M_lawTells_78 (by decide) rfl ?_
        refine qx_aload_n (x := x0) X d_M_lawTells_80 rfl 1 rfl ?_
        refine qx_aload_n (x := x0) X d_M_lawTells_81 rfl 1 rfl ?_
        obtain ⟨g10, hw⟩ := hw
        refine qx_getR X qcls12 g10 38 (by decide) rfl wf_M_89 d_M_lawTells_82 ?_
        refine qx_iload (x := x4) X d_M_lawTells_85 3 rfl ?_
        obtain ⟨g11, hw⟩ := hw
        refine qx_ild X g11 d_M_lawTells_87 ?_
        refine qx_aload_n (x := x0) X d_M_lawTells_88 rfl 1 rfl ?_
        refine qx_getR X qcls12 g10 39 (by decide) rfl wf_M_92 d_M_lawTells_89 ?_
        refine qx_iload (x := x4) X d_M_lawTells_92 3 rfl ?_
        obtain ⟨g12, hw⟩ := hw
        refine qx_ild X g12 d_M_lawTells_94 ?_
        refine qx_callVI (st := []) (As := [.int (qI h9 (qR h9 x0 38) (x4).toNatClampNeg), .int (qI h9 (qR h9 x0 39) (x4).toNatClampNeg)]) X (t_M_termOf (adK := adK) (adV := adV) l D cy b N x0 (qI h9 (qR h9 x0 38) (x4).toNatClampNeg) (qI h9 (qR h9 x0 39) (x4).toNatClampNeg) h9 _ hw) qm_M_termOf wm_M_351 wi_M_termOf wl_M_termOf qcls12 g10 rfl rfl rfl ⟨Nat.le_of_ble_eq_true rfl, Nat.le_of_ble_eq_true rfl⟩ ⟨Nat.le_refl 0, Nat.le_refl 0⟩ (Nat.le_of_ble_eq_true rfl) rfl d_M_lawTells_95 (fun r13 h14 hw => ?_)
        refine qx_istore (L' := [(6, .inl r13), (5, .inl r8), (0, .inr (.inr (.inl x0))), (3, .inl x3), (4, .inl x4)]) X d_M_lawTells_98 (by decide) rfl ?_
        refine qx_aload_n (x := x0) X d_M_lawTells_100 rfl 2 rfl ?_
        obtain ⟨g15, hw⟩ := hw
        refine qx_getI X qcls12 g15 48 (by decide) rfl wf_M_318 d_M_lawTells_101 ?_
        refine qx_if_eq X 109 d_M_lawTells_104 (by decide) (fun q16 => ?_) (fun q16 => ?_)
        · have hw := hw.1 q16
          refine qx_iload (x := r8) X d_M_lawTells_109 1 rfl ?_
          refine qx_iload (x := r13) X d_M_lawTells_111 0 rfl ?_
          refine qx_icmp_lt X 119 d_M_lawTells_113 (by decide) (fun q17 => ?_) (fun q17 => ?_)
          · have hw := hw.1 q17
            refine qx_sub [2, 4] rfl ?_
            exact hK119 x0 x4 h14 hw
          · have hw := hw.2 q17
            refine qx_goto X 153 d_M_lawTells_116 (by decide) ?_
            refine qx_iinc (v := (x4 + (1 : Int32))) (L' := [(4, .inl (x4 + (1 : Int32))), (6, .inl r13), (5, .inl r8), (0, .inr (.inr (.inl x0))), (3, .inl x3)]) X d_M_lawTells_153 4 rfl rfl (by decide) rfl ?_
            refine qx_goto X 39 d_M_lawTells_156 (by decide) ?_
            refine qx_sub [3, 4, 0] rfl ?_
            exact ih x0 x3 (x4 + (1 : Int32)) h14 hw
        · have hw := hw.2 q16
          refine qx_iconst (v := (0 : Int32)) X d_M_lawTells_107 (by decide) ?_
          exact qx_iret X hw (Nat.le_refl 0) (Nat.le_refl 0) rfl d_M_lawTells_108
set_option maxRecDepth 4000 in
theorem t_M_lawTells_119 (X : qX p s m args meth c D cy b adK adV prog_14_method_53_code "CoatHangersModel" 7 (some .int) "lawTells") (N : Nat) (x0 : Nat) (x4 : Int32) (h : qH) (Q : Int32 → qH → Prop)  (hw : w_M_lawTells_119 N x0 x4 h Q ) : qW p l e (qrm 1 0 0 27) s m args below meth c D cy b 7 0 0 (MQ below (qQc D cy b qrI Q) args s 0 0 (qA b)) 119 [(0, .inr (.inr (.inl x0))), (4, .inl x4)] [] h := by
  unfold w_M_lawTells_119 at hw
  refine qx_aload_n (x := x0) X d_M_lawTells_119 rfl 0 rfl ?_
  refine qx_aload_n (x := x0) X d_M_lawTells_120 rfl 0 rfl ?_
  obtain ⟨g1, hw⟩ := hw
  refine qx_getR X qcls12 g1 39 (by decide) rfl wf_M_92 d_M_lawTells_121 ?_
  refine qx_iload (x := x4) X d_M_lawTells_124 1 rfl ?_
  obtain ⟨g2, hw⟩ := hw
  refine qx_ild X g2 d_M_lawTells_126 ?_
  refine qx_aload_n (x := x0) X d_M_lawTells_127 rfl 0 rfl ?_
  refine qx_getR X qcls12 g1 40 (by decide) rfl wf_M_95 d_M_lawTells_128 ?_
  refine qx_iload (x := x4) X d_M_lawTells_131 1 rfl ?_
  obtain ⟨g3, hw⟩ := hw
  refine qx_ild X g3 d_M_lawTells_133 ?_
  refine qx_callVI (st := []) (As := [.int (qI h (qR h x0 39) (x4).toNatClampNeg), .int (qI h (qR h x0 40) (x4).toNatClampNeg)]) X (t_M_termOf (adK := adK) (adV := adV) l D cy b N x0 (qI h (qR h x0 39) (x4).toNatClampNeg) (qI h (qR h x0 40) (x4).toNatClampNeg) h _ hw) qm_M_termOf wm_M_351 wi_M_termOf wl_M_termOf qcls12 g1 rfl rfl rfl ⟨Nat.le_of_ble_eq_true rfl, Nat.le_of_ble_eq_true rfl⟩ ⟨Nat.le_refl 0, Nat.le_refl 0⟩ (Nat.le_of_ble_eq_true rfl) rfl d_M_lawTells_134 (fun r4 h5 hw => ?_)
  refine qx_istore (L' := [(5, .inl r4), (0, .inr (.inr (.inl x0))), (4, .inl x4)]) X d_M_lawTells_137 (by decide) rfl ?_
  refine qx_aload_n (x := x0) X d_M_lawTells_139 rfl 1 rfl ?_
  obtain ⟨g6, hw⟩ := hw
  refine qx_getI X qcls12 g6 48 (by decide) rfl wf_M_318 d_M_lawTells_140 ?_
  refine qx_if_eq X 150 d_M_lawTells_143 (by decide) (fun q7 => ?_) (fun q7 => ?_)
  · have hw := hw.1 q7
    refine qx_iload (x := r4) X d_M_lawTells_150 0 rfl ?_
    exact qx_iret X hw (Nat.le_refl 0) (Nat.le_refl 0) rfl d_M_lawTells_152
  · have hw := hw.2 q7
    refine qx_iconst (v := (0 : Int32)) X d_M_lawTells_146 (by decide) ?_
    refine qx_goto X 152 d_M_lawTells_147 (by decide) ?_
    exact qx_iret X hw (Nat.le_refl 0) (Nat.le_refl 0) rfl d_M_lawTells_152
set_option maxRecDepth 4000 in
theorem t_M_lawTells {adK adV : Nat → Nat} (l : Launch) (D : va_G) (cy : Nat → ClassId) (b : Nat) (N : Nat) (x0 : Nat) (x1 : Int32) (x2 : Int32) (h : qH) (Q : Int32 → qH → Prop) (hw : w_M_lawTells N x0 x1 x2 h Q) : Met l y_M_lawTells (Cond.code y_M_lawTells prog_14_method_53_code 7 (some .int) :: qT) (qrm 1 0 0 27) (qPc D cy b adK adV h [qr b x0, .int x1, .int x2]) (qQc D cy b qrI Q) 0 0 (qA b) := by
  refine qmet (L0 := [(0, .inr (.inr (.inl x0))), (1, .inl x1), (2, .inl x2)]) qm_M_lawTells (plainFor_of_name (by decide)) [.inr (.inr (.inl x0)), .inl x1, .inl x2] rfl (Nat.le_of_ble_eq_true rfl) rfl (fun p e s m args below meth c X => ?_)
  unfold w_M_lawTells at hw
  refine qx_iconst (v := (4 : Int32)) X d_M_lawTells_0 (by decide) ?_
  refine qx_aload_n (x := x0) X d_M_lawTells_1 rfl 0 rfl ?_
  obtain ⟨g1, hw⟩ := hw
  refine qx_getI X qcls12 g1 18 (by decide) rfl wf_M_245 d_M_lawTells_2 ?_
  refine qx_imul X d_M_lawTells_5 ?_
  refine qx_iload_n (x := x1) X d_M_lawTells_6 rfl 1 rfl ?_
  refine qx_iadd X d_M_lawTells_7 ?_
  refine qx_topi (fun y2 ey2 => ?_)
  have hw := hw y2 ey2
  refine qx_istore_n (L' := [(3, .inl y2), (0, .inr (.inr (.inl x0))), (1, .inl x1), (2, .inl x2)]) X d_M_lawTells_8 rfl (by decide) rfl ?_
  refine qx_aload_n (x := x0) X d_M_lawTells_9 rfl 1 rfl ?_
  refine qx_getR X qcls12 g1 33 (by decide) rfl wf_M_76 d_M_lawTells_10 ?_
  refine qx_iload_n (x := y2) X d_M_lawTells_13 rfl 0 rfl ?_
  obtain ⟨g3, hw⟩ := hw
  refine qx_ild X g3 d_M_lawTells_14 ?_
  refine qx_aload_n (x := x0) X d_M_lawTells_15 rfl 1 rfl ?_
  refine qx_getR X qcls12 g1 34 (by decide) rfl wf_M_79 d_M_lawTells_16 ?_
  refine qx_iload_n (x := y2) X d_M_lawTells_19 rfl 0 rfl ?_
  obtain ⟨g4, hw⟩ := hw
  refine qx_ild X g4 d_M_lawTells_20 ?_
  refine qx_icmp_ne X 26 d_M_lawTells_21 (by decide) (fun q5 => ?_) (fun q5 => ?_)
  · have hw := hw.1 q5
    refine qx_aload_n (x := x0) X d_M_lawTells_26 rfl 1 rfl ?_
    refine qx_iconst (v := (0 : Int32)) X d_M_lawTells_27 (by decide) ?_
    obtain ⟨g6, hw⟩ := hw
    refine qx_putI X qcls12 g1 48 (by decide) rfl wf_M_318 rfl (qzb_nar g6) (qzb_fit g6) d_M_lawTells_28 ?_
    refine qx_toph (fun h7 eh7 => ?_)
    have hw := hw h7 eh7
    refine qx_aload_n (x := x0) X d_M_lawTells_31 rfl 1 rfl ?_
    obtain ⟨g8, hw⟩ := hw
    refine qx_getR X qcls12 g8 33 (by decide) rfl wf_M_76 d_M_lawTells_32 ?_
    refine qx_iload_n (x := y2) X d_M_lawTells_35 rfl 0 rfl ?_
    obtain ⟨g9, hw⟩ := hw
    refine qx_ild X g9 d_M_lawTells_36 ?_
    refine qx_topi (fun y10 ey10 => ?_)
    have hw := hw y10 ey10
    refine qx_istore (L' := [(4, .inl y10), (3, .inl y2), (0, .inr (.inr (.inl x0))), (1, .inl x1), (2, .inl x2)]) X d_M_lawTells_37 (by decide) rfl ?_
    refine qx_sub [2, 1, 0] rfl ?_
    refine t_M_lawTells_39 X N N x0 y2 y10 h7 Q _ hw (fun x11 x12 h13 hw => ?_)
    exact t_M_lawTells_119 X N x11 x12 h13 Q  hw 
  · have hw := hw.2 q5
    refine qx_iload_n (x := x2) X d_M_lawTells_24 rfl 3 rfl ?_
    exact qx_iret X hw (Nat.le_refl 0) (Nat.le_refl 0) rfl d_M_lawTells_25
set_option maxRecDepth 4000 in
theorem t_M_besideOf {adK adV : Nat → Nat} (l : Launch) (D : va_G) (cy : Nat → ClassId) (b : Nat) (N : Nat) (x0 : Nat) (x1 : Int32) (h : qH) (Q : Int32 → qH → Prop) (hw : w_M_besideOf N x0 x1 h Q) : Met l y_M_besideOf (Cond.code y_M_besideOf prog_14_method_54_code 2 (some .int) :: qT) (qrm 2 0 0 44) (qPc D cy b adK adV h [qr b x0, .int x1]) (qQc D cy b qrI Q) 0 0 (qA b) := by
  refine qmet (L0 := [(0, .inr (.inr (.inl x0))), (1, .inl x1)]) qm_M_besideOf (plainFor_of_name (by decide)) [.inr (.inr (.inl x0)), .inl x1] rfl (Nat.le_of_ble_eq_true rfl) rfl (fun p e s m args below meth c X => ?_)
  unfold w_M_besideOf at hw
  refine qx_aload_n (x := x0) X d_M_besideOf_0 rfl 0 rfl ?_
  refine qx_iload_n (x := x1) X d_M_besideOf_1 rfl 1 rfl ?_
  obtain ⟨g1, hw⟩ := hw
  refine qx_callVI (st := []) (As := [.int x1]) X (t_M_isUp (adK := adK) (adV := adV) l D cy b N x0 x1 h _ hw) qm_M_isUp wm_M_342 wi_M_isUp wl_M_isUp qcls12 g1 rfl rfl rfl ⟨Nat.le_of_ble_eq_true rfl, Nat.le_of_ble_eq_true rfl⟩ ⟨Nat.le_refl 0, Nat.le_refl 0⟩ (Nat.le_of_ble_eq_true rfl) rfl d_M_besideOf_2 (fun r2 h3 hw => ?_)
  refine qx_if_eq X 30 d_M_besideOf_5 (by decide) (fun q4 => ?_) (fun q4 => ?_)
  · have hw := hw.1 q4
    refine qx_iconst (v := (0 : Int32)) X d_M_besideOf_30 (by decide) ?_
    exact qx_iret X hw (Nat.le_refl 0) (Nat.le_refl 0) rfl d_M_besideOf_31
  · have hw := hw.2 q4
    refine qx_aload_n (x := x0) X d_M_besideOf_8 rfl 0 rfl ?_
    refine qx_aload_n (x := x0) X d_M_besideOf_9 rfl 0 rfl ?_
    refine qx_aload_n (x := x0) X d_M_besideOf_10 rfl 0 rfl ?_
    obtain ⟨g5, hw⟩ := hw
    refine qx_getR X qcls12 g5 50 (by decide) rfl wf_M_116 d_M_besideOf_11 ?_
    refine qx_bipush (v := (6 : Int32)) X d_M_besideOf_14 (by decide) ?_
    refine qx_iload_n (x := x1) X d_M_besideOf_16 rfl 1 rfl ?_
    refine qx_iadd X d_M_besideOf_17 ?_
    obtain ⟨g6, hw⟩ := hw
    refine qx_ild X g6 d_M_besideOf_18 ?_
    refine qx_callVI (st := [qr b x0]) (As := [.int (qI h3 (qR h3 x0 50) (((6 : Int32) + x1)).toNatClampNeg)]) X (t_M_nailAt (adK := adK) (adV := adV) l D cy b N x0 (qI h3 (qR h3 x0 50) (((6 : Int32) + x1)).toNatClampNeg) h3 _ hw) qm_M_nailAt wm_M_345 wi_M_nailAt wl_M_nailAt qcls12 g5 rfl rfl rfl ⟨Nat.le_of_ble_eq_true rfl, Nat.le_of_ble_eq_true rfl⟩ ⟨Nat.le_refl 0, Nat.le_refl 0⟩ (Nat.le_of_ble_eq_true rfl) rfl d_M_besideOf_19 (fun r7 h8 hw => ?_)
    obtain ⟨g9, hw⟩ := hw
    refine qx_callVI (st := []) (As := [.int r7]) X (t_M_manyOn (adK := adK) (adV := adV) l D cy b N x0 r7 h8 _ hw) qm_M_manyOn wm_M_354 wi_M_manyOn wl_M_manyOn qcls12 g9 rfl rfl rfl ⟨Nat.le_of_ble_eq_true rfl, Nat.le_of_ble_eq_true rfl⟩ ⟨Nat.le_refl 0, Nat.le_refl 0⟩ (Nat.le_of_ble_eq_true rfl) rfl d_M_besideOf_22 (fun r10 h11 hw => ?_)
    refine qx_iconst (v := (1 : Int32)) X d_M_besideOf_25 (by decide) ?_
    refine qx_isub X d_M_besideOf_26 ?_
    refine qx_goto X 31 d_M_besideOf_27 (by decide) ?_
    exact qx_iret X hw (Nat.le_refl 0) (Nat.le_refl 0) rfl d_M_besideOf_31
set_option maxRecDepth 4000 in
theorem t_M_toldOf_30 (X : qX p s m args meth c D cy b adK adV prog_14_method_55_code "CoatHangersModel" 3 (some .int) "toldOf") (N : Nat) (x0 : Nat) (x2 : Int32) (z0 : Int32) (z1 : Nat) (h : qH) (Q : Int32 → qH → Prop)  (hw : w_M_toldOf_30 N x0 x2 z0 z1 h Q ) : qW p l e (qrm 3 0 0 65) s m args below meth c D cy b 3 0 0 (MQ below (qQc D cy b qrI Q) args s 0 0 (qA b)) 30 [(0, .inr (.inr (.inl x0))), (2, .inl x2)] [.int z0, qr b z1] h := by
  unfold w_M_toldOf_30 at hw
  refine qx_aload_n (x := x0) X d_M_toldOf_30 rfl 0 rfl ?_
  obtain ⟨g1, hw⟩ := hw
  refine qx_getR X qcls12 g1 46 (by decide) rfl wf_M_107 d_M_toldOf_31 ?_
  refine qx_iconst (v := (0 : Int32)) X d_M_toldOf_34 (by decide) ?_
  obtain ⟨g2, hw⟩ := hw
  refine qx_ild X g2 d_M_toldOf_35 ?_
  refine qx_goto X 40 d_M_toldOf_36 (by decide) ?_
  obtain ⟨g3, hw⟩ := hw
  refine qx_callVI (st := []) (As := [.int z0, .int (qI h (qR h x0 46) ((0 : Int32)).toNatClampNeg)]) X (t_M_lawTells (adK := adK) (adV := adV) l D cy b N z1 z0 (qI h (qR h x0 46) ((0 : Int32)).toNatClampNeg) h _ hw) qm_M_lawTells wm_M_364 wi_M_lawTells wl_M_lawTells qcls12 g3 rfl rfl rfl ⟨Nat.le_of_ble_eq_true rfl, Nat.le_of_ble_eq_true rfl⟩ ⟨Nat.le_refl 0, Nat.le_refl 0⟩ (Nat.le_of_ble_eq_true rfl) rfl d_M_toldOf_40 (fun r4 h5 hw => ?_)
  refine qx_iconst (v := (0 : Int32)) X d_M_toldOf_43 (by decide) ?_
  refine qx_iload_n (x := x2) X d_M_toldOf_44 rfl 1 rfl ?_
  refine qx_iconst (v := (2 : Int32)) X d_M_toldOf_45 (by decide) ?_
  refine qx_icmp_ne X 54 d_M_toldOf_46 (by decide) (fun q6 => ?_) (fun q6 => ?_)
  · have hw := hw.1 q6
    refine qx_bipush (v := (99 : Int32)) X d_M_toldOf_54 (by decide) ?_
    refine qx_callSI (st := []) (As := [.int r4, .int (0 : Int32), .int (99 : Int32)]) X (t_M_within (adK := adK) (adV := adV) l D cy b N r4 (0 : Int32) (99 : Int32) h5 _ hw) qm_M_within wm_M_367 wi_M_within rfl rfl rfl ⟨Nat.le_of_ble_eq_true rfl, Nat.le_of_ble_eq_true rfl⟩ ⟨Nat.le_refl 0, Nat.le_refl 0⟩ (Nat.le_of_ble_eq_true rfl) rfl d_M_toldOf_56 (fun r7 h8 hw => ?_)
    exact qx_iret X hw (Nat.le_refl 0) (Nat.le_refl 0) rfl d_M_toldOf_59
  · have hw := hw.2 q6
    refine qx_bipush (v := (100 : Int32)) X d_M_toldOf_49 (by decide) ?_
    refine qx_goto X 56 d_M_toldOf_51 (by decide) ?_
    refine qx_callSI (st := []) (As := [.int r4, .int (0 : Int32), .int (100 : Int32)]) X (t_M_within (adK := adK) (adV := adV) l D cy b N r4 (0 : Int32) (100 : Int32) h5 _ hw) qm_M_within wm_M_367 wi_M_within rfl rfl rfl ⟨Nat.le_of_ble_eq_true rfl, Nat.le_of_ble_eq_true rfl⟩ ⟨Nat.le_refl 0, Nat.le_refl 0⟩ (Nat.le_of_ble_eq_true rfl) rfl d_M_toldOf_56 (fun r9 h10 hw => ?_)
    exact qx_iret X hw (Nat.le_refl 0) (Nat.le_refl 0) rfl d_M_toldOf_59
set_option maxRecDepth 4000 in
theorem t_M_toldOf {adK adV : Nat → Nat} (l : Launch) (D : va_G) (cy : Nat → ClassId) (b : Nat) (N : Nat) (x0 : Nat) (x1 : Int32) (x2 : Int32) (h : qH) (Q : Int32 → qH → Prop) (hw : w_M_toldOf N x0 x1 x2 h Q) : Met l y_M_toldOf (Cond.code y_M_toldOf prog_14_method_55_code 3 (some .int) :: qT) (qrm 3 0 0 65) (qPc D cy b adK adV h [qr b x0, .int x1, .int x2]) (qQc D cy b qrI Q) 0 0 (qA b) := by
  refine qmet (L0 := [(0, .inr (.inr (.inl x0))), (1, .inl x1), (2, .inl x2)]) qm_M_toldOf (plainFor_of_name (by decide)) [.inr (.inr (.inl x0)), .inl x1, .inl x2] rfl (Nat.le_of_ble_eq_true rfl) rfl (fun p e s m args below meth c X => ?_)
  unfold w_M_toldOf at hw
  refine qx_aload_n (x := x0) X d_M_toldOf_0 rfl 0 rfl ?_
  refine qx_iload_n (x := x1) X d_M_toldOf_1 rfl 1 rfl ?_
  refine qx_aload_n (x := x0) X d_M_toldOf_2 rfl 0 rfl ?_
  obtain ⟨g1, hw⟩ := hw
  refine qx_getR X qcls12 g1 50 (by decide) rfl wf_M_116 d_M_toldOf_3 ?_
  refine qx_bipush (v := (6 : Int32)) X d_M_toldOf_6 (by decide) ?_
  refine qx_iload_n (x := x1) X d_M_toldOf_8 rfl 1 rfl ?_
  refine qx_iadd X d_M_toldOf_9 ?_
  obtain ⟨g2, hw⟩ := hw
  refine qx_ild X g2 d_M_toldOf_10 ?_
  refine qx_aload_n (x := x0) X d_M_toldOf_11 rfl 0 rfl ?_
  refine qx_iload_n (x := x1) X d_M_toldOf_12 rfl 1 rfl ?_
  refine qx_callVI (st := [.int (qI h (qR h x0 50) (((6 : Int32) + x1)).toNatClampNeg), .int x1, qr b x0]) (As := [.int x1]) X (t_M_besideOf (adK := adK) (adV := adV) l D cy b N x0 x1 h _ hw) qm_M_besideOf wm_M_357 wi_M_besideOf wl_M_besideOf qcls12 g1 rfl rfl rfl ⟨Nat.le_of_ble_eq_true rfl, Nat.le_of_ble_eq_true rfl⟩ ⟨Nat.le_refl 0, Nat.le_refl 0⟩ (Nat.le_of_ble_eq_true rfl) rfl d_M_toldOf_13 (fun r3 h4 hw => ?_)
  obtain ⟨g5, hw⟩ := hw
  refine qx_callVV (st := []) (As := [.int x1, .int (qI h (qR h x0 50) (((6 : Int32) + x1)).toNatClampNeg), .int r3]) X (t_M_looks (adK := adK) (adV := adV) l D cy b N x0 x1 (qI h (qR h x0 50) (((6 : Int32) + x1)).toNatClampNeg) r3 h4 _ hw) qm_M_looks wm_M_360 wi_M_looks wl_M_looks qcls12 g5 rfl rfl rfl ⟨Nat.le_of_ble_eq_true rfl, Nat.le_of_ble_eq_true rfl⟩ ⟨Nat.le_refl 0, Nat.le_refl 0⟩ (Nat.le_of_ble_eq_true rfl) rfl d_M_toldOf_16 (fun h6 hw => ?_)
  refine qx_aload_n (x := x0) X d_M_toldOf_19 rfl 0 rfl ?_
  refine qx_iload_n (x := x2) X d_M_toldOf_20 rfl 2 rfl ?_
  refine qx_iload_n (x := x2) X d_M_toldOf_21 rfl 2 rfl ?_
  refine qx_if_eq X 30 d_M_toldOf_22 (by decide) (fun q7 => ?_) (fun q7 => ?_)
  · have hw := hw.1 q7
    refine qx_sub [0, 2] rfl ?_
    exact t_M_toldOf_30 X N x0 x2 x2 x0 h6 Q  hw 
  · have hw := hw.2 q7
    refine qx_iload_n (x := x2) X d_M_toldOf_25 rfl 2 rfl ?_
    refine qx_iconst (v := (3 : Int32)) X d_M_toldOf_26 (by decide) ?_
    refine qx_icmp_ne X 39 d_M_toldOf_27 (by decide) (fun q8 => ?_) (fun q8 => ?_)
    · have hw := hw.1 q8
      refine qx_iconst (v := (0 : Int32)) X d_M_toldOf_39 (by decide) ?_
      obtain ⟨g9, hw⟩ := hw
      refine qx_callVI (st := []) (As := [.int x2, .int (0 : Int32)]) X (t_M_lawTells (adK := adK) (adV := adV) l D cy b N x0 x2 (0 : Int32) h6 _ hw) qm_M_lawTells wm_M_364 wi_M_lawTells wl_M_lawTells qcls12 g9 rfl rfl rfl ⟨Nat.le_of_ble_eq_true rfl, Nat.le_of_ble_eq_true rfl⟩ ⟨Nat.le_refl 0, Nat.le_refl 0⟩ (Nat.le_of_ble_eq_true rfl) rfl d_M_toldOf_40 (fun r10 h11 hw => ?_)
      refine qx_iconst (v := (0 : Int32)) X d_M_toldOf_43 (by decide) ?_
      refine qx_iload_n (x := x2) X d_M_toldOf_44 rfl 2 rfl ?_
      refine qx_iconst (v := (2 : Int32)) X d_M_toldOf_45 (by decide) ?_
      refine qx_icmp_ne X 54 d_M_toldOf_46 (by decide) (fun q12 => ?_) (fun q12 => ?_)
      · have hw := hw.1 q12
        refine qx_bipush (v := (99 : Int32)) X d_M_toldOf_54 (by decide) ?_
        refine qx_callSI (st := []) (As := [.int r10, .int (0 : Int32), .int (99 : Int32)]) X (t_M_within (adK := adK) (adV := adV) l D cy b N r10 (0 : Int32) (99 : Int32) h11 _ hw) qm_M_within wm_M_367 wi_M_within rfl rfl rfl ⟨Nat.le_of_ble_eq_true rfl, Nat.le_of_ble_eq_true rfl⟩ ⟨Nat.le_refl 0, Nat.le_refl 0⟩ (Nat.le_of_ble_eq_true rfl) rfl d_M_toldOf_56 (fun r13 h14 hw => ?_)
        exact qx_iret X hw (Nat.le_refl 0) (Nat.le_refl 0) rfl d_M_toldOf_59
      · have hw := hw.2 q12
        refine qx_bipush (v := (100 : Int32)) X d_M_toldOf_49 (by decide) ?_
        refine qx_goto X 56 d_M_toldOf_51 (by decide) ?_
        refine qx_callSI (st := []) (As := [.int r10, .int (0 : Int32), .int (100 : Int32)]) X (t_M_within (adK := adK) (adV := adV) l D cy b N r10 (0 : Int32) (100 : Int32) h11 _ hw) qm_M_within wm_M_367 wi_M_within rfl rfl rfl ⟨Nat.le_of_ble_eq_true rfl, Nat.le_of_ble_eq_true rfl⟩ ⟨Nat.le_refl 0, Nat.le_refl 0⟩ (Nat.le_of_ble_eq_true rfl) rfl d_M_toldOf_56 (fun r15 h16 hw => ?_)
        exact qx_iret X hw (Nat.le_refl 0) (Nat.le_refl 0) rfl d_M_toldOf_59
    · have hw := hw.2 q8
      refine qx_sub [0, 2] rfl ?_
      exact t_M_toldOf_30 X N x0 x2 x2 x0 h6 Q  hw 
set_option maxRecDepth 4000 in
theorem t_M_costsAt {adK adV : Nat → Nat} (l : Launch) (D : va_G) (cy : Nat → ClassId) (b : Nat) (N : Nat) (x0 : Nat) (x1 : Int32) (x2 : Int32) (h : qH) (Q : Int32 → qH → Prop) (hw : w_M_costsAt N x0 x1 x2 h Q) : Met l y_M_costsAt (Cond.code y_M_costsAt prog_14_method_56_code 3 (some .int) :: qT) (qrm 2 0 0 53) (qPc D cy b adK adV h [qr b x0, .int x1, .int x2]) (qQc D cy b qrI Q) 0 0 (qA b) := by
  refine qmet (L0 := [(0, .inr (.inr (.inl x0))), (1, .inl x1), (2, .inl x2)]) qm_M_costsAt (plainFor_of_name (by decide)) [.inr (.inr (.inl x0)), .inl x1, .inl x2] rfl (Nat.le_of_ble_eq_true rfl) rfl (fun p e s m args below meth c X => ?_)
  unfold w_M_costsAt at hw
  refine qx_aload_n (x := x0) X d_M_costsAt_0 rfl 0 rfl ?_
  refine qx_iload_n (x := x1) X d_M_costsAt_1 rfl 1 rfl ?_
  refine qx_iload_n (x := x2) X d_M_costsAt_2 rfl 2 rfl ?_
  refine qx_iconst (v := (0 : Int32)) X d_M_costsAt_3 (by decide) ?_
  obtain ⟨g1, hw⟩ := hw
  refine qx_callVV (st := []) (As := [.int x1, .int x2, .int (0 : Int32)]) X (t_M_looks (adK := adK) (adV := adV) l D cy b N x0 x1 x2 (0 : Int32) h _ hw) qm_M_looks wm_M_360 wi_M_looks wl_M_looks qcls12 g1 rfl rfl rfl ⟨Nat.le_of_ble_eq_true rfl, Nat.le_of_ble_eq_true rfl⟩ ⟨Nat.le_refl 0, Nat.le_refl 0⟩ (Nat.le_of_ble_eq_true rfl) rfl d_M_costsAt_4 (fun h2 hw => ?_)
  refine qx_aload_n (x := x0) X d_M_costsAt_7 rfl 0 rfl ?_
  refine qx_iconst (v := (3 : Int32)) X d_M_costsAt_8 (by decide) ?_
  refine qx_aload_n (x := x0) X d_M_costsAt_9 rfl 0 rfl ?_
  obtain ⟨g3, hw⟩ := hw
  refine qx_getR X qcls12 g3 46 (by decide) rfl wf_M_107 d_M_costsAt_10 ?_
  refine qx_iconst (v := (0 : Int32)) X d_M_costsAt_13 (by decide) ?_
  obtain ⟨g4, hw⟩ := hw
  refine qx_ild X g4 d_M_costsAt_14 ?_
  refine qx_callVI (st := []) (As := [.int (3 : Int32), .int (qI h2 (qR h2 x0 46) ((0 : Int32)).toNatClampNeg)]) X (t_M_lawTells (adK := adK) (adV := adV) l D cy b N x0 (3 : Int32) (qI h2 (qR h2 x0 46) ((0 : Int32)).toNatClampNeg) h2 _ hw) qm_M_lawTells wm_M_364 wi_M_lawTells wl_M_lawTells qcls12 g3 rfl rfl rfl ⟨Nat.le_of_ble_eq_true rfl, Nat.le_of_ble_eq_true rfl⟩ ⟨Nat.le_refl 0, Nat.le_refl 0⟩ (Nat.le_of_ble_eq_true rfl) rfl d_M_costsAt_15 (fun r5 h6 hw => ?_)
  refine qx_iconst (v := (0 : Int32)) X d_M_costsAt_18 (by decide) ?_
  refine qx_bipush (v := (99 : Int32)) X d_M_costsAt_19 (by decide) ?_
  refine qx_callSI (st := []) (As := [.int r5, .int (0 : Int32), .int (99 : Int32)]) X (t_M_within (adK := adK) (adV := adV) l D cy b N r5 (0 : Int32) (99 : Int32) h6 _ hw) qm_M_within wm_M_367 wi_M_within rfl rfl rfl ⟨Nat.le_of_ble_eq_true rfl, Nat.le_of_ble_eq_true rfl⟩ ⟨Nat.le_refl 0, Nat.le_refl 0⟩ (Nat.le_of_ble_eq_true rfl) rfl d_M_costsAt_21 (fun r7 h8 hw => ?_)
  exact qx_iret X hw (Nat.le_refl 0) (Nat.le_refl 0) rfl d_M_costsAt_24
set_option maxRecDepth 4000 in
theorem t_M_costsAll_4 (X : qX p s m args meth c D cy b adK adV prog_14_method_57_code "CoatHangersModel" 3 (some .int) "costsAll") (N k : Nat) (x0 : Nat) (x1 : Int32) (x2 : Int32) (h : qH) (Q : Int32 → qH → Prop)  (hw : w_M_costsAll_4 N k x0 x1 x2 h Q ) : qW p l e (qrm 4 0 0 87) s m args below meth c D cy b 3 0 0 (MQ below (qQc D cy b qrI Q) args s 0 0 (qA b)) 4 [(0, .inr (.inr (.inl x0))), (1, .inl x1), (2, .inl x2)] [] h := by
  induction k generalizing x0 x1 x2 h with
  | zero => exact hw.elim
  | succ k ih =>
    refine qx_iload_n (x := x2) X d_M_costsAll_4 rfl 2 rfl ?_
    refine qx_aload_n (x := x0) X d_M_costsAll_5 rfl 0 rfl ?_
    obtain ⟨g1, hw⟩ := hw
    refine qx_getR X qcls12 g1 26 (by decide) rfl wf_M_55 d_M_costsAll_6 ?_
    refine qx_aload_n (x := x0) X d_M_costsAll_9 rfl 0 rfl ?_
    refine qx_getI X qcls12 g1 18 (by decide) rfl wf_M_245 d_M_costsAll_10 ?_
    obtain ⟨g2, hw⟩ := hw
    refine qx_ild X g2 d_M_costsAll_13 ?_
    refine qx_icmp_ge X 40 d_M_costsAll_14 (by decide) (fun q3 => ?_) (fun q3 => ?_)
    · have hw := hw.1 q3
      refine qx_iload_n (x := x1) X d_M_costsAll_40 rfl 1 rfl ?_
      exact qx_iret X hw (Nat.le_refl 0) (Nat.le_refl 0) rfl d_M_costsAll_41
    · have hw := hw.2 q3
      refine qx_aload_n (x := x0) X d_M_costsAll_17 rfl 0 rfl ?_
      refine qx_iload_n (x := x2) X d_M_costsAll_18 rfl 2 rfl ?_
      refine qx_callVI (st := []) (As := [.int x2]) X (t_M_isUp (adK := adK) (adV := adV) l D cy b N x0 x2 h _ hw) qm_M_isUp wm_M_342 wi_M_isUp wl_M_isUp qcls12 g1 rfl rfl rfl ⟨Nat.le_of_ble_eq_true rfl, Nat.le_of_ble_eq_true rfl⟩ ⟨Nat.le_refl 0, Nat.le_refl 0⟩ (Nat.le_of_ble_eq_true rfl) rfl d_M_costsAll_19 (fun r4 h5 hw => ?_)
      refine qx_if_eq X 34 d_M_costsAll_22 (by decide) (fun q6 => ?_) (fun q6 => ?_)
      · have hw := hw.1 q6
        refine qx_iinc (v := (x2 + (1 : Int32))) (L' := [(2, .inl (x2 + (1 : Int32))), (0, .inr (.inr (.inl x0))), (1, .inl x1)]) X d_M_costsAll_34 2 rfl rfl (by decide) rfl ?_
        refine qx_goto X 4 d_M_costsAll_37 (by decide) ?_
        refine qx_sub [1, 2, 0] rfl ?_
        exact ih x0 x1 (x2 + (1 : Int32)) h5 hw
      · have hw := hw.2 q6
        refine qx_iload_n (x := x1) X d_M_costsAll_25 rfl 1 rfl ?_
        refine qx_aload_n (x := x0) X d_M_costsAll_26 rfl 0 rfl ?_
        refine qx_iload_n (x := x2) X d_M_costsAll_27 rfl 2 rfl ?_
        refine qx_iconst (v := (3 : Int32)) X d_M_costsAll_28 (by decide) ?_
        obtain ⟨g7, hw⟩ := hw
        refine qx_callVI (st := [.int x1]) (As := [.int x2, .int (3 : Int32)]) X (t_M_toldOf (adK := adK) (adV := adV) l D cy b N x0 x2 (3 : Int32) h5 _ hw) qm_M_toldOf wm_M_370 wi_M_toldOf wl_M_toldOf qcls12 g7 rfl rfl rfl ⟨Nat.le_of_ble_eq_true rfl, Nat.le_of_ble_eq_true rfl⟩ ⟨Nat.le_refl 0, Nat.le_refl 0⟩ (Nat.le_of_ble_eq_true rfl) rfl d_M_costsAll_29 (fun r8 h9 hw => ?_)
        refine qx_iadd X d_M_costsAll_32 ?_
        refine qx_topi (fun y10 ey10 => ?_)
        have hw := hw y10 ey10
        refine qx_istore_n (L' := [(1, .inl y10), (0, .inr (.inr (.inl x0))), (2, .inl x2)]) X d_M_costsAll_33 rfl (by decide) rfl ?_
        refine qx_iinc (v := (x2 + (1 : Int32))) (L' := [(2, .inl (x2 + (1 : Int32))), (1, .inl y10), (0, .inr (.inr (.inl x0)))]) X d_M_costsAll_34 2 rfl rfl (by decide) rfl ?_
        refine qx_goto X 4 d_M_costsAll_37 (by decide) ?_
        refine qx_sub [2, 1, 0] rfl ?_
        exact ih x0 y10 (x2 + (1 : Int32)) h9 hw
set_option maxRecDepth 4000 in
theorem t_M_costsAll {adK adV : Nat → Nat} (l : Launch) (D : va_G) (cy : Nat → ClassId) (b : Nat) (N : Nat) (x0 : Nat) (h : qH) (Q : Int32 → qH → Prop) (hw : w_M_costsAll N x0 h Q) : Met l y_M_costsAll (Cond.code y_M_costsAll prog_14_method_57_code 3 (some .int) :: qT) (qrm 4 0 0 87) (qPc D cy b adK adV h [qr b x0]) (qQc D cy b qrI Q) 0 0 (qA b) := by
  refine qmet (L0 := [(0, .inr (.inr (.inl x0)))]) qm_M_costsAll (plainFor_of_name (by decide)) [.inr (.inr (.inl x0))] rfl (Nat.le_of_ble_eq_true rfl) rfl (fun p e s m args below meth c X => ?_)
  unfold w_M_costsAll at hw
  refine qx_iconst (v := (0 : Int32)) X d_M_costsAll_0 (by decide) ?_
  refine qx_istore_n (L' := [(1, .inl (0 : Int32)), (0, .inr (.inr (.inl x0)))]) X d_M_costsAll_1 rfl (by decide) rfl ?_
  refine qx_iconst (v := (0 : Int32)) X d_M_costsAll_2 (by decide) ?_
  refine qx_istore_n (L' := [(2, .inl (0 : Int32)), (1, .inl (0 : Int32)), (0, .inr (.inr (.inl x0)))]) X d_M_costsAll_3 rfl (by decide) rfl ?_
  refine qx_sub [2, 1, 0] rfl ?_
  exact t_M_costsAll_4 X N N x0 (0 : Int32) (0 : Int32) h Q  hw 
end QG
