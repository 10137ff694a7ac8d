/-! the reference, part 1: written by wip/whole/emit.py out of the bytecode -/
def y_M_roomFor : MethodName := ⟨"CoatHangersModel", "roomFor", "(II)V"⟩
theorem qm_M_roomFor : qMt y_M_roomFor prog_14_method_22_code 3 (none) 2 := ⟨qT_7 (i := 67) (by decide +kernel) rfl, qT_1 (i := 17) (by decide +kernel) rfl, by decide, by decide, by decide +kernel⟩
theorem wi_M_roomFor : Cond.instanceMethod y_M_roomFor ∈ qT := qT_7 (i := 66) (by decide +kernel) rfl
theorem wl_M_roomFor : Cond.selects y_M_roomFor.cls y_M_roomFor y_M_roomFor ∈ qT := qT_s (i := 63) (by decide +kernel) rfl
def y_M_known : MethodName := ⟨"CoatHangersModel", "known", "(I)I"⟩
theorem qm_M_known : qMt y_M_known prog_14_method_26_code 4 (some .int) 1 := ⟨qT_7 (i := 103) (by decide +kernel) rfl, qT_1 (i := 17) (by decide +kernel) rfl, by decide, by decide, by decide +kernel⟩
theorem wi_M_known : Cond.instanceMethod y_M_known ∈ qT := qT_7 (i := 102) (by decide +kernel) rfl
theorem wl_M_known : Cond.selects y_M_known.cls y_M_known y_M_known ∈ qT := qT_s (i := 72) (by decide +kernel) rfl
def y_M_tellHangs : MethodName := ⟨"CoatHangersModel", "tellHangs", "()V"⟩
theorem qm_M_tellHangs : qMt y_M_tellHangs prog_14_method_28_code 5 (none) 0 := ⟨qT_7 (i := 99) (by decide +kernel) rfl, qT_1 (i := 17) (by decide +kernel) rfl, by decide, by decide, by decide +kernel⟩
theorem wi_M_tellHangs : Cond.instanceMethod y_M_tellHangs ∈ qT := qT_7 (i := 98) (by decide +kernel) rfl
theorem wl_M_tellHangs : Cond.selects y_M_tellHangs.cls y_M_tellHangs y_M_tellHangs ∈ qT := qT_s (i := 71) (by decide +kernel) rfl
def y_M_emit : MethodName := ⟨"CoatHangersModel", "emit", "(II)V"⟩
theorem qm_M_emit : qMt y_M_emit prog_14_method_31_code 3 (none) 2 := ⟨qT_7 (i := 119) (by decide +kernel) rfl, qT_1 (i := 17) (by decide +kernel) rfl, by decide, by decide, by decide +kernel⟩
theorem wi_M_emit : Cond.instanceMethod y_M_emit ∈ qT := qT_7 (i := 118) (by decide +kernel) rfl
theorem wl_M_emit : Cond.selects y_M_emit.cls y_M_emit y_M_emit ∈ qT := qT_s (i := 76) (by decide +kernel) rfl
def y_M_comesOut : MethodName := ⟨"CoatHangersModel", "comesOut", "(Z)V"⟩
theorem qm_M_comesOut : qMt y_M_comesOut prog_14_method_32_code 3 (none) 1 := ⟨qT_7 (i := 123) (by decide +kernel) rfl, qT_1 (i := 17) (by decide +kernel) rfl, by decide, by decide, by decide +kernel⟩
theorem wi_M_comesOut : Cond.instanceMethod y_M_comesOut ∈ qT := qT_7 (i := 122) (by decide +kernel) rfl
theorem wl_M_comesOut : Cond.selects y_M_comesOut.cls y_M_comesOut y_M_comesOut ∈ qT := qT_s (i := 77) (by decide +kernel) rfl
def y_M_unit : MethodName := ⟨"CoatHangersModel", "unit", "()V"⟩
theorem qm_M_unit : qMt y_M_unit prog_14_method_34_code 1 (none) 0 := ⟨qT_7 (i := 115) (by decide +kernel) rfl, qT_1 (i := 17) (by decide +kernel) rfl, by decide, by decide, by decide +kernel⟩
theorem wi_M_unit : Cond.instanceMethod y_M_unit ∈ qT := qT_7 (i := 114) (by decide +kernel) rfl
theorem wl_M_unit : Cond.selects y_M_unit.cls y_M_unit y_M_unit ∈ qT := qT_s (i := 75) (by decide +kernel) rfl
def y_M_expression : MethodName := ⟨"CoatHangersModel", "expression", "()V"⟩
theorem qm_M_expression : qMt y_M_expression prog_14_method_33_code 3 (none) 0 := ⟨qT_7 (i := 111) (by decide +kernel) rfl, qT_1 (i := 17) (by decide +kernel) rfl, by decide, by decide, by decide +kernel⟩
theorem wi_M_expression : Cond.instanceMethod y_M_expression ∈ qT := qT_7 (i := 110) (by decide +kernel) rfl
theorem wl_M_expression : Cond.selects y_M_expression.cls y_M_expression y_M_expression ∈ qT := qT_s (i := 74) (by decide +kernel) rfl
def y_M_term : MethodName := ⟨"CoatHangersModel", "term", "()V"⟩
theorem qm_M_term : qMt y_M_term prog_14_method_30_code 1 (none) 0 := ⟨qT_7 (i := 127) (by decide +kernel) rfl, qT_1 (i := 17) (by decide +kernel) rfl, by decide, by decide, by decide +kernel⟩
theorem wi_M_term : Cond.instanceMethod y_M_term ∈ qT := qT_7 (i := 126) (by decide +kernel) rfl
theorem wl_M_term : Cond.selects y_M_term.cls y_M_term y_M_term ∈ qT := qT_s (i := 78) (by decide +kernel) rfl
def y_M_tellLaw : MethodName := ⟨"CoatHangersModel", "tellLaw", "(I)V"⟩
theorem qm_M_tellLaw : qMt y_M_tellLaw prog_14_method_29_code 4 (none) 1 := ⟨qT_7 (i := 107) (by decide +kernel) rfl, qT_1 (i := 17) (by decide +kernel) rfl, by decide, by decide, by decide +kernel⟩
theorem wi_M_tellLaw : Cond.instanceMethod y_M_tellLaw ∈ qT := qT_7 (i := 106) (by decide +kernel) rfl
theorem wl_M_tellLaw : Cond.selects y_M_tellLaw.cls y_M_tellLaw y_M_tellLaw ∈ qT := qT_s (i := 73) (by decide +kernel) rfl
def y_M_tellOne : MethodName := ⟨"CoatHangersModel", "tellOne", "()V"⟩
theorem qm_M_tellOne : qMt y_M_tellOne prog_14_method_23_code 3 (none) 0 := ⟨qT_7 (i := 63) (by decide +kernel) rfl, qT_1 (i := 17) (by decide +kernel) rfl, by decide, by decide, by decide +kernel⟩
theorem wi_M_tellOne : Cond.instanceMethod y_M_tellOne ∈ qT := qT_7 (i := 62) (by decide +kernel) rfl
theorem wl_M_tellOne : Cond.selects y_M_tellOne.cls y_M_tellOne y_M_tellOne ∈ qT := qT_s (i := 62) (by decide +kernel) rfl
theorem wm_M_296 : Cond.methodLink "CoatHangersModel" 296 y_M_known ∈ qT := qT_7 (i := 100) (by decide +kernel) rfl
theorem wf_M_248 : Cond.fieldLink "CoatHangersModel" 248 "CoatHangersModel" "side" "I" ∈ qT := qT_6 (i := 63) (by decide +kernel) rfl
theorem wf_M_98 : Cond.fieldLink "CoatHangersModel" 98 "CoatHangersModel" "code" "[I" ∈ qT := qT_6 (i := 86) (by decide +kernel) rfl
theorem wf_M_257 : Cond.fieldLink "CoatHangersModel" 257 "CoatHangersModel" "codes" "I" ∈ qT := qT_6 (i := 85) (by decide +kernel) rfl
theorem wf_M_101 : Cond.fieldLink "CoatHangersModel" 101 "CoatHangersModel" "codeInt" "[I" ∈ qT := qT_6 (i := 87) (by decide +kernel) rfl
theorem wf_M_305 : Cond.fieldLink "CoatHangersModel" 305 "CoatHangersModel" "waiting" "I" ∈ qT := qT_6 (i := 89) (by decide +kernel) rfl
theorem wf_M_104 : Cond.fieldLink "CoatHangersModel" 104 "CoatHangersModel" "waits" "[I" ∈ qT := qT_6 (i := 88) (by decide +kernel) rfl
theorem wm_M_308 : Cond.methodLink "CoatHangersModel" 308 y_M_emit ∈ qT := qT_7 (i := 116) (by decide +kernel) rfl
theorem wf_M_242 : Cond.fieldLink "CoatHangersModel" 242 "CoatHangersModel" "open" "I" ∈ qT := qT_6 (i := 56) (by decide +kernel) rfl
theorem wm_M_311 : Cond.methodLink "CoatHangersModel" 311 y_M_unit ∈ qT := qT_7 (i := 112) (by decide +kernel) rfl
theorem wm_M_314 : Cond.methodLink "CoatHangersModel" 314 y_M_comesOut ∈ qT := qT_7 (i := 120) (by decide +kernel) rfl
theorem wf_M_92 : Cond.fieldLink "CoatHangersModel" 92 "CoatHangersModel" "testTo" "[I" ∈ qT := qT_6 (i := 83) (by decide +kernel) rfl
theorem wf_M_254 : Cond.fieldLink "CoatHangersModel" 254 "CoatHangersModel" "branches" "I" ∈ qT := qT_6 (i := 79) (by decide +kernel) rfl
theorem wf_M_95 : Cond.fieldLink "CoatHangersModel" 95 "CoatHangersModel" "termTo" "[I" ∈ qT := qT_6 (i := 84) (by decide +kernel) rfl
theorem wm_M_299 : Cond.methodLink "CoatHangersModel" 299 y_M_expression ∈ qT := qT_7 (i := 108) (by decide +kernel) rfl
theorem wf_M_82 : Cond.fieldLink "CoatHangersModel" 82 "CoatHangersModel" "hasTest" "[Z" ∈ qT := qT_6 (i := 80) (by decide +kernel) rfl
theorem wf_M_86 : Cond.fieldLink "CoatHangersModel" 86 "CoatHangersModel" "testFrom" "[I" ∈ qT := qT_6 (i := 81) (by decide +kernel) rfl
theorem wf_M_89 : Cond.fieldLink "CoatHangersModel" 89 "CoatHangersModel" "testMid" "[I" ∈ qT := qT_6 (i := 82) (by decide +kernel) rfl
theorem wm_M_302 : Cond.methodLink "CoatHangersModel" 302 y_M_term ∈ qT := qT_7 (i := 124) (by decide +kernel) rfl
theorem wm_M_269 : Cond.methodLink "CoatHangersModel" 269 y_M_roomFor ∈ qT := qT_7 (i := 64) (by decide +kernel) rfl
theorem wm_M_273 : Cond.methodLink "CoatHangersModel" 273 y_M_named ∈ qT := qT_7 (i := 76) (by decide +kernel) rfl
theorem wf_M_49 : Cond.fieldLink "CoatHangersModel" 49 "CoatHangersModel" "nailOf" "[I" ∈ qT := qT_6 (i := 68) (by decide +kernel) rfl
theorem wm_M_277 : Cond.methodLink "CoatHangersModel" 277 y_M_bounded ∈ qT := qT_7 (i := 88) (by decide +kernel) rfl
theorem wf_M_52 : Cond.fieldLink "CoatHangersModel" 52 "CoatHangersModel" "wideOf" "[I" ∈ qT := qT_6 (i := 69) (by decide +kernel) rfl
theorem wm_M_281 : Cond.methodLink "CoatHangersModel" 281 y_M_endsName ∈ qT := qT_7 (i := 92) (by decide +kernel) rfl
theorem wf_M_61 : Cond.fieldLink "CoatHangersModel" 61 "CoatHangersModel" "rankOf" "[I" ∈ qT := qT_6 (i := 72) (by decide +kernel) rfl
theorem wm_M_284 : Cond.methodLink "CoatHangersModel" 284 y_M_tellHangs ∈ qT := qT_7 (i := 96) (by decide +kernel) rfl
theorem wm_M_290 : Cond.methodLink "CoatHangersModel" 290 y_M_tellLaw ∈ qT := qT_7 (i := 104) (by decide +kernel) rfl
theorem d_M_roomFor_0 : decode prog_14_method_22_code 0 = .ok (.iload_n 1, 1) := by decide +kernel
theorem d_M_roomFor_1 : decode prog_14_method_22_code 1 = .ok (.iload_n 2, 1) := by decide +kernel
theorem d_M_roomFor_2 : decode prog_14_method_22_code 2 = .ok (.if_icmp .ne 8, 3) := by decide +kernel
theorem d_M_roomFor_5 : decode prog_14_method_22_code 5 = .ok (.aload_n 0, 1) := by decide +kernel
theorem d_M_roomFor_6 : decode prog_14_method_22_code 6 = .ok (.iconst 2, 1) := by decide +kernel
theorem d_M_roomFor_7 : decode prog_14_method_22_code 7 = .ok (.invokevirtual 230, 3) := by decide +kernel
theorem d_M_roomFor_10 : decode prog_14_method_22_code 10 = .ok (.aload_n 0, 1) := by decide +kernel
theorem d_M_roomFor_11 : decode prog_14_method_22_code 11 = .ok (.getfield 215, 3) := by decide +kernel
theorem d_M_roomFor_14 : decode prog_14_method_22_code 14 = .ok (.ifCond .ne 7, 3) := by decide +kernel
theorem d_M_roomFor_17 : decode prog_14_method_22_code 17 = .ok (.aload_n 0, 1) := by decide +kernel
theorem d_M_roomFor_18 : decode prog_14_method_22_code 18 = .ok (.invokevirtual 236, 3) := by decide +kernel
theorem d_M_roomFor_21 : decode prog_14_method_22_code 21 = .ok (.return_, 1) := by decide +kernel
theorem d_M_known_0 : decode prog_14_method_26_code 0 = .ok (.aload_n 0, 1) := by decide +kernel
theorem d_M_known_1 : decode prog_14_method_26_code 1 = .ok (.getfield 218, 3) := by decide +kernel
theorem d_M_known_4 : decode prog_14_method_26_code 4 = .ok (.istore_n 2, 1) := by decide +kernel
theorem d_M_known_5 : decode prog_14_method_26_code 5 = .ok (.aload_n 0, 1) := by decide +kernel
theorem d_M_known_6 : decode prog_14_method_26_code 6 = .ok (.iconst 1, 1) := by decide +kernel
theorem d_M_known_7 : decode prog_14_method_26_code 7 = .ok (.invokevirtual 287, 3) := by decide +kernel
theorem d_M_known_10 : decode prog_14_method_26_code 10 = .ok (.aload_n 0, 1) := by decide +kernel
theorem d_M_known_11 : decode prog_14_method_26_code 11 = .ok (.getfield 215, 3) := by decide +kernel
theorem d_M_known_14 : decode prog_14_method_26_code 14 = .ok (.ifCond .le 5, 3) := by decide +kernel
theorem d_M_known_17 : decode prog_14_method_26_code 17 = .ok (.iconst (-1), 1) := by decide +kernel
theorem d_M_known_18 : decode prog_14_method_26_code 18 = .ok (.ireturn, 1) := by decide +kernel
theorem d_M_known_19 : decode prog_14_method_26_code 19 = .ok (.iconst 0, 1) := by decide +kernel
theorem d_M_known_20 : decode prog_14_method_26_code 20 = .ok (.istore_n 3, 1) := by decide +kernel
theorem d_M_known_21 : decode prog_14_method_26_code 21 = .ok (.iload_n 3, 1) := by decide +kernel
theorem d_M_known_22 : decode prog_14_method_26_code 22 = .ok (.aload_n 0, 1) := by decide +kernel
theorem d_M_known_23 : decode prog_14_method_26_code 23 = .ok (.getfield 251, 3) := by decide +kernel
theorem d_M_known_26 : decode prog_14_method_26_code 26 = .ok (.if_icmp .ge 57, 3) := by decide +kernel
theorem d_M_known_29 : decode prog_14_method_26_code 29 = .ok (.aload_n 0, 1) := by decide +kernel
theorem d_M_known_30 : decode prog_14_method_26_code 30 = .ok (.getfield 40, 3) := by decide +kernel
theorem d_M_known_33 : decode prog_14_method_26_code 33 = .ok (.iload_n 3, 1) := by decide +kernel
theorem d_M_known_34 : decode prog_14_method_26_code 34 = .ok (.laload, 1) := by decide +kernel
theorem d_M_known_35 : decode prog_14_method_26_code 35 = .ok (.aload_n 0, 1) := by decide +kernel
theorem d_M_known_36 : decode prog_14_method_26_code 36 = .ok (.getfield 30, 3) := by decide +kernel
theorem d_M_known_39 : decode prog_14_method_26_code 39 = .ok (.iload_n 2, 1) := by decide +kernel
theorem d_M_known_40 : decode prog_14_method_26_code 40 = .ok (.laload, 1) := by decide +kernel
theorem d_M_known_41 : decode prog_14_method_26_code 41 = .ok (.lcmp, 1) := by decide +kernel
theorem d_M_known_42 : decode prog_14_method_26_code 42 = .ok (.ifCond .ne 35, 3) := by decide +kernel
theorem d_M_known_45 : decode prog_14_method_26_code 45 = .ok (.aload_n 0, 1) := by decide +kernel
theorem d_M_known_46 : decode prog_14_method_26_code 46 = .ok (.getfield 43, 3) := by decide +kernel
theorem d_M_known_49 : decode prog_14_method_26_code 49 = .ok (.iload_n 3, 1) := by decide +kernel
theorem d_M_known_50 : decode prog_14_method_26_code 50 = .ok (.iaload, 1) := by decide +kernel
theorem d_M_known_51 : decode prog_14_method_26_code 51 = .ok (.iload_n 1, 1) := by decide +kernel
theorem d_M_known_52 : decode prog_14_method_26_code 52 = .ok (.if_icmp .lt 25, 3) := by decide +kernel
theorem d_M_known_55 : decode prog_14_method_26_code 55 = .ok (.aload_n 0, 1) := by decide +kernel
theorem d_M_known_56 : decode prog_14_method_26_code 56 = .ok (.getfield 43, 3) := by decide +kernel
theorem d_M_known_59 : decode prog_14_method_26_code 59 = .ok (.iload_n 3, 1) := by decide +kernel
theorem d_M_known_60 : decode prog_14_method_26_code 60 = .ok (.iaload, 1) := by decide +kernel
theorem d_M_known_61 : decode prog_14_method_26_code 61 = .ok (.iload_n 1, 1) := by decide +kernel
theorem d_M_known_62 : decode prog_14_method_26_code 62 = .ok (.bipush 10, 2) := by decide +kernel
theorem d_M_known_64 : decode prog_14_method_26_code 64 = .ok (.iadd, 1) := by decide +kernel
theorem d_M_known_65 : decode prog_14_method_26_code 65 = .ok (.if_icmp .ge 12, 3) := by decide +kernel
theorem d_M_known_68 : decode prog_14_method_26_code 68 = .ok (.aload_n 0, 1) := by decide +kernel
theorem d_M_known_69 : decode prog_14_method_26_code 69 = .ok (.getfield 43, 3) := by decide +kernel
theorem d_M_known_72 : decode prog_14_method_26_code 72 = .ok (.iload_n 3, 1) := by decide +kernel
theorem d_M_known_73 : decode prog_14_method_26_code 73 = .ok (.iaload, 1) := by decide +kernel
theorem d_M_known_74 : decode prog_14_method_26_code 74 = .ok (.iload_n 1, 1) := by decide +kernel
theorem d_M_known_75 : decode prog_14_method_26_code 75 = .ok (.isub, 1) := by decide +kernel
theorem d_M_known_76 : decode prog_14_method_26_code 76 = .ok (.ireturn, 1) := by decide +kernel
theorem d_M_known_77 : decode prog_14_method_26_code 77 = .ok (.iinc 3 1, 3) := by decide +kernel
theorem d_M_known_80 : decode prog_14_method_26_code 80 = .ok (.goto (-59), 3) := by decide +kernel
theorem d_M_known_83 : decode prog_14_method_26_code 83 = .ok (.aload_n 0, 1) := by decide +kernel
theorem d_M_known_84 : decode prog_14_method_26_code 84 = .ok (.iconst 4, 1) := by decide +kernel
theorem d_M_known_85 : decode prog_14_method_26_code 85 = .ok (.iload_n 2, 1) := by decide +kernel
theorem d_M_known_86 : decode prog_14_method_26_code 86 = .ok (.invokevirtual 293, 3) := by decide +kernel
theorem d_M_known_89 : decode prog_14_method_26_code 89 = .ok (.iconst (-1), 1) := by decide +kernel
theorem d_M_known_90 : decode prog_14_method_26_code 90 = .ok (.ireturn, 1) := by decide +kernel
theorem d_M_tellHangs_0 : decode prog_14_method_28_code 0 = .ok (.aload_n 0, 1) := by decide +kernel
theorem d_M_tellHangs_1 : decode prog_14_method_28_code 1 = .ok (.getfield 218, 3) := by decide +kernel
theorem d_M_tellHangs_4 : decode prog_14_method_28_code 4 = .ok (.istore_n 1, 1) := by decide +kernel
theorem d_M_tellHangs_5 : decode prog_14_method_28_code 5 = .ok (.aload_n 0, 1) := by decide +kernel
theorem d_M_tellHangs_6 : decode prog_14_method_28_code 6 = .ok (.bipush 10, 2) := by decide +kernel
theorem d_M_tellHangs_8 : decode prog_14_method_28_code 8 = .ok (.invokevirtual 296, 3) := by decide +kernel
theorem d_M_tellHangs_11 : decode prog_14_method_28_code 11 = .ok (.istore_n 2, 1) := by decide +kernel
theorem d_M_tellHangs_12 : decode prog_14_method_28_code 12 = .ok (.aload_n 0, 1) := by decide +kernel
theorem d_M_tellHangs_13 : decode prog_14_method_28_code 13 = .ok (.getfield 215, 3) := by decide +kernel
theorem d_M_tellHangs_16 : decode prog_14_method_28_code 16 = .ok (.ifCond .ne 30, 3) := by decide +kernel
theorem d_M_tellHangs_19 : decode prog_14_method_28_code 19 = .ok (.iload_n 2, 1) := by decide +kernel
theorem d_M_tellHangs_20 : decode prog_14_method_28_code 20 = .ok (.ifCond .lt 26, 3) := by decide +kernel
theorem d_M_tellHangs_23 : decode prog_14_method_28_code 23 = .ok (.aload_n 0, 1) := by decide +kernel
theorem d_M_tellHangs_24 : decode prog_14_method_28_code 24 = .ok (.getfield 64, 3) := by decide +kernel
theorem d_M_tellHangs_27 : decode prog_14_method_28_code 27 = .ok (.bipush 6, 2) := by decide +kernel
theorem d_M_tellHangs_29 : decode prog_14_method_28_code 29 = .ok (.aload_n 0, 1) := by decide +kernel
theorem d_M_tellHangs_30 : decode prog_14_method_28_code 30 = .ok (.getfield 248, 3) := by decide +kernel
theorem d_M_tellHangs_33 : decode prog_14_method_28_code 33 = .ok (.imul, 1) := by decide +kernel
theorem d_M_tellHangs_34 : decode prog_14_method_28_code 34 = .ok (.iload_n 2, 1) := by decide +kernel
theorem d_M_tellHangs_35 : decode prog_14_method_28_code 35 = .ok (.iadd, 1) := by decide +kernel
theorem d_M_tellHangs_36 : decode prog_14_method_28_code 36 = .ok (.iaload, 1) := by decide +kernel
theorem d_M_tellHangs_37 : decode prog_14_method_28_code 37 = .ok (.ifCond .lt 9, 3) := by decide +kernel
theorem d_M_tellHangs_40 : decode prog_14_method_28_code 40 = .ok (.aload_n 0, 1) := by decide +kernel
theorem d_M_tellHangs_41 : decode prog_14_method_28_code 41 = .ok (.iconst 3, 1) := by decide +kernel
theorem d_M_tellHangs_42 : decode prog_14_method_28_code 42 = .ok (.iload_n 1, 1) := by decide +kernel
theorem d_M_tellHangs_43 : decode prog_14_method_28_code 43 = .ok (.invokevirtual 293, 3) := by decide +kernel
theorem d_M_tellHangs_46 : decode prog_14_method_28_code 46 = .ok (.aload_n 0, 1) := by decide +kernel
theorem d_M_tellHangs_47 : decode prog_14_method_28_code 47 = .ok (.getfield 218, 3) := by decide +kernel
theorem d_M_tellHangs_50 : decode prog_14_method_28_code 50 = .ok (.istore_n 1, 1) := by decide +kernel
theorem d_M_tellHangs_51 : decode prog_14_method_28_code 51 = .ok (.aload_n 0, 1) := by decide +kernel
theorem d_M_tellHangs_52 : decode prog_14_method_28_code 52 = .ok (.iconst 0, 1) := by decide +kernel
theorem d_M_tellHangs_53 : decode prog_14_method_28_code 53 = .ok (.invokevirtual 296, 3) := by decide +kernel
theorem d_M_tellHangs_56 : decode prog_14_method_28_code 56 = .ok (.istore_n 3, 1) := by decide +kernel
theorem d_M_tellHangs_57 : decode prog_14_method_28_code 57 = .ok (.iconst 0, 1) := by decide +kernel
theorem d_M_tellHangs_58 : decode prog_14_method_28_code 58 = .ok (.istore 4, 2) := by decide +kernel
theorem d_M_tellHangs_60 : decode prog_14_method_28_code 60 = .ok (.iload 4, 2) := by decide +kernel
theorem d_M_tellHangs_62 : decode prog_14_method_28_code 62 = .ok (.bipush 6, 2) := by decide +kernel
theorem d_M_tellHangs_64 : decode prog_14_method_28_code 64 = .ok (.if_icmp .ge 45, 3) := by decide +kernel
theorem d_M_tellHangs_67 : decode prog_14_method_28_code 67 = .ok (.aload_n 0, 1) := by decide +kernel
theorem d_M_tellHangs_68 : decode prog_14_method_28_code 68 = .ok (.getfield 215, 3) := by decide +kernel
theorem d_M_tellHangs_71 : decode prog_14_method_28_code 71 = .ok (.ifCond .ne 38, 3) := by decide +kernel
theorem d_M_tellHangs_74 : decode prog_14_method_28_code 74 = .ok (.iload_n 3, 1) := by decide +kernel
theorem d_M_tellHangs_75 : decode prog_14_method_28_code 75 = .ok (.ifCond .lt 34, 3) := by decide +kernel
theorem d_M_tellHangs_78 : decode prog_14_method_28_code 78 = .ok (.aload_n 0, 1) := by decide +kernel
theorem d_M_tellHangs_79 : decode prog_14_method_28_code 79 = .ok (.getfield 64, 3) := by decide +kernel
theorem d_M_tellHangs_82 : decode prog_14_method_28_code 82 = .ok (.bipush 6, 2) := by decide +kernel
theorem d_M_tellHangs_84 : decode prog_14_method_28_code 84 = .ok (.aload_n 0, 1) := by decide +kernel
theorem d_M_tellHangs_85 : decode prog_14_method_28_code 85 = .ok (.getfield 248, 3) := by decide +kernel
theorem d_M_tellHangs_88 : decode prog_14_method_28_code 88 = .ok (.imul, 1) := by decide +kernel
theorem d_M_tellHangs_89 : decode prog_14_method_28_code 89 = .ok (.iload 4, 2) := by decide +kernel
theorem d_M_tellHangs_91 : decode prog_14_method_28_code 91 = .ok (.iadd, 1) := by decide +kernel
theorem d_M_tellHangs_92 : decode prog_14_method_28_code 92 = .ok (.iaload, 1) := by decide +kernel
theorem d_M_tellHangs_93 : decode prog_14_method_28_code 93 = .ok (.iload_n 3, 1) := by decide +kernel
theorem d_M_tellHangs_94 : decode prog_14_method_28_code 94 = .ok (.if_icmp .ne 9, 3) := by decide +kernel
theorem d_M_tellHangs_97 : decode prog_14_method_28_code 97 = .ok (.aload_n 0, 1) := by decide +kernel
theorem d_M_tellHangs_98 : decode prog_14_method_28_code 98 = .ok (.iconst 3, 1) := by decide +kernel
theorem d_M_tellHangs_99 : decode prog_14_method_28_code 99 = .ok (.iload_n 1, 1) := by decide +kernel
theorem d_M_tellHangs_100 : decode prog_14_method_28_code 100 = .ok (.invokevirtual 293, 3) := by decide +kernel
theorem d_M_tellHangs_103 : decode prog_14_method_28_code 103 = .ok (.iinc 4 1, 3) := by decide +kernel
theorem d_M_tellHangs_106 : decode prog_14_method_28_code 106 = .ok (.goto (-46), 3) := by decide +kernel
theorem d_M_tellHangs_109 : decode prog_14_method_28_code 109 = .ok (.aload_n 0, 1) := by decide +kernel
theorem d_M_tellHangs_110 : decode prog_14_method_28_code 110 = .ok (.iconst 4, 1) := by decide +kernel
theorem d_M_tellHangs_111 : decode prog_14_method_28_code 111 = .ok (.invokevirtual 287, 3) := by decide +kernel
theorem d_M_tellHangs_114 : decode prog_14_method_28_code 114 = .ok (.aload_n 0, 1) := by decide +kernel
theorem d_M_tellHangs_115 : decode prog_14_method_28_code 115 = .ok (.getfield 215, 3) := by decide +kernel
theorem d_M_tellHangs_118 : decode prog_14_method_28_code 118 = .ok (.ifCond .le 4, 3) := by decide +kernel
theorem d_M_tellHangs_121 : decode prog_14_method_28_code 121 = .ok (.return_, 1) := by decide +kernel
theorem d_M_tellHangs_122 : decode prog_14_method_28_code 122 = .ok (.aload_n 0, 1) := by decide +kernel
theorem d_M_tellHangs_123 : decode prog_14_method_28_code 123 = .ok (.getfield 67, 3) := by decide +kernel
theorem d_M_tellHangs_126 : decode prog_14_method_28_code 126 = .ok (.aload_n 0, 1) := by decide +kernel
theorem d_M_tellHangs_127 : decode prog_14_method_28_code 127 = .ok (.getfield 248, 3) := by decide +kernel
theorem d_M_tellHangs_130 : decode prog_14_method_28_code 130 = .ok (.dup2, 1) := by decide +kernel
theorem d_M_tellHangs_131 : decode prog_14_method_28_code 131 = .ok (.iaload, 1) := by decide +kernel
theorem d_M_tellHangs_132 : decode prog_14_method_28_code 132 = .ok (.iconst 1, 1) := by decide +kernel
theorem d_M_tellHangs_133 : decode prog_14_method_28_code 133 = .ok (.iadd, 1) := by decide +kernel
theorem d_M_tellHangs_134 : decode prog_14_method_28_code 134 = .ok (.iastore, 1) := by decide +kernel
theorem d_M_tellHangs_135 : decode prog_14_method_28_code 135 = .ok (.iload_n 2, 1) := by decide +kernel
theorem d_M_tellHangs_136 : decode prog_14_method_28_code 136 = .ok (.ifCond .lt 22, 3) := by decide +kernel
theorem d_M_tellHangs_139 : decode prog_14_method_28_code 139 = .ok (.iload_n 3, 1) := by decide +kernel
theorem d_M_tellHangs_140 : decode prog_14_method_28_code 140 = .ok (.ifCond .lt 18, 3) := by decide +kernel
theorem d_M_tellHangs_143 : decode prog_14_method_28_code 143 = .ok (.aload_n 0, 1) := by decide +kernel
theorem d_M_tellHangs_144 : decode prog_14_method_28_code 144 = .ok (.getfield 64, 3) := by decide +kernel
theorem d_M_tellHangs_147 : decode prog_14_method_28_code 147 = .ok (.bipush 6, 2) := by decide +kernel
theorem d_M_tellHangs_149 : decode prog_14_method_28_code 149 = .ok (.aload_n 0, 1) := by decide +kernel
theorem d_M_tellHangs_150 : decode prog_14_method_28_code 150 = .ok (.getfield 248, 3) := by decide +kernel
theorem d_M_tellHangs_153 : decode prog_14_method_28_code 153 = .ok (.imul, 1) := by decide +kernel
theorem d_M_tellHangs_154 : decode prog_14_method_28_code 154 = .ok (.iload_n 2, 1) := by decide +kernel
theorem d_M_tellHangs_155 : decode prog_14_method_28_code 155 = .ok (.iadd, 1) := by decide +kernel
theorem d_M_tellHangs_156 : decode prog_14_method_28_code 156 = .ok (.iload_n 3, 1) := by decide +kernel
theorem d_M_tellHangs_157 : decode prog_14_method_28_code 157 = .ok (.iastore, 1) := by decide +kernel
theorem d_M_tellHangs_158 : decode prog_14_method_28_code 158 = .ok (.return_, 1) := by decide +kernel
theorem d_M_emit_0 : decode prog_14_method_31_code 0 = .ok (.aload_n 0, 1) := by decide +kernel
theorem d_M_emit_1 : decode prog_14_method_31_code 1 = .ok (.getfield 98, 3) := by decide +kernel
theorem d_M_emit_4 : decode prog_14_method_31_code 4 = .ok (.aload_n 0, 1) := by decide +kernel
theorem d_M_emit_5 : decode prog_14_method_31_code 5 = .ok (.getfield 257, 3) := by decide +kernel
theorem d_M_emit_8 : decode prog_14_method_31_code 8 = .ok (.iload_n 1, 1) := by decide +kernel
theorem d_M_emit_9 : decode prog_14_method_31_code 9 = .ok (.iastore, 1) := by decide +kernel
theorem d_M_emit_10 : decode prog_14_method_31_code 10 = .ok (.aload_n 0, 1) := by decide +kernel
theorem d_M_emit_11 : decode prog_14_method_31_code 11 = .ok (.getfield 101, 3) := by decide +kernel
theorem d_M_emit_14 : decode prog_14_method_31_code 14 = .ok (.aload_n 0, 1) := by decide +kernel
theorem d_M_emit_15 : decode prog_14_method_31_code 15 = .ok (.getfield 257, 3) := by decide +kernel
theorem d_M_emit_18 : decode prog_14_method_31_code 18 = .ok (.iload_n 2, 1) := by decide +kernel
theorem d_M_emit_19 : decode prog_14_method_31_code 19 = .ok (.iastore, 1) := by decide +kernel
theorem d_M_emit_20 : decode prog_14_method_31_code 20 = .ok (.aload_n 0, 1) := by decide +kernel
theorem d_M_emit_21 : decode prog_14_method_31_code 21 = .ok (.dup, 1) := by decide +kernel
theorem d_M_emit_22 : decode prog_14_method_31_code 22 = .ok (.getfield 257, 3) := by decide +kernel
theorem d_M_emit_25 : decode prog_14_method_31_code 25 = .ok (.iconst 1, 1) := by decide +kernel
theorem d_M_emit_26 : decode prog_14_method_31_code 26 = .ok (.iadd, 1) := by decide +kernel
theorem d_M_emit_27 : decode prog_14_method_31_code 27 = .ok (.putfield 257, 3) := by decide +kernel
theorem d_M_emit_30 : decode prog_14_method_31_code 30 = .ok (.return_, 1) := by decide +kernel
theorem d_M_comesOut_0 : decode prog_14_method_32_code 0 = .ok (.aload_n 0, 1) := by decide +kernel
theorem d_M_comesOut_1 : decode prog_14_method_32_code 1 = .ok (.getfield 305, 3) := by decide +kernel
theorem d_M_comesOut_4 : decode prog_14_method_32_code 4 = .ok (.ifCond .le 87, 3) := by decide +kernel
theorem d_M_comesOut_7 : decode prog_14_method_32_code 7 = .ok (.aload_n 0, 1) := by decide +kernel
theorem d_M_comesOut_8 : decode prog_14_method_32_code 8 = .ok (.getfield 104, 3) := by decide +kernel
theorem d_M_comesOut_11 : decode prog_14_method_32_code 11 = .ok (.aload_n 0, 1) := by decide +kernel
theorem d_M_comesOut_12 : decode prog_14_method_32_code 12 = .ok (.getfield 305, 3) := by decide +kernel
theorem d_M_comesOut_15 : decode prog_14_method_32_code 15 = .ok (.iconst 1, 1) := by decide +kernel
theorem d_M_comesOut_16 : decode prog_14_method_32_code 16 = .ok (.isub, 1) := by decide +kernel
theorem d_M_comesOut_17 : decode prog_14_method_32_code 17 = .ok (.iaload, 1) := by decide +kernel
theorem d_M_comesOut_18 : decode prog_14_method_32_code 18 = .ok (.istore_n 2, 1) := by decide +kernel
theorem d_M_comesOut_19 : decode prog_14_method_32_code 19 = .ok (.iload_n 2, 1) := by decide +kernel
theorem d_M_comesOut_20 : decode prog_14_method_32_code 20 = .ok (.bipush 6, 2) := by decide +kernel
theorem d_M_comesOut_22 : decode prog_14_method_32_code 22 = .ok (.if_icmp .eq 19, 3) := by decide +kernel
theorem d_M_comesOut_25 : decode prog_14_method_32_code 25 = .ok (.iload_n 1, 1) := by decide +kernel
theorem d_M_comesOut_26 : decode prog_14_method_32_code 26 = .ok (.ifCond .eq 16, 3) := by decide +kernel
theorem d_M_comesOut_29 : decode prog_14_method_32_code 29 = .ok (.iload_n 2, 1) := by decide +kernel
theorem d_M_comesOut_30 : decode prog_14_method_32_code 30 = .ok (.bipush 8, 2) := by decide +kernel
theorem d_M_comesOut_32 : decode prog_14_method_32_code 32 = .ok (.if_icmp .eq 9, 3) := by decide +kernel
theorem d_M_comesOut_35 : decode prog_14_method_32_code 35 = .ok (.iload_n 2, 1) := by decide +kernel
theorem d_M_comesOut_36 : decode prog_14_method_32_code 36 = .ok (.bipush 9, 2) := by decide +kernel
theorem d_M_comesOut_38 : decode prog_14_method_32_code 38 = .ok (.if_icmp .ne 4, 3) := by decide +kernel
theorem d_M_comesOut_41 : decode prog_14_method_32_code 41 = .ok (.return_, 1) := by decide +kernel
theorem d_M_comesOut_42 : decode prog_14_method_32_code 42 = .ok (.aload_n 0, 1) := by decide +kernel
theorem d_M_comesOut_43 : decode prog_14_method_32_code 43 = .ok (.dup, 1) := by decide +kernel
theorem d_M_comesOut_44 : decode prog_14_method_32_code 44 = .ok (.getfield 305, 3) := by decide +kernel
theorem d_M_comesOut_47 : decode prog_14_method_32_code 47 = .ok (.iconst 1, 1) := by decide +kernel
theorem d_M_comesOut_48 : decode prog_14_method_32_code 48 = .ok (.isub, 1) := by decide +kernel
theorem d_M_comesOut_49 : decode prog_14_method_32_code 49 = .ok (.putfield 305, 3) := by decide +kernel
theorem d_M_comesOut_52 : decode prog_14_method_32_code 52 = .ok (.aload_n 0, 1) := by decide +kernel
theorem d_M_comesOut_53 : decode prog_14_method_32_code 53 = .ok (.iload_n 2, 1) := by decide +kernel
theorem d_M_comesOut_54 : decode prog_14_method_32_code 54 = .ok (.bipush 8, 2) := by decide +kernel
theorem d_M_comesOut_56 : decode prog_14_method_32_code 56 = .ok (.if_icmp .ne 7, 3) := by decide +kernel
theorem d_M_comesOut_59 : decode prog_14_method_32_code 59 = .ok (.iconst 2, 1) := by decide +kernel
theorem d_M_comesOut_60 : decode prog_14_method_32_code 60 = .ok (.goto 24, 3) := by decide +kernel
theorem d_M_comesOut_63 : decode prog_14_method_32_code 63 = .ok (.iload_n 2, 1) := by decide +kernel
theorem d_M_comesOut_64 : decode prog_14_method_32_code 64 = .ok (.bipush 9, 2) := by decide +kernel
theorem d_M_comesOut_66 : decode prog_14_method_32_code 66 = .ok (.if_icmp .ne 7, 3) := by decide +kernel
theorem d_M_comesOut_69 : decode prog_14_method_32_code 69 = .ok (.iconst 3, 1) := by decide +kernel
theorem d_M_comesOut_70 : decode prog_14_method_32_code 70 = .ok (.goto 14, 3) := by decide +kernel
theorem d_M_comesOut_73 : decode prog_14_method_32_code 73 = .ok (.iload_n 2, 1) := by decide +kernel
theorem d_M_comesOut_74 : decode prog_14_method_32_code 74 = .ok (.bipush 10, 2) := by decide +kernel
theorem d_M_comesOut_76 : decode prog_14_method_32_code 76 = .ok (.if_icmp .ne 7, 3) := by decide +kernel
theorem d_M_comesOut_79 : decode prog_14_method_32_code 79 = .ok (.iconst 4, 1) := by decide +kernel
theorem d_M_comesOut_80 : decode prog_14_method_32_code 80 = .ok (.goto 4, 3) := by decide +kernel
theorem d_M_comesOut_83 : decode prog_14_method_32_code 83 = .ok (.iconst 5, 1) := by decide +kernel
theorem d_M_comesOut_84 : decode prog_14_method_32_code 84 = .ok (.iconst 0, 1) := by decide +kernel
theorem d_M_comesOut_85 : decode prog_14_method_32_code 85 = .ok (.invokevirtual 308, 3) := by decide +kernel
theorem d_M_comesOut_88 : decode prog_14_method_32_code 88 = .ok (.goto (-88), 3) := by decide +kernel
theorem d_M_comesOut_91 : decode prog_14_method_32_code 91 = .ok (.return_, 1) := by decide +kernel
theorem d_M_unit_0 : decode prog_14_method_34_code 0 = .ok (.aload_n 0, 1) := by decide +kernel
theorem d_M_unit_1 : decode prog_14_method_34_code 1 = .ok (.iconst 2, 1) := by decide +kernel
theorem d_M_unit_2 : decode prog_14_method_34_code 2 = .ok (.invokevirtual 233, 3) := by decide +kernel
theorem d_M_unit_5 : decode prog_14_method_34_code 5 = .ok (.ifCond .eq 24, 3) := by decide +kernel
theorem d_M_unit_8 : decode prog_14_method_34_code 8 = .ok (.aload_n 0, 1) := by decide +kernel
theorem d_M_unit_9 : decode prog_14_method_34_code 9 = .ok (.iconst 0, 1) := by decide +kernel
theorem d_M_unit_10 : decode prog_14_method_34_code 10 = .ok (.aload_n 0, 1) := by decide +kernel
theorem d_M_unit_11 : decode prog_14_method_34_code 11 = .ok (.getfield 27, 3) := by decide +kernel
theorem d_M_unit_14 : decode prog_14_method_34_code 14 = .ok (.aload_n 0, 1) := by decide +kernel
theorem d_M_unit_15 : decode prog_14_method_34_code 15 = .ok (.getfield 218, 3) := by decide +kernel
theorem d_M_unit_18 : decode prog_14_method_34_code 18 = .ok (.iaload, 1) := by decide +kernel
theorem d_M_unit_19 : decode prog_14_method_34_code 19 = .ok (.invokevirtual 308, 3) := by decide +kernel
theorem d_M_unit_22 : decode prog_14_method_34_code 22 = .ok (.aload_n 0, 1) := by decide +kernel
theorem d_M_unit_23 : decode prog_14_method_34_code 23 = .ok (.invokevirtual 236, 3) := by decide +kernel
theorem d_M_unit_26 : decode prog_14_method_34_code 26 = .ok (.goto 67, 3) := by decide +kernel
theorem d_M_unit_29 : decode prog_14_method_34_code 29 = .ok (.aload_n 0, 1) := by decide +kernel
theorem d_M_unit_30 : decode prog_14_method_34_code 30 = .ok (.getfield 215, 3) := by decide +kernel
theorem d_M_unit_33 : decode prog_14_method_34_code 33 = .ok (.ifCond .ne 55, 3) := by decide +kernel
theorem d_M_unit_36 : decode prog_14_method_34_code 36 = .ok (.aload_n 0, 1) := by decide +kernel
theorem d_M_unit_37 : decode prog_14_method_34_code 37 = .ok (.getfield 20, 3) := by decide +kernel
theorem d_M_unit_40 : decode prog_14_method_34_code 40 = .ok (.aload_n 0, 1) := by decide +kernel
theorem d_M_unit_41 : decode prog_14_method_34_code 41 = .ok (.getfield 218, 3) := by decide +kernel
theorem d_M_unit_44 : decode prog_14_method_34_code 44 = .ok (.iaload, 1) := by decide +kernel
theorem d_M_unit_45 : decode prog_14_method_34_code 45 = .ok (.bipush 32, 2) := by decide +kernel
theorem d_M_unit_47 : decode prog_14_method_34_code 47 = .ok (.if_icmp .lt 41, 3) := by decide +kernel
theorem d_M_unit_50 : decode prog_14_method_34_code 50 = .ok (.aload_n 0, 1) := by decide +kernel
theorem d_M_unit_51 : decode prog_14_method_34_code 51 = .ok (.getfield 20, 3) := by decide +kernel
theorem d_M_unit_54 : decode prog_14_method_34_code 54 = .ok (.aload_n 0, 1) := by decide +kernel
theorem d_M_unit_55 : decode prog_14_method_34_code 55 = .ok (.getfield 218, 3) := by decide +kernel
theorem d_M_unit_58 : decode prog_14_method_34_code 58 = .ok (.iaload, 1) := by decide +kernel
theorem d_M_unit_59 : decode prog_14_method_34_code 59 = .ok (.bipush 40, 2) := by decide +kernel
theorem d_M_unit_61 : decode prog_14_method_34_code 61 = .ok (.if_icmp .gt 27, 3) := by decide +kernel
theorem d_M_unit_64 : decode prog_14_method_34_code 64 = .ok (.aload_n 0, 1) := by decide +kernel
theorem d_M_unit_65 : decode prog_14_method_34_code 65 = .ok (.iconst 1, 1) := by decide +kernel
theorem d_M_unit_66 : decode prog_14_method_34_code 66 = .ok (.aload_n 0, 1) := by decide +kernel
theorem d_M_unit_67 : decode prog_14_method_34_code 67 = .ok (.getfield 20, 3) := by decide +kernel
theorem d_M_unit_70 : decode prog_14_method_34_code 70 = .ok (.aload_n 0, 1) := by decide +kernel
theorem d_M_unit_71 : decode prog_14_method_34_code 71 = .ok (.getfield 218, 3) := by decide +kernel
theorem d_M_unit_74 : decode prog_14_method_34_code 74 = .ok (.iaload, 1) := by decide +kernel
theorem d_M_unit_75 : decode prog_14_method_34_code 75 = .ok (.bipush 32, 2) := by decide +kernel
theorem d_M_unit_77 : decode prog_14_method_34_code 77 = .ok (.isub, 1) := by decide +kernel
theorem d_M_unit_78 : decode prog_14_method_34_code 78 = .ok (.invokevirtual 308, 3) := by decide +kernel
theorem d_M_unit_81 : decode prog_14_method_34_code 81 = .ok (.aload_n 0, 1) := by decide +kernel
theorem d_M_unit_82 : decode prog_14_method_34_code 82 = .ok (.invokevirtual 236, 3) := by decide +kernel
theorem d_M_unit_85 : decode prog_14_method_34_code 85 = .ok (.goto 8, 3) := by decide +kernel
theorem d_M_unit_88 : decode prog_14_method_34_code 88 = .ok (.aload_n 0, 1) := by decide +kernel
theorem d_M_unit_89 : decode prog_14_method_34_code 89 = .ok (.iconst 1, 1) := by decide +kernel
theorem d_M_unit_90 : decode prog_14_method_34_code 90 = .ok (.invokevirtual 230, 3) := by decide +kernel
theorem d_M_unit_93 : decode prog_14_method_34_code 93 = .ok (.return_, 1) := by decide +kernel
theorem d_M_expression_0 : decode prog_14_method_33_code 0 = .ok (.aload_n 0, 1) := by decide +kernel
theorem d_M_expression_1 : decode prog_14_method_33_code 1 = .ok (.iconst 0, 1) := by decide +kernel
theorem d_M_expression_2 : decode prog_14_method_33_code 2 = .ok (.putfield 305, 3) := by decide +kernel
theorem d_M_expression_5 : decode prog_14_method_33_code 5 = .ok (.aload_n 0, 1) := by decide +kernel
theorem d_M_expression_6 : decode prog_14_method_33_code 6 = .ok (.getfield 242, 3) := by decide +kernel
theorem d_M_expression_9 : decode prog_14_method_33_code 9 = .ok (.istore_n 1, 1) := by decide +kernel
theorem d_M_expression_10 : decode prog_14_method_33_code 10 = .ok (.iconst 1, 1) := by decide +kernel
theorem d_M_expression_11 : decode prog_14_method_33_code 11 = .ok (.istore_n 2, 1) := by decide +kernel
theorem d_M_expression_12 : decode prog_14_method_33_code 12 = .ok (.iload_n 2, 1) := by decide +kernel
theorem d_M_expression_13 : decode prog_14_method_33_code 13 = .ok (.ifCond .eq 259, 3) := by decide +kernel
theorem d_M_expression_16 : decode prog_14_method_33_code 16 = .ok (.aload_n 0, 1) := by decide +kernel
theorem d_M_expression_17 : decode prog_14_method_33_code 17 = .ok (.getfield 215, 3) := by decide +kernel
theorem d_M_expression_20 : decode prog_14_method_33_code 20 = .ok (.ifCond .ne 252, 3) := by decide +kernel
theorem d_M_expression_23 : decode prog_14_method_33_code 23 = .ok (.aload_n 0, 1) := by decide +kernel
theorem d_M_expression_24 : decode prog_14_method_33_code 24 = .ok (.bipush 6, 2) := by decide +kernel
theorem d_M_expression_26 : decode prog_14_method_33_code 26 = .ok (.invokevirtual 233, 3) := by decide +kernel
theorem d_M_expression_29 : decode prog_14_method_33_code 29 = .ok (.ifCond .eq 55, 3) := by decide +kernel
theorem d_M_expression_32 : decode prog_14_method_33_code 32 = .ok (.aload_n 0, 1) := by decide +kernel
theorem d_M_expression_33 : decode prog_14_method_33_code 33 = .ok (.getfield 242, 3) := by decide +kernel
theorem d_M_expression_36 : decode prog_14_method_33_code 36 = .ok (.bipush 6, 2) := by decide +kernel
theorem d_M_expression_38 : decode prog_14_method_33_code 38 = .ok (.if_icmp .ne 8, 3) := by decide +kernel
theorem d_M_expression_41 : decode prog_14_method_33_code 41 = .ok (.aload_n 0, 1) := by decide +kernel
theorem d_M_expression_42 : decode prog_14_method_33_code 42 = .ok (.iconst 2, 1) := by decide +kernel
theorem d_M_expression_43 : decode prog_14_method_33_code 43 = .ok (.invokevirtual 230, 3) := by decide +kernel
theorem d_M_expression_46 : decode prog_14_method_33_code 46 = .ok (.aload_n 0, 1) := by decide +kernel
theorem d_M_expression_47 : decode prog_14_method_33_code 47 = .ok (.dup, 1) := by decide +kernel
theorem d_M_expression_48 : decode prog_14_method_33_code 48 = .ok (.getfield 242, 3) := by decide +kernel
theorem d_M_expression_51 : decode prog_14_method_33_code 51 = .ok (.iconst 1, 1) := by decide +kernel
theorem d_M_expression_52 : decode prog_14_method_33_code 52 = .ok (.iadd, 1) := by decide +kernel
theorem d_M_expression_53 : decode prog_14_method_33_code 53 = .ok (.putfield 242, 3) := by decide +kernel
theorem d_M_expression_56 : decode prog_14_method_33_code 56 = .ok (.aload_n 0, 1) := by decide +kernel
theorem d_M_expression_57 : decode prog_14_method_33_code 57 = .ok (.invokevirtual 236, 3) := by decide +kernel
theorem d_M_expression_60 : decode prog_14_method_33_code 60 = .ok (.aload_n 0, 1) := by decide +kernel
theorem d_M_expression_61 : decode prog_14_method_33_code 61 = .ok (.getfield 104, 3) := by decide +kernel
theorem d_M_expression_64 : decode prog_14_method_33_code 64 = .ok (.aload_n 0, 1) := by decide +kernel
theorem d_M_expression_65 : decode prog_14_method_33_code 65 = .ok (.getfield 305, 3) := by decide +kernel
theorem d_M_expression_68 : decode prog_14_method_33_code 68 = .ok (.bipush 6, 2) := by decide +kernel
theorem d_M_expression_70 : decode prog_14_method_33_code 70 = .ok (.iastore, 1) := by decide +kernel
theorem d_M_expression_71 : decode prog_14_method_33_code 71 = .ok (.aload_n 0, 1) := by decide +kernel
theorem d_M_expression_72 : decode prog_14_method_33_code 72 = .ok (.dup, 1) := by decide +kernel
theorem d_M_expression_73 : decode prog_14_method_33_code 73 = .ok (.getfield 305, 3) := by decide +kernel
theorem d_M_expression_76 : decode prog_14_method_33_code 76 = .ok (.iconst 1, 1) := by decide +kernel
theorem d_M_expression_77 : decode prog_14_method_33_code 77 = .ok (.iadd, 1) := by decide +kernel
theorem d_M_expression_78 : decode prog_14_method_33_code 78 = .ok (.putfield 305, 3) := by decide +kernel
theorem d_M_expression_81 : decode prog_14_method_33_code 81 = .ok (.goto (-58), 3) := by decide +kernel
theorem d_M_expression_84 : decode prog_14_method_33_code 84 = .ok (.aload_n 0, 1) := by decide +kernel
theorem d_M_expression_85 : decode prog_14_method_33_code 85 = .ok (.invokevirtual 311, 3) := by decide +kernel
theorem d_M_expression_88 : decode prog_14_method_33_code 88 = .ok (.aload_n 0, 1) := by decide +kernel
theorem d_M_expression_89 : decode prog_14_method_33_code 89 = .ok (.getfield 215, 3) := by decide +kernel
theorem d_M_expression_92 : decode prog_14_method_33_code 92 = .ok (.ifCond .le 4, 3) := by decide +kernel
theorem d_M_expression_95 : decode prog_14_method_33_code 95 = .ok (.return_, 1) := by decide +kernel
theorem d_M_expression_96 : decode prog_14_method_33_code 96 = .ok (.aload_n 0, 1) := by decide +kernel
theorem d_M_expression_97 : decode prog_14_method_33_code 97 = .ok (.bipush 7, 2) := by decide +kernel
theorem d_M_expression_99 : decode prog_14_method_33_code 99 = .ok (.invokevirtual 233, 3) := by decide +kernel
theorem d_M_expression_102 : decode prog_14_method_33_code 102 = .ok (.ifCond .eq 43, 3) := by decide +kernel
theorem d_M_expression_105 : decode prog_14_method_33_code 105 = .ok (.aload_n 0, 1) := by decide +kernel
theorem d_M_expression_106 : decode prog_14_method_33_code 106 = .ok (.getfield 242, 3) := by decide +kernel
theorem d_M_expression_109 : decode prog_14_method_33_code 109 = .ok (.iload_n 1, 1) := by decide +kernel
theorem d_M_expression_110 : decode prog_14_method_33_code 110 = .ok (.if_icmp .le 35, 3) := by decide +kernel
theorem d_M_expression_113 : decode prog_14_method_33_code 113 = .ok (.aload_n 0, 1) := by decide +kernel
theorem d_M_expression_114 : decode prog_14_method_33_code 114 = .ok (.iconst 0, 1) := by decide +kernel
theorem d_M_expression_115 : decode prog_14_method_33_code 115 = .ok (.invokevirtual 314, 3) := by decide +kernel
theorem d_M_expression_118 : decode prog_14_method_33_code 118 = .ok (.aload_n 0, 1) := by decide +kernel
theorem d_M_expression_119 : decode prog_14_method_33_code 119 = .ok (.dup, 1) := by decide +kernel
theorem d_M_expression_120 : decode prog_14_method_33_code 120 = .ok (.getfield 305, 3) := by decide +kernel
theorem d_M_expression_123 : decode prog_14_method_33_code 123 = .ok (.iconst 1, 1) := by decide +kernel
theorem d_M_expression_124 : decode prog_14_method_33_code 124 = .ok (.isub, 1) := by decide +kernel
theorem d_M_expression_125 : decode prog_14_method_33_code 125 = .ok (.putfield 305, 3) := by decide +kernel
theorem d_M_expression_128 : decode prog_14_method_33_code 128 = .ok (.aload_n 0, 1) := by decide +kernel
theorem d_M_expression_129 : decode prog_14_method_33_code 129 = .ok (.dup, 1) := by decide +kernel
theorem d_M_expression_130 : decode prog_14_method_33_code 130 = .ok (.getfield 242, 3) := by decide +kernel
theorem d_M_expression_133 : decode prog_14_method_33_code 133 = .ok (.iconst 1, 1) := by decide +kernel
theorem d_M_expression_134 : decode prog_14_method_33_code 134 = .ok (.isub, 1) := by decide +kernel
theorem d_M_expression_135 : decode prog_14_method_33_code 135 = .ok (.putfield 242, 3) := by decide +kernel
theorem d_M_expression_138 : decode prog_14_method_33_code 138 = .ok (.aload_n 0, 1) := by decide +kernel
theorem d_M_expression_139 : decode prog_14_method_33_code 139 = .ok (.invokevirtual 236, 3) := by decide +kernel
theorem d_M_expression_142 : decode prog_14_method_33_code 142 = .ok (.goto (-46), 3) := by decide +kernel
theorem d_M_expression_145 : decode prog_14_method_33_code 145 = .ok (.aload_n 0, 1) := by decide +kernel
theorem d_M_expression_146 : decode prog_14_method_33_code 146 = .ok (.bipush 8, 2) := by decide +kernel
theorem d_M_expression_148 : decode prog_14_method_33_code 148 = .ok (.invokevirtual 233, 3) := by decide +kernel
theorem d_M_expression_151 : decode prog_14_method_33_code 151 = .ok (.ifCond .ne 30, 3) := by decide +kernel
theorem d_M_expression_154 : decode prog_14_method_33_code 154 = .ok (.aload_n 0, 1) := by decide +kernel
theorem d_M_expression_155 : decode prog_14_method_33_code 155 = .ok (.bipush 9, 2) := by decide +kernel
theorem d_M_expression_157 : decode prog_14_method_33_code 157 = .ok (.invokevirtual 233, 3) := by decide +kernel
theorem d_M_expression_160 : decode prog_14_method_33_code 160 = .ok (.ifCond .ne 21, 3) := by decide +kernel
theorem d_M_expression_163 : decode prog_14_method_33_code 163 = .ok (.aload_n 0, 1) := by decide +kernel
theorem d_M_expression_164 : decode prog_14_method_33_code 164 = .ok (.bipush 10, 2) := by decide +kernel
theorem d_M_expression_166 : decode prog_14_method_33_code 166 = .ok (.invokevirtual 233, 3) := by decide +kernel
theorem d_M_expression_169 : decode prog_14_method_33_code 169 = .ok (.ifCond .ne 12, 3) := by decide +kernel
theorem d_M_expression_172 : decode prog_14_method_33_code 172 = .ok (.aload_n 0, 1) := by decide +kernel
theorem d_M_expression_173 : decode prog_14_method_33_code 173 = .ok (.bipush 15, 2) := by decide +kernel
theorem d_M_expression_175 : decode prog_14_method_33_code 175 = .ok (.invokevirtual 233, 3) := by decide +kernel
theorem d_M_expression_178 : decode prog_14_method_33_code 178 = .ok (.ifCond .eq 7, 3) := by decide +kernel
theorem d_M_expression_181 : decode prog_14_method_33_code 181 = .ok (.iconst 1, 1) := by decide +kernel
theorem d_M_expression_182 : decode prog_14_method_33_code 182 = .ok (.goto 4, 3) := by decide +kernel
theorem d_M_expression_185 : decode prog_14_method_33_code 185 = .ok (.iconst 0, 1) := by decide +kernel
theorem d_M_expression_186 : decode prog_14_method_33_code 186 = .ok (.istore_n 2, 1) := by decide +kernel
theorem d_M_expression_187 : decode prog_14_method_33_code 187 = .ok (.iload_n 2, 1) := by decide +kernel
theorem d_M_expression_188 : decode prog_14_method_33_code 188 = .ok (.ifCond .ne 22, 3) := by decide +kernel
theorem d_M_expression_191 : decode prog_14_method_33_code 191 = .ok (.aload_n 0, 1) := by decide +kernel
theorem d_M_expression_192 : decode prog_14_method_33_code 192 = .ok (.getfield 242, 3) := by decide +kernel
theorem d_M_expression_195 : decode prog_14_method_33_code 195 = .ok (.iload_n 1, 1) := by decide +kernel
theorem d_M_expression_196 : decode prog_14_method_33_code 196 = .ok (.if_icmp .le 8, 3) := by decide +kernel
theorem d_M_expression_199 : decode prog_14_method_33_code 199 = .ok (.aload_n 0, 1) := by decide +kernel
theorem d_M_expression_200 : decode prog_14_method_33_code 200 = .ok (.iconst 1, 1) := by decide +kernel
theorem d_M_expression_201 : decode prog_14_method_33_code 201 = .ok (.invokevirtual 230, 3) := by decide +kernel
theorem d_M_expression_204 : decode prog_14_method_33_code 204 = .ok (.aload_n 0, 1) := by decide +kernel
theorem d_M_expression_205 : decode prog_14_method_33_code 205 = .ok (.iconst 0, 1) := by decide +kernel
theorem d_M_expression_206 : decode prog_14_method_33_code 206 = .ok (.invokevirtual 314, 3) := by decide +kernel
theorem d_M_expression_209 : decode prog_14_method_33_code 209 = .ok (.return_, 1) := by decide +kernel
theorem d_M_expression_210 : decode prog_14_method_33_code 210 = .ok (.aload_n 0, 1) := by decide +kernel
theorem d_M_expression_211 : decode prog_14_method_33_code 211 = .ok (.aload_n 0, 1) := by decide +kernel
theorem d_M_expression_212 : decode prog_14_method_33_code 212 = .ok (.bipush 10, 2) := by decide +kernel
theorem d_M_expression_214 : decode prog_14_method_33_code 214 = .ok (.invokevirtual 233, 3) := by decide +kernel
theorem d_M_expression_217 : decode prog_14_method_33_code 217 = .ok (.ifCond .ne 12, 3) := by decide +kernel
theorem d_M_expression_220 : decode prog_14_method_33_code 220 = .ok (.aload_n 0, 1) := by decide +kernel
theorem d_M_expression_221 : decode prog_14_method_33_code 221 = .ok (.bipush 15, 2) := by decide +kernel
theorem d_M_expression_223 : decode prog_14_method_33_code 223 = .ok (.invokevirtual 233, 3) := by decide +kernel
theorem d_M_expression_226 : decode prog_14_method_33_code 226 = .ok (.ifCond .eq 7, 3) := by decide +kernel
theorem d_M_expression_229 : decode prog_14_method_33_code 229 = .ok (.iconst 1, 1) := by decide +kernel
theorem d_M_expression_230 : decode prog_14_method_33_code 230 = .ok (.goto 4, 3) := by decide +kernel
theorem d_M_expression_233 : decode prog_14_method_33_code 233 = .ok (.iconst 0, 1) := by decide +kernel
theorem d_M_expression_234 : decode prog_14_method_33_code 234 = .ok (.invokevirtual 314, 3) := by decide +kernel
theorem d_M_expression_237 : decode prog_14_method_33_code 237 = .ok (.aload_n 0, 1) := by decide +kernel
theorem d_M_expression_238 : decode prog_14_method_33_code 238 = .ok (.getfield 104, 3) := by decide +kernel
theorem d_M_expression_241 : decode prog_14_method_33_code 241 = .ok (.aload_n 0, 1) := by decide +kernel
theorem d_M_expression_242 : decode prog_14_method_33_code 242 = .ok (.getfield 305, 3) := by decide +kernel
theorem d_M_expression_245 : decode prog_14_method_33_code 245 = .ok (.aload_n 0, 1) := by decide +kernel
theorem d_M_expression_246 : decode prog_14_method_33_code 246 = .ok (.getfield 20, 3) := by decide +kernel
theorem d_M_expression_249 : decode prog_14_method_33_code 249 = .ok (.aload_n 0, 1) := by decide +kernel
theorem d_M_expression_250 : decode prog_14_method_33_code 250 = .ok (.getfield 218, 3) := by decide +kernel
theorem d_M_expression_253 : decode prog_14_method_33_code 253 = .ok (.iaload, 1) := by decide +kernel
theorem d_M_expression_254 : decode prog_14_method_33_code 254 = .ok (.iastore, 1) := by decide +kernel
theorem d_M_expression_255 : decode prog_14_method_33_code 255 = .ok (.aload_n 0, 1) := by decide +kernel
theorem d_M_expression_256 : decode prog_14_method_33_code 256 = .ok (.dup, 1) := by decide +kernel
theorem d_M_expression_257 : decode prog_14_method_33_code 257 = .ok (.getfield 305, 3) := by decide +kernel
theorem d_M_expression_260 : decode prog_14_method_33_code 260 = .ok (.iconst 1, 1) := by decide +kernel
theorem d_M_expression_261 : decode prog_14_method_33_code 261 = .ok (.iadd, 1) := by decide +kernel
theorem d_M_expression_262 : decode prog_14_method_33_code 262 = .ok (.putfield 305, 3) := by decide +kernel
theorem d_M_expression_265 : decode prog_14_method_33_code 265 = .ok (.aload_n 0, 1) := by decide +kernel
theorem d_M_expression_266 : decode prog_14_method_33_code 266 = .ok (.invokevirtual 236, 3) := by decide +kernel
theorem d_M_expression_269 : decode prog_14_method_33_code 269 = .ok (.goto (-257), 3) := by decide +kernel
theorem d_M_expression_272 : decode prog_14_method_33_code 272 = .ok (.return_, 1) := by decide +kernel
theorem d_M_term_0 : decode prog_14_method_30_code 0 = .ok (.aload_n 0, 1) := by decide +kernel
theorem d_M_term_1 : decode prog_14_method_30_code 1 = .ok (.getfield 92, 3) := by decide +kernel
theorem d_M_term_4 : decode prog_14_method_30_code 4 = .ok (.aload_n 0, 1) := by decide +kernel
theorem d_M_term_5 : decode prog_14_method_30_code 5 = .ok (.getfield 254, 3) := by decide +kernel
theorem d_M_term_8 : decode prog_14_method_30_code 8 = .ok (.aload_n 0, 1) := by decide +kernel
theorem d_M_term_9 : decode prog_14_method_30_code 9 = .ok (.getfield 257, 3) := by decide +kernel
theorem d_M_term_12 : decode prog_14_method_30_code 12 = .ok (.iastore, 1) := by decide +kernel
theorem d_M_term_13 : decode prog_14_method_30_code 13 = .ok (.aload_n 0, 1) := by decide +kernel
theorem d_M_term_14 : decode prog_14_method_30_code 14 = .ok (.getfield 215, 3) := by decide +kernel
theorem d_M_term_17 : decode prog_14_method_30_code 17 = .ok (.ifCond .ne 7, 3) := by decide +kernel
theorem d_M_term_20 : decode prog_14_method_30_code 20 = .ok (.aload_n 0, 1) := by decide +kernel
theorem d_M_term_21 : decode prog_14_method_30_code 21 = .ok (.invokevirtual 299, 3) := by decide +kernel
theorem d_M_term_24 : decode prog_14_method_30_code 24 = .ok (.aload_n 0, 1) := by decide +kernel
theorem d_M_term_25 : decode prog_14_method_30_code 25 = .ok (.getfield 95, 3) := by decide +kernel
theorem d_M_term_28 : decode prog_14_method_30_code 28 = .ok (.aload_n 0, 1) := by decide +kernel
theorem d_M_term_29 : decode prog_14_method_30_code 29 = .ok (.getfield 254, 3) := by decide +kernel
theorem d_M_term_32 : decode prog_14_method_30_code 32 = .ok (.aload_n 0, 1) := by decide +kernel
theorem d_M_term_33 : decode prog_14_method_30_code 33 = .ok (.getfield 257, 3) := by decide +kernel
theorem d_M_term_36 : decode prog_14_method_30_code 36 = .ok (.iastore, 1) := by decide +kernel
theorem d_M_term_37 : decode prog_14_method_30_code 37 = .ok (.aload_n 0, 1) := by decide +kernel
theorem d_M_term_38 : decode prog_14_method_30_code 38 = .ok (.dup, 1) := by decide +kernel
theorem d_M_term_39 : decode prog_14_method_30_code 39 = .ok (.getfield 254, 3) := by decide +kernel
theorem d_M_term_42 : decode prog_14_method_30_code 42 = .ok (.iconst 1, 1) := by decide +kernel
theorem d_M_term_43 : decode prog_14_method_30_code 43 = .ok (.iadd, 1) := by decide +kernel
theorem d_M_term_44 : decode prog_14_method_30_code 44 = .ok (.putfield 254, 3) := by decide +kernel
theorem d_M_term_47 : decode prog_14_method_30_code 47 = .ok (.return_, 1) := by decide +kernel
theorem d_M_tellLaw_0 : decode prog_14_method_29_code 0 = .ok (.aload_n 0, 1) := by decide +kernel
theorem d_M_tellLaw_1 : decode prog_14_method_29_code 1 = .ok (.iconst 5, 1) := by decide +kernel
theorem d_M_tellLaw_2 : decode prog_14_method_29_code 2 = .ok (.invokevirtual 287, 3) := by decide +kernel
theorem d_M_tellLaw_5 : decode prog_14_method_29_code 5 = .ok (.aload_n 0, 1) := by decide +kernel
theorem d_M_tellLaw_6 : decode prog_14_method_29_code 6 = .ok (.getfield 254, 3) := by decide +kernel
theorem d_M_tellLaw_9 : decode prog_14_method_29_code 9 = .ok (.istore_n 2, 1) := by decide +kernel
theorem d_M_tellLaw_10 : decode prog_14_method_29_code 10 = .ok (.iconst 0, 1) := by decide +kernel
theorem d_M_tellLaw_11 : decode prog_14_method_29_code 11 = .ok (.istore_n 3, 1) := by decide +kernel
theorem d_M_tellLaw_12 : decode prog_14_method_29_code 12 = .ok (.aload_n 0, 1) := by decide +kernel
theorem d_M_tellLaw_13 : decode prog_14_method_29_code 13 = .ok (.getfield 215, 3) := by decide +kernel
theorem d_M_tellLaw_16 : decode prog_14_method_29_code 16 = .ok (.ifCond .ne 113, 3) := by decide +kernel
theorem d_M_tellLaw_19 : decode prog_14_method_29_code 19 = .ok (.aload_n 0, 1) := by decide +kernel
theorem d_M_tellLaw_20 : decode prog_14_method_29_code 20 = .ok (.bipush 29, 2) := by decide +kernel
theorem d_M_tellLaw_22 : decode prog_14_method_29_code 22 = .ok (.invokevirtual 233, 3) := by decide +kernel
theorem d_M_tellLaw_25 : decode prog_14_method_29_code 25 = .ok (.ifCond .eq 104, 3) := by decide +kernel
theorem d_M_tellLaw_28 : decode prog_14_method_29_code 28 = .ok (.iload_n 3, 1) := by decide +kernel
theorem d_M_tellLaw_29 : decode prog_14_method_29_code 29 = .ok (.iconst 4, 1) := by decide +kernel
theorem d_M_tellLaw_30 : decode prog_14_method_29_code 30 = .ok (.if_icmp .ne 8, 3) := by decide +kernel
theorem d_M_tellLaw_33 : decode prog_14_method_29_code 33 = .ok (.aload_n 0, 1) := by decide +kernel
theorem d_M_tellLaw_34 : decode prog_14_method_29_code 34 = .ok (.iconst 2, 1) := by decide +kernel
theorem d_M_tellLaw_35 : decode prog_14_method_29_code 35 = .ok (.invokevirtual 230, 3) := by decide +kernel
theorem d_M_tellLaw_38 : decode prog_14_method_29_code 38 = .ok (.aload_n 0, 1) := by decide +kernel
theorem d_M_tellLaw_39 : decode prog_14_method_29_code 39 = .ok (.getfield 215, 3) := by decide +kernel
theorem d_M_tellLaw_42 : decode prog_14_method_29_code 42 = .ok (.ifCond .le 4, 3) := by decide +kernel
theorem d_M_tellLaw_45 : decode prog_14_method_29_code 45 = .ok (.return_, 1) := by decide +kernel
theorem d_M_tellLaw_46 : decode prog_14_method_29_code 46 = .ok (.iinc 3 1, 3) := by decide +kernel
theorem d_M_tellLaw_49 : decode prog_14_method_29_code 49 = .ok (.aload_n 0, 1) := by decide +kernel
theorem d_M_tellLaw_50 : decode prog_14_method_29_code 50 = .ok (.invokevirtual 236, 3) := by decide +kernel
theorem d_M_tellLaw_53 : decode prog_14_method_29_code 53 = .ok (.aload_n 0, 1) := by decide +kernel
theorem d_M_tellLaw_54 : decode prog_14_method_29_code 54 = .ok (.getfield 82, 3) := by decide +kernel
theorem d_M_tellLaw_57 : decode prog_14_method_29_code 57 = .ok (.aload_n 0, 1) := by decide +kernel
theorem d_M_tellLaw_58 : decode prog_14_method_29_code 58 = .ok (.getfield 254, 3) := by decide +kernel
theorem d_M_tellLaw_61 : decode prog_14_method_29_code 61 = .ok (.iconst 1, 1) := by decide +kernel
theorem d_M_tellLaw_62 : decode prog_14_method_29_code 62 = .ok (.bastore, 1) := by decide +kernel
theorem d_M_tellLaw_63 : decode prog_14_method_29_code 63 = .ok (.aload_n 0, 1) := by decide +kernel
theorem d_M_tellLaw_64 : decode prog_14_method_29_code 64 = .ok (.getfield 86, 3) := by decide +kernel
theorem d_M_tellLaw_67 : decode prog_14_method_29_code 67 = .ok (.aload_n 0, 1) := by decide +kernel
theorem d_M_tellLaw_68 : decode prog_14_method_29_code 68 = .ok (.getfield 254, 3) := by decide +kernel
theorem d_M_tellLaw_71 : decode prog_14_method_29_code 71 = .ok (.aload_n 0, 1) := by decide +kernel
theorem d_M_tellLaw_72 : decode prog_14_method_29_code 72 = .ok (.getfield 257, 3) := by decide +kernel
theorem d_M_tellLaw_75 : decode prog_14_method_29_code 75 = .ok (.iastore, 1) := by decide +kernel
theorem d_M_tellLaw_76 : decode prog_14_method_29_code 76 = .ok (.aload_n 0, 1) := by decide +kernel
theorem d_M_tellLaw_77 : decode prog_14_method_29_code 77 = .ok (.invokevirtual 299, 3) := by decide +kernel
theorem d_M_tellLaw_80 : decode prog_14_method_29_code 80 = .ok (.aload_n 0, 1) := by decide +kernel
theorem d_M_tellLaw_81 : decode prog_14_method_29_code 81 = .ok (.bipush 13, 2) := by decide +kernel
theorem d_M_tellLaw_83 : decode prog_14_method_29_code 83 = .ok (.invokevirtual 287, 3) := by decide +kernel
theorem d_M_tellLaw_86 : decode prog_14_method_29_code 86 = .ok (.aload_n 0, 1) := by decide +kernel
theorem d_M_tellLaw_87 : decode prog_14_method_29_code 87 = .ok (.getfield 89, 3) := by decide +kernel
theorem d_M_tellLaw_90 : decode prog_14_method_29_code 90 = .ok (.aload_n 0, 1) := by decide +kernel
theorem d_M_tellLaw_91 : decode prog_14_method_29_code 91 = .ok (.getfield 254, 3) := by decide +kernel
theorem d_M_tellLaw_94 : decode prog_14_method_29_code 94 = .ok (.aload_n 0, 1) := by decide +kernel
theorem d_M_tellLaw_95 : decode prog_14_method_29_code 95 = .ok (.getfield 257, 3) := by decide +kernel
theorem d_M_tellLaw_98 : decode prog_14_method_29_code 98 = .ok (.iastore, 1) := by decide +kernel
theorem d_M_tellLaw_99 : decode prog_14_method_29_code 99 = .ok (.aload_n 0, 1) := by decide +kernel
theorem d_M_tellLaw_100 : decode prog_14_method_29_code 100 = .ok (.getfield 215, 3) := by decide +kernel
theorem d_M_tellLaw_103 : decode prog_14_method_29_code 103 = .ok (.ifCond .ne 7, 3) := by decide +kernel
theorem d_M_tellLaw_106 : decode prog_14_method_29_code 106 = .ok (.aload_n 0, 1) := by decide +kernel
theorem d_M_tellLaw_107 : decode prog_14_method_29_code 107 = .ok (.invokevirtual 299, 3) := by decide +kernel
theorem d_M_tellLaw_110 : decode prog_14_method_29_code 110 = .ok (.aload_n 0, 1) := by decide +kernel
theorem d_M_tellLaw_111 : decode prog_14_method_29_code 111 = .ok (.bipush 30, 2) := by decide +kernel
theorem d_M_tellLaw_113 : decode prog_14_method_29_code 113 = .ok (.invokevirtual 287, 3) := by decide +kernel
theorem d_M_tellLaw_116 : decode prog_14_method_29_code 116 = .ok (.aload_n 0, 1) := by decide +kernel
theorem d_M_tellLaw_117 : decode prog_14_method_29_code 117 = .ok (.invokevirtual 302, 3) := by decide +kernel
theorem d_M_tellLaw_120 : decode prog_14_method_29_code 120 = .ok (.aload_n 0, 1) := by decide +kernel
theorem d_M_tellLaw_121 : decode prog_14_method_29_code 121 = .ok (.bipush 31, 2) := by decide +kernel
theorem d_M_tellLaw_123 : decode prog_14_method_29_code 123 = .ok (.invokevirtual 287, 3) := by decide +kernel
theorem d_M_tellLaw_126 : decode prog_14_method_29_code 126 = .ok (.goto (-114), 3) := by decide +kernel
theorem d_M_tellLaw_129 : decode prog_14_method_29_code 129 = .ok (.aload_n 0, 1) := by decide +kernel
theorem d_M_tellLaw_130 : decode prog_14_method_29_code 130 = .ok (.getfield 82, 3) := by decide +kernel
theorem d_M_tellLaw_133 : decode prog_14_method_29_code 133 = .ok (.aload_n 0, 1) := by decide +kernel
theorem d_M_tellLaw_134 : decode prog_14_method_29_code 134 = .ok (.getfield 254, 3) := by decide +kernel
theorem d_M_tellLaw_137 : decode prog_14_method_29_code 137 = .ok (.iconst 0, 1) := by decide +kernel
theorem d_M_tellLaw_138 : decode prog_14_method_29_code 138 = .ok (.bastore, 1) := by decide +kernel
theorem d_M_tellLaw_139 : decode prog_14_method_29_code 139 = .ok (.aload_n 0, 1) := by decide +kernel
theorem d_M_tellLaw_140 : decode prog_14_method_29_code 140 = .ok (.invokevirtual 302, 3) := by decide +kernel
theorem d_M_tellLaw_143 : decode prog_14_method_29_code 143 = .ok (.aload_n 0, 1) := by decide +kernel
theorem d_M_tellLaw_144 : decode prog_14_method_29_code 144 = .ok (.iconst 4, 1) := by decide +kernel
theorem d_M_tellLaw_145 : decode prog_14_method_29_code 145 = .ok (.invokevirtual 287, 3) := by decide +kernel
theorem d_M_tellLaw_148 : decode prog_14_method_29_code 148 = .ok (.aload_n 0, 1) := by decide +kernel
theorem d_M_tellLaw_149 : decode prog_14_method_29_code 149 = .ok (.getfield 215, 3) := by decide +kernel
theorem d_M_tellLaw_152 : decode prog_14_method_29_code 152 = .ok (.ifCond .le 4, 3) := by decide +kernel
theorem d_M_tellLaw_155 : decode prog_14_method_29_code 155 = .ok (.return_, 1) := by decide +kernel
theorem d_M_tellLaw_156 : decode prog_14_method_29_code 156 = .ok (.aload_n 0, 1) := by decide +kernel
theorem d_M_tellLaw_157 : decode prog_14_method_29_code 157 = .ok (.getfield 76, 3) := by decide +kernel
theorem d_M_tellLaw_160 : decode prog_14_method_29_code 160 = .ok (.iconst 4, 1) := by decide +kernel
theorem d_M_tellLaw_161 : decode prog_14_method_29_code 161 = .ok (.aload_n 0, 1) := by decide +kernel
theorem d_M_tellLaw_162 : decode prog_14_method_29_code 162 = .ok (.getfield 248, 3) := by decide +kernel
theorem d_M_tellLaw_165 : decode prog_14_method_29_code 165 = .ok (.imul, 1) := by decide +kernel
theorem d_M_tellLaw_166 : decode prog_14_method_29_code 166 = .ok (.iload_n 1, 1) := by decide +kernel
theorem d_M_tellLaw_167 : decode prog_14_method_29_code 167 = .ok (.iadd, 1) := by decide +kernel
theorem d_M_tellLaw_168 : decode prog_14_method_29_code 168 = .ok (.iload_n 2, 1) := by decide +kernel
theorem d_M_tellLaw_169 : decode prog_14_method_29_code 169 = .ok (.iastore, 1) := by decide +kernel
theorem d_M_tellLaw_170 : decode prog_14_method_29_code 170 = .ok (.aload_n 0, 1) := by decide +kernel
theorem d_M_tellLaw_171 : decode prog_14_method_29_code 171 = .ok (.getfield 79, 3) := by decide +kernel
theorem d_M_tellLaw_174 : decode prog_14_method_29_code 174 = .ok (.iconst 4, 1) := by decide +kernel
theorem d_M_tellLaw_175 : decode prog_14_method_29_code 175 = .ok (.aload_n 0, 1) := by decide +kernel
theorem d_M_tellLaw_176 : decode prog_14_method_29_code 176 = .ok (.getfield 248, 3) := by decide +kernel
theorem d_M_tellLaw_179 : decode prog_14_method_29_code 179 = .ok (.imul, 1) := by decide +kernel
theorem d_M_tellLaw_180 : decode prog_14_method_29_code 180 = .ok (.iload_n 1, 1) := by decide +kernel
theorem d_M_tellLaw_181 : decode prog_14_method_29_code 181 = .ok (.iadd, 1) := by decide +kernel
theorem d_M_tellLaw_182 : decode prog_14_method_29_code 182 = .ok (.aload_n 0, 1) := by decide +kernel
theorem d_M_tellLaw_183 : decode prog_14_method_29_code 183 = .ok (.getfield 254, 3) := by decide +kernel
theorem d_M_tellLaw_186 : decode prog_14_method_29_code 186 = .ok (.iastore, 1) := by decide +kernel
theorem d_M_tellLaw_187 : decode prog_14_method_29_code 187 = .ok (.return_, 1) := by decide +kernel
theorem d_M_tellOne_0 : decode prog_14_method_23_code 0 = .ok (.aload_n 0, 1) := by decide +kernel
theorem d_M_tellOne_1 : decode prog_14_method_23_code 1 = .ok (.getfield 20, 3) := by decide +kernel
theorem d_M_tellOne_4 : decode prog_14_method_23_code 4 = .ok (.aload_n 0, 1) := by decide +kernel
theorem d_M_tellOne_5 : decode prog_14_method_23_code 5 = .ok (.getfield 218, 3) := by decide +kernel
theorem d_M_tellOne_8 : decode prog_14_method_23_code 8 = .ok (.iaload, 1) := by decide +kernel
theorem d_M_tellOne_9 : decode prog_14_method_23_code 9 = .ok (.tableswitch 357 20 28 #[51, 159, 271, 357, 357, 357, 357, 300, 328], 51) := by decide +kernel
theorem d_M_tellOne_60 : decode prog_14_method_23_code 60 = .ok (.aload_n 0, 1) := by decide +kernel
theorem d_M_tellOne_61 : decode prog_14_method_23_code 61 = .ok (.aload_n 0, 1) := by decide +kernel
theorem d_M_tellOne_62 : decode prog_14_method_23_code 62 = .ok (.getfield 46, 3) := by decide +kernel
theorem d_M_tellOne_65 : decode prog_14_method_23_code 65 = .ok (.aload_n 0, 1) := by decide +kernel
theorem d_M_tellOne_66 : decode prog_14_method_23_code 66 = .ok (.getfield 248, 3) := by decide +kernel
theorem d_M_tellOne_69 : decode prog_14_method_23_code 69 = .ok (.iaload, 1) := by decide +kernel
theorem d_M_tellOne_70 : decode prog_14_method_23_code 70 = .ok (.bipush 7, 2) := by decide +kernel
theorem d_M_tellOne_72 : decode prog_14_method_23_code 72 = .ok (.invokevirtual 269, 3) := by decide +kernel
theorem d_M_tellOne_75 : decode prog_14_method_23_code 75 = .ok (.aload_n 0, 1) := by decide +kernel
theorem d_M_tellOne_76 : decode prog_14_method_23_code 76 = .ok (.getfield 215, 3) := by decide +kernel
theorem d_M_tellOne_79 : decode prog_14_method_23_code 79 = .ok (.ifCond .le 4, 3) := by decide +kernel
theorem d_M_tellOne_82 : decode prog_14_method_23_code 82 = .ok (.return_, 1) := by decide +kernel
theorem d_M_tellOne_83 : decode prog_14_method_23_code 83 = .ok (.bipush 7, 2) := by decide +kernel
theorem d_M_tellOne_85 : decode prog_14_method_23_code 85 = .ok (.aload_n 0, 1) := by decide +kernel
theorem d_M_tellOne_86 : decode prog_14_method_23_code 86 = .ok (.getfield 248, 3) := by decide +kernel
theorem d_M_tellOne_89 : decode prog_14_method_23_code 89 = .ok (.imul, 1) := by decide +kernel
theorem d_M_tellOne_90 : decode prog_14_method_23_code 90 = .ok (.aload_n 0, 1) := by decide +kernel
theorem d_M_tellOne_91 : decode prog_14_method_23_code 91 = .ok (.getfield 46, 3) := by decide +kernel
theorem d_M_tellOne_94 : decode prog_14_method_23_code 94 = .ok (.aload_n 0, 1) := by decide +kernel
theorem d_M_tellOne_95 : decode prog_14_method_23_code 95 = .ok (.getfield 248, 3) := by decide +kernel
theorem d_M_tellOne_98 : decode prog_14_method_23_code 98 = .ok (.iaload, 1) := by decide +kernel
theorem d_M_tellOne_99 : decode prog_14_method_23_code 99 = .ok (.iadd, 1) := by decide +kernel
theorem d_M_tellOne_100 : decode prog_14_method_23_code 100 = .ok (.istore_n 1, 1) := by decide +kernel
theorem d_M_tellOne_101 : decode prog_14_method_23_code 101 = .ok (.aload_n 0, 1) := by decide +kernel
theorem d_M_tellOne_102 : decode prog_14_method_23_code 102 = .ok (.invokevirtual 273, 3) := by decide +kernel
theorem d_M_tellOne_105 : decode prog_14_method_23_code 105 = .ok (.istore_n 2, 1) := by decide +kernel
theorem d_M_tellOne_106 : decode prog_14_method_23_code 106 = .ok (.aload_n 0, 1) := by decide +kernel
theorem d_M_tellOne_107 : decode prog_14_method_23_code 107 = .ok (.getfield 49, 3) := by decide +kernel
theorem d_M_tellOne_110 : decode prog_14_method_23_code 110 = .ok (.iload_n 1, 1) := by decide +kernel
theorem d_M_tellOne_111 : decode prog_14_method_23_code 111 = .ok (.aload_n 0, 1) := by decide +kernel
theorem d_M_tellOne_112 : decode prog_14_method_23_code 112 = .ok (.iconst 0, 1) := by decide +kernel
theorem d_M_tellOne_113 : decode prog_14_method_23_code 113 = .ok (.iconst 4, 1) := by decide +kernel
theorem d_M_tellOne_114 : decode prog_14_method_23_code 114 = .ok (.invokevirtual 277, 3) := by decide +kernel
theorem d_M_tellOne_117 : decode prog_14_method_23_code 117 = .ok (.iastore, 1) := by decide +kernel
theorem d_M_tellOne_118 : decode prog_14_method_23_code 118 = .ok (.aload_n 0, 1) := by decide +kernel
theorem d_M_tellOne_119 : decode prog_14_method_23_code 119 = .ok (.getfield 52, 3) := by decide +kernel
theorem d_M_tellOne_122 : decode prog_14_method_23_code 122 = .ok (.iload_n 1, 1) := by decide +kernel
theorem d_M_tellOne_123 : decode prog_14_method_23_code 123 = .ok (.aload_n 0, 1) := by decide +kernel
theorem d_M_tellOne_124 : decode prog_14_method_23_code 124 = .ok (.iconst 0, 1) := by decide +kernel
theorem d_M_tellOne_125 : decode prog_14_method_23_code 125 = .ok (.bipush 99, 2) := by decide +kernel
theorem d_M_tellOne_127 : decode prog_14_method_23_code 127 = .ok (.invokevirtual 277, 3) := by decide +kernel
theorem d_M_tellOne_130 : decode prog_14_method_23_code 130 = .ok (.iastore, 1) := by decide +kernel
theorem d_M_tellOne_131 : decode prog_14_method_23_code 131 = .ok (.aload_n 0, 1) := by decide +kernel
theorem d_M_tellOne_132 : decode prog_14_method_23_code 132 = .ok (.iload_n 2, 1) := by decide +kernel
theorem d_M_tellOne_133 : decode prog_14_method_23_code 133 = .ok (.aload_n 0, 1) := by decide +kernel
theorem d_M_tellOne_134 : decode prog_14_method_23_code 134 = .ok (.getfield 46, 3) := by decide +kernel
theorem d_M_tellOne_137 : decode prog_14_method_23_code 137 = .ok (.aload_n 0, 1) := by decide +kernel
theorem d_M_tellOne_138 : decode prog_14_method_23_code 138 = .ok (.getfield 248, 3) := by decide +kernel
theorem d_M_tellOne_141 : decode prog_14_method_23_code 141 = .ok (.iaload, 1) := by decide +kernel
theorem d_M_tellOne_142 : decode prog_14_method_23_code 142 = .ok (.invokevirtual 281, 3) := by decide +kernel
theorem d_M_tellOne_145 : decode prog_14_method_23_code 145 = .ok (.aload_n 0, 1) := by decide +kernel
theorem d_M_tellOne_146 : decode prog_14_method_23_code 146 = .ok (.getfield 215, 3) := by decide +kernel
theorem d_M_tellOne_149 : decode prog_14_method_23_code 149 = .ok (.ifCond .ne 270, 3) := by decide +kernel
theorem d_M_tellOne_152 : decode prog_14_method_23_code 152 = .ok (.aload_n 0, 1) := by decide +kernel
theorem d_M_tellOne_153 : decode prog_14_method_23_code 153 = .ok (.getfield 46, 3) := by decide +kernel
theorem d_M_tellOne_156 : decode prog_14_method_23_code 156 = .ok (.aload_n 0, 1) := by decide +kernel
theorem d_M_tellOne_157 : decode prog_14_method_23_code 157 = .ok (.getfield 248, 3) := by decide +kernel
theorem d_M_tellOne_160 : decode prog_14_method_23_code 160 = .ok (.dup2, 1) := by decide +kernel
theorem d_M_tellOne_161 : decode prog_14_method_23_code 161 = .ok (.iaload, 1) := by decide +kernel
theorem d_M_tellOne_162 : decode prog_14_method_23_code 162 = .ok (.iconst 1, 1) := by decide +kernel
theorem d_M_tellOne_163 : decode prog_14_method_23_code 163 = .ok (.iadd, 1) := by decide +kernel
theorem d_M_tellOne_164 : decode prog_14_method_23_code 164 = .ok (.iastore, 1) := by decide +kernel
theorem d_M_tellOne_165 : decode prog_14_method_23_code 165 = .ok (.goto 254, 3) := by decide +kernel
theorem d_M_tellOne_168 : decode prog_14_method_23_code 168 = .ok (.aload_n 0, 1) := by decide +kernel
theorem d_M_tellOne_169 : decode prog_14_method_23_code 169 = .ok (.aload_n 0, 1) := by decide +kernel
theorem d_M_tellOne_170 : decode prog_14_method_23_code 170 = .ok (.getfield 55, 3) := by decide +kernel
theorem d_M_tellOne_173 : decode prog_14_method_23_code 173 = .ok (.aload_n 0, 1) := by decide +kernel
theorem d_M_tellOne_174 : decode prog_14_method_23_code 174 = .ok (.getfield 248, 3) := by decide +kernel
theorem d_M_tellOne_177 : decode prog_14_method_23_code 177 = .ok (.iaload, 1) := by decide +kernel
theorem d_M_tellOne_178 : decode prog_14_method_23_code 178 = .ok (.bipush 6, 2) := by decide +kernel
theorem d_M_tellOne_180 : decode prog_14_method_23_code 180 = .ok (.invokevirtual 269, 3) := by decide +kernel
theorem d_M_tellOne_183 : decode prog_14_method_23_code 183 = .ok (.aload_n 0, 1) := by decide +kernel
theorem d_M_tellOne_184 : decode prog_14_method_23_code 184 = .ok (.getfield 215, 3) := by decide +kernel
theorem d_M_tellOne_187 : decode prog_14_method_23_code 187 = .ok (.ifCond .le 4, 3) := by decide +kernel
theorem d_M_tellOne_190 : decode prog_14_method_23_code 190 = .ok (.return_, 1) := by decide +kernel
theorem d_M_tellOne_191 : decode prog_14_method_23_code 191 = .ok (.bipush 6, 2) := by decide +kernel
theorem d_M_tellOne_193 : decode prog_14_method_23_code 193 = .ok (.aload_n 0, 1) := by decide +kernel
theorem d_M_tellOne_194 : decode prog_14_method_23_code 194 = .ok (.getfield 248, 3) := by decide +kernel
theorem d_M_tellOne_197 : decode prog_14_method_23_code 197 = .ok (.imul, 1) := by decide +kernel
theorem d_M_tellOne_198 : decode prog_14_method_23_code 198 = .ok (.aload_n 0, 1) := by decide +kernel
theorem d_M_tellOne_199 : decode prog_14_method_23_code 199 = .ok (.getfield 55, 3) := by decide +kernel
theorem d_M_tellOne_202 : decode prog_14_method_23_code 202 = .ok (.aload_n 0, 1) := by decide +kernel
theorem d_M_tellOne_203 : decode prog_14_method_23_code 203 = .ok (.getfield 248, 3) := by decide +kernel
theorem d_M_tellOne_206 : decode prog_14_method_23_code 206 = .ok (.iaload, 1) := by decide +kernel
theorem d_M_tellOne_207 : decode prog_14_method_23_code 207 = .ok (.iadd, 1) := by decide +kernel
theorem d_M_tellOne_208 : decode prog_14_method_23_code 208 = .ok (.istore_n 1, 1) := by decide +kernel
theorem d_M_tellOne_209 : decode prog_14_method_23_code 209 = .ok (.aload_n 0, 1) := by decide +kernel
theorem d_M_tellOne_210 : decode prog_14_method_23_code 210 = .ok (.invokevirtual 273, 3) := by decide +kernel
theorem d_M_tellOne_213 : decode prog_14_method_23_code 213 = .ok (.istore_n 2, 1) := by decide +kernel
theorem d_M_tellOne_214 : decode prog_14_method_23_code 214 = .ok (.aload_n 0, 1) := by decide +kernel
theorem d_M_tellOne_215 : decode prog_14_method_23_code 215 = .ok (.getfield 58, 3) := by decide +kernel
theorem d_M_tellOne_218 : decode prog_14_method_23_code 218 = .ok (.iload_n 1, 1) := by decide +kernel
theorem d_M_tellOne_219 : decode prog_14_method_23_code 219 = .ok (.aload_n 0, 1) := by decide +kernel
theorem d_M_tellOne_220 : decode prog_14_method_23_code 220 = .ok (.iconst 0, 1) := by decide +kernel
theorem d_M_tellOne_221 : decode prog_14_method_23_code 221 = .ok (.bipush 99, 2) := by decide +kernel
theorem d_M_tellOne_223 : decode prog_14_method_23_code 223 = .ok (.invokevirtual 277, 3) := by decide +kernel
theorem d_M_tellOne_226 : decode prog_14_method_23_code 226 = .ok (.iastore, 1) := by decide +kernel
theorem d_M_tellOne_227 : decode prog_14_method_23_code 227 = .ok (.aload_n 0, 1) := by decide +kernel
theorem d_M_tellOne_228 : decode prog_14_method_23_code 228 = .ok (.getfield 61, 3) := by decide +kernel
theorem d_M_tellOne_231 : decode prog_14_method_23_code 231 = .ok (.iload_n 1, 1) := by decide +kernel
theorem d_M_tellOne_232 : decode prog_14_method_23_code 232 = .ok (.aload_n 0, 1) := by decide +kernel
theorem d_M_tellOne_233 : decode prog_14_method_23_code 233 = .ok (.iconst 0, 1) := by decide +kernel
theorem d_M_tellOne_234 : decode prog_14_method_23_code 234 = .ok (.bipush 9, 2) := by decide +kernel
theorem d_M_tellOne_236 : decode prog_14_method_23_code 236 = .ok (.invokevirtual 277, 3) := by decide +kernel
theorem d_M_tellOne_239 : decode prog_14_method_23_code 239 = .ok (.iastore, 1) := by decide +kernel
theorem d_M_tellOne_240 : decode prog_14_method_23_code 240 = .ok (.aload_n 0, 1) := by decide +kernel
theorem d_M_tellOne_241 : decode prog_14_method_23_code 241 = .ok (.iload_n 2, 1) := by decide +kernel
theorem d_M_tellOne_242 : decode prog_14_method_23_code 242 = .ok (.bipush 10, 2) := by decide +kernel
theorem d_M_tellOne_244 : decode prog_14_method_23_code 244 = .ok (.aload_n 0, 1) := by decide +kernel
theorem d_M_tellOne_245 : decode prog_14_method_23_code 245 = .ok (.getfield 55, 3) := by decide +kernel
theorem d_M_tellOne_248 : decode prog_14_method_23_code 248 = .ok (.aload_n 0, 1) := by decide +kernel
theorem d_M_tellOne_249 : decode prog_14_method_23_code 249 = .ok (.getfield 248, 3) := by decide +kernel
theorem d_M_tellOne_252 : decode prog_14_method_23_code 252 = .ok (.iaload, 1) := by decide +kernel
theorem d_M_tellOne_253 : decode prog_14_method_23_code 253 = .ok (.iadd, 1) := by decide +kernel
theorem d_M_tellOne_254 : decode prog_14_method_23_code 254 = .ok (.invokevirtual 281, 3) := by decide +kernel
theorem d_M_tellOne_257 : decode prog_14_method_23_code 257 = .ok (.aload_n 0, 1) := by decide +kernel
theorem d_M_tellOne_258 : decode prog_14_method_23_code 258 = .ok (.getfield 215, 3) := by decide +kernel
theorem d_M_tellOne_261 : decode prog_14_method_23_code 261 = .ok (.ifCond .ne 158, 3) := by decide +kernel
theorem d_M_tellOne_264 : decode prog_14_method_23_code 264 = .ok (.aload_n 0, 1) := by decide +kernel
theorem d_M_tellOne_265 : decode prog_14_method_23_code 265 = .ok (.getfield 55, 3) := by decide +kernel
theorem d_M_tellOne_268 : decode prog_14_method_23_code 268 = .ok (.aload_n 0, 1) := by decide +kernel
theorem d_M_tellOne_269 : decode prog_14_method_23_code 269 = .ok (.getfield 248, 3) := by decide +kernel
theorem d_M_tellOne_272 : decode prog_14_method_23_code 272 = .ok (.dup2, 1) := by decide +kernel
theorem d_M_tellOne_273 : decode prog_14_method_23_code 273 = .ok (.iaload, 1) := by decide +kernel
theorem d_M_tellOne_274 : decode prog_14_method_23_code 274 = .ok (.iconst 1, 1) := by decide +kernel
theorem d_M_tellOne_275 : decode prog_14_method_23_code 275 = .ok (.iadd, 1) := by decide +kernel
theorem d_M_tellOne_276 : decode prog_14_method_23_code 276 = .ok (.iastore, 1) := by decide +kernel
theorem d_M_tellOne_277 : decode prog_14_method_23_code 277 = .ok (.goto 142, 3) := by decide +kernel
theorem d_M_tellOne_280 : decode prog_14_method_23_code 280 = .ok (.aload_n 0, 1) := by decide +kernel
theorem d_M_tellOne_281 : decode prog_14_method_23_code 281 = .ok (.aload_n 0, 1) := by decide +kernel
theorem d_M_tellOne_282 : decode prog_14_method_23_code 282 = .ok (.getfield 67, 3) := by decide +kernel
theorem d_M_tellOne_285 : decode prog_14_method_23_code 285 = .ok (.aload_n 0, 1) := by decide +kernel
theorem d_M_tellOne_286 : decode prog_14_method_23_code 286 = .ok (.getfield 248, 3) := by decide +kernel
theorem d_M_tellOne_289 : decode prog_14_method_23_code 289 = .ok (.iaload, 1) := by decide +kernel
theorem d_M_tellOne_290 : decode prog_14_method_23_code 290 = .ok (.bipush 6, 2) := by decide +kernel
theorem d_M_tellOne_292 : decode prog_14_method_23_code 292 = .ok (.invokevirtual 269, 3) := by decide +kernel
theorem d_M_tellOne_295 : decode prog_14_method_23_code 295 = .ok (.aload_n 0, 1) := by decide +kernel
theorem d_M_tellOne_296 : decode prog_14_method_23_code 296 = .ok (.getfield 215, 3) := by decide +kernel
theorem d_M_tellOne_299 : decode prog_14_method_23_code 299 = .ok (.ifCond .ne 120, 3) := by decide +kernel
theorem d_M_tellOne_302 : decode prog_14_method_23_code 302 = .ok (.aload_n 0, 1) := by decide +kernel
theorem d_M_tellOne_303 : decode prog_14_method_23_code 303 = .ok (.invokevirtual 284, 3) := by decide +kernel
theorem d_M_tellOne_306 : decode prog_14_method_23_code 306 = .ok (.goto 113, 3) := by decide +kernel
theorem d_M_tellOne_309 : decode prog_14_method_23_code 309 = .ok (.aload_n 0, 1) := by decide +kernel
theorem d_M_tellOne_310 : decode prog_14_method_23_code 310 = .ok (.invokevirtual 236, 3) := by decide +kernel
theorem d_M_tellOne_313 : decode prog_14_method_23_code 313 = .ok (.aload_n 0, 1) := by decide +kernel
theorem d_M_tellOne_314 : decode prog_14_method_23_code 314 = .ok (.getfield 70, 3) := by decide +kernel
theorem d_M_tellOne_317 : decode prog_14_method_23_code 317 = .ok (.aload_n 0, 1) := by decide +kernel
theorem d_M_tellOne_318 : decode prog_14_method_23_code 318 = .ok (.getfield 248, 3) := by decide +kernel
theorem d_M_tellOne_321 : decode prog_14_method_23_code 321 = .ok (.aload_n 0, 1) := by decide +kernel
theorem d_M_tellOne_322 : decode prog_14_method_23_code 322 = .ok (.iconst 0, 1) := by decide +kernel
theorem d_M_tellOne_323 : decode prog_14_method_23_code 323 = .ok (.bipush 100, 2) := by decide +kernel
theorem d_M_tellOne_325 : decode prog_14_method_23_code 325 = .ok (.invokevirtual 277, 3) := by decide +kernel
theorem d_M_tellOne_328 : decode prog_14_method_23_code 328 = .ok (.iastore, 1) := by decide +kernel
theorem d_M_tellOne_329 : decode prog_14_method_23_code 329 = .ok (.aload_n 0, 1) := by decide +kernel
theorem d_M_tellOne_330 : decode prog_14_method_23_code 330 = .ok (.iconst 4, 1) := by decide +kernel
theorem d_M_tellOne_331 : decode prog_14_method_23_code 331 = .ok (.invokevirtual 287, 3) := by decide +kernel
theorem d_M_tellOne_334 : decode prog_14_method_23_code 334 = .ok (.goto 85, 3) := by decide +kernel
theorem d_M_tellOne_337 : decode prog_14_method_23_code 337 = .ok (.aload_n 0, 1) := by decide +kernel
theorem d_M_tellOne_338 : decode prog_14_method_23_code 338 = .ok (.invokevirtual 236, 3) := by decide +kernel
theorem d_M_tellOne_341 : decode prog_14_method_23_code 341 = .ok (.aload_n 0, 1) := by decide +kernel
theorem d_M_tellOne_342 : decode prog_14_method_23_code 342 = .ok (.getfield 73, 3) := by decide +kernel
theorem d_M_tellOne_345 : decode prog_14_method_23_code 345 = .ok (.aload_n 0, 1) := by decide +kernel
theorem d_M_tellOne_346 : decode prog_14_method_23_code 346 = .ok (.getfield 248, 3) := by decide +kernel
theorem d_M_tellOne_349 : decode prog_14_method_23_code 349 = .ok (.aload_n 0, 1) := by decide +kernel
theorem d_M_tellOne_350 : decode prog_14_method_23_code 350 = .ok (.iconst 0, 1) := by decide +kernel
theorem d_M_tellOne_351 : decode prog_14_method_23_code 351 = .ok (.sipush 9999, 3) := by decide +kernel
theorem d_M_tellOne_354 : decode prog_14_method_23_code 354 = .ok (.invokevirtual 277, 3) := by decide +kernel
theorem d_M_tellOne_357 : decode prog_14_method_23_code 357 = .ok (.iastore, 1) := by decide +kernel
theorem d_M_tellOne_358 : decode prog_14_method_23_code 358 = .ok (.aload_n 0, 1) := by decide +kernel
theorem d_M_tellOne_359 : decode prog_14_method_23_code 359 = .ok (.iconst 4, 1) := by decide +kernel
theorem d_M_tellOne_360 : decode prog_14_method_23_code 360 = .ok (.invokevirtual 287, 3) := by decide +kernel
theorem d_M_tellOne_363 : decode prog_14_method_23_code 363 = .ok (.goto 56, 3) := by decide +kernel
theorem d_M_tellOne_366 : decode prog_14_method_23_code 366 = .ok (.aload_n 0, 1) := by decide +kernel
theorem d_M_tellOne_367 : decode prog_14_method_23_code 367 = .ok (.getfield 20, 3) := by decide +kernel
theorem d_M_tellOne_370 : decode prog_14_method_23_code 370 = .ok (.aload_n 0, 1) := by decide +kernel
theorem d_M_tellOne_371 : decode prog_14_method_23_code 371 = .ok (.getfield 218, 3) := by decide +kernel
theorem d_M_tellOne_374 : decode prog_14_method_23_code 374 = .ok (.iaload, 1) := by decide +kernel
theorem d_M_tellOne_375 : decode prog_14_method_23_code 375 = .ok (.bipush 23, 2) := by decide +kernel
theorem d_M_tellOne_377 : decode prog_14_method_23_code 377 = .ok (.isub, 1) := by decide +kernel
theorem d_M_tellOne_378 : decode prog_14_method_23_code 378 = .ok (.istore_n 1, 1) := by decide +kernel
theorem d_M_tellOne_379 : decode prog_14_method_23_code 379 = .ok (.iload_n 1, 1) := by decide +kernel
theorem d_M_tellOne_380 : decode prog_14_method_23_code 380 = .ok (.ifCond .lt 17, 3) := by decide +kernel
theorem d_M_tellOne_383 : decode prog_14_method_23_code 383 = .ok (.aload_n 0, 1) := by decide +kernel
theorem d_M_tellOne_384 : decode prog_14_method_23_code 384 = .ok (.getfield 20, 3) := by decide +kernel
theorem d_M_tellOne_387 : decode prog_14_method_23_code 387 = .ok (.aload_n 0, 1) := by decide +kernel
theorem d_M_tellOne_388 : decode prog_14_method_23_code 388 = .ok (.getfield 218, 3) := by decide +kernel
theorem d_M_tellOne_391 : decode prog_14_method_23_code 391 = .ok (.iaload, 1) := by decide +kernel
theorem d_M_tellOne_392 : decode prog_14_method_23_code 392 = .ok (.bipush 26, 2) := by decide +kernel
theorem d_M_tellOne_394 : decode prog_14_method_23_code 394 = .ok (.if_icmp .le 8, 3) := by decide +kernel
theorem d_M_tellOne_397 : decode prog_14_method_23_code 397 = .ok (.aload_n 0, 1) := by decide +kernel
theorem d_M_tellOne_398 : decode prog_14_method_23_code 398 = .ok (.iconst 1, 1) := by decide +kernel
theorem d_M_tellOne_399 : decode prog_14_method_23_code 399 = .ok (.invokevirtual 230, 3) := by decide +kernel
theorem d_M_tellOne_402 : decode prog_14_method_23_code 402 = .ok (.aload_n 0, 1) := by decide +kernel
theorem d_M_tellOne_403 : decode prog_14_method_23_code 403 = .ok (.getfield 215, 3) := by decide +kernel
theorem d_M_tellOne_406 : decode prog_14_method_23_code 406 = .ok (.ifCond .le 4, 3) := by decide +kernel
theorem d_M_tellOne_409 : decode prog_14_method_23_code 409 = .ok (.return_, 1) := by decide +kernel
theorem d_M_tellOne_410 : decode prog_14_method_23_code 410 = .ok (.aload_n 0, 1) := by decide +kernel
theorem d_M_tellOne_411 : decode prog_14_method_23_code 411 = .ok (.invokevirtual 236, 3) := by decide +kernel
theorem d_M_tellOne_414 : decode prog_14_method_23_code 414 = .ok (.aload_n 0, 1) := by decide +kernel
theorem d_M_tellOne_415 : decode prog_14_method_23_code 415 = .ok (.iload_n 1, 1) := by decide +kernel
theorem d_M_tellOne_416 : decode prog_14_method_23_code 416 = .ok (.invokevirtual 290, 3) := by decide +kernel
theorem d_M_tellOne_419 : decode prog_14_method_23_code 419 = .ok (.return_, 1) := by decide +kernel
def w_M_roomFor (N : Nat) (x0 : Nat) (x1 : Int32) (x2 : Int32) (h : qH) (Q : qH → Prop) : Prop := ((¬ x1 = x2 → (qS h x0 = .inl 12 ∧ ((¬ (qI h x0 13) = 0 → Q h) ∧ ((qI h x0 13) = 0 → (w_M_goesOn N x0 h (fun h4 => Q h4)))))) ∧ (x1 = x2 → (qS h x0 = .inl 12 ∧ w_M_fail N x0 (2 : Int32) h (fun h6 => (qS h6 x0 = .inl 12 ∧ ((¬ (qI h6 x0 13) = 0 → Q h6) ∧ ((qI h6 x0 13) = 0 → (w_M_goesOn N x0 h6 (fun h9 => Q h9)))))))))
def w_M_known_21 (N : Nat) : Nat → Nat → Int32 → Int32 → Int32 → qH → (Int32 → qH → Prop) → Prop
  | 0 => fun _ _ _ _ _ _ => False
  | k + 1 => fun x0 x1 x2 x3 h Q => (qS h x0 = .inl 12 ∧ (((qI h x0 20) ≤ x3 → (w_M_wrong N x0 (4 : Int32) x2 h (fun h3 => Q (-1 : Int32) h3))) ∧ (¬ (qI h x0 20) ≤ x3 → (qok h (qR h x0 21) 3 x3 ∧ (qok h (qR h x0 8) 3 x2 ∧ ((¬ (lg_cmp (qJ h (qR h x0 21) (x3).toNatClampNeg) (qJ h (qR h x0 8) (x2).toNatClampNeg)) = 0 → (w_M_known_21 N k x0 x1 x2 (x3 + (1 : Int32)) h Q)) ∧ ((lg_cmp (qJ h (qR h x0 21) (x3).toNatClampNeg) (qJ h (qR h x0 8) (x2).toNatClampNeg)) = 0 → (qok h (qR h x0 22) 0 x3 ∧ (((qI h (qR h x0 22) (x3).toNatClampNeg) < x1 → (w_M_known_21 N k x0 x1 x2 (x3 + (1 : Int32)) h Q)) ∧ (¬ (qI h (qR h x0 22) (x3).toNatClampNeg) < x1 → (((x1 + (10 : Int32)) ≤ (qI h (qR h x0 22) (x3).toNatClampNeg) → (w_M_known_21 N k x0 x1 x2 (x3 + (1 : Int32)) h Q)) ∧ (¬ (x1 + (10 : Int32)) ≤ (qI h (qR h x0 22) (x3).toNatClampNeg) → Q ((qI h (qR h x0 22) (x3).toNatClampNeg) - x1) h))))))))))))
def w_M_known (N : Nat) (x0 : Nat) (x1 : Int32) (h : qH) (Q : Int32 → qH → Prop) : Prop := (qS h x0 = .inl 12 ∧ (∀ y2 : Int32, y2 = (qI h x0 11) → (w_M_must N x0 (1 : Int32) h (fun h3 => (qS h3 x0 = .inl 12 ∧ (((qI h3 x0 13) ≤ 0 → (w_M_known_21 N N x0 x1 y2 (0 : Int32) h3 Q )) ∧ (¬ (qI h3 x0 13) ≤ 0 → Q (-1 : Int32) h3)))))))
def w_M_tellHangs_60 (N : Nat) : Nat → Nat → Int32 → Int32 → Int32 → Int32 → qH → (qH → Prop) → (Nat → Int32 → Int32 → qH → Prop) → Prop
  | 0 => fun _ _ _ _ _ _ _ _ => False
  | k + 1 => fun x0 x1 x2 x3 x4 h Q K109 => (((6 : Int32) ≤ x4 → (K109 x0 x2 x3 h)) ∧ (¬ (6 : Int32) ≤ x4 → (qS h x0 = .inl 12 ∧ ((¬ (qI h x0 13) = 0 → (K109 x0 x2 x3 h)) ∧ ((qI h x0 13) = 0 → ((x3 < 0 → (K109 x0 x2 x3 h)) ∧ (¬ x3 < 0 → (qok h (qR h x0 29) 0 (((6 : Int32) * (qI h x0 19)) + x4) ∧ ((¬ (qI h (qR h x0 29) ((((6 : Int32) * (qI h x0 19)) + x4)).toNatClampNeg) = x3 → (w_M_tellHangs_60 N k x0 x1 x2 x3 (x4 + (1 : Int32)) h Q K109)) ∧ ((qI h (qR h x0 29) ((((6 : Int32) * (qI h x0 19)) + x4)).toNatClampNeg) = x3 → (w_M_wrong N x0 (3 : Int32) x1 h (fun h7 => (w_M_tellHangs_60 N k x0 x1 x2 x3 (x4 + (1 : Int32)) h7 Q K109)))))))))))))
def w_M_tellHangs_109 (N : Nat) (x0 : Nat) (x2 : Int32) (x3 : Int32) (h : qH) (Q : qH → Prop)  : Prop := (qS h x0 = .inl 12 ∧ w_M_must N x0 (4 : Int32) h (fun h2 => (qS h2 x0 = .inl 12 ∧ (((qI h2 x0 13) ≤ 0 → (qok h2 (qR h2 x0 30) 0 (qI h2 x0 19) ∧ (∀ h6 : qH, h6 = qsI h2 (qR h2 x0 30) ((qI h2 x0 19)).toNatClampNeg ((qI h2 (qR h2 x0 30) ((qI h2 x0 19)).toNatClampNeg) + (1 : Int32)) → ((x2 < 0 → Q h6) ∧ (¬ x2 < 0 → ((x3 < 0 → Q h6) ∧ (¬ x3 < 0 → (qS h6 x0 = .inl 12 ∧ (qok h6 (qR h6 x0 29) 0 (((6 : Int32) * (qI h6 x0 19)) + x2) ∧ ∀ h11 : qH, h11 = qsI h6 (qR h6 x0 29) ((((6 : Int32) * (qI h6 x0 19)) + x2)).toNatClampNeg x3 → Q h11))))))))) ∧ (¬ (qI h2 x0 13) ≤ 0 → Q h2)))))
def w_M_tellHangs_46 (N : Nat) (x0 : Nat) (x2 : Int32) (h : qH) (Q : qH → Prop)  : Prop := (qS h x0 = .inl 12 ∧ (∀ y2 : Int32, y2 = (qI h x0 11) → (w_M_known N x0 (0 : Int32) h (fun r3 h4 => (w_M_tellHangs_60 N N x0 y2 x2 r3 (0 : Int32) h4 Q (fun x5 x6 x7 h8 => (w_M_tellHangs_109 N x5 x6 x7 h8 Q )))))))
def w_M_tellHangs (N : Nat) (x0 : Nat) (h : qH) (Q : qH → Prop) : Prop := (qS h x0 = .inl 12 ∧ (∀ y2 : Int32, y2 = (qI h x0 11) → (w_M_known N x0 (10 : Int32) h (fun r3 h4 => (qS h4 x0 = .inl 12 ∧ ((¬ (qI h4 x0 13) = 0 → (w_M_tellHangs_46 N x0 r3 h4 Q )) ∧ ((qI h4 x0 13) = 0 → ((r3 < 0 → (w_M_tellHangs_46 N x0 r3 h4 Q )) ∧ (¬ r3 < 0 → (qok h4 (qR h4 x0 29) 0 (((6 : Int32) * (qI h4 x0 19)) + r3) ∧ (((qI h4 (qR h4 x0 29) ((((6 : Int32) * (qI h4 x0 19)) + r3)).toNatClampNeg) < 0 → (w_M_tellHangs_46 N x0 r3 h4 Q )) ∧ (¬ (qI h4 (qR h4 x0 29) ((((6 : Int32) * (qI h4 x0 19)) + r3)).toNatClampNeg) < 0 → (w_M_wrong N x0 (3 : Int32) y2 h4 (fun h10 => (w_M_tellHangs_46 N x0 r3 h10 Q )))))))))))))))
def w_M_emit (N : Nat) (x0 : Nat) (x1 : Int32) (x2 : Int32) (h : qH) (Q : qH → Prop) : Prop := (qS h x0 = .inl 12 ∧ (qok h (qR h x0 42) 0 (qI h x0 41) ∧ ∀ h3 : qH, h3 = qsI h (qR h x0 42) ((qI h x0 41)).toNatClampNeg x1 → (qS h3 x0 = .inl 12 ∧ (qok h3 (qR h3 x0 43) 0 (qI h3 x0 41) ∧ ∀ h6 : qH, h6 = qsI h3 (qR h3 x0 43) ((qI h3 x0 41)).toNatClampNeg x2 → (qS h6 x0 = .inl 12 ∧ (∀ h8 : qH, h8 = qsI h6 x0 41 ((qI h6 x0 41) + (1 : Int32)) → Q h8))))))
def w_M_comesOut_42 (N : Nat) (x0 : Nat) (x1 : Int32) (x2 : Int32) (h : qH) (Q : qH → Prop) (K0 : Nat → Int32 → qH → Prop) : Prop := (qS h x0 = .inl 12 ∧ (∀ h2 : qH, h2 = qsI h x0 45 ((qI h x0 45) - (1 : Int32)) → ((¬ x2 = (8 : Int32) → ((¬ x2 = (9 : Int32) → ((¬ x2 = (10 : Int32) → (qS h2 x0 = .inl 12 ∧ w_M_emit N x0 (5 : Int32) (0 : Int32) h2 (fun h7 => (K0 x0 x1 h7)))) ∧ (x2 = (10 : Int32) → (qS h2 x0 = .inl 12 ∧ w_M_emit N x0 (4 : Int32) (0 : Int32) h2 (fun h9 => (K0 x0 x1 h9)))))) ∧ (x2 = (9 : Int32) → (qS h2 x0 = .inl 12 ∧ w_M_emit N x0 (3 : Int32) (0 : Int32) h2 (fun h11 => (K0 x0 x1 h11)))))) ∧ (x2 = (8 : Int32) → (qS h2 x0 = .inl 12 ∧ w_M_emit N x0 (2 : Int32) (0 : Int32) h2 (fun h13 => (K0 x0 x1 h13)))))))
def w_M_comesOut_0 (N : Nat) : Nat → Nat → Int32 → qH → (qH → Prop) → Prop
  | 0 => fun _ _ _ _ => False
  | k + 1 => fun x0 x1 h Q => (qS h x0 = .inl 12 ∧ (((qI h x0 45) ≤ 0 → Q h) ∧ (¬ (qI h x0 45) ≤ 0 → (qok h (qR h x0 44) 0 ((qI h x0 45) - (1 : Int32)) ∧ (∀ y4 : Int32, y4 = (qI h (qR h x0 44) (((qI h x0 45) - (1 : Int32))).toNatClampNeg) → ((y4 = (6 : Int32) → Q h) ∧ (¬ y4 = (6 : Int32) → ((x1 = 0 → (w_M_comesOut_42 N x0 x1 y4 h Q (fun x0 x1 h => w_M_comesOut_0 N k x0 x1 h Q))) ∧ (¬ x1 = 0 → ((y4 = (8 : Int32) → Q h) ∧ (¬ y4 = (8 : Int32) → ((¬ y4 = (9 : Int32) → (w_M_comesOut_42 N x0 x1 y4 h Q (fun x0 x1 h => w_M_comesOut_0 N k x0 x1 h Q))) ∧ (y4 = (9 : Int32) → Q h)))))))))))))
def w_M_comesOut (N : Nat) (x0 : Nat) (x1 : Int32) (h : qH) (Q : qH → Prop) : Prop := (w_M_comesOut_0 N N x0 x1 h Q )
def w_M_unit (N : Nat) (x0 : Nat) (h : qH) (Q : qH → Prop) : Prop := (qS h x0 = .inl 12 ∧ w_M_is N x0 (2 : Int32) h (fun r2 h3 => ((r2 = 0 → (qS h3 x0 = .inl 12 ∧ ((¬ (qI h3 x0 13) = 0 → (w_M_fail N x0 (1 : Int32) h3 (fun h7 => Q h7))) ∧ ((qI h3 x0 13) = 0 → (qok h3 (qR h3 x0 5) 0 (qI h3 x0 11) ∧ (((qI h3 (qR h3 x0 5) ((qI h3 x0 11)).toNatClampNeg) < (32 : Int32) → (w_M_fail N x0 (1 : Int32) h3 (fun h10 => Q h10))) ∧ (¬ (qI h3 (qR h3 x0 5) ((qI h3 x0 11)).toNatClampNeg) < (32 : Int32) → (((40 : Int32) < (qI h3 (qR h3 x0 5) ((qI h3 x0 11)).toNatClampNeg) → (w_M_fail N x0 (1 : Int32) h3 (fun h12 => Q h12))) ∧ (¬ (40 : Int32) < (qI h3 (qR h3 x0 5) ((qI h3 x0 11)).toNatClampNeg) → (w_M_emit N x0 (1 : Int32) ((qI h3 (qR h3 x0 5) ((qI h3 x0 11)).toNatClampNeg) - (32 : Int32)) h3 (fun h13 => (qS h13 x0 = .inl 12 ∧ w_M_goesOn N x0 h13 (fun h15 => Q h15))))))))))))) ∧ (¬ r2 = 0 → (qS h3 x0 = .inl 12 ∧ (qok h3 (qR h3 x0 7) 0 (qI h3 x0 11) ∧ (w_M_emit N x0 (0 : Int32) (qI h3 (qR h3 x0 7) ((qI h3 x0 11)).toNatClampNeg) h3 (fun h18 => (qS h18 x0 = .inl 12 ∧ w_M_goesOn N x0 h18 (fun h20 => Q h20))))))))))
def w_M_expression_46 (N : Nat) (x0 : Nat) (x1 : Int32) (h : qH) (Q : qH → Prop) (K23 : Nat → Int32 → qH → Prop) : Prop := (qS h x0 = .inl 12 ∧ (∀ h2 : qH, h2 = qsI h x0 12 ((qI h x0 12) + (1 : Int32)) → (qS h2 x0 = .inl 12 ∧ w_M_goesOn N x0 h2 (fun h4 => (qS h4 x0 = .inl 12 ∧ (qok h4 (qR h4 x0 44) 0 (qI h4 x0 45) ∧ ∀ h7 : qH, h7 = qsI h4 (qR h4 x0 44) ((qI h4 x0 45)).toNatClampNeg (6 : Int32) → (qS h7 x0 = .inl 12 ∧ (∀ h9 : qH, h9 = qsI h7 x0 45 ((qI h7 x0 45) + (1 : Int32)) → (K23 x0 x1 h9)))))))))
def w_M_expression_23 (N : Nat) : Nat → Nat → Int32 → qH → (qH → Prop) → (Nat → Int32 → qH → Prop) → Prop
  | 0 => fun _ _ _ _ _ => False
  | k + 1 => fun x0 x1 h Q K84 => (qS h x0 = .inl 12 ∧ w_M_is N x0 (6 : Int32) h (fun r2 h3 => ((r2 = 0 → (K84 x0 x1 h3)) ∧ (¬ r2 = 0 → (qS h3 x0 = .inl 12 ∧ ((¬ (qI h3 x0 12) = (6 : Int32) → (w_M_expression_46 N x0 x1 h3 Q (fun x0 x1 h => w_M_expression_23 N k x0 x1 h Q K84))) ∧ ((qI h3 x0 12) = (6 : Int32) → (w_M_fail N x0 (2 : Int32) h3 (fun h7 => (w_M_expression_46 N x0 x1 h7 Q (fun x0 x1 h => w_M_expression_23 N k x0 x1 h Q K84)))))))))))
def w_M_expression_96 (N : Nat) : Nat → Nat → Int32 → qH → (qH → Prop) → (Nat → Int32 → qH → Prop) → Prop
  | 0 => fun _ _ _ _ _ => False
  | k + 1 => fun x0 x1 h Q K145 => (qS h x0 = .inl 12 ∧ w_M_is N x0 (7 : Int32) h (fun r2 h3 => ((r2 = 0 → (K145 x0 x1 h3)) ∧ (¬ r2 = 0 → (qS h3 x0 = .inl 12 ∧ (((qI h3 x0 12) ≤ x1 → (K145 x0 x1 h3)) ∧ (¬ (qI h3 x0 12) ≤ x1 → (w_M_comesOut N x0 (0 : Int32) h3 (fun h7 => (qS h7 x0 = .inl 12 ∧ (∀ h9 : qH, h9 = qsI h7 x0 45 ((qI h7 x0 45) - (1 : Int32)) → (qS h9 x0 = .inl 12 ∧ (∀ h11 : qH, h11 = qsI h9 x0 12 ((qI h9 x0 12) - (1 : Int32)) → (qS h11 x0 = .inl 12 ∧ w_M_goesOn N x0 h11 (fun h13 => (w_M_expression_96 N k x0 x1 h13 Q K145))))))))))))))))
def w_M_expression_234 (N : Nat) (x0 : Nat) (x1 : Int32) (x2 : Int32) (z0 : Int32) (z1 : Nat) (h : qH) (Q : qH → Prop) (K12 : Nat → Int32 → Int32 → qH → Prop) : Prop := (qS h z1 = .inl 12 ∧ w_M_comesOut N z1 z0 h (fun h2 => (qS h2 x0 = .inl 12 ∧ (qok h2 (qR h2 x0 5) 0 (qI h2 x0 11) ∧ (qok h2 (qR h2 x0 44) 0 (qI h2 x0 45) ∧ ∀ h6 : qH, h6 = qsI h2 (qR h2 x0 44) ((qI h2 x0 45)).toNatClampNeg (qI h2 (qR h2 x0 5) ((qI h2 x0 11)).toNatClampNeg) → (qS h6 x0 = .inl 12 ∧ (∀ h8 : qH, h8 = qsI h6 x0 45 ((qI h6 x0 45) + (1 : Int32)) → (qS h8 x0 = .inl 12 ∧ w_M_goesOn N x0 h8 (fun h10 => (K12 x0 x1 x2 h10))))))))))
def w_M_expression_229 (N : Nat) (x0 : Nat) (x1 : Int32) (x2 : Int32) (z0 : Nat) (h : qH) (Q : qH → Prop) (K12 : Nat → Int32 → Int32 → qH → Prop) : Prop := (w_M_expression_234 N x0 x1 x2 (1 : Int32) z0 h Q K12)
def w_M_expression_186 (N : Nat) (x0 : Nat) (x1 : Int32) (z0 : Int32) (h : qH) (Q : qH → Prop) (K12 : Nat → Int32 → Int32 → qH → Prop) (K191 : Nat → Int32 → qH → Prop) : Prop := ((¬ z0 = 0 → (qS h x0 = .inl 12 ∧ w_M_is N x0 (10 : Int32) h (fun r3 h4 => ((¬ r3 = 0 → (w_M_expression_229 N x0 x1 z0 x0 h4 Q K12)) ∧ (r3 = 0 → (qS h4 x0 = .inl 12 ∧ w_M_is N x0 (15 : Int32) h4 (fun r7 h8 => ((r7 = 0 → (w_M_expression_234 N x0 x1 z0 (0 : Int32) x0 h8 Q K12)) ∧ (¬ r7 = 0 → (w_M_expression_229 N x0 x1 z0 x0 h8 Q K12)))))))))) ∧ (z0 = 0 → (K191 x0 x1 h)))
def w_M_expression_181 (N : Nat) (x0 : Nat) (x1 : Int32) (h : qH) (Q : qH → Prop) (K12 : Nat → Int32 → Int32 → qH → Prop) (K191 : Nat → Int32 → qH → Prop) : Prop := (w_M_expression_186 N x0 x1 (1 : Int32) h Q K12 K191)
def w_M_expression_145 (N : Nat) (x0 : Nat) (x1 : Int32) (h : qH) (Q : qH → Prop) (K12 : Nat → Int32 → Int32 → qH → Prop) (K191 : Nat → Int32 → qH → Prop) : Prop := (qS h x0 = .inl 12 ∧ w_M_is N x0 (8 : Int32) h (fun r2 h3 => ((¬ r2 = 0 → (w_M_expression_181 N x0 x1 h3 Q K12 K191)) ∧ (r2 = 0 → (qS h3 x0 = .inl 12 ∧ w_M_is N x0 (9 : Int32) h3 (fun r6 h7 => ((¬ r6 = 0 → (w_M_expression_181 N x0 x1 h7 Q K12 K191)) ∧ (r6 = 0 → (qS h7 x0 = .inl 12 ∧ w_M_is N x0 (10 : Int32) h7 (fun r10 h11 => ((¬ r10 = 0 → (w_M_expression_181 N x0 x1 h11 Q K12 K191)) ∧ (r10 = 0 → (qS h11 x0 = .inl 12 ∧ w_M_is N x0 (15 : Int32) h11 (fun r14 h15 => ((r14 = 0 → (w_M_expression_186 N x0 x1 (0 : Int32) h15 Q K12 K191)) ∧ (¬ r14 = 0 → (w_M_expression_181 N x0 x1 h15 Q K12 K191)))))))))))))))))
def w_M_expression_12 (N : Nat) : Nat → Nat → Int32 → Int32 → qH → (qH → Prop) → (Nat → Int32 → qH → Prop) → Prop
  | 0 => fun _ _ _ _ _ _ => False
  | k + 1 => fun x0 x1 x2 h Q K191 => ((x2 = 0 → Q h) ∧ (¬ x2 = 0 → (qS h x0 = .inl 12 ∧ ((¬ (qI h x0 13) = 0 → Q h) ∧ ((qI h x0 13) = 0 → (w_M_expression_23 N N x0 x1 h Q (fun x4 x5 h6 => (qS h6 x4 = .inl 12 ∧ w_M_unit N x4 h6 (fun h8 => (qS h8 x4 = .inl 12 ∧ (((qI h8 x4 13) ≤ 0 → (w_M_expression_96 N N x4 x5 h8 Q (fun x11 x12 h13 => (w_M_expression_145 N x11 x12 h13 Q (fun x0 x1 x2 h => w_M_expression_12 N k x0 x1 x2 h Q K191) K191)))) ∧ (¬ (qI h8 x4 13) ≤ 0 → Q h8))))))))))))
def w_M_expression (N : Nat) (x0 : Nat) (h : qH) (Q : qH → Prop) : Prop := (qS h x0 = .inl 12 ∧ ∀ h2 : qH, h2 = qsI h x0 45 (0 : Int32) → (qS h2 x0 = .inl 12 ∧ (∀ y4 : Int32, y4 = (qI h2 x0 12) → (w_M_expression_12 N N x0 y4 (1 : Int32) h2 Q (fun x5 x6 h7 => (qS h7 x5 = .inl 12 ∧ (((qI h7 x5 12) ≤ x6 → (w_M_comesOut N x5 (0 : Int32) h7 (fun h10 => Q h10))) ∧ (¬ (qI h7 x5 12) ≤ x6 → (w_M_fail N x5 (1 : Int32) h7 (fun h11 => (qS h11 x5 = .inl 12 ∧ w_M_comesOut N x5 (0 : Int32) h11 (fun h13 => Q h13))))))))))))
def w_M_term_24 (N : Nat) (x0 : Nat) (h : qH) (Q : qH → Prop)  : Prop := (qS h x0 = .inl 12 ∧ (qok h (qR h x0 40) 0 (qI h x0 35) ∧ ∀ h3 : qH, h3 = qsI h (qR h x0 40) ((qI h x0 35)).toNatClampNeg (qI h x0 41) → (qS h3 x0 = .inl 12 ∧ (∀ h5 : qH, h5 = qsI h3 x0 35 ((qI h3 x0 35) + (1 : Int32)) → Q h5))))
def w_M_term (N : Nat) (x0 : Nat) (h : qH) (Q : qH → Prop) : Prop := (qS h x0 = .inl 12 ∧ (qok h (qR h x0 39) 0 (qI h x0 35) ∧ ∀ h3 : qH, h3 = qsI h (qR h x0 39) ((qI h x0 35)).toNatClampNeg (qI h x0 41) → (qS h3 x0 = .inl 12 ∧ ((¬ (qI h3 x0 13) = 0 → (w_M_term_24 N x0 h3 Q )) ∧ ((qI h3 x0 13) = 0 → (w_M_expression N x0 h3 (fun h6 => (w_M_term_24 N x0 h6 Q ))))))))
def w_M_tellLaw_38 (N : Nat) (x0 : Nat) (x1 : Int32) (x2 : Int32) (x3 : Int32) (h : qH) (Q : qH → Prop) (K12 : Nat → Int32 → Int32 → Int32 → qH → Prop) : Prop := (qS h x0 = .inl 12 ∧ (((qI h x0 13) ≤ 0 → (w_M_goesOn N x0 h (fun h3 => (qS h3 x0 = .inl 12 ∧ (qok h3 (qR h3 x0 36) 2 (qI h3 x0 35) ∧ ∀ h6 : qH, h6 = qsI h3 (qR h3 x0 36) ((qI h3 x0 35)).toNatClampNeg (vp_nar .boolean (1 : Int32)) → (qS h6 x0 = .inl 12 ∧ (qok h6 (qR h6 x0 37) 0 (qI h6 x0 35) ∧ ∀ h9 : qH, h9 = qsI h6 (qR h6 x0 37) ((qI h6 x0 35)).toNatClampNeg (qI h6 x0 41) → (qS h9 x0 = .inl 12 ∧ w_M_expression N x0 h9 (fun h11 => (qS h11 x0 = .inl 12 ∧ w_M_must N x0 (13 : Int32) h11 (fun h13 => (qS h13 x0 = .inl 12 ∧ (qok h13 (qR h13 x0 38) 0 (qI h13 x0 35) ∧ ∀ h16 : qH, h16 = qsI h13 (qR h13 x0 38) ((qI h13 x0 35)).toNatClampNeg (qI h13 x0 41) → (qS h16 x0 = .inl 12 ∧ ((¬ (qI h16 x0 13) = 0 → (w_M_must N x0 (30 : Int32) h16 (fun h19 => (qS h19 x0 = .inl 12 ∧ w_M_term N x0 h19 (fun h21 => (qS h21 x0 = .inl 12 ∧ w_M_must N x0 (31 : Int32) h21 (fun h23 => (K12 x0 x1 x2 (x3 + (1 : Int32)) h23)))))))) ∧ ((qI h16 x0 13) = 0 → (w_M_expression N x0 h16 (fun h24 => (qS h24 x0 = .inl 12 ∧ w_M_must N x0 (30 : Int32) h24 (fun h26 => (qS h26 x0 = .inl 12 ∧ w_M_term N x0 h26 (fun h28 => (qS h28 x0 = .inl 12 ∧ w_M_must N x0 (31 : Int32) h28 (fun h30 => (K12 x0 x1 x2 (x3 + (1 : Int32)) h30))))))))))))))))))))))))) ∧ (¬ (qI h x0 13) ≤ 0 → Q h)))
def w_M_tellLaw_12 (N : Nat) : Nat → Nat → Int32 → Int32 → Int32 → qH → (qH → Prop) → (Nat → Int32 → Int32 → qH → Prop) → Prop
  | 0 => fun _ _ _ _ _ _ _ => False
  | k + 1 => fun x0 x1 x2 x3 h Q K129 => (qS h x0 = .inl 12 ∧ ((¬ (qI h x0 13) = 0 → (K129 x0 x1 x2 h)) ∧ ((qI h x0 13) = 0 → (w_M_is N x0 (29 : Int32) h (fun r3 h4 => ((r3 = 0 → (K129 x0 x1 x2 h4)) ∧ (¬ r3 = 0 → ((¬ x3 = (4 : Int32) → (w_M_tellLaw_38 N x0 x1 x2 x3 h4 Q (fun x0 x1 x2 x3 h => w_M_tellLaw_12 N k x0 x1 x2 x3 h Q K129))) ∧ (x3 = (4 : Int32) → (qS h4 x0 = .inl 12 ∧ w_M_fail N x0 (2 : Int32) h4 (fun h8 => (w_M_tellLaw_38 N x0 x1 x2 x3 h8 Q (fun x0 x1 x2 x3 h => w_M_tellLaw_12 N k x0 x1 x2 x3 h Q K129)))))))))))))
def w_M_tellLaw_129 (N : Nat) (x0 : Nat) (x1 : Int32) (x2 : Int32) (h : qH) (Q : qH → Prop)  : Prop := (qS h x0 = .inl 12 ∧ (qok h (qR h x0 36) 2 (qI h x0 35) ∧ ∀ h3 : qH, h3 = qsI h (qR h x0 36) ((qI h x0 35)).toNatClampNeg (vp_nar .boolean (0 : Int32)) → (qS h3 x0 = .inl 12 ∧ w_M_term N x0 h3 (fun h5 => (qS h5 x0 = .inl 12 ∧ w_M_must N x0 (4 : Int32) h5 (fun h7 => (qS h7 x0 = .inl 12 ∧ (((qI h7 x0 13) ≤ 0 → (qok h7 (qR h7 x0 33) 0 (((4 : Int32) * (qI h7 x0 19)) + x1) ∧ ∀ h11 : qH, h11 = qsI h7 (qR h7 x0 33) ((((4 : Int32) * (qI h7 x0 19)) + x1)).toNatClampNeg x2 → (qS h11 x0 = .inl 12 ∧ (qok h11 (qR h11 x0 34) 0 (((4 : Int32) * (qI h11 x0 19)) + x1) ∧ ∀ h14 : qH, h14 = qsI h11 (qR h11 x0 34) ((((4 : Int32) * (qI h11 x0 19)) + x1)).toNatClampNeg (qI h11 x0 35) → Q h14)))) ∧ (¬ (qI h7 x0 13) ≤ 0 → Q h7)))))))))
def w_M_tellLaw (N : Nat) (x0 : Nat) (x1 : Int32) (h : qH) (Q : qH → Prop) : Prop := (qS h x0 = .inl 12 ∧ w_M_must N x0 (5 : Int32) h (fun h2 => (qS h2 x0 = .inl 12 ∧ (∀ y4 : Int32, y4 = (qI h2 x0 35) → (w_M_tellLaw_12 N N x0 x1 y4 (0 : Int32) h2 Q (fun x5 x6 x7 h8 => (w_M_tellLaw_129 N x5 x6 x7 h8 Q )))))))
def w_M_tellOne_397 (N : Nat) (x0 : Nat) (x1 : Int32) (h : qH) (Q : qH → Prop)  : Prop := (qS h x0 = .inl 12 ∧ w_M_fail N x0 (1 : Int32) h (fun h2 => (qS h2 x0 = .inl 12 ∧ (((qI h2 x0 13) ≤ 0 → (w_M_goesOn N x0 h2 (fun h5 => (qS h5 x0 = .inl 12 ∧ w_M_tellLaw N x0 x1 h5 (fun h7 => Q h7))))) ∧ (¬ (qI h2 x0 13) ≤ 0 → Q h2)))))
def w_M_tellOne (N : Nat) (x0 : Nat) (h : qH) (Q : qH → Prop) : Prop := (qS h x0 = .inl 12 ∧ (qok h (qR h x0 5) 0 (qI h x0 11) ∧ (∀ y3 : Int32, y3 = (qI h (qR h x0 5) ((qI h x0 11)).toNatClampNeg) → ((y3 = (20 : Int32) → (qok h (qR h x0 23) 0 (qI h x0 19) ∧ (w_M_roomFor N x0 (qI h (qR h x0 23) ((qI h x0 19)).toNatClampNeg) (7 : Int32) h (fun h6 => (qS h6 x0 = .inl 12 ∧ (((qI h6 x0 13) ≤ 0 → (qok h6 (qR h6 x0 23) 0 (qI h6 x0 19) ∧ (∀ y10 : Int32, y10 = (((7 : Int32) * (qI h6 x0 19)) + (qI h6 (qR h6 x0 23) ((qI h6 x0 19)).toNatClampNeg)) → (w_M_named N x0 h6 (fun r11 h12 => (qS h12 x0 = .inl 12 ∧ (w_M_bounded N x0 (0 : Int32) (4 : Int32) h12 (fun r14 h15 => (qok h15 (qR h12 x0 24) 0 y10 ∧ ∀ h17 : qH, h17 = qsI h15 (qR h12 x0 24) (y10).toNatClampNeg r14 → (qS h17 x0 = .inl 12 ∧ (w_M_bounded N x0 (0 : Int32) (99 : Int32) h17 (fun r19 h20 => (qok h20 (qR h17 x0 25) 0 y10 ∧ ∀ h22 : qH, h22 = qsI h20 (qR h17 x0 25) (y10).toNatClampNeg r19 → (qS h22 x0 = .inl 12 ∧ (qok h22 (qR h22 x0 23) 0 (qI h22 x0 19) ∧ (w_M_endsName N x0 r11 (qI h22 (qR h22 x0 23) ((qI h22 x0 19)).toNatClampNeg) h22 (fun h25 => (qS h25 x0 = .inl 12 ∧ ((¬ (qI h25 x0 13) = 0 → Q h25) ∧ ((qI h25 x0 13) = 0 → (qok h25 (qR h25 x0 23) 0 (qI h25 x0 19) ∧ (∀ h29 : qH, h29 = qsI h25 (qR h25 x0 23) ((qI h25 x0 19)).toNatClampNeg ((qI h25 (qR h25 x0 23) ((qI h25 x0 19)).toNatClampNeg) + (1 : Int32)) → Q h29)))))))))))))))))))))) ∧ (¬ (qI h6 x0 13) ≤ 0 → Q h6))))))) ∧ (¬ y3 = (20 : Int32) → ((y3 = (21 : Int32) → (qok h (qR h x0 26) 0 (qI h x0 19) ∧ (w_M_roomFor N x0 (qI h (qR h x0 26) ((qI h x0 19)).toNatClampNeg) (6 : Int32) h (fun h32 => (qS h32 x0 = .inl 12 ∧ (((qI h32 x0 13) ≤ 0 → (qok h32 (qR h32 x0 26) 0 (qI h32 x0 19) ∧ (∀ y36 : Int32, y36 = (((6 : Int32) * (qI h32 x0 19)) + (qI h32 (qR h32 x0 26) ((qI h32 x0 19)).toNatClampNeg)) → (w_M_named N x0 h32 (fun r37 h38 => (qS h38 x0 = .inl 12 ∧ (w_M_bounded N x0 (0 : Int32) (99 : Int32) h38 (fun r40 h41 => (qok h41 (qR h38 x0 27) 0 y36 ∧ ∀ h43 : qH, h43 = qsI h41 (qR h38 x0 27) (y36).toNatClampNeg r40 → (qS h43 x0 = .inl 12 ∧ (w_M_bounded N x0 (0 : Int32) (9 : Int32) h43 (fun r45 h46 => (qok h46 (qR h43 x0 28) 0 y36 ∧ ∀ h48 : qH, h48 = qsI h46 (qR h43 x0 28) (y36).toNatClampNeg r45 → (qS h48 x0 = .inl 12 ∧ (qok h48 (qR h48 x0 26) 0 (qI h48 x0 19) ∧ (w_M_endsName N x0 r37 ((10 : Int32) + (qI h48 (qR h48 x0 26) ((qI h48 x0 19)).toNatClampNeg)) h48 (fun h51 => (qS h51 x0 = .inl 12 ∧ ((¬ (qI h51 x0 13) = 0 → Q h51) ∧ ((qI h51 x0 13) = 0 → (qok h51 (qR h51 x0 26) 0 (qI h51 x0 19) ∧ (∀ h55 : qH, h55 = qsI h51 (qR h51 x0 26) ((qI h51 x0 19)).toNatClampNeg ((qI h51 (qR h51 x0 26) ((qI h51 x0 19)).toNatClampNeg) + (1 : Int32)) → Q h55)))))))))))))))))))))) ∧ (¬ (qI h32 x0 13) ≤ 0 → Q h32))))))) ∧ (¬ y3 = (21 : Int32) → ((y3 = (22 : Int32) → (qok h (qR h x0 30) 0 (qI h x0 19) ∧ (w_M_roomFor N x0 (qI h (qR h x0 30) ((qI h x0 19)).toNatClampNeg) (6 : Int32) h (fun h58 => (qS h58 x0 = .inl 12 ∧ ((¬ (qI h58 x0 13) = 0 → Q h58) ∧ ((qI h58 x0 13) = 0 → (w_M_tellHangs N x0 h58 (fun h61 => Q h61))))))))) ∧ (¬ y3 = (22 : Int32) → ((y3 = (23 : Int32) → (∀ y63 : Int32, y63 = ((qI h (qR h x0 5) ((qI h x0 11)).toNatClampNeg) - (23 : Int32)) → ((y63 < 0 → (w_M_tellOne_397 N x0 y63 h Q )) ∧ (¬ y63 < 0 → (((qI h (qR h x0 5) ((qI h x0 11)).toNatClampNeg) ≤ (26 : Int32) → (((qI h x0 13) ≤ 0 → (w_M_goesOn N x0 h (fun h67 => (qS h67 x0 = .inl 12 ∧ w_M_tellLaw N x0 y63 h67 (fun h69 => Q h69))))) ∧ (¬ (qI h x0 13) ≤ 0 → Q h))) ∧ (¬ (qI h (qR h x0 5) ((qI h x0 11)).toNatClampNeg) ≤ (26 : Int32) → (w_M_tellOne_397 N x0 y63 h Q ))))))) ∧ (¬ y3 = (23 : Int32) → ((y3 = (24 : Int32) → (∀ y71 : Int32, y71 = ((qI h (qR h x0 5) ((qI h x0 11)).toNatClampNeg) - (23 : Int32)) → ((y71 < 0 → (w_M_tellOne_397 N x0 y71 h Q )) ∧ (¬ y71 < 0 → (((qI h (qR h x0 5) ((qI h x0 11)).toNatClampNeg) ≤ (26 : Int32) → (((qI h x0 13) ≤ 0 → (w_M_goesOn N x0 h (fun h75 => (qS h75 x0 = .inl 12 ∧ w_M_tellLaw N x0 y71 h75 (fun h77 => Q h77))))) ∧ (¬ (qI h x0 13) ≤ 0 → Q h))) ∧ (¬ (qI h (qR h x0 5) ((qI h x0 11)).toNatClampNeg) ≤ (26 : Int32) → (w_M_tellOne_397 N x0 y71 h Q ))))))) ∧ (¬ y3 = (24 : Int32) → ((y3 = (25 : Int32) → (∀ y79 : Int32, y79 = ((qI h (qR h x0 5) ((qI h x0 11)).toNatClampNeg) - (23 : Int32)) → ((y79 < 0 → (w_M_tellOne_397 N x0 y79 h Q )) ∧ (¬ y79 < 0 → (((qI h (qR h x0 5) ((qI h x0 11)).toNatClampNeg) ≤ (26 : Int32) → (((qI h x0 13) ≤ 0 → (w_M_goesOn N x0 h (fun h83 => (qS h83 x0 = .inl 12 ∧ w_M_tellLaw N x0 y79 h83 (fun h85 => Q h85))))) ∧ (¬ (qI h x0 13) ≤ 0 → Q h))) ∧ (¬ (qI h (qR h x0 5) ((qI h x0 11)).toNatClampNeg) ≤ (26 : Int32) → (w_M_tellOne_397 N x0 y79 h Q ))))))) ∧ (¬ y3 = (25 : Int32) → ((y3 = (26 : Int32) → (∀ y87 : Int32, y87 = ((qI h (qR h x0 5) ((qI h x0 11)).toNatClampNeg) - (23 : Int32)) → ((y87 < 0 → (w_M_tellOne_397 N x0 y87 h Q )) ∧ (¬ y87 < 0 → (((qI h (qR h x0 5) ((qI h x0 11)).toNatClampNeg) ≤ (26 : Int32) → (((qI h x0 13) ≤ 0 → (w_M_goesOn N x0 h (fun h91 => (qS h91 x0 = .inl 12 ∧ w_M_tellLaw N x0 y87 h91 (fun h93 => Q h93))))) ∧ (¬ (qI h x0 13) ≤ 0 → Q h))) ∧ (¬ (qI h (qR h x0 5) ((qI h x0 11)).toNatClampNeg) ≤ (26 : Int32) → (w_M_tellOne_397 N x0 y87 h Q ))))))) ∧ (¬ y3 = (26 : Int32) → ((y3 = (27 : Int32) → (w_M_goesOn N x0 h (fun h95 => (qS h95 x0 = .inl 12 ∧ (w_M_bounded N x0 (0 : Int32) (100 : Int32) h95 (fun r97 h98 => (qok h98 (qR h95 x0 31) 0 (qI h95 x0 19) ∧ ∀ h100 : qH, h100 = qsI h98 (qR h95 x0 31) ((qI h95 x0 19)).toNatClampNeg r97 → (qS h100 x0 = .inl 12 ∧ w_M_must N x0 (4 : Int32) h100 (fun h102 => Q h102))))))))) ∧ (¬ y3 = (27 : Int32) → ((y3 = (28 : Int32) → (w_M_goesOn N x0 h (fun h104 => (qS h104 x0 = .inl 12 ∧ (w_M_bounded N x0 (0 : Int32) (9999 : Int32) h104 (fun r106 h107 => (qok h107 (qR h104 x0 32) 0 (qI h104 x0 19) ∧ ∀ h109 : qH, h109 = qsI h107 (qR h104 x0 32) ((qI h104 x0 19)).toNatClampNeg r106 → (qS h109 x0 = .inl 12 ∧ w_M_must N x0 (4 : Int32) h109 (fun h111 => Q h111))))))))) ∧ (¬ y3 = (28 : Int32) → (∀ y112 : Int32, y112 = ((qI h (qR h x0 5) ((qI h x0 11)).toNatClampNeg) - (23 : Int32)) → ((y112 < 0 → (w_M_tellOne_397 N x0 y112 h Q )) ∧ (¬ y112 < 0 → (((qI h (qR h x0 5) ((qI h x0 11)).toNatClampNeg) ≤ (26 : Int32) → (((qI h x0 13) ≤ 0 → (w_M_goesOn N x0 h (fun h116 => (qS h116 x0 = .inl 12 ∧ w_M_tellLaw N x0 y112 h116 (fun h118 => Q h118))))) ∧ (¬ (qI h x0 13) ≤ 0 → Q h))) ∧ (¬ (qI h (qR h x0 5) ((qI h x0 11)).toNatClampNeg) ≤ (26 : Int32) → (w_M_tellOne_397 N x0 y112 h Q )))))))))))))))))))))))))))
section QG
variable {p : Program} {l : Launch} {e : Env} {s : State} {m : MethodId} {args : Array Value} {below : List Frame} {meth : Method} {c : Code} {D : va_G} {cy : Nat → ClassId} {b : Nat} {adK adV : Nat → Nat}

set_option maxRecDepth 4000 in
theorem t_M_roomFor {adK adV : Nat → Nat} (l : Launch) (D : va_G) (cy : Nat → ClassId) (b : Nat) (N : Nat) (x0 : Nat) (x1 : Int32) (x2 : Int32) (h : qH) (Q : qH → Prop) (hw : w_M_roomFor N x0 x1 x2 h Q) : Met l y_M_roomFor (Cond.code y_M_roomFor prog_14_method_22_code 3 (none) :: qT) (qrm 2 0 0 41) (qPc D cy b adK adV h [qr b x0, .int x1, .int x2]) (qQc D cy b qrV (fun (_ : Unit) h => Q h)) 0 0 (qA b) := by
  refine qmet (L0 := [(0, .inr (.inr (.inl x0))), (1, .inl x1), (2, .inl x2)]) qm_M_roomFor (plainFor_of_name (by decide)) [.inr (.inr (.inl x0)), .inl x1, .inl x2] rfl (Nat.le_of_ble_eq_true rfl) rfl (fun p e s m args below meth c X => ?_)
  unfold w_M_roomFor at hw
  refine qx_iload_n (x := x1) X d_M_roomFor_0 rfl 1 rfl ?_
  refine qx_iload_n (x := x2) X d_M_roomFor_1 rfl 2 rfl ?_
  refine qx_icmp_ne X 10 d_M_roomFor_2 (by decide) (fun q1 => ?_) (fun q1 => ?_)
  · have hw := hw.1 q1
    refine qx_aload_n (x := x0) X d_M_roomFor_10 rfl 0 rfl ?_
    obtain ⟨g2, hw⟩ := hw
    refine qx_getI X qcls12 g2 13 (by decide) rfl wf_M_215 d_M_roomFor_11 ?_
    refine qx_if_ne X 21 d_M_roomFor_14 (by decide) (fun q3 => ?_) (fun q3 => ?_)
    · have hw := hw.1 q3
      exact qx_vret X hw (Nat.le_refl 0) (Nat.le_refl 0) rfl d_M_roomFor_21
    · have hw := hw.2 q3
      refine qx_aload_n (x := x0) X d_M_roomFor_17 rfl 0 rfl ?_
      refine qx_callVV (st := []) (As := []) X (t_M_goesOn (adK := adK) (adV := adV) l D cy b N x0 h _ hw) qm_M_goesOn wm_M_236 wi_M_goesOn wl_M_goesOn qcls12 g2 rfl rfl rfl ⟨Nat.le_of_ble_eq_true rfl, Nat.le_of_ble_eq_true rfl⟩ ⟨Nat.le_refl 0, Nat.le_refl 0⟩ (Nat.le_of_ble_eq_true rfl) rfl d_M_roomFor_18 (fun h4 hw => ?_)
      exact qx_vret X hw (Nat.le_refl 0) (Nat.le_refl 0) rfl d_M_roomFor_21
  · have hw := hw.2 q1
    refine qx_aload_n (x := x0) X d_M_roomFor_5 rfl 0 rfl ?_
    refine qx_iconst (v := (2 : Int32)) X d_M_roomFor_6 (by decide) ?_
    obtain ⟨g5, hw⟩ := hw
    refine qx_callVV (st := []) (As := [.int (2 : Int32)]) X (t_M_fail (adK := adK) (adV := adV) l D cy b N x0 (2 : Int32) h _ hw) qm_M_fail wm_M_230 wi_M_fail wl_M_fail qcls12 g5 rfl rfl rfl ⟨Nat.le_of_ble_eq_true rfl, Nat.le_of_ble_eq_true rfl⟩ ⟨Nat.le_refl 0, Nat.le_refl 0⟩ (Nat.le_of_ble_eq_true rfl) rfl d_M_roomFor_7 (fun h6 hw => ?_)
    refine qx_aload_n (x := x0) X d_M_roomFor_10 rfl 0 rfl ?_
    obtain ⟨g7, hw⟩ := hw
    refine qx_getI X qcls12 g7 13 (by decide) rfl wf_M_215 d_M_roomFor_11 ?_
    refine qx_if_ne X 21 d_M_roomFor_14 (by decide) (fun q8 => ?_) (fun q8 => ?_)
    · have hw := hw.1 q8
      exact qx_vret X hw (Nat.le_refl 0) (Nat.le_refl 0) rfl d_M_roomFor_21
    · have hw := hw.2 q8
      refine qx_aload_n (x := x0) X d_M_roomFor_17 rfl 0 rfl ?_
      refine qx_callVV (st := []) (As := []) X (t_M_goesOn (adK := adK) (adV := adV) l D cy b N x0 h6 _ hw) qm_M_goesOn wm_M_236 wi_M_goesOn wl_M_goesOn qcls12 g7 rfl rfl rfl ⟨Nat.le_of_ble_eq_true rfl, Nat.le_of_ble_eq_true rfl⟩ ⟨Nat.le_refl 0, Nat.le_refl 0⟩ (Nat.le_of_ble_eq_true rfl) rfl d_M_roomFor_18 (fun h9 hw => ?_)
      exact qx_vret X hw (Nat.le_refl 0) (Nat.le_refl 0) rfl d_M_roomFor_21
set_option maxRecDepth 4000 in
theorem t_M_known_21 (X : qX p s m args meth c D cy b adK adV prog_14_method_26_code "CoatHangersModel" 4 (some .int) "known") (N k : Nat) (x0 : Nat) (x1 : Int32) (x2 : Int32) (x3 : Int32) (h : qH) (Q : Int32 → qH → Prop)  (hw : w_M_known_21 N k x0 x1 x2 x3 h Q ) : qW p l e (qrm 3 0 0 62) s m args below meth c D cy b 4 0 0 (MQ below (qQc D cy b qrI Q) args s 0 0 (qA b)) 21 [(0, .inr (.inr (.inl x0))), (1, .inl x1), (2, .inl x2), (3, .inl x3)] [] h := by
  induction k generalizing x0 x1 x2 x3 h with
  | zero => exact hw.elim
  | succ k ih =>
    refine qx_iload_n (x := x3) X d_M_known_21 rfl 3 rfl ?_
    refine qx_aload_n (x := x0) X d_M_known_22 rfl 0 rfl ?_
    obtain ⟨g1, hw⟩ := hw
    refine qx_getI X qcls12 g1 20 (by decide) rfl wf_M_251 d_M_known_23 ?_
    refine qx_icmp_ge X 83 d_M_known_26 (by decide) (fun q2 => ?_) (fun q2 => ?_)
    · have hw := hw.1 q2
      refine qx_aload_n (x := x0) X d_M_known_83 rfl 0 rfl ?_
      refine qx_iconst (v := (4 : Int32)) X d_M_known_84 (by decide) ?_
      refine qx_iload_n (x := x2) X d_M_known_85 rfl 2 rfl ?_
      refine qx_callVV (st := []) (As := [.int (4 : Int32), .int x2]) X (t_M_wrong (adK := adK) (adV := adV) l D cy b N x0 (4 : Int32) x2 h _ hw) qm_M_wrong wm_M_293 wi_M_wrong wl_M_wrong qcls12 g1 rfl rfl rfl ⟨Nat.le_of_ble_eq_true rfl, Nat.le_of_ble_eq_true rfl⟩ ⟨Nat.le_refl 0, Nat.le_refl 0⟩ (Nat.le_of_ble_eq_true rfl) rfl d_M_known_86 (fun h3 hw => ?_)
      refine qx_iconst (v := (-1 : Int32)) X d_M_known_89 (by decide) ?_
      exact qx_iret X hw (Nat.le_refl 0) (Nat.le_refl 0) rfl d_M_known_90
    · have hw := hw.2 q2
      refine qx_aload_n (x := x0) X d_M_known_29 rfl 0 rfl ?_
      refine qx_getR X qcls12 g1 21 (by decide) rfl wf_M_40 d_M_known_30 ?_
      refine qx_iload_n (x := x3) X d_M_known_33 rfl 3 rfl ?_
      obtain ⟨g4, hw⟩ := hw
      refine qx_lld X g4 d_M_known_34 ?_
      refine qx_aload_n (x := x0) X d_M_known_35 rfl 0 rfl ?_
      refine qx_getR X qcls12 g1 8 (by decide) rfl wf_M_30 d_M_known_36 ?_
      refine qx_iload_n (x := x2) X d_M_known_39 rfl 2 rfl ?_
      obtain ⟨g5, hw⟩ := hw
      refine qx_lld X g5 d_M_known_40 ?_
      refine qx_lcmp X d_M_known_41 ?_
      refine qx_if_ne X 77 d_M_known_42 (by decide) (fun q6 => ?_) (fun q6 => ?_)
      · have hw := hw.1 q6
        refine qx_iinc (v := (x3 + (1 : Int32))) (L' := [(3, .inl (x3 + (1 : Int32))), (0, .inr (.inr (.inl x0))), (1, .inl x1), (2, .inl x2)]) X d_M_known_77 3 rfl rfl (by decide) rfl ?_
        refine qx_goto X 21 d_M_known_80 (by decide) ?_
        refine qx_sub [1, 2, 3, 0] rfl ?_
        exact ih x0 x1 x2 (x3 + (1 : Int32)) h hw
      · have hw := hw.2 q6
        refine qx_aload_n (x := x0) X d_M_known_45 rfl 0 rfl ?_
        refine qx_getR X qcls12 g1 22 (by decide) rfl wf_M_43 d_M_known_46 ?_
        refine qx_iload_n (x := x3) X d_M_known_49 rfl 3 rfl ?_
        obtain ⟨g7, hw⟩ := hw
        refine qx_ild X g7 d_M_known_50 ?_
        refine qx_iload_n (x := x1) X d_M_known_51 rfl 1 rfl ?_
        refine qx_icmp_lt X 77 d_M_known_52 (by decide) (fun q8 => ?_) (fun q8 => ?_)
        · have hw := hw.1 q8
          refine qx_iinc (v := (x3 + (1 : Int32))) (L' := [(3, .inl (x3 + (1 : Int32))), (0, .inr (.inr (.inl x0))), (1, .inl x1), (2, .inl x2)]) X d_M_known_77 3 rfl rfl (by decide) rfl ?_
          refine qx_goto X 21 d_M_known_80 (by decide) ?_
          refine qx_sub [1, 2, 3, 0] rfl ?_
          exact ih x0 x1 x2 (x3 + (1 : Int32)) h hw
        · have hw := hw.2 q8
          refine qx_aload_n (x := x0) X d_M_known_55 rfl 0 rfl ?_
          refine qx_getR X qcls12 g1 22 (by decide) rfl wf_M_43 d_M_known_56 ?_
          refine qx_iload_n (x := x3) X d_M_known_59 rfl 3 rfl ?_
          refine qx_ild X g7 d_M_known_60 ?_
          refine qx_iload_n (x := x1) X d_M_known_61 rfl 1 rfl ?_
          refine qx_bipush (v := (10 : Int32)) X d_M_known_62 (by decide) ?_
          refine qx_iadd X d_M_known_64 ?_
          refine qx_icmp_ge X 77 d_M_known_65 (by decide) (fun q9 => ?_) (fun q9 => ?_)
          · have hw := hw.1 q9
            refine qx_iinc (v := (x3 + (1 : Int32))) (L' := [(3, .inl (x3 + (1 : Int32))), (0, .inr (.inr (.inl x0))), (1, .inl x1), (2, .inl x2)]) X d_M_known_77 3 rfl rfl (by decide) rfl ?_
            refine qx_goto X 21 d_M_known_80 (by decide) ?_
            refine qx_sub [1, 2, 3, 0] rfl ?_
            exact ih x0 x1 x2 (x3 + (1 : Int32)) h hw
          · have hw := hw.2 q9
            refine qx_aload_n (x := x0) X d_M_known_68 rfl 0 rfl ?_
            refine qx_getR X qcls12 g1 22 (by decide) rfl wf_M_43 d_M_known_69 ?_
            refine qx_iload_n (x := x3) X d_M_known_72 rfl 3 rfl ?_
            refine qx_ild X g7 d_M_known_73 ?_
            refine qx_iload_n (x := x1) X d_M_known_74 rfl 1 rfl ?_
            refine qx_isub X d_M_known_75 ?_
            exact qx_iret X hw (Nat.le_refl 0) (Nat.le_refl 0) rfl d_M_known_76
set_option maxRecDepth 4000 in
theorem t_M_known {adK adV : Nat → Nat} (l : Launch) (D : va_G) (cy : Nat → ClassId) (b : Nat) (N : Nat) (x0 : Nat) (x1 : Int32) (h : qH) (Q : Int32 → qH → Prop) (hw : w_M_known N x0 x1 h Q) : Met l y_M_known (Cond.code y_M_known prog_14_method_26_code 4 (some .int) :: qT) (qrm 3 0 0 62) (qPc D cy b adK adV h [qr b x0, .int x1]) (qQc D cy b qrI Q) 0 0 (qA b) := by
  refine qmet (L0 := [(0, .inr (.inr (.inl x0))), (1, .inl x1)]) qm_M_known (plainFor_of_name (by decide)) [.inr (.inr (.inl x0)), .inl x1] rfl (Nat.le_of_ble_eq_true rfl) rfl (fun p e s m args below meth c X => ?_)
  unfold w_M_known at hw
  refine qx_aload_n (x := x0) X d_M_known_0 rfl 0 rfl ?_
  obtain ⟨g1, hw⟩ := hw
  refine qx_getI X qcls12 g1 11 (by decide) rfl wf_M_218 d_M_known_1 ?_
  refine qx_topi (fun y2 ey2 => ?_)
  have hw := hw y2 ey2
  refine qx_istore_n (L' := [(2, .inl y2), (0, .inr (.inr (.inl x0))), (1, .inl x1)]) X d_M_known_4 rfl (by decide) rfl ?_
  refine qx_aload_n (x := x0) X d_M_known_5 rfl 1 rfl ?_
  refine qx_iconst (v := (1 : Int32)) X d_M_known_6 (by decide) ?_
  refine qx_callVV (st := []) (As := [.int (1 : Int32)]) X (t_M_must (adK := adK) (adV := adV) l D cy b N x0 (1 : Int32) h _ hw) qm_M_must wm_M_287 wi_M_must wl_M_must qcls12 g1 rfl rfl rfl ⟨Nat.le_of_ble_eq_true rfl, Nat.le_of_ble_eq_true rfl⟩ ⟨Nat.le_refl 0, Nat.le_refl 0⟩ (Nat.le_of_ble_eq_true rfl) rfl d_M_known_7 (fun h3 hw => ?_)
  refine qx_aload_n (x := x0) X d_M_known_10 rfl 1 rfl ?_
  obtain ⟨g4, hw⟩ := hw
  refine qx_getI X qcls12 g4 13 (by decide) rfl wf_M_215 d_M_known_11 ?_
  refine qx_if_le X 19 d_M_known_14 (by decide) (fun q5 => ?_) (fun q5 => ?_)
  · have hw := hw.1 q5
    refine qx_iconst (v := (0 : Int32)) X d_M_known_19 (by decide) ?_
    refine qx_istore_n (L' := [(3, .inl (0 : Int32)), (2, .inl y2), (0, .inr (.inr (.inl x0))), (1, .inl x1)]) X d_M_known_20 rfl (by decide) rfl ?_
    refine qx_sub [2, 3, 1, 0] rfl ?_
    exact t_M_known_21 X N N x0 x1 y2 (0 : Int32) h3 Q  hw 
  · have hw := hw.2 q5
    refine qx_iconst (v := (-1 : Int32)) X d_M_known_17 (by decide) ?_
    exact qx_iret X hw (Nat.le_refl 0) (Nat.le_refl 0) rfl d_M_known_18
set_option maxRecDepth 4000 in
theorem t_M_tellHangs_60 (X : qX p s m args meth c D cy b adK adV prog_14_method_28_code "CoatHangersModel" 5 (none) "tellHangs") (N k : Nat) (x0 : Nat) (x1 : Int32) (x2 : Int32) (x3 : Int32) (x4 : Int32) (h : qH) (Q : qH → Prop) (K109 : Nat → Int32 → Int32 → qH → Prop) (hw : w_M_tellHangs_60 N k x0 x1 x2 x3 x4 h Q K109) (hK109 : ∀ (x0 : Nat) (x2 : Int32) (x3 : Int32) (h : qH), K109 x0 x2 x3 h → qW p l e (qrm 4 0 0 85) s m args below meth c D cy b 5 0 0 (MQ below (qQc D cy b qrV (fun (_ : Unit) h => Q h)) args s 0 0 (qA b)) 109 [(0, .inr (.inr (.inl x0))), (2, .inl x2), (3, .inl x3)] [] h) : qW p l e (qrm 4 0 0 85) s m args below meth c D cy b 5 0 0 (MQ below (qQc D cy b qrV (fun (_ : Unit) h => Q h)) args s 0 0 (qA b)) 60 [(0, .inr (.inr (.inl x0))), (1, .inl x1), (2, .inl x2), (3, .inl x3), (4, .inl x4)] [] h := by
  induction k generalizing x0 x1 x2 x3 x4 h with
  | zero => exact hw.elim
  | succ k ih =>
    refine qx_iload (x := x4) X d_M_tellHangs_60 4 rfl ?_
    refine qx_bipush (v := (6 : Int32)) X d_M_tellHangs_62 (by decide) ?_
    refine qx_icmp_ge X 109 d_M_tellHangs_64 (by decide) (fun q1 => ?_) (fun q1 => ?_)
    · have hw := hw.1 q1
      refine qx_sub [0, 2, 3] rfl ?_
      exact hK109 x0 x2 x3 h hw
    · have hw := hw.2 q1
      refine qx_aload_n (x := x0) X d_M_tellHangs_67 rfl 0 rfl ?_
      obtain ⟨g2, hw⟩ := hw
      refine qx_getI X qcls12 g2 13 (by decide) rfl wf_M_215 d_M_tellHangs_68 ?_
      refine qx_if_ne X 109 d_M_tellHangs_71 (by decide) (fun q3 => ?_) (fun q3 => ?_)
      · have hw := hw.1 q3
        refine qx_sub [0, 2, 3] rfl ?_
        exact hK109 x0 x2 x3 h hw
      · have hw := hw.2 q3
        refine qx_iload_n (x := x3) X d_M_tellHangs_74 rfl 3 rfl ?_
        refine qx_if_lt X 109 d_M_tellHangs_75 (by decide) (fun q4 => ?_) (fun q4 => ?_)
        · have hw := hw.1 q4
          refine qx_sub [0, 2, 3] rfl ?_
          exact hK109 x0 x2 x3 h hw
        · have hw := hw.2 q4
          refine qx_aload_n (x := x0) X d_M_tellHangs_78 rfl 0 rfl ?_
          refine qx_getR X qcls12 g2 29 (by decide) rfl wf_M_64 d_M_tellHangs_79 ?_
          refine qx_bipush (v := (6 : Int32)) X d_M_tellHangs_82 (by decide) ?_
          refine qx_aload_n (x := x0) X d_M_tellHangs_84 rfl 0 rfl ?_
          refine qx_getI X qcls12 g2 19 (by decide) rfl wf_M_248 d_M_tellHangs_85 ?_
          refine qx_imul X d_M_tellHangs_88 ?_
          refine qx_iload (x := x4) X d_M_tellHangs_89 4 rfl ?_
          refine qx_iadd X d_M_tellHangs_91 ?_
          obtain ⟨g5, hw⟩ := hw
          refine qx_ild X g5 d_M_tellHangs_92 ?_
          refine qx_iload_n (x := x3) X d_M_tellHangs_93 rfl 3 rfl ?_
          refine qx_icmp_ne X 103 d_M_tellHangs_94 (by decide) (fun q6 => ?_) (fun q6 => ?_)
          · have hw := hw.1 q6
            refine qx_iinc (v := (x4 + (1 : Int32))) (L' := [(4, .inl (x4 + (1 : Int32))), (0, .inr (.inr (.inl x0))), (1, .inl x1), (2, .inl x2), (3, .inl x3)]) X d_M_tellHangs_103 4 rfl rfl (by decide) rfl ?_
            refine qx_goto X 60 d_M_tellHangs_106 (by decide) ?_
            refine qx_sub [1, 2, 3, 4, 0] rfl ?_
            exact ih x0 x1 x2 x3 (x4 + (1 : Int32)) h hw
          · have hw := hw.2 q6
            refine qx_aload_n (x := x0) X d_M_tellHangs_97 rfl 0 rfl ?_
            refine qx_iconst (v := (3 : Int32)) X d_M_tellHangs_98 (by decide) ?_
            refine qx_iload_n (x := x1) X d_M_tellHangs_99 rfl 1 rfl ?_
            refine qx_callVV (st := []) (As := [.int (3 : Int32), .int x1]) X (t_M_wrong (adK := adK) (adV := adV) l D cy b N x0 (3 : Int32) x1 h _ hw) qm_M_wrong wm_M_293 wi_M_wrong wl_M_wrong qcls12 g2 rfl rfl rfl ⟨Nat.le_of_ble_eq_true rfl, Nat.le_of_ble_eq_true rfl⟩ ⟨Nat.le_refl 0, Nat.le_refl 0⟩ (Nat.le_of_ble_eq_true rfl) rfl d_M_tellHangs_100 (fun h7 hw => ?_)
            refine qx_iinc (v := (x4 + (1 : Int32))) (L' := [(4, .inl (x4 + (1 : Int32))), (0, .inr (.inr (.inl x0))), (1, .inl x1), (2, .inl x2), (3, .inl x3)]) X d_M_tellHangs_103 4 rfl rfl (by decide) rfl ?_
            refine qx_goto X 60 d_M_tellHangs_106 (by decide) ?_
            refine qx_sub [1, 2, 3, 4, 0] rfl ?_
            exact ih x0 x1 x2 x3 (x4 + (1 : Int32)) h7 hw
set_option maxRecDepth 4000 in
theorem t_M_tellHangs_109 (X : qX p s m args meth c D cy b adK adV prog_14_method_28_code "CoatHangersModel" 5 (none) "tellHangs") (N : Nat) (x0 : Nat) (x2 : Int32) (x3 : Int32) (h : qH) (Q : qH → Prop)  (hw : w_M_tellHangs_109 N x0 x2 x3 h Q ) : qW p l e (qrm 4 0 0 85) s m args below meth c D cy b 5 0 0 (MQ below (qQc D cy b qrV (fun (_ : Unit) h => Q h)) args s 0 0 (qA b)) 109 [(0, .inr (.inr (.inl x0))), (2, .inl x2), (3, .inl x3)] [] h := by
  unfold w_M_tellHangs_109 at hw
  refine qx_aload_n (x := x0) X d_M_tellHangs_109 rfl 0 rfl ?_
  refine qx_iconst (v := (4 : Int32)) X d_M_tellHangs_110 (by decide) ?_
  obtain ⟨g1, hw⟩ := hw
  refine qx_callVV (st := []) (As := [.int (4 : Int32)]) X (t_M_must (adK := adK) (adV := adV) l D cy b N x0 (4 : Int32) h _ hw) qm_M_must wm_M_287 wi_M_must wl_M_must qcls12 g1 rfl rfl rfl ⟨Nat.le_of_ble_eq_true rfl, Nat.le_of_ble_eq_true rfl⟩ ⟨Nat.le_refl 0, Nat.le_refl 0⟩ (Nat.le_of_ble_eq_true rfl) rfl d_M_tellHangs_111 (fun h2 hw => ?_)
  refine qx_aload_n (x := x0) X d_M_tellHangs_114 rfl 0 rfl ?_
  obtain ⟨g3, hw⟩ := hw
  refine qx_getI X qcls12 g3 13 (by decide) rfl wf_M_215 d_M_tellHangs_115 ?_
  refine qx_if_le X 122 d_M_tellHangs_118 (by decide) (fun q4 => ?_) (fun q4 => ?_)
  · have hw := hw.1 q4
    refine qx_aload_n (x := x0) X d_M_tellHangs_122 rfl 0 rfl ?_
    refine qx_getR X qcls12 g3 30 (by decide) rfl wf_M_67 d_M_tellHangs_123 ?_
    refine qx_aload_n (x := x0) X d_M_tellHangs_126 rfl 0 rfl ?_
    refine qx_getI X qcls12 g3 19 (by decide) rfl wf_M_248 d_M_tellHangs_127 ?_
    refine qx_dup2 X rfl (qr_cat _ _) d_M_tellHangs_130 ?_
    obtain ⟨g5, hw⟩ := hw
    refine qx_ild X g5 d_M_tellHangs_131 ?_
    refine qx_iconst (v := (1 : Int32)) X d_M_tellHangs_132 (by decide) ?_
    refine qx_iadd X d_M_tellHangs_133 ?_
    refine qx_ist X g5 d_M_tellHangs_134 ?_
    refine qx_toph (fun h6 eh6 => ?_)
    have hw := hw h6 eh6
    refine qx_iload_n (x := x2) X d_M_tellHangs_135 rfl 1 rfl ?_
    refine qx_if_lt X 158 d_M_tellHangs_136 (by decide) (fun q7 => ?_) (fun q7 => ?_)
    · have hw := hw.1 q7
      exact qx_vret X hw (Nat.le_refl 0) (Nat.le_refl 0) rfl d_M_tellHangs_158
    · have hw := hw.2 q7
      refine qx_iload_n (x := x3) X d_M_tellHangs_139 rfl 2 rfl ?_
      refine qx_if_lt X 158 d_M_tellHangs_140 (by decide) (fun q8 => ?_) (fun q8 => ?_)
      · have hw := hw.1 q8
        exact qx_vret X hw (Nat.le_refl 0) (Nat.le_refl 0) rfl d_M_tellHangs_158
      · have hw := hw.2 q8
        refine qx_aload_n (x := x0) X d_M_tellHangs_143 rfl 0 rfl ?_
        obtain ⟨g9, hw⟩ := hw
        refine qx_getR X qcls12 g9 29 (by decide) rfl wf_M_64 d_M_tellHangs_144 ?_
        refine qx_bipush (v := (6 : Int32)) X d_M_tellHangs_147 (by decide) ?_
        refine qx_aload_n (x := x0) X d_M_tellHangs_149 rfl 0 rfl ?_
        refine qx_getI X qcls12 g9 19 (by decide) rfl wf_M_248 d_M_tellHangs_150 ?_
        refine qx_imul X d_M_tellHangs_153 ?_
        refine qx_iload_n (x := x2) X d_M_tellHangs_154 rfl 1 rfl ?_
        refine qx_iadd X d_M_tellHangs_155 ?_
        refine qx_iload_n (x := x3) X d_M_tellHangs_156 rfl 2 rfl ?_
        obtain ⟨g10, hw⟩ := hw
        refine qx_ist X g10 d_M_tellHangs_157 ?_
        refine qx_toph (fun h11 eh11 => ?_)
        have hw := hw h11 eh11
        exact qx_vret X hw (Nat.le_refl 0) (Nat.le_refl 0) rfl d_M_tellHangs_158
  · have hw := hw.2 q4
    exact qx_vret X hw (Nat.le_refl 0) (Nat.le_refl 0) rfl d_M_tellHangs_121
set_option maxRecDepth 4000 in
theorem t_M_tellHangs_46 (X : qX p s m args meth c D cy b adK adV prog_14_method_28_code "CoatHangersModel" 5 (none) "tellHangs") (N : Nat) (x0 : Nat) (x2 : Int32) (h : qH) (Q : qH → Prop)  (hw : w_M_tellHangs_46 N x0 x2 h Q ) : qW p l e (qrm 4 0 0 85) s m args below meth c D cy b 5 0 0 (MQ below (qQc D cy b qrV (fun (_ : Unit) h => Q h)) args s 0 0 (qA b)) 46 [(0, .inr (.inr (.inl x0))), (2, .inl x2)] [] h := by
  unfold w_M_tellHangs_46 at hw
  refine qx_aload_n (x := x0) X d_M_tellHangs_46 rfl 0 rfl ?_
  obtain ⟨g1, hw⟩ := hw
  refine qx_getI X qcls12 g1 11 (by decide) rfl wf_M_218 d_M_tellHangs_47 ?_
  refine qx_topi (fun y2 ey2 => ?_)
  have hw := hw y2 ey2
  refine qx_istore_n (L' := [(1, .inl y2), (0, .inr (.inr (.inl x0))), (2, .inl x2)]) X d_M_tellHangs_50 rfl (by decide) rfl ?_
  refine qx_aload_n (x := x0) X d_M_tellHangs_51 rfl 1 rfl ?_
  refine qx_iconst (v := (0 : Int32)) X d_M_tellHangs_52 (by decide) ?_
  refine qx_callVI (st := []) (As := [.int (0 : Int32)]) X (t_M_known (adK := adK) (adV := adV) l D cy b N x0 (0 : Int32) h _ hw) qm_M_known wm_M_296 wi_M_known wl_M_known qcls12 g1 rfl rfl rfl ⟨Nat.le_of_ble_eq_true rfl, Nat.le_of_ble_eq_true rfl⟩ ⟨Nat.le_refl 0, Nat.le_refl 0⟩ (Nat.le_of_ble_eq_true rfl) rfl d_M_tellHangs_53 (fun r3 h4 hw => ?_)
  refine qx_istore_n (L' := [(3, .inl r3), (1, .inl y2), (0, .inr (.inr (.inl x0))), (2, .inl x2)]) X d_M_tellHangs_56 rfl (by decide) rfl ?_
  refine qx_iconst (v := (0 : Int32)) X d_M_tellHangs_57 (by decide) ?_
  refine qx_istore (L' := [(4, .inl (0 : Int32)), (3, .inl r3), (1, .inl y2), (0, .inr (.inr (.inl x0))), (2, .inl x2)]) X d_M_tellHangs_58 (by decide) rfl ?_
  refine qx_sub [3, 2, 4, 1, 0] rfl ?_
  refine t_M_tellHangs_60 X N N x0 y2 x2 r3 (0 : Int32) h4 Q _ hw (fun x5 x6 x7 h8 hw => ?_)
  exact t_M_tellHangs_109 X N x5 x6 x7 h8 Q  hw 
set_option maxRecDepth 4000 in
theorem t_M_tellHangs {adK adV : Nat → Nat} (l : Launch) (D : va_G) (cy : Nat → ClassId) (b : Nat) (N : Nat) (x0 : Nat) (h : qH) (Q : qH → Prop) (hw : w_M_tellHangs N x0 h Q) : Met l y_M_tellHangs (Cond.code y_M_tellHangs prog_14_method_28_code 5 (none) :: qT) (qrm 4 0 0 85) (qPc D cy b adK adV h [qr b x0]) (qQc D cy b qrV (fun (_ : Unit) h => Q h)) 0 0 (qA b) := by
  refine qmet (L0 := [(0, .inr (.inr (.inl x0)))]) qm_M_tellHangs (plainFor_of_name (by decide)) [.inr (.inr (.inl x0))] rfl (Nat.le_of_ble_eq_true rfl) rfl (fun p e s m args below meth c X => ?_)
  unfold w_M_tellHangs at hw
  refine qx_aload_n (x := x0) X d_M_tellHangs_0 rfl 0 rfl ?_
  obtain ⟨g1, hw⟩ := hw
  refine qx_getI X qcls12 g1 11 (by decide) rfl wf_M_218 d_M_tellHangs_1 ?_
  refine qx_topi (fun y2 ey2 => ?_)
  have hw := hw y2 ey2
  refine qx_istore_n (L' := [(1, .inl y2), (0, .inr (.inr (.inl x0)))]) X d_M_tellHangs_4 rfl (by decide) rfl ?_
  refine qx_aload_n (x := x0) X d_M_tellHangs_5 rfl 1 rfl ?_
  refine qx_bipush (v := (10 : Int32)) X d_M_tellHangs_6 (by decide) ?_
  refine qx_callVI (st := []) (As := [.int (10 : Int32)]) X (t_M_known (adK := adK) (adV := adV) l D cy b N x0 (10 : Int32) h _ hw) qm_M_known wm_M_296 wi_M_known wl_M_known qcls12 g1 rfl rfl rfl ⟨Nat.le_of_ble_eq_true rfl, Nat.le_of_ble_eq_true rfl⟩ ⟨Nat.le_refl 0, Nat.le_refl 0⟩ (Nat.le_of_ble_eq_true rfl) rfl d_M_tellHangs_8 (fun r3 h4 hw => ?_)
  refine qx_istore_n (L' := [(2, .inl r3), (1, .inl y2), (0, .inr (.inr (.inl x0)))]) X d_M_tellHangs_11 rfl (by decide) rfl ?_
  refine qx_aload_n (x := x0) X d_M_tellHangs_12 rfl 2 rfl ?_
  obtain ⟨g5, hw⟩ := hw
  refine qx_getI X qcls12 g5 13 (by decide) rfl wf_M_215 d_M_tellHangs_13 ?_
  refine qx_if_ne X 46 d_M_tellHangs_16 (by decide) (fun q6 => ?_) (fun q6 => ?_)
  · have hw := hw.1 q6
    refine qx_sub [2, 0] rfl ?_
    exact t_M_tellHangs_46 X N x0 r3 h4 Q  hw 
  · have hw := hw.2 q6
    refine qx_iload_n (x := r3) X d_M_tellHangs_19 rfl 0 rfl ?_
    refine qx_if_lt X 46 d_M_tellHangs_20 (by decide) (fun q7 => ?_) (fun q7 => ?_)
    · have hw := hw.1 q7
      refine qx_sub [2, 0] rfl ?_
      exact t_M_tellHangs_46 X N x0 r3 h4 Q  hw 
    · have hw := hw.2 q7
      refine qx_aload_n (x := x0) X d_M_tellHangs_23 rfl 2 rfl ?_
      refine qx_getR X qcls12 g5 29 (by decide) rfl wf_M_64 d_M_tellHangs_24 ?_
      refine qx_bipush (v := (6 : Int32)) X d_M_tellHangs_27 (by decide) ?_
      refine qx_aload_n (x := x0) X d_M_tellHangs_29 rfl 2 rfl ?_
      refine qx_getI X qcls12 g5 19 (by decide) rfl wf_M_248 d_M_tellHangs_30 ?_
      refine qx_imul X d_M_tellHangs_33 ?_
      refine qx_iload_n (x := r3) X d_M_tellHangs_34 rfl 0 rfl ?_
      refine qx_iadd X d_M_tellHangs_35 ?_
      obtain ⟨g8, hw⟩ := hw
      refine qx_ild X g8 d_M_tellHangs_36 ?_
      refine qx_if_lt X 46 d_M_tellHangs_37 (by decide) (fun q9 => ?_) (fun q9 => ?_)
      · have hw := hw.1 q9
        refine qx_sub [2, 0] rfl ?_
        exact t_M_tellHangs_46 X N x0 r3 h4 Q  hw 
      · have hw := hw.2 q9
        refine qx_aload_n (x := x0) X d_M_tellHangs_40 rfl 2 rfl ?_
        refine qx_iconst (v := (3 : Int32)) X d_M_tellHangs_41 (by decide) ?_
        refine qx_iload_n (x := y2) X d_M_tellHangs_42 rfl 1 rfl ?_
        refine qx_callVV (st := []) (As := [.int (3 : Int32), .int y2]) X (t_M_wrong (adK := adK) (adV := adV) l D cy b N x0 (3 : Int32) y2 h4 _ hw) qm_M_wrong wm_M_293 wi_M_wrong wl_M_wrong qcls12 g5 rfl rfl rfl ⟨Nat.le_of_ble_eq_true rfl, Nat.le_of_ble_eq_true rfl⟩ ⟨Nat.le_refl 0, Nat.le_refl 0⟩ (Nat.le_of_ble_eq_true rfl) rfl d_M_tellHangs_43 (fun h10 hw => ?_)
        refine qx_sub [2, 0] rfl ?_
        exact t_M_tellHangs_46 X N x0 r3 h10 Q  hw 
set_option maxRecDepth 4000 in
theorem t_M_emit {adK adV : Nat → Nat} (l : Launch) (D : va_G) (cy : Nat → ClassId) (b : Nat) (N : Nat) (x0 : Nat) (x1 : Int32) (x2 : Int32) (h : qH) (Q : qH → Prop) (hw : w_M_emit N x0 x1 x2 h Q) : Met l y_M_emit (Cond.code y_M_emit prog_14_method_31_code 3 (none) :: qT) (qrm 0 0 0 0) (qPc D cy b adK adV h [qr b x0, .int x1, .int x2]) (qQc D cy b qrV (fun (_ : Unit) h => Q h)) 0 0 (qA b) := by
  refine qmet (L0 := [(0, .inr (.inr (.inl x0))), (1, .inl x1), (2, .inl x2)]) qm_M_emit (plainFor_of_name (by decide)) [.inr (.inr (.inl x0)), .inl x1, .inl x2] rfl (Nat.le_of_ble_eq_true rfl) rfl (fun p e s m args below meth c X => ?_)
  unfold w_M_emit at hw
  refine qx_aload_n (x := x0) X d_M_emit_0 rfl 0 rfl ?_
  obtain ⟨g1, hw⟩ := hw
  refine qx_getR X qcls12 g1 42 (by decide) rfl wf_M_98 d_M_emit_1 ?_
  refine qx_aload_n (x := x0) X d_M_emit_4 rfl 0 rfl ?_
  refine qx_getI X qcls12 g1 41 (by decide) rfl wf_M_257 d_M_emit_5 ?_
  refine qx_iload_n (x := x1) X d_M_emit_8 rfl 1 rfl ?_
  obtain ⟨g2, hw⟩ := hw
  refine qx_ist X g2 d_M_emit_9 ?_
  refine qx_toph (fun h3 eh3 => ?_)
  have hw := hw h3 eh3
  refine qx_aload_n (x := x0) X d_M_emit_10 rfl 0 rfl ?_
  obtain ⟨g4, hw⟩ := hw
  refine qx_getR X qcls12 g4 43 (by decide) rfl wf_M_101 d_M_emit_11 ?_
  refine qx_aload_n (x := x0) X d_M_emit_14 rfl 0 rfl ?_
  refine qx_getI X qcls12 g4 41 (by decide) rfl wf_M_257 d_M_emit_15 ?_
  refine qx_iload_n (x := x2) X d_M_emit_18 rfl 2 rfl ?_
  obtain ⟨g5, hw⟩ := hw
  refine qx_ist X g5 d_M_emit_19 ?_
  refine qx_toph (fun h6 eh6 => ?_)
  have hw := hw h6 eh6
  refine qx_aload_n (x := x0) X d_M_emit_20 rfl 0 rfl ?_
  refine qx_dup X (qr_cat _ _) d_M_emit_21 ?_
  obtain ⟨g7, hw⟩ := hw
  refine qx_getI X qcls12 g7 41 (by decide) rfl wf_M_257 d_M_emit_22 ?_
  refine qx_iconst (v := (1 : Int32)) X d_M_emit_25 (by decide) ?_
  refine qx_iadd X d_M_emit_26 ?_
  refine qx_putI X qcls12 g7 41 (by decide) rfl wf_M_257 rfl rfl rfl d_M_emit_27 ?_
  refine qx_toph (fun h8 eh8 => ?_)
  have hw := hw h8 eh8
  exact qx_vret X hw (Nat.le_refl 0) (Nat.le_refl 0) rfl d_M_emit_30
set_option maxRecDepth 4000 in
theorem t_M_comesOut_42 (X : qX p s m args meth c D cy b adK adV prog_14_method_32_code "CoatHangersModel" 3 (none) "comesOut") (N : Nat) (x0 : Nat) (x1 : Int32) (x2 : Int32) (h : qH) (Q : qH → Prop) (K0 : Nat → Int32 → qH → Prop) (hw : w_M_comesOut_42 N x0 x1 x2 h Q K0) (hK0 : ∀ (x0 : Nat) (x1 : Int32) (h : qH), K0 x0 x1 h → qW p l e (qrm 1 0 0 22) s m args below meth c D cy b 3 0 0 (MQ below (qQc D cy b qrV (fun (_ : Unit) h => Q h)) args s 0 0 (qA b)) 0 [(0, .inr (.inr (.inl x0))), (1, .inl x1)] [] h) : qW p l e (qrm 1 0 0 22) s m args below meth c D cy b 3 0 0 (MQ below (qQc D cy b qrV (fun (_ : Unit) h => Q h)) args s 0 0 (qA b)) 42 [(0, .inr (.inr (.inl x0))), (1, .inl x1), (2, .inl x2)] [] h := by
  unfold w_M_comesOut_42 at hw
  refine qx_aload_n (x := x0) X d_M_comesOut_42 rfl 0 rfl ?_
  refine qx_dup X (qr_cat _ _) d_M_comesOut_43 ?_
  obtain ⟨g1, hw⟩ := hw
  refine qx_getI X qcls12 g1 45 (by decide) rfl wf_M_305 d_M_comesOut_44 ?_
  refine qx_iconst (v := (1 : Int32)) X d_M_comesOut_47 (by decide) ?_
  refine qx_isub X d_M_comesOut_48 ?_
  refine qx_putI X qcls12 g1 45 (by decide) rfl wf_M_305 rfl rfl rfl d_M_comesOut_49 ?_
  refine qx_toph (fun h2 eh2 => ?_)
  have hw := hw h2 eh2
  refine qx_aload_n (x := x0) X d_M_comesOut_52 rfl 0 rfl ?_
  refine qx_iload_n (x := x2) X d_M_comesOut_53 rfl 2 rfl ?_
  refine qx_bipush (v := (8 : Int32)) X d_M_comesOut_54 (by decide) ?_
  refine qx_icmp_ne X 63 d_M_comesOut_56 (by decide) (fun q3 => ?_) (fun q3 => ?_)
  · have hw := hw.1 q3
    refine qx_iload_n (x := x2) X d_M_comesOut_63 rfl 2 rfl ?_
    refine qx_bipush (v := (9 : Int32)) X d_M_comesOut_64 (by decide) ?_
    refine qx_icmp_ne X 73 d_M_comesOut_66 (by decide) (fun q4 => ?_) (fun q4 => ?_)
    · have hw := hw.1 q4
      refine qx_iload_n (x := x2) X d_M_comesOut_73 rfl 2 rfl ?_
      refine qx_bipush (v := (10 : Int32)) X d_M_comesOut_74 (by decide) ?_
      refine qx_icmp_ne X 83 d_M_comesOut_76 (by decide) (fun q5 => ?_) (fun q5 => ?_)
      · have hw := hw.1 q5
        refine qx_iconst (v := (5 : Int32)) X d_M_comesOut_83 (by decide) ?_
        refine qx_iconst (v := (0 : Int32)) X d_M_comesOut_84 (by decide) ?_
        obtain ⟨g6, hw⟩ := hw
        refine qx_callVV (st := []) (As := [.int (5 : Int32), .int (0 : Int32)]) X (t_M_emit (adK := adK) (adV := adV) l D cy b N x0 (5 : Int32) (0 : Int32) h2 _ hw) qm_M_emit wm_M_308 wi_M_emit wl_M_emit qcls12 g6 rfl rfl rfl ⟨Nat.le_of_ble_eq_true rfl, Nat.le_of_ble_eq_true rfl⟩ ⟨Nat.le_refl 0, Nat.le_refl 0⟩ (Nat.le_of_ble_eq_true rfl) rfl d_M_comesOut_85 (fun h7 hw => ?_)
        refine qx_goto X 0 d_M_comesOut_88 (by decide) ?_
        refine qx_sub [0, 1] rfl ?_
        exact hK0 x0 x1 h7 hw
      · have hw := hw.2 q5
        refine qx_iconst (v := (4 : Int32)) X d_M_comesOut_79 (by decide) ?_
        refine qx_goto X 84 d_M_comesOut_80 (by decide) ?_
        refine qx_iconst (v := (0 : Int32)) X d_M_comesOut_84 (by decide) ?_
        obtain ⟨g8, hw⟩ := hw
        refine qx_callVV (st := []) (As := [.int (4 : Int32), .int (0 : Int32)]) X (t_M_emit (adK := adK) (adV := adV) l D cy b N x0 (4 : Int32) (0 : Int32) h2 _ hw) qm_M_emit wm_M_308 wi_M_emit wl_M_emit qcls12 g8 rfl rfl rfl ⟨Nat.le_of_ble_eq_true rfl, Nat.le_of_ble_eq_true rfl⟩ ⟨Nat.le_refl 0, Nat.le_refl 0⟩ (Nat.le_of_ble_eq_true rfl) rfl d_M_comesOut_85 (fun h9 hw => ?_)
        refine qx_goto X 0 d_M_comesOut_88 (by decide) ?_
        refine qx_sub [0, 1] rfl ?_
        exact hK0 x0 x1 h9 hw
    · have hw := hw.2 q4
      refine qx_iconst (v := (3 : Int32)) X d_M_comesOut_69 (by decide) ?_
      refine qx_goto X 84 d_M_comesOut_70 (by decide) ?_
      refine qx_iconst (v := (0 : Int32)) X d_M_comesOut_84 (by decide) ?_
      obtain ⟨g10, hw⟩ := hw
      refine qx_callVV (st := []) (As := [.int (3 : Int32), .int (0 : Int32)]) X (t_M_emit (adK := adK) (adV := adV) l D cy b N x0 (3 : Int32) (0 : Int32) h2 _ hw) qm_M_emit wm_M_308 wi_M_emit wl_M_emit qcls12 g10 rfl rfl rfl ⟨Nat.le_of_ble_eq_true rfl, Nat.le_of_ble_eq_true rfl⟩ ⟨Nat.le_refl 0, Nat.le_refl 0⟩ (Nat.le_of_ble_eq_true rfl) rfl d_M_comesOut_85 (fun h11 hw => ?_)
      refine qx_goto X 0 d_M_comesOut_88 (by decide) ?_
      refine qx_sub [0, 1] rfl ?_
      exact hK0 x0 x1 h11 hw
  · have hw := hw.2 q3
    refine qx_iconst (v := (2 : Int32)) X d_M_comesOut_59 (by decide) ?_
    refine qx_goto X 84 d_M_comesOut_60 (by decide) ?_
    refine qx_iconst (v := (0 : Int32)) X d_M_comesOut_84 (by decide) ?_
    obtain ⟨g12, hw⟩ := hw
    refine qx_callVV (st := []) (As := [.int (2 : Int32), .int (0 : Int32)]) X (t_M_emit (adK := adK) (adV := adV) l D cy b N x0 (2 : Int32) (0 : Int32) h2 _ hw) qm_M_emit wm_M_308 wi_M_emit wl_M_emit qcls12 g12 rfl rfl rfl ⟨Nat.le_of_ble_eq_true rfl, Nat.le_of_ble_eq_true rfl⟩ ⟨Nat.le_refl 0, Nat.le_refl 0⟩ (Nat.le_of_ble_eq_true rfl) rfl d_M_comesOut_85 (fun h13 hw => ?_)
    refine qx_goto X 0 d_M_comesOut_88 (by decide) ?_
    refine qx_sub [0, 1] rfl ?_
    exact hK0 x0 x1 h13 hw
set_option maxRecDepth 4000 in
theorem t_M_comesOut_0 (X : qX p s m args meth c D cy b adK adV prog_14_method_32_code "CoatHangersModel" 3 (none) "comesOut") (N k : Nat) (x0 : Nat) (x1 : Int32) (h : qH) (Q : qH → Prop)  (hw : w_M_comesOut_0 N k x0 x1 h Q ) : qW p l e (qrm 1 0 0 22) s m args below meth c D cy b 3 0 0 (MQ below (qQc D cy b qrV (fun (_ : Unit) h => Q h)) args s 0 0 (qA b)) 0 [(0, .inr (.inr (.inl x0))), (1, .inl x1)] [] h := by
  induction k generalizing x0 x1 h with
  | zero => exact hw.elim
  | succ k ih =>
    refine qx_aload_n (x := x0) X d_M_comesOut_0 rfl 0 rfl ?_
    obtain ⟨g1, hw⟩ := hw
    refine qx_getI X qcls12 g1 45 (by decide) rfl wf_M_305 d_M_comesOut_1 ?_
    refine qx_if_le X 91 d_M_comesOut_4 (by decide) (fun q2 => ?_) (fun q2 => ?_)
    · have hw := hw.1 q2
      exact qx_vret X hw (Nat.le_refl 0) (Nat.le_refl 0) rfl d_M_comesOut_91
    · have hw := hw.2 q2
      refine qx_aload_n (x := x0) X d_M_comesOut_7 rfl 0 rfl ?_
      refine qx_getR X qcls12 g1 44 (by decide) rfl wf_M_104 d_M_comesOut_8 ?_
      refine qx_aload_n (x := x0) X d_M_comesOut_11 rfl 0 rfl ?_
      refine qx_getI X qcls12 g1 45 (by decide) rfl wf_M_305 d_M_comesOut_12 ?_
      refine qx_iconst (v := (1 : Int32)) X d_M_comesOut_15 (by decide) ?_
      refine qx_isub X d_M_comesOut_16 ?_
      obtain ⟨g3, hw⟩ := hw
      refine qx_ild X g3 d_M_comesOut_17 ?_
      refine qx_topi (fun y4 ey4 => ?_)
      have hw := hw y4 ey4
      refine qx_istore_n (L' := [(2, .inl y4), (0, .inr (.inr (.inl x0))), (1, .inl x1)]) X d_M_comesOut_18 rfl (by decide) rfl ?_
      refine qx_iload_n (x := y4) X d_M_comesOut_19 rfl 0 rfl ?_
      refine qx_bipush (v := (6 : Int32)) X d_M_comesOut_20 (by decide) ?_
      refine qx_icmp_eq X 41 d_M_comesOut_22 (by decide) (fun q5 => ?_) (fun q5 => ?_)
      · have hw := hw.1 q5
        exact qx_vret X hw (Nat.le_refl 0) (Nat.le_refl 0) rfl d_M_comesOut_41
      · have hw := hw.2 q5
        refine qx_iload_n (x := x1) X d_M_comesOut_25 rfl 2 rfl ?_
        refine qx_if_eq X 42 d_M_comesOut_26 (by decide) (fun q6 => ?_) (fun q6 => ?_)
        · have hw := hw.1 q6
          refine qx_sub [1, 2, 0] rfl ?_
          exact t_M_comesOut_42 X N x0 x1 y4 h Q _ hw ih
        · have hw := hw.2 q6
          refine qx_iload_n (x := y4) X d_M_comesOut_29 rfl 0 rfl ?_
          refine qx_bipush (v := (8 : Int32)) X d_M_comesOut_30 (by decide) ?_
          refine qx_icmp_eq X 41 d_M_comesOut_32 (by decide) (fun q7 => ?_) (fun q7 => ?_)
          · have hw := hw.1 q7
            exact qx_vret X hw (Nat.le_refl 0) (Nat.le_refl 0) rfl d_M_comesOut_41
          · have hw := hw.2 q7
            refine qx_iload_n (x := y4) X d_M_comesOut_35 rfl 0 rfl ?_
            refine qx_bipush (v := (9 : Int32)) X d_M_comesOut_36 (by decide) ?_
            refine qx_icmp_ne X 42 d_M_comesOut_38 (by decide) (fun q8 => ?_) (fun q8 => ?_)
            · have hw := hw.1 q8
              refine qx_sub [1, 2, 0] rfl ?_
              exact t_M_comesOut_42 X N x0 x1 y4 h Q _ hw ih
            · have hw := hw.2 q8
              exact qx_vret X hw (Nat.le_refl 0) (Nat.le_refl 0) rfl d_M_comesOut_41
set_option maxRecDepth 4000 in
theorem t_M_comesOut {adK adV : Nat → Nat} (l : Launch) (D : va_G) (cy : Nat → ClassId) (b : Nat) (N : Nat) (x0 : Nat) (x1 : Int32) (h : qH) (Q : qH → Prop) (hw : w_M_comesOut N x0 x1 h Q) : Met l y_M_comesOut (Cond.code y_M_comesOut prog_14_method_32_code 3 (none) :: qT) (qrm 1 0 0 22) (qPc D cy b adK adV h [qr b x0, .int x1]) (qQc D cy b qrV (fun (_ : Unit) h => Q h)) 0 0 (qA b) := by
  refine qmet (L0 := [(0, .inr (.inr (.inl x0))), (1, .inl x1)]) qm_M_comesOut (plainFor_of_name (by decide)) [.inr (.inr (.inl x0)), .inl x1] rfl (Nat.le_of_ble_eq_true rfl) rfl (fun p e s m args below meth c X => ?_)
  unfold w_M_comesOut at hw
  exact t_M_comesOut_0 X N N x0 x1 h Q  hw 
set_option maxRecDepth 4000 in
theorem t_M_unit {adK adV : Nat → Nat} (l : Launch) (D : va_G) (cy : Nat → ClassId) (b : Nat) (N : Nat) (x0 : Nat) (h : qH) (Q : qH → Prop) (hw : w_M_unit N x0 h Q) : Met l y_M_unit (Cond.code y_M_unit prog_14_method_34_code 1 (none) :: qT) (qrm 2 0 0 41) (qPc D cy b adK adV h [qr b x0]) (qQc D cy b qrV (fun (_ : Unit) h => Q h)) 0 0 (qA b) := by
  refine qmet (L0 := [(0, .inr (.inr (.inl x0)))]) qm_M_unit (plainFor_of_name (by decide)) [.inr (.inr (.inl x0))] rfl (Nat.le_of_ble_eq_true rfl) rfl (fun p e s m args below meth c X => ?_)
  unfold w_M_unit at hw
  refine qx_aload_n (x := x0) X d_M_unit_0 rfl 0 rfl ?_
  refine qx_iconst (v := (2 : Int32)) X d_M_unit_1 (by decide) ?_
  obtain ⟨g1, hw⟩ := hw
  refine qx_callVI (st := []) (As := [.int (2 : Int32)]) X (t_M_is (adK := adK) (adV := adV) l D cy b N x0 (2 : Int32) h _ hw) qm_M_is wm_M_233 wi_M_is wl_M_is qcls12 g1 rfl rfl rfl ⟨Nat.le_of_ble_eq_true rfl, Nat.le_of_ble_eq_true rfl⟩ ⟨Nat.le_refl 0, Nat.le_refl 0⟩ (Nat.le_of_ble_eq_true rfl) rfl d_M_unit_2 (fun r2 h3 hw => ?_)
  refine qx_if_eq X 29 d_M_unit_5 (by decide) (fun q4 => ?_) (fun q4 => ?_)
  · have hw := hw.1 q4
    refine qx_aload_n (x := x0) X d_M_unit_29 rfl 0 rfl ?_
    obtain ⟨g5, hw⟩ := hw
    refine qx_getI X qcls12 g5 13 (by decide) rfl wf_M_215 d_M_unit_30 ?_
    refine qx_if_ne X 88 d_M_unit_33 (by decide) (fun q6 => ?_) (fun q6 => ?_)
    · have hw := hw.1 q6
      refine qx_aload_n (x := x0) X d_M_unit_88 rfl 0 rfl ?_
      refine qx_iconst (v := (1 : Int32)) X d_M_unit_89 (by decide) ?_
      refine qx_callVV (st := []) (As := [.int (1 : Int32)]) X (t_M_fail (adK := adK) (adV := adV) l D cy b N x0 (1 : Int32) h3 _ hw) qm_M_fail wm_M_230 wi_M_fail wl_M_fail qcls12 g5 rfl rfl rfl ⟨Nat.le_of_ble_eq_true rfl, Nat.le_of_ble_eq_true rfl⟩ ⟨Nat.le_refl 0, Nat.le_refl 0⟩ (Nat.le_of_ble_eq_true rfl) rfl d_M_unit_90 (fun h7 hw => ?_)
      exact qx_vret X hw (Nat.le_refl 0) (Nat.le_refl 0) rfl d_M_unit_93
    · have hw := hw.2 q6
      refine qx_aload_n (x := x0) X d_M_unit_36 rfl 0 rfl ?_
      refine qx_getR X qcls12 g5 5 (by decide) rfl wf_M_20 d_M_unit_37 ?_
      refine qx_aload_n (x := x0) X d_M_unit_40 rfl 0 rfl ?_
      refine qx_getI X qcls12 g5 11 (by decide) rfl wf_M_218 d_M_unit_41 ?_
      obtain ⟨g8, hw⟩ := hw
      refine qx_ild X g8 d_M_unit_44 ?_
      refine qx_bipush (v := (32 : Int32)) X d_M_unit_45 (by decide) ?_
      refine qx_icmp_lt X 88 d_M_unit_47 (by decide) (fun q9 => ?_) (fun q9 => ?_)
      · have hw := hw.1 q9
        refine qx_aload_n (x := x0) X d_M_unit_88 rfl 0 rfl ?_
        refine qx_iconst (v := (1 : Int32)) X d_M_unit_89 (by decide) ?_
        refine qx_callVV (st := []) (As := [.int (1 : Int32)]) X (t_M_fail (adK := adK) (adV := adV) l D cy b N x0 (1 : Int32) h3 _ hw) qm_M_fail wm_M_230 wi_M_fail wl_M_fail qcls12 g5 rfl rfl rfl ⟨Nat.le_of_ble_eq_true rfl, Nat.le_of_ble_eq_true rfl⟩ ⟨Nat.le_refl 0, Nat.le_refl 0⟩ (Nat.le_of_ble_eq_true rfl) rfl d_M_unit_90 (fun h10 hw => ?_)
        exact qx_vret X hw (Nat.le_refl 0) (Nat.le_refl 0) rfl d_M_unit_93
      · have hw := hw.2 q9
        refine qx_aload_n (x := x0) X d_M_unit_50 rfl 0 rfl ?_
        refine qx_getR X qcls12 g5 5 (by decide) rfl wf_M_20 d_M_unit_51 ?_
        refine qx_aload_n (x := x0) X d_M_unit_54 rfl 0 rfl ?_
        refine qx_getI X qcls12 g5 11 (by decide) rfl wf_M_218 d_M_unit_55 ?_
        refine qx_ild X g8 d_M_unit_58 ?_
        refine qx_bipush (v := (40 : Int32)) X d_M_unit_59 (by decide) ?_
        refine qx_icmp_gt X 88 d_M_unit_61 (by decide) (fun q11 => ?_) (fun q11 => ?_)
        · have hw := hw.1 q11
          refine qx_aload_n (x := x0) X d_M_unit_88 rfl 0 rfl ?_
          refine qx_iconst (v := (1 : Int32)) X d_M_unit_89 (by decide) ?_
          refine qx_callVV (st := []) (As := [.int (1 : Int32)]) X (t_M_fail (adK := adK) (adV := adV) l D cy b N x0 (1 : Int32) h3 _ hw) qm_M_fail wm_M_230 wi_M_fail wl_M_fail qcls12 g5 rfl rfl rfl ⟨Nat.le_of_ble_eq_true rfl, Nat.le_of_ble_eq_true rfl⟩ ⟨Nat.le_refl 0, Nat.le_refl 0⟩ (Nat.le_of_ble_eq_true rfl) rfl d_M_unit_90 (fun h12 hw => ?_)
          exact qx_vret X hw (Nat.le_refl 0) (Nat.le_refl 0) rfl d_M_unit_93
        · have hw := hw.2 q11
          refine qx_aload_n (x := x0) X d_M_unit_64 rfl 0 rfl ?_
          refine qx_iconst (v := (1 : Int32)) X d_M_unit_65 (by decide) ?_
          refine qx_aload_n (x := x0) X d_M_unit_66 rfl 0 rfl ?_
          refine qx_getR X qcls12 g5 5 (by decide) rfl wf_M_20 d_M_unit_67 ?_
          refine qx_aload_n (x := x0) X d_M_unit_70 rfl 0 rfl ?_
          refine qx_getI X qcls12 g5 11 (by decide) rfl wf_M_218 d_M_unit_71 ?_
          refine qx_ild X g8 d_M_unit_74 ?_
          refine qx_bipush (v := (32 : Int32)) X d_M_unit_75 (by decide) ?_
          refine qx_isub X d_M_unit_77 ?_
          refine qx_callVV (st := []) (As := [.int (1 : Int32), .int ((qI h3 (qR h3 x0 5) ((qI h3 x0 11)).toNatClampNeg) - (32 : Int32))]) X (t_M_emit (adK := adK) (adV := adV) l D cy b N x0 (1 : Int32) ((qI h3 (qR h3 x0 5) ((qI h3 x0 11)).toNatClampNeg) - (32 : Int32)) h3 _ hw) qm_M_emit wm_M_308 wi_M_emit wl_M_emit qcls12 g5 rfl rfl rfl ⟨Nat.le_of_ble_eq_true rfl, Nat.le_of_ble_eq_true rfl⟩ ⟨Nat.le_refl 0, Nat.le_refl 0⟩ (Nat.le_of_ble_eq_true rfl) rfl d_M_unit_78 (fun h13 hw => ?_)
          refine qx_aload_n (x := x0) X d_M_unit_81 rfl 0 rfl ?_
          obtain ⟨g14, hw⟩ := hw
          refine qx_callVV (st := []) (As := []) X (t_M_goesOn (adK := adK) (adV := adV) l D cy b N x0 h13 _ hw) qm_M_goesOn wm_M_236 wi_M_goesOn wl_M_goesOn qcls12 g14 rfl rfl rfl ⟨Nat.le_of_ble_eq_true rfl, Nat.le_of_ble_eq_true rfl⟩ ⟨Nat.le_refl 0, Nat.le_refl 0⟩ (Nat.le_of_ble_eq_true rfl) rfl d_M_unit_82 (fun h15 hw => ?_)
          refine qx_goto X 93 d_M_unit_85 (by decide) ?_
          exact qx_vret X hw (Nat.le_refl 0) (Nat.le_refl 0) rfl d_M_unit_93
  · have hw := hw.2 q4
    refine qx_aload_n (x := x0) X d_M_unit_8 rfl 0 rfl ?_
    refine qx_iconst (v := (0 : Int32)) X d_M_unit_9 (by decide) ?_
    refine qx_aload_n (x := x0) X d_M_unit_10 rfl 0 rfl ?_
    obtain ⟨g16, hw⟩ := hw
    refine qx_getR X qcls12 g16 7 (by decide) rfl wf_M_27 d_M_unit_11 ?_
    refine qx_aload_n (x := x0) X d_M_unit_14 rfl 0 rfl ?_
    refine qx_getI X qcls12 g16 11 (by decide) rfl wf_M_218 d_M_unit_15 ?_
    obtain ⟨g17, hw⟩ := hw
    refine qx_ild X g17 d_M_unit_18 ?_
    refine qx_callVV (st := []) (As := [.int (0 : Int32), .int (qI h3 (qR h3 x0 7) ((qI h3 x0 11)).toNatClampNeg)]) X (t_M_emit (adK := adK) (adV := adV) l D cy b N x0 (0 : Int32) (qI h3 (qR h3 x0 7) ((qI h3 x0 11)).toNatClampNeg) h3 _ hw) qm_M_emit wm_M_308 wi_M_emit wl_M_emit qcls12 g16 rfl rfl rfl ⟨Nat.le_of_ble_eq_true rfl, Nat.le_of_ble_eq_true rfl⟩ ⟨Nat.le_refl 0, Nat.le_refl 0⟩ (Nat.le_of_ble_eq_true rfl) rfl d_M_unit_19 (fun h18 hw => ?_)
    refine qx_aload_n (x := x0) X d_M_unit_22 rfl 0 rfl ?_
    obtain ⟨g19, hw⟩ := hw
    refine qx_callVV (st := []) (As := []) X (t_M_goesOn (adK := adK) (adV := adV) l D cy b N x0 h18 _ hw) qm_M_goesOn wm_M_236 wi_M_goesOn wl_M_goesOn qcls12 g19 rfl rfl rfl ⟨Nat.le_of_ble_eq_true rfl, Nat.le_of_ble_eq_true rfl⟩ ⟨Nat.le_refl 0, Nat.le_refl 0⟩ (Nat.le_of_ble_eq_true rfl) rfl d_M_unit_23 (fun h20 hw => ?_)
    refine qx_goto X 93 d_M_unit_26 (by decide) ?_
    exact qx_vret X hw (Nat.le_refl 0) (Nat.le_refl 0) rfl d_M_unit_93
set_option maxRecDepth 4000 in
theorem t_M_expression_46 (X : qX p s m args meth c D cy b adK adV prog_14_method_33_code "CoatHangersModel" 3 (none) "expression") (N : Nat) (x0 : Nat) (x1 : Int32) (h : qH) (Q : qH → Prop) (K23 : Nat → Int32 → qH → Prop) (hw : w_M_expression_46 N x0 x1 h Q K23) (hK23 : ∀ (x0 : Nat) (x1 : Int32) (h : qH), K23 x0 x1 h → qW p l e (qrm 3 0 0 61) s m args below meth c D cy b 3 0 0 (MQ below (qQc D cy b qrV (fun (_ : Unit) h => Q h)) args s 0 0 (qA b)) 23 [(0, .inr (.inr (.inl x0))), (1, .inl x1)] [] h) : qW p l e (qrm 3 0 0 61) s m args below meth c D cy b 3 0 0 (MQ below (qQc D cy b qrV (fun (_ : Unit) h => Q h)) args s 0 0 (qA b)) 46 [(0, .inr (.inr (.inl x0))), (1, .inl x1)] [] h := by
  unfold w_M_expression_46 at hw
  refine qx_aload_n (x := x0) X d_M_expression_46 rfl 0 rfl ?_
  refine qx_dup X (qr_cat _ _) d_M_expression_47 ?_
  obtain ⟨g1, hw⟩ := hw
  refine qx_getI X qcls12 g1 12 (by decide) rfl wf_M_242 d_M_expression_48 ?_
  refine qx_iconst (v := (1 : Int32)) X d_M_expression_51 (by decide) ?_
  refine qx_iadd X d_M_expression_52 ?_
  refine qx_putI X qcls12 g1 12 (by decide) rfl wf_M_242 rfl rfl rfl d_M_expression_53 ?_
  refine qx_toph (fun h2 eh2 => ?_)
  have hw := hw h2 eh2
  refine qx_aload_n (x := x0) X d_M_expression_56 rfl 0 rfl ?_
  obtain ⟨g3, hw⟩ := hw
  refine qx_callVV (st := []) (As := []) X (t_M_goesOn (adK := adK) (adV := adV) l D cy b N x0 h2 _ hw) qm_M_goesOn wm_M_236 wi_M_goesOn wl_M_goesOn qcls12 g3 rfl rfl rfl ⟨Nat.le_of_ble_eq_true rfl, Nat.le_of_ble_eq_true rfl⟩ ⟨Nat.le_refl 0, Nat.le_refl 0⟩ (Nat.le_of_ble_eq_true rfl) rfl d_M_expression_57 (fun h4 hw => ?_)
  refine qx_aload_n (x := x0) X d_M_expression_60 rfl 0 rfl ?_
  obtain ⟨g5, hw⟩ := hw
  refine qx_getR X qcls12 g5 44 (by decide) rfl wf_M_104 d_M_expression_61 ?_
  refine qx_aload_n (x := x0) X d_M_expression_64 rfl 0 rfl ?_
  refine qx_getI X qcls12 g5 45 (by decide) rfl wf_M_305 d_M_expression_65 ?_
  refine qx_bipush (v := (6 : Int32)) X d_M_expression_68 (by decide) ?_
  obtain ⟨g6, hw⟩ := hw
  refine qx_ist X g6 d_M_expression_70 ?_
  refine qx_toph (fun h7 eh7 => ?_)
  have hw := hw h7 eh7
  refine qx_aload_n (x := x0) X d_M_expression_71 rfl 0 rfl ?_
  refine qx_dup X (qr_cat _ _) d_M_expression_72 ?_
  obtain ⟨g8, hw⟩ := hw
  refine qx_getI X qcls12 g8 45 (by decide) rfl wf_M_305 d_M_expression_73 ?_
  refine qx_iconst (v := (1 : Int32)) X d_M_expression_76 (by decide) ?_
  refine qx_iadd X d_M_expression_77 ?_
  refine qx_putI X qcls12 g8 45 (by decide) rfl wf_M_305 rfl rfl rfl d_M_expression_78 ?_
  refine qx_toph (fun h9 eh9 => ?_)
  have hw := hw h9 eh9
  refine qx_goto X 23 d_M_expression_81 (by decide) ?_
  exact hK23 x0 x1 h9 hw
set_option maxRecDepth 4000 in
theorem t_M_expression_23 (X : qX p s m args meth c D cy b adK adV prog_14_method_33_code "CoatHangersModel" 3 (none) "expression") (N k : Nat) (x0 : Nat) (x1 : Int32) (h : qH) (Q : qH → Prop) (K84 : Nat → Int32 → qH → Prop) (hw : w_M_expression_23 N k x0 x1 h Q K84) (hK84 : ∀ (x0 : Nat) (x1 : Int32) (h : qH), K84 x0 x1 h → qW p l e (qrm 3 0 0 61) s m args below meth c D cy b 3 0 0 (MQ below (qQc D cy b qrV (fun (_ : Unit) h => Q h)) args s 0 0 (qA b)) 84 [(0, .inr (.inr (.inl x0))), (1, .inl x1)] [] h) : qW p l e (qrm 3 0 0 61) s m args below meth c D cy b 3 0 0 (MQ below (qQc D cy b qrV (fun (_ : Unit) h => Q h)) args s 0 0 (qA b)) 23 [(0, .inr (.inr (.inl x0))), (1, .inl x1)] [] h := by
  induction k generalizing x0 x1 h with
  | zero => exact hw.elim
  | succ k ih =>
    refine qx_aload_n (x := x0) X d_M_expression_23 rfl 0 rfl ?_
    refine qx_bipush (v := (6 : Int32)) X d_M_expression_24 (by decide) ?_
    obtain ⟨g1, hw⟩ := hw
    refine qx_callVI (st := []) (As := [.int (6 : Int32)]) X (t_M_is (adK := adK) (adV := adV) l D cy b N x0 (6 : Int32) h _ hw) qm_M_is wm_M_233 wi_M_is wl_M_is qcls12 g1 rfl rfl rfl ⟨Nat.le_of_ble_eq_true rfl, Nat.le_of_ble_eq_true rfl⟩ ⟨Nat.le_refl 0, Nat.le_refl 0⟩ (Nat.le_of_ble_eq_true rfl) rfl d_M_expression_26 (fun r2 h3 hw => ?_)
    refine qx_if_eq X 84 d_M_expression_29 (by decide) (fun q4 => ?_) (fun q4 => ?_)
    · have hw := hw.1 q4
      exact hK84 x0 x1 h3 hw
    · have hw := hw.2 q4
      refine qx_aload_n (x := x0) X d_M_expression_32 rfl 0 rfl ?_
      obtain ⟨g5, hw⟩ := hw
      refine qx_getI X qcls12 g5 12 (by decide) rfl wf_M_242 d_M_expression_33 ?_
      refine qx_bipush (v := (6 : Int32)) X d_M_expression_36 (by decide) ?_
      refine qx_icmp_ne X 46 d_M_expression_38 (by decide) (fun q6 => ?_) (fun q6 => ?_)
      · have hw := hw.1 q6
        exact t_M_expression_46 X N x0 x1 h3 Q _ hw ih
      · have hw := hw.2 q6
        refine qx_aload_n (x := x0) X d_M_expression_41 rfl 0 rfl ?_
        refine qx_iconst (v := (2 : Int32)) X d_M_expression_42 (by decide) ?_
        refine qx_callVV (st := []) (As := [.int (2 : Int32)]) X (t_M_fail (adK := adK) (adV := adV) l D cy b N x0 (2 : Int32) h3 _ hw) qm_M_fail wm_M_230 wi_M_fail wl_M_fail qcls12 g5 rfl rfl rfl ⟨Nat.le_of_ble_eq_true rfl, Nat.le_of_ble_eq_true rfl⟩ ⟨Nat.le_refl 0, Nat.le_refl 0⟩ (Nat.le_of_ble_eq_true rfl) rfl d_M_expression_43 (fun h7 hw => ?_)
        exact t_M_expression_46 X N x0 x1 h7 Q _ hw ih
set_option maxRecDepth 4000 in
theorem t_M_expression_96 (X : qX p s m args meth c D cy b adK adV prog_14_method_33_code "CoatHangersModel" 3 (none) "expression") (N k : Nat) (x0 : Nat) (x1 : Int32) (h : qH) (Q : qH → Prop) (K145 : Nat → Int32 → qH → Prop) (hw : w_M_expression_96 N k x0 x1 h Q K145) (hK145 : ∀ (x0 : Nat) (x1 : Int32) (h : qH), K145 x0 x1 h → qW p l e (qrm 3 0 0 61) s m args below meth c D cy b 3 0 0 (MQ below (qQc D cy b qrV (fun (_ : Unit) h => Q h)) args s 0 0 (qA b)) 145 [(0, .inr (.inr (.inl x0))), (1, .inl x1)] [] h) : qW p l e (qrm 3 0 0 61) s m args below meth c D cy b 3 0 0 (MQ below (qQc D cy b qrV (fun (_ : Unit) h => Q h)) args s 0 0 (qA b)) 96 [(0, .inr (.inr (.inl x0))), (1, .inl x1)] [] h := by
  induction k generalizing x0 x1 h with
  | zero => exact hw.elim
  | succ k ih =>
    refine qx_aload_n (x := x0) X d_M_expression_96 rfl 0 rfl ?_
    refine qx_bipush (v := (7 : Int32)) X d_M_expression_97 (by decide) ?_
    obtain ⟨g1, hw⟩ := hw
    refine qx_callVI (st := []) (As := [.int (7 : Int32)]) X (t_M_is (adK := adK) (adV := adV) l D cy b N x0 (7 : Int32) h _ hw) qm_M_is wm_M_233 wi_M_is wl_M_is qcls12 g1 rfl rfl rfl ⟨Nat.le_of_ble_eq_true rfl, Nat.le_of_ble_eq_true rfl⟩ ⟨Nat.le_refl 0, Nat.le_refl 0⟩ (Nat.le_of_ble_eq_true rfl) rfl d_M_expression_99 (fun r2 h3 hw => ?_)
    refine qx_if_eq X 145 d_M_expression_102 (by decide) (fun q4 => ?_) (fun q4 => ?_)
    · have hw := hw.1 q4
      exact hK145 x0 x1 h3 hw
    · have hw := hw.2 q4
      refine qx_aload_n (x := x0) X d_M_expression_105 rfl 0 rfl ?_
      obtain ⟨g5, hw⟩ := hw
      refine qx_getI X qcls12 g5 12 (by decide) rfl wf_M_242 d_M_expression_106 ?_
      refine qx_iload_n (x := x1) X d_M_expression_109 rfl 1 rfl ?_
      refine qx_icmp_le X 145 d_M_expression_110 (by decide) (fun q6 => ?_) (fun q6 => ?_)
      · have hw := hw.1 q6
        exact hK145 x0 x1 h3 hw
      · have hw := hw.2 q6
        refine qx_aload_n (x := x0) X d_M_expression_113 rfl 0 rfl ?_
        refine qx_iconst (v := (0 : Int32)) X d_M_expression_114 (by decide) ?_
        refine qx_callVV (st := []) (As := [.int (0 : Int32)]) X (t_M_comesOut (adK := adK) (adV := adV) l D cy b N x0 (0 : Int32) h3 _ hw) qm_M_comesOut wm_M_314 wi_M_comesOut wl_M_comesOut qcls12 g5 rfl rfl rfl ⟨Nat.le_of_ble_eq_true rfl, Nat.le_of_ble_eq_true rfl⟩ ⟨Nat.le_refl 0, Nat.le_refl 0⟩ (Nat.le_of_ble_eq_true rfl) rfl d_M_expression_115 (fun h7 hw => ?_)
        refine qx_aload_n (x := x0) X d_M_expression_118 rfl 0 rfl ?_
        refine qx_dup X (qr_cat _ _) d_M_expression_119 ?_
        obtain ⟨g8, hw⟩ := hw
        refine qx_getI X qcls12 g8 45 (by decide) rfl wf_M_305 d_M_expression_120 ?_
        refine qx_iconst (v := (1 : Int32)) X d_M_expression_123 (by decide) ?_
        refine qx_isub X d_M_expression_124 ?_
        refine qx_putI X qcls12 g8 45 (by decide) rfl wf_M_305 rfl rfl rfl d_M_expression_125 ?_
        refine qx_toph (fun h9 eh9 => ?_)
        have hw := hw h9 eh9
        refine qx_aload_n (x := x0) X d_M_expression_128 rfl 0 rfl ?_
        refine qx_dup X (qr_cat _ _) d_M_expression_129 ?_
        obtain ⟨g10, hw⟩ := hw
        refine qx_getI X qcls12 g10 12 (by decide) rfl wf_M_242 d_M_expression_130 ?_
        refine qx_iconst (v := (1 : Int32)) X d_M_expression_133 (by decide) ?_
        refine qx_isub X d_M_expression_134 ?_
        refine qx_putI X qcls12 g10 12 (by decide) rfl wf_M_242 rfl rfl rfl d_M_expression_135 ?_
        refine qx_toph (fun h11 eh11 => ?_)
        have hw := hw h11 eh11
        refine qx_aload_n (x := x0) X d_M_expression_138 rfl 0 rfl ?_
        obtain ⟨g12, hw⟩ := hw
        refine qx_callVV (st := []) (As := []) X (t_M_goesOn (adK := adK) (adV := adV) l D cy b N x0 h11 _ hw) qm_M_goesOn wm_M_236 wi_M_goesOn wl_M_goesOn qcls12 g12 rfl rfl rfl ⟨Nat.le_of_ble_eq_true rfl, Nat.le_of_ble_eq_true rfl⟩ ⟨Nat.le_refl 0, Nat.le_refl 0⟩ (Nat.le_of_ble_eq_true rfl) rfl d_M_expression_139 (fun h13 hw => ?_)
        refine qx_goto X 96 d_M_expression_142 (by decide) ?_
        exact ih x0 x1 h13 hw
set_option maxRecDepth 4000 in
theorem t_M_expression_234 (X : qX p s m args meth c D cy b adK adV prog_14_method_33_code "CoatHangersModel" 3 (none) "expression") (N : Nat) (x0 : Nat) (x1 : Int32) (x2 : Int32) (z0 : Int32) (z1 : Nat) (h : qH) (Q : qH → Prop) (K12 : Nat → Int32 → Int32 → qH → Prop) (hw : w_M_expression_234 N x0 x1 x2 z0 z1 h Q K12) (hK12 : ∀ (x0 : Nat) (x1 : Int32) (x2 : Int32) (h : qH), K12 x0 x1 x2 h → qW p l e (qrm 3 0 0 61) s m args below meth c D cy b 3 0 0 (MQ below (qQc D cy b qrV (fun (_ : Unit) h => Q h)) args s 0 0 (qA b)) 12 [(0, .inr (.inr (.inl x0))), (1, .inl x1), (2, .inl x2)] [] h) : qW p l e (qrm 3 0 0 61) s m args below meth c D cy b 3 0 0 (MQ below (qQc D cy b qrV (fun (_ : Unit) h => Q h)) args s 0 0 (qA b)) 234 [(0, .inr (.inr (.inl x0))), (1, .inl x1), (2, .inl x2)] [.int z0, qr b z1] h := by
  unfold w_M_expression_234 at hw
  obtain ⟨g1, hw⟩ := hw
  refine qx_callVV (st := []) (As := [.int z0]) X (t_M_comesOut (adK := adK) (adV := adV) l D cy b N z1 z0 h _ hw) qm_M_comesOut wm_M_314 wi_M_comesOut wl_M_comesOut qcls12 g1 rfl rfl rfl ⟨Nat.le_of_ble_eq_true rfl, Nat.le_of_ble_eq_true rfl⟩ ⟨Nat.le_refl 0, Nat.le_refl 0⟩ (Nat.le_of_ble_eq_true rfl) rfl d_M_expression_234 (fun h2 hw => ?_)
  refine qx_aload_n (x := x0) X d_M_expression_237 rfl 0 rfl ?_
  obtain ⟨g3, hw⟩ := hw
  refine qx_getR X qcls12 g3 44 (by decide) rfl wf_M_104 d_M_expression_238 ?_
  refine qx_aload_n (x := x0) X d_M_expression_241 rfl 0 rfl ?_
  refine qx_getI X qcls12 g3 45 (by decide) rfl wf_M_305 d_M_expression_242 ?_
  refine qx_aload_n (x := x0) X d_M_expression_245 rfl 0 rfl ?_
  refine qx_getR X qcls12 g3 5 (by decide) rfl wf_M_20 d_M_expression_246 ?_
  refine qx_aload_n (x := x0) X d_M_expression_249 rfl 0 rfl ?_
  refine qx_getI X qcls12 g3 11 (by decide) rfl wf_M_218 d_M_expression_250 ?_
  obtain ⟨g4, hw⟩ := hw
  refine qx_ild X g4 d_M_expression_253 ?_
  obtain ⟨g5, hw⟩ := hw
  refine qx_ist X g5 d_M_expression_254 ?_
  refine qx_toph (fun h6 eh6 => ?_)
  have hw := hw h6 eh6
  refine qx_aload_n (x := x0) X d_M_expression_255 rfl 0 rfl ?_
  refine qx_dup X (qr_cat _ _) d_M_expression_256 ?_
  obtain ⟨g7, hw⟩ := hw
  refine qx_getI X qcls12 g7 45 (by decide) rfl wf_M_305 d_M_expression_257 ?_
  refine qx_iconst (v := (1 : Int32)) X d_M_expression_260 (by decide) ?_
  refine qx_iadd X d_M_expression_261 ?_
  refine qx_putI X qcls12 g7 45 (by decide) rfl wf_M_305 rfl rfl rfl d_M_expression_262 ?_
  refine qx_toph (fun h8 eh8 => ?_)
  have hw := hw h8 eh8
  refine qx_aload_n (x := x0) X d_M_expression_265 rfl 0 rfl ?_
  obtain ⟨g9, hw⟩ := hw
  refine qx_callVV (st := []) (As := []) X (t_M_goesOn (adK := adK) (adV := adV) l D cy b N x0 h8 _ hw) qm_M_goesOn wm_M_236 wi_M_goesOn wl_M_goesOn qcls12 g9 rfl rfl rfl ⟨Nat.le_of_ble_eq_true rfl, Nat.le_of_ble_eq_true rfl⟩ ⟨Nat.le_refl 0, Nat.le_refl 0⟩ (Nat.le_of_ble_eq_true rfl) rfl d_M_expression_266 (fun h10 hw => ?_)
  refine qx_goto X 12 d_M_expression_269 (by decide) ?_
  exact hK12 x0 x1 x2 h10 hw
set_option maxRecDepth 4000 in
theorem t_M_expression_229 (X : qX p s m args meth c D cy b adK adV prog_14_method_33_code "CoatHangersModel" 3 (none) "expression") (N : Nat) (x0 : Nat) (x1 : Int32) (x2 : Int32) (z0 : Nat) (h : qH) (Q : qH → Prop) (K12 : Nat → Int32 → Int32 → qH → Prop) (hw : w_M_expression_229 N x0 x1 x2 z0 h Q K12) (hK12 : ∀ (x0 : Nat) (x1 : Int32) (x2 : Int32) (h : qH), K12 x0 x1 x2 h → qW p l e (qrm 3 0 0 61) s m args below meth c D cy b 3 0 0 (MQ below (qQc D cy b qrV (fun (_ : Unit) h => Q h)) args s 0 0 (qA b)) 12 [(0, .inr (.inr (.inl x0))), (1, .inl x1), (2, .inl x2)] [] h) : qW p l e (qrm 3 0 0 61) s m args below meth c D cy b 3 0 0 (MQ below (qQc D cy b qrV (fun (_ : Unit) h => Q h)) args s 0 0 (qA b)) 229 [(0, .inr (.inr (.inl x0))), (1, .inl x1), (2, .inl x2)] [qr b z0] h := by
  unfold w_M_expression_229 at hw
  refine qx_iconst (v := (1 : Int32)) X d_M_expression_229 (by decide) ?_
  refine qx_goto X 234 d_M_expression_230 (by decide) ?_
  exact t_M_expression_234 X N x0 x1 x2 (1 : Int32) z0 h Q _ hw hK12
set_option maxRecDepth 4000 in
theorem t_M_expression_186 (X : qX p s m args meth c D cy b adK adV prog_14_method_33_code "CoatHangersModel" 3 (none) "expression") (N : Nat) (x0 : Nat) (x1 : Int32) (z0 : Int32) (h : qH) (Q : qH → Prop) (K12 : Nat → Int32 → Int32 → qH → Prop) (K191 : Nat → Int32 → qH → Prop) (hw : w_M_expression_186 N x0 x1 z0 h Q K12 K191) (hK12 : ∀ (x0 : Nat) (x1 : Int32) (x2 : Int32) (h : qH), K12 x0 x1 x2 h → qW p l e (qrm 3 0 0 61) s m args below meth c D cy b 3 0 0 (MQ below (qQc D cy b qrV (fun (_ : Unit) h => Q h)) args s 0 0 (qA b)) 12 [(0, .inr (.inr (.inl x0))), (1, .inl x1), (2, .inl x2)] [] h) (hK191 : ∀ (x0 : Nat) (x1 : Int32) (h : qH), K191 x0 x1 h → qW p l e (qrm 3 0 0 61) s m args below meth c D cy b 3 0 0 (MQ below (qQc D cy b qrV (fun (_ : Unit) h => Q h)) args s 0 0 (qA b)) 191 [(0, .inr (.inr (.inl x0))), (1, .inl x1)] [] h) : qW p l e (qrm 3 0 0 61) s m args below meth c D cy b 3 0 0 (MQ below (qQc D cy b qrV (fun (_ : Unit) h => Q h)) args s 0 0 (qA b)) 186 [(0, .inr (.inr (.inl x0))), (1, .inl x1)] [.int z0] h := by
  unfold w_M_expression_186 at hw
  refine qx_istore_n (L' := [(2, .inl z0), (0, .inr (.inr (.inl x0))), (1, .inl x1)]) X d_M_expression_186 rfl (by decide) rfl ?_
  refine qx_iload_n (x := z0) X d_M_expression_187 rfl 0 rfl ?_
  refine qx_if_ne X 210 d_M_expression_188 (by decide) (fun q1 => ?_) (fun q1 => ?_)
  · have hw := hw.1 q1
    refine qx_aload_n (x := x0) X d_M_expression_210 rfl 1 rfl ?_
    refine qx_aload_n (x := x0) X d_M_expression_211 rfl 1 rfl ?_
    refine qx_bipush (v := (10 : Int32)) X d_M_expression_212 (by decide) ?_
    obtain ⟨g2, hw⟩ := hw
    refine qx_callVI (st := [qr b x0]) (As := [.int (10 : Int32)]) X (t_M_is (adK := adK) (adV := adV) l D cy b N x0 (10 : Int32) h _ hw) qm_M_is wm_M_233 wi_M_is wl_M_is qcls12 g2 rfl rfl rfl ⟨Nat.le_of_ble_eq_true rfl, Nat.le_of_ble_eq_true rfl⟩ ⟨Nat.le_refl 0, Nat.le_refl 0⟩ (Nat.le_of_ble_eq_true rfl) rfl d_M_expression_214 (fun r3 h4 hw => ?_)
    refine qx_if_ne X 229 d_M_expression_217 (by decide) (fun q5 => ?_) (fun q5 => ?_)
    · have hw := hw.1 q5
      refine qx_sub [1, 2, 0] rfl ?_
      exact t_M_expression_229 X N x0 x1 z0 x0 h4 Q _ hw hK12
    · have hw := hw.2 q5
      refine qx_aload_n (x := x0) X d_M_expression_220 rfl 1 rfl ?_
      refine qx_bipush (v := (15 : Int32)) X d_M_expression_221 (by decide) ?_
      obtain ⟨g6, hw⟩ := hw
      refine qx_callVI (st := [qr b x0]) (As := [.int (15 : Int32)]) X (t_M_is (adK := adK) (adV := adV) l D cy b N x0 (15 : Int32) h4 _ hw) qm_M_is wm_M_233 wi_M_is wl_M_is qcls12 g6 rfl rfl rfl ⟨Nat.le_of_ble_eq_true rfl, Nat.le_of_ble_eq_true rfl⟩ ⟨Nat.le_refl 0, Nat.le_refl 0⟩ (Nat.le_of_ble_eq_true rfl) rfl d_M_expression_223 (fun r7 h8 hw => ?_)
      refine qx_if_eq X 233 d_M_expression_226 (by decide) (fun q9 => ?_) (fun q9 => ?_)
      · have hw := hw.1 q9
        refine qx_iconst (v := (0 : Int32)) X d_M_expression_233 (by decide) ?_
        refine qx_sub [1, 2, 0] rfl ?_
        exact t_M_expression_234 X N x0 x1 z0 (0 : Int32) x0 h8 Q _ hw hK12
      · have hw := hw.2 q9
        refine qx_sub [1, 2, 0] rfl ?_
        exact t_M_expression_229 X N x0 x1 z0 x0 h8 Q _ hw hK12
  · have hw := hw.2 q1
    refine qx_sub [1, 2] rfl ?_
    exact hK191 x0 x1 h hw
set_option maxRecDepth 4000 in
theorem t_M_expression_181 (X : qX p s m args meth c D cy b adK adV prog_14_method_33_code "CoatHangersModel" 3 (none) "expression") (N : Nat) (x0 : Nat) (x1 : Int32) (h : qH) (Q : qH → Prop) (K12 : Nat → Int32 → Int32 → qH → Prop) (K191 : Nat → Int32 → qH → Prop) (hw : w_M_expression_181 N x0 x1 h Q K12 K191) (hK12 : ∀ (x0 : Nat) (x1 : Int32) (x2 : Int32) (h : qH), K12 x0 x1 x2 h → qW p l e (qrm 3 0 0 61) s m args below meth c D cy b 3 0 0 (MQ below (qQc D cy b qrV (fun (_ : Unit) h => Q h)) args s 0 0 (qA b)) 12 [(0, .inr (.inr (.inl x0))), (1, .inl x1), (2, .inl x2)] [] h) (hK191 : ∀ (x0 : Nat) (x1 : Int32) (h : qH), K191 x0 x1 h → qW p l e (qrm 3 0 0 61) s m args below meth c D cy b 3 0 0 (MQ below (qQc D cy b qrV (fun (_ : Unit) h => Q h)) args s 0 0 (qA b)) 191 [(0, .inr (.inr (.inl x0))), (1, .inl x1)] [] h) : qW p l e (qrm 3 0 0 61) s m args below meth c D cy b 3 0 0 (MQ below (qQc D cy b qrV (fun (_ : Unit) h => Q h)) args s 0 0 (qA b)) 181 [(0, .inr (.inr (.inl x0))), (1, .inl x1)] [] h := by
  unfold w_M_expression_181 at hw
  refine qx_iconst (v := (1 : Int32)) X d_M_expression_181 (by decide) ?_
  refine qx_goto X 186 d_M_expression_182 (by decide) ?_
  exact t_M_expression_186 X N x0 x1 (1 : Int32) h Q _ _ hw hK12 hK191
set_option maxRecDepth 4000 in
theorem t_M_expression_145 (X : qX p s m args meth c D cy b adK adV prog_14_method_33_code "CoatHangersModel" 3 (none) "expression") (N : Nat) (x0 : Nat) (x1 : Int32) (h : qH) (Q : qH → Prop) (K12 : Nat → Int32 → Int32 → qH → Prop) (K191 : Nat → Int32 → qH → Prop) (hw : w_M_expression_145 N x0 x1 h Q K12 K191) (hK12 : ∀ (x0 : Nat) (x1 : Int32) (x2 : Int32) (h : qH), K12 x0 x1 x2 h → qW p l e (qrm 3 0 0 61) s m args below meth c D cy b 3 0 0 (MQ below (qQc D cy b qrV (fun (_ : Unit) h => Q h)) args s 0 0 (qA b)) 12 [(0, .inr (.inr (.inl x0))), (1, .inl x1), (2, .inl x2)] [] h) (hK191 : ∀ (x0 : Nat) (x1 : Int32) (h : qH), K191 x0 x1 h → qW p l e (qrm 3 0 0 61) s m args below meth c D cy b 3 0 0 (MQ below (qQc D cy b qrV (fun (_ : Unit) h => Q h)) args s 0 0 (qA b)) 191 [(0, .inr (.inr (.inl x0))), (1, .inl x1)] [] h) : qW p l e (qrm 3 0 0 61) s m args below meth c D cy b 3 0 0 (MQ below (qQc D cy b qrV (fun (_ : Unit) h => Q h)) args s 0 0 (qA b)) 145 [(0, .inr (.inr (.inl x0))), (1, .inl x1)] [] h := by
  unfold w_M_expression_145 at hw
  refine qx_aload_n (x := x0) X d_M_expression_145 rfl 0 rfl ?_
  refine qx_bipush (v := (8 : Int32)) X d_M_expression_146 (by decide) ?_
  obtain ⟨g1, hw⟩ := hw
  refine qx_callVI (st := []) (As := [.int (8 : Int32)]) X (t_M_is (adK := adK) (adV := adV) l D cy b N x0 (8 : Int32) h _ hw) qm_M_is wm_M_233 wi_M_is wl_M_is qcls12 g1 rfl rfl rfl ⟨Nat.le_of_ble_eq_true rfl, Nat.le_of_ble_eq_true rfl⟩ ⟨Nat.le_refl 0, Nat.le_refl 0⟩ (Nat.le_of_ble_eq_true rfl) rfl d_M_expression_148 (fun r2 h3 hw => ?_)
  refine qx_if_ne X 181 d_M_expression_151 (by decide) (fun q4 => ?_) (fun q4 => ?_)
  · have hw := hw.1 q4
    exact t_M_expression_181 X N x0 x1 h3 Q _ _ hw hK12 hK191
  · have hw := hw.2 q4
    refine qx_aload_n (x := x0) X d_M_expression_154 rfl 0 rfl ?_
    refine qx_bipush (v := (9 : Int32)) X d_M_expression_155 (by decide) ?_
    obtain ⟨g5, hw⟩ := hw
    refine qx_callVI (st := []) (As := [.int (9 : Int32)]) X (t_M_is (adK := adK) (adV := adV) l D cy b N x0 (9 : Int32) h3 _ hw) qm_M_is wm_M_233 wi_M_is wl_M_is qcls12 g5 rfl rfl rfl ⟨Nat.le_of_ble_eq_true rfl, Nat.le_of_ble_eq_true rfl⟩ ⟨Nat.le_refl 0, Nat.le_refl 0⟩ (Nat.le_of_ble_eq_true rfl) rfl d_M_expression_157 (fun r6 h7 hw => ?_)
    refine qx_if_ne X 181 d_M_expression_160 (by decide) (fun q8 => ?_) (fun q8 => ?_)
    · have hw := hw.1 q8
      exact t_M_expression_181 X N x0 x1 h7 Q _ _ hw hK12 hK191
    · have hw := hw.2 q8
      refine qx_aload_n (x := x0) X d_M_expression_163 rfl 0 rfl ?_
      refine qx_bipush (v := (10 : Int32)) X d_M_expression_164 (by decide) ?_
      obtain ⟨g9, hw⟩ := hw
      refine qx_callVI (st := []) (As := [.int (10 : Int32)]) X (t_M_is (adK := adK) (adV := adV) l D cy b N x0 (10 : Int32) h7 _ hw) qm_M_is wm_M_233 wi_M_is wl_M_is qcls12 g9 rfl rfl rfl ⟨Nat.le_of_ble_eq_true rfl, Nat.le_of_ble_eq_true rfl⟩ ⟨Nat.le_refl 0, Nat.le_refl 0⟩ (Nat.le_of_ble_eq_true rfl) rfl d_M_expression_166 (fun r10 h11 hw => ?_)
      refine qx_if_ne X 181 d_M_expression_169 (by decide) (fun q12 => ?_) (fun q12 => ?_)
      · have hw := hw.1 q12
        exact t_M_expression_181 X N x0 x1 h11 Q _ _ hw hK12 hK191
      · have hw := hw.2 q12
        refine qx_aload_n (x := x0) X d_M_expression_172 rfl 0 rfl ?_
        refine qx_bipush (v := (15 : Int32)) X d_M_expression_173 (by decide) ?_
        obtain ⟨g13, hw⟩ := hw
        refine qx_callVI (st := []) (As := [.int (15 : Int32)]) X (t_M_is (adK := adK) (adV := adV) l D cy b N x0 (15 : Int32) h11 _ hw) qm_M_is wm_M_233 wi_M_is wl_M_is qcls12 g13 rfl rfl rfl ⟨Nat.le_of_ble_eq_true rfl, Nat.le_of_ble_eq_true rfl⟩ ⟨Nat.le_refl 0, Nat.le_refl 0⟩ (Nat.le_of_ble_eq_true rfl) rfl d_M_expression_175 (fun r14 h15 hw => ?_)
        refine qx_if_eq X 185 d_M_expression_178 (by decide) (fun q16 => ?_) (fun q16 => ?_)
        · have hw := hw.1 q16
          refine qx_iconst (v := (0 : Int32)) X d_M_expression_185 (by decide) ?_
          exact t_M_expression_186 X N x0 x1 (0 : Int32) h15 Q _ _ hw hK12 hK191
        · have hw := hw.2 q16
          exact t_M_expression_181 X N x0 x1 h15 Q _ _ hw hK12 hK191
set_option maxRecDepth 4000 in
theorem t_M_expression_12 (X : qX p s m args meth c D cy b adK adV prog_14_method_33_code "CoatHangersModel" 3 (none) "expression") (N k : Nat) (x0 : Nat) (x1 : Int32) (x2 : Int32) (h : qH) (Q : qH → Prop) (K191 : Nat → Int32 → qH → Prop) (hw : w_M_expression_12 N k x0 x1 x2 h Q K191) (hK191 : ∀ (x0 : Nat) (x1 : Int32) (h : qH), K191 x0 x1 h → qW p l e (qrm 3 0 0 61) s m args below meth c D cy b 3 0 0 (MQ below (qQc D cy b qrV (fun (_ : Unit) h => Q h)) args s 0 0 (qA b)) 191 [(0, .inr (.inr (.inl x0))), (1, .inl x1)] [] h) : qW p l e (qrm 3 0 0 61) s m args below meth c D cy b 3 0 0 (MQ below (qQc D cy b qrV (fun (_ : Unit) h => Q h)) args s 0 0 (qA b)) 12 [(0, .inr (.inr (.inl x0))), (1, .inl x1), (2, .inl x2)] [] h := by
  induction k generalizing x0 x1 x2 h with
  | zero => exact hw.elim
  | succ k ih =>
    refine qx_iload_n (x := x2) X d_M_expression_12 rfl 2 rfl ?_
    refine qx_if_eq X 272 d_M_expression_13 (by decide) (fun q1 => ?_) (fun q1 => ?_)
    · have hw := hw.1 q1
      exact qx_vret X hw (Nat.le_refl 0) (Nat.le_refl 0) rfl d_M_expression_272
    · have hw := hw.2 q1
      refine qx_aload_n (x := x0) X d_M_expression_16 rfl 0 rfl ?_
      obtain ⟨g2, hw⟩ := hw
      refine qx_getI X qcls12 g2 13 (by decide) rfl wf_M_215 d_M_expression_17 ?_
      refine qx_if_ne X 272 d_M_expression_20 (by decide) (fun q3 => ?_) (fun q3 => ?_)
      · have hw := hw.1 q3
        exact qx_vret X hw (Nat.le_refl 0) (Nat.le_refl 0) rfl d_M_expression_272
      · have hw := hw.2 q3
        refine qx_sub [0, 1] rfl ?_
        refine t_M_expression_23 X N N x0 x1 h Q _ hw (fun x4 x5 h6 hw => ?_)
        refine qx_aload_n (x := x4) X d_M_expression_84 rfl 0 rfl ?_
        obtain ⟨g7, hw⟩ := hw
        refine qx_callVV (st := []) (As := []) X (t_M_unit (adK := adK) (adV := adV) l D cy b N x4 h6 _ hw) qm_M_unit wm_M_311 wi_M_unit wl_M_unit qcls12 g7 rfl rfl rfl ⟨Nat.le_of_ble_eq_true rfl, Nat.le_of_ble_eq_true rfl⟩ ⟨Nat.le_refl 0, Nat.le_refl 0⟩ (Nat.le_of_ble_eq_true rfl) rfl d_M_expression_85 (fun h8 hw => ?_)
        refine qx_aload_n (x := x4) X d_M_expression_88 rfl 0 rfl ?_
        obtain ⟨g9, hw⟩ := hw
        refine qx_getI X qcls12 g9 13 (by decide) rfl wf_M_215 d_M_expression_89 ?_
        refine qx_if_le X 96 d_M_expression_92 (by decide) (fun q10 => ?_) (fun q10 => ?_)
        · have hw := hw.1 q10
          refine t_M_expression_96 X N N x4 x5 h8 Q _ hw (fun x11 x12 h13 hw => ?_)
          exact t_M_expression_145 X N x11 x12 h13 Q _ _ hw ih hK191
        · have hw := hw.2 q10
          exact qx_vret X hw (Nat.le_refl 0) (Nat.le_refl 0) rfl d_M_expression_95
set_option maxRecDepth 4000 in
theorem t_M_expression {adK adV : Nat → Nat} (l : Launch) (D : va_G) (cy : Nat → ClassId) (b : Nat) (N : Nat) (x0 : Nat) (h : qH) (Q : qH → Prop) (hw : w_M_expression N x0 h Q) : Met l y_M_expression (Cond.code y_M_expression prog_14_method_33_code 3 (none) :: qT) (qrm 3 0 0 61) (qPc D cy b adK adV h [qr b x0]) (qQc D cy b qrV (fun (_ : Unit) h => Q h)) 0 0 (qA b) := by
  refine qmet (L0 := [(0, .inr (.inr (.inl x0)))]) qm_M_expression (plainFor_of_name (by decide)) [.inr (.inr (.inl x0))] rfl (Nat.le_of_ble_eq_true rfl) rfl (fun p e s m args below meth c X => ?_)
  unfold w_M_expression at hw
  refine qx_aload_n (x := x0) X d_M_expression_0 rfl 0 rfl ?_
  refine qx_iconst (v := (0 : Int32)) X d_M_expression_1 (by decide) ?_
  obtain ⟨g1, hw⟩ := hw
  refine qx_putI X qcls12 g1 45 (by decide) rfl wf_M_305 rfl rfl rfl d_M_expression_2 ?_
  refine qx_toph (fun h2 eh2 => ?_)
  have hw := hw h2 eh2
  refine qx_aload_n (x := x0) X d_M_expression_5 rfl 0 rfl ?_
  obtain ⟨g3, hw⟩ := hw
  refine qx_getI X qcls12 g3 12 (by decide) rfl wf_M_242 d_M_expression_6 ?_
  refine qx_topi (fun y4 ey4 => ?_)
  have hw := hw y4 ey4
  refine qx_istore_n (L' := [(1, .inl y4), (0, .inr (.inr (.inl x0)))]) X d_M_expression_9 rfl (by decide) rfl ?_
  refine qx_iconst (v := (1 : Int32)) X d_M_expression_10 (by decide) ?_
  refine qx_istore_n (L' := [(2, .inl (1 : Int32)), (1, .inl y4), (0, .inr (.inr (.inl x0)))]) X d_M_expression_11 rfl (by decide) rfl ?_
  refine qx_sub [2, 1, 0] rfl ?_
  refine t_M_expression_12 X N N x0 y4 (1 : Int32) h2 Q _ hw (fun x5 x6 h7 hw => ?_)
  refine qx_aload_n (x := x5) X d_M_expression_191 rfl 0 rfl ?_
  obtain ⟨g8, hw⟩ := hw
  refine qx_getI X qcls12 g8 12 (by decide) rfl wf_M_242 d_M_expression_192 ?_
  refine qx_iload_n (x := x6) X d_M_expression_195 rfl 1 rfl ?_
  refine qx_icmp_le X 204 d_M_expression_196 (by decide) (fun q9 => ?_) (fun q9 => ?_)
  · have hw := hw.1 q9
    refine qx_aload_n (x := x5) X d_M_expression_204 rfl 0 rfl ?_
    refine qx_iconst (v := (0 : Int32)) X d_M_expression_205 (by decide) ?_
    refine qx_callVV (st := []) (As := [.int (0 : Int32)]) X (t_M_comesOut (adK := adK) (adV := adV) l D cy b N x5 (0 : Int32) h7 _ hw) qm_M_comesOut wm_M_314 wi_M_comesOut wl_M_comesOut qcls12 g8 rfl rfl rfl ⟨Nat.le_of_ble_eq_true rfl, Nat.le_of_ble_eq_true rfl⟩ ⟨Nat.le_refl 0, Nat.le_refl 0⟩ (Nat.le_of_ble_eq_true rfl) rfl d_M_expression_206 (fun h10 hw => ?_)
    exact qx_vret X hw (Nat.le_refl 0) (Nat.le_refl 0) rfl d_M_expression_209
  · have hw := hw.2 q9
    refine qx_aload_n (x := x5) X d_M_expression_199 rfl 0 rfl ?_
    refine qx_iconst (v := (1 : Int32)) X d_M_expression_200 (by decide) ?_
    refine qx_callVV (st := []) (As := [.int (1 : Int32)]) X (t_M_fail (adK := adK) (adV := adV) l D cy b N x5 (1 : Int32) h7 _ hw) qm_M_fail wm_M_230 wi_M_fail wl_M_fail qcls12 g8 rfl rfl rfl ⟨Nat.le_of_ble_eq_true rfl, Nat.le_of_ble_eq_true rfl⟩ ⟨Nat.le_refl 0, Nat.le_refl 0⟩ (Nat.le_of_ble_eq_true rfl) rfl d_M_expression_201 (fun h11 hw => ?_)
    refine qx_aload_n (x := x5) X d_M_expression_204 rfl 0 rfl ?_
    refine qx_iconst (v := (0 : Int32)) X d_M_expression_205 (by decide) ?_
    obtain ⟨g12, hw⟩ := hw
    refine qx_callVV (st := []) (As := [.int (0 : Int32)]) X (t_M_comesOut (adK := adK) (adV := adV) l D cy b N x5 (0 : Int32) h11 _ hw) qm_M_comesOut wm_M_314 wi_M_comesOut wl_M_comesOut qcls12 g12 rfl rfl rfl ⟨Nat.le_of_ble_eq_true rfl, Nat.le_of_ble_eq_true rfl⟩ ⟨Nat.le_refl 0, Nat.le_refl 0⟩ (Nat.le_of_ble_eq_true rfl) rfl d_M_expression_206 (fun h13 hw => ?_)
    exact qx_vret X hw (Nat.le_refl 0) (Nat.le_refl 0) rfl d_M_expression_209
set_option maxRecDepth 4000 in
theorem t_M_term_24 (X : qX p s m args meth c D cy b adK adV prog_14_method_30_code "CoatHangersModel" 1 (none) "term") (N : Nat) (x0 : Nat) (h : qH) (Q : qH → Prop)  (hw : w_M_term_24 N x0 h Q ) : qW p l e (qrm 4 0 0 83) s m args below meth c D cy b 1 0 0 (MQ below (qQc D cy b qrV (fun (_ : Unit) h => Q h)) args s 0 0 (qA b)) 24 [(0, .inr (.inr (.inl x0)))] [] h := by
  unfold w_M_term_24 at hw
  refine qx_aload_n (x := x0) X d_M_term_24 rfl 0 rfl ?_
  obtain ⟨g1, hw⟩ := hw
  refine qx_getR X qcls12 g1 40 (by decide) rfl wf_M_95 d_M_term_25 ?_
  refine qx_aload_n (x := x0) X d_M_term_28 rfl 0 rfl ?_
  refine qx_getI X qcls12 g1 35 (by decide) rfl wf_M_254 d_M_term_29 ?_
  refine qx_aload_n (x := x0) X d_M_term_32 rfl 0 rfl ?_
  refine qx_getI X qcls12 g1 41 (by decide) rfl wf_M_257 d_M_term_33 ?_
  obtain ⟨g2, hw⟩ := hw
  refine qx_ist X g2 d_M_term_36 ?_
  refine qx_toph (fun h3 eh3 => ?_)
  have hw := hw h3 eh3
  refine qx_aload_n (x := x0) X d_M_term_37 rfl 0 rfl ?_
  refine qx_dup X (qr_cat _ _) d_M_term_38 ?_
  obtain ⟨g4, hw⟩ := hw
  refine qx_getI X qcls12 g4 35 (by decide) rfl wf_M_254 d_M_term_39 ?_
  refine qx_iconst (v := (1 : Int32)) X d_M_term_42 (by decide) ?_
  refine qx_iadd X d_M_term_43 ?_
  refine qx_putI X qcls12 g4 35 (by decide) rfl wf_M_254 rfl rfl rfl d_M_term_44 ?_
  refine qx_toph (fun h5 eh5 => ?_)
  have hw := hw h5 eh5
  exact qx_vret X hw (Nat.le_refl 0) (Nat.le_refl 0) rfl d_M_term_47
set_option maxRecDepth 4000 in
theorem t_M_term {adK adV : Nat → Nat} (l : Launch) (D : va_G) (cy : Nat → ClassId) (b : Nat) (N : Nat) (x0 : Nat) (h : qH) (Q : qH → Prop) (hw : w_M_term N x0 h Q) : Met l y_M_term (Cond.code y_M_term prog_14_method_30_code 1 (none) :: qT) (qrm 4 0 0 83) (qPc D cy b adK adV h [qr b x0]) (qQc D cy b qrV (fun (_ : Unit) h => Q h)) 0 0 (qA b) := by
  refine qmet (L0 := [(0, .inr (.inr (.inl x0)))]) qm_M_term (plainFor_of_name (by decide)) [.inr (.inr (.inl x0))] rfl (Nat.le_of_ble_eq_true rfl) rfl (fun p e s m args below meth c X => ?_)
  unfold w_M_term at hw
  refine qx_aload_n (x := x0) X d_M_term_0 rfl 0 rfl ?_
  obtain ⟨g1, hw⟩ := hw
  refine qx_getR X qcls12 g1 39 (by decide) rfl wf_M_92 d_M_term_1 ?_
  refine qx_aload_n (x := x0) X d_M_term_4 rfl 0 rfl ?_
  refine qx_getI X qcls12 g1 35 (by decide) rfl wf_M_254 d_M_term_5 ?_
  refine qx_aload_n (x := x0) X d_M_term_8 rfl 0 rfl ?_
  refine qx_getI X qcls12 g1 41 (by decide) rfl wf_M_257 d_M_term_9 ?_
  obtain ⟨g2, hw⟩ := hw
  refine qx_ist X g2 d_M_term_12 ?_
  refine qx_toph (fun h3 eh3 => ?_)
  have hw := hw h3 eh3
  refine qx_aload_n (x := x0) X d_M_term_13 rfl 0 rfl ?_
  obtain ⟨g4, hw⟩ := hw
  refine qx_getI X qcls12 g4 13 (by decide) rfl wf_M_215 d_M_term_14 ?_
  refine qx_if_ne X 24 d_M_term_17 (by decide) (fun q5 => ?_) (fun q5 => ?_)
  · have hw := hw.1 q5
    exact t_M_term_24 X N x0 h3 Q  hw 
  · have hw := hw.2 q5
    refine qx_aload_n (x := x0) X d_M_term_20 rfl 0 rfl ?_
    refine qx_callVV (st := []) (As := []) X (t_M_expression (adK := adK) (adV := adV) l D cy b N x0 h3 _ hw) qm_M_expression wm_M_299 wi_M_expression wl_M_expression qcls12 g4 rfl rfl rfl ⟨Nat.le_of_ble_eq_true rfl, Nat.le_of_ble_eq_true rfl⟩ ⟨Nat.le_refl 0, Nat.le_refl 0⟩ (Nat.le_of_ble_eq_true rfl) rfl d_M_term_21 (fun h6 hw => ?_)
    exact t_M_term_24 X N x0 h6 Q  hw 
set_option maxRecDepth 4000 in
theorem t_M_tellLaw_38 (X : qX p s m args meth c D cy b adK adV prog_14_method_29_code "CoatHangersModel" 4 (none) "tellLaw") (N : Nat) (x0 : Nat) (x1 : Int32) (x2 : Int32) (x3 : Int32) (h : qH) (Q : qH → Prop) (K12 : Nat → Int32 → Int32 → Int32 → qH → Prop) (hw : w_M_tellLaw_38 N x0 x1 x2 x3 h Q K12) (hK12 : ∀ (x0 : Nat) (x1 : Int32) (x2 : Int32) (x3 : Int32) (h : qH), K12 x0 x1 x2 x3 h → qW p l e (qrm 5 0 0 103) s m args below meth c D cy b 4 0 0 (MQ below (qQc D cy b qrV (fun (_ : Unit) h => Q h)) args s 0 0 (qA b)) 12 [(0, .inr (.inr (.inl x0))), (1, .inl x1), (2, .inl x2), (3, .inl x3)] [] h) : qW p l e (qrm 5 0 0 103) s m args below meth c D cy b 4 0 0 (MQ below (qQc D cy b qrV (fun (_ : Unit) h => Q h)) args s 0 0 (qA b)) 38 [(0, .inr (.inr (.inl x0))), (1, .inl x1), (2, .inl x2), (3, .inl x3)] [] h := by
  unfold w_M_tellLaw_38 at hw
  refine qx_aload_n (x := x0) X d_M_tellLaw_38 rfl 0 rfl ?_
  obtain ⟨g1, hw⟩ := hw
  refine qx_getI X qcls12 g1 13 (by decide) rfl wf_M_215 d_M_tellLaw_39 ?_
  refine qx_if_le X 46 d_M_tellLaw_42 (by decide) (fun q2 => ?_) (fun q2 => ?_)
  · have hw := hw.1 q2
    refine qx_iinc (v := (x3 + (1 : Int32))) (L' := [(3, .inl (x3 + (1 : Int32))), (0, .inr (.inr (.inl x0))), (1, .inl x1), (2, .inl x2)]) X d_M_tellLaw_46 3 rfl rfl (by decide) rfl ?_
    refine qx_aload_n (x := x0) X d_M_tellLaw_49 rfl 1 rfl ?_
    refine qx_callVV (st := []) (As := []) X (t_M_goesOn (adK := adK) (adV := adV) l D cy b N x0 h _ hw) qm_M_goesOn wm_M_236 wi_M_goesOn wl_M_goesOn qcls12 g1 rfl rfl rfl ⟨Nat.le_of_ble_eq_true rfl, Nat.le_of_ble_eq_true rfl⟩ ⟨Nat.le_refl 0, Nat.le_refl 0⟩ (Nat.le_of_ble_eq_true rfl) rfl d_M_tellLaw_50 (fun h3 hw => ?_)
    refine qx_aload_n (x := x0) X d_M_tellLaw_53 rfl 1 rfl ?_
    obtain ⟨g4, hw⟩ := hw
    refine qx_getR X qcls12 g4 36 (by decide) rfl wf_M_82 d_M_tellLaw_54 ?_
    refine qx_aload_n (x := x0) X d_M_tellLaw_57 rfl 1 rfl ?_
    refine qx_getI X qcls12 g4 35 (by decide) rfl wf_M_254 d_M_tellLaw_58 ?_
    refine qx_iconst (v := (1 : Int32)) X d_M_tellLaw_61 (by decide) ?_
    obtain ⟨g5, hw⟩ := hw
    refine qx_zst X g5 d_M_tellLaw_62 ?_
    refine qx_toph (fun h6 eh6 => ?_)
    have hw := hw h6 eh6
    refine qx_aload_n (x := x0) X d_M_tellLaw_63 rfl 1 rfl ?_
    obtain ⟨g7, hw⟩ := hw
    refine qx_getR X qcls12 g7 37 (by decide) rfl wf_M_86 d_M_tellLaw_64 ?_
    refine qx_aload_n (x := x0) X d_M_tellLaw_67 rfl 1 rfl ?_
    refine qx_getI X qcls12 g7 35 (by decide) rfl wf_M_254 d_M_tellLaw_68 ?_
    refine qx_aload_n (x := x0) X d_M_tellLaw_71 rfl 1 rfl ?_
    refine qx_getI X qcls12 g7 41 (by decide) rfl wf_M_257 d_M_tellLaw_72 ?_
    obtain ⟨g8, hw⟩ := hw
    refine qx_ist X g8 d_M_tellLaw_75 ?_
    refine qx_toph (fun h9 eh9 => ?_)
    have hw := hw h9 eh9
    refine qx_aload_n (x := x0) X d_M_tellLaw_76 rfl 1 rfl ?_
    obtain ⟨g10, hw⟩ := hw
    refine qx_callVV (st := []) (As := []) X (t_M_expression (adK := adK) (adV := adV) l D cy b N x0 h9 _ hw) qm_M_expression wm_M_299 wi_M_expression wl_M_expression qcls12 g10 rfl rfl rfl ⟨Nat.le_of_ble_eq_true rfl, Nat.le_of_ble_eq_true rfl⟩ ⟨Nat.le_refl 0, Nat.le_refl 0⟩ (Nat.le_of_ble_eq_true rfl) rfl d_M_tellLaw_77 (fun h11 hw => ?_)
    refine qx_aload_n (x := x0) X d_M_tellLaw_80 rfl 1 rfl ?_
    refine qx_bipush (v := (13 : Int32)) X d_M_tellLaw_81 (by decide) ?_
    obtain ⟨g12, hw⟩ := hw
    refine qx_callVV (st := []) (As := [.int (13 : Int32)]) X (t_M_must (adK := adK) (adV := adV) l D cy b N x0 (13 : Int32) h11 _ hw) qm_M_must wm_M_287 wi_M_must wl_M_must qcls12 g12 rfl rfl rfl ⟨Nat.le_of_ble_eq_true rfl, Nat.le_of_ble_eq_true rfl⟩ ⟨Nat.le_refl 0, Nat.le_refl 0⟩ (Nat.le_of_ble_eq_true rfl) rfl d_M_tellLaw_83 (fun h13 hw => ?_)
    refine qx_aload_n (x := x0) X d_M_tellLaw_86 rfl 1 rfl ?_
    obtain ⟨g14, hw⟩ := hw
    refine qx_getR X qcls12 g14 38 (by decide) rfl wf_M_89 d_M_tellLaw_87 ?_
    refine qx_aload_n (x := x0) X d_M_tellLaw_90 rfl 1 rfl ?_
    refine qx_getI X qcls12 g14 35 (by decide) rfl wf_M_254 d_M_tellLaw_91 ?_
    refine qx_aload_n (x := x0) X d_M_tellLaw_94 rfl 1 rfl ?_
    refine qx_getI X qcls12 g14 41 (by decide) rfl wf_M_257 d_M_tellLaw_95 ?_
    obtain ⟨g15, hw⟩ := hw
    refine qx_ist X g15 d_M_tellLaw_98 ?_
    refine qx_toph (fun h16 eh16 => ?_)
    have hw := hw h16 eh16
    refine qx_aload_n (x := x0) X d_M_tellLaw_99 rfl 1 rfl ?_
    obtain ⟨g17, hw⟩ := hw
    refine qx_getI X qcls12 g17 13 (by decide) rfl wf_M_215 d_M_tellLaw_100 ?_
    refine qx_if_ne X 110 d_M_tellLaw_103 (by decide) (fun q18 => ?_) (fun q18 => ?_)
    · have hw := hw.1 q18
      refine qx_aload_n (x := x0) X d_M_tellLaw_110 rfl 1 rfl ?_
      refine qx_bipush (v := (30 : Int32)) X d_M_tellLaw_111 (by decide) ?_
      refine qx_callVV (st := []) (As := [.int (30 : Int32)]) X (t_M_must (adK := adK) (adV := adV) l D cy b N x0 (30 : Int32) h16 _ hw) qm_M_must wm_M_287 wi_M_must wl_M_must qcls12 g17 rfl rfl rfl ⟨Nat.le_of_ble_eq_true rfl, Nat.le_of_ble_eq_true rfl⟩ ⟨Nat.le_refl 0, Nat.le_refl 0⟩ (Nat.le_of_ble_eq_true rfl) rfl d_M_tellLaw_113 (fun h19 hw => ?_)
      refine qx_aload_n (x := x0) X d_M_tellLaw_116 rfl 1 rfl ?_
      obtain ⟨g20, hw⟩ := hw
      refine qx_callVV (st := []) (As := []) X (t_M_term (adK := adK) (adV := adV) l D cy b N x0 h19 _ hw) qm_M_term wm_M_302 wi_M_term wl_M_term qcls12 g20 rfl rfl rfl ⟨Nat.le_of_ble_eq_true rfl, Nat.le_of_ble_eq_true rfl⟩ ⟨Nat.le_refl 0, Nat.le_refl 0⟩ (Nat.le_of_ble_eq_true rfl) rfl d_M_tellLaw_117 (fun h21 hw => ?_)
      refine qx_aload_n (x := x0) X d_M_tellLaw_120 rfl 1 rfl ?_
      refine qx_bipush (v := (31 : Int32)) X d_M_tellLaw_121 (by decide) ?_
      obtain ⟨g22, hw⟩ := hw
      refine qx_callVV (st := []) (As := [.int (31 : Int32)]) X (t_M_must (adK := adK) (adV := adV) l D cy b N x0 (31 : Int32) h21 _ hw) qm_M_must wm_M_287 wi_M_must wl_M_must qcls12 g22 rfl rfl rfl ⟨Nat.le_of_ble_eq_true rfl, Nat.le_of_ble_eq_true rfl⟩ ⟨Nat.le_refl 0, Nat.le_refl 0⟩ (Nat.le_of_ble_eq_true rfl) rfl d_M_tellLaw_123 (fun h23 hw => ?_)
      refine qx_goto X 12 d_M_tellLaw_126 (by decide) ?_
      refine qx_sub [1, 2, 3, 0] rfl ?_
      exact hK12 x0 x1 x2 (x3 + (1 : Int32)) h23 hw
    · have hw := hw.2 q18
      refine qx_aload_n (x := x0) X d_M_tellLaw_106 rfl 1 rfl ?_
      refine qx_callVV (st := []) (As := []) X (t_M_expression (adK := adK) (adV := adV) l D cy b N x0 h16 _ hw) qm_M_expression wm_M_299 wi_M_expression wl_M_expression qcls12 g17 rfl rfl rfl ⟨Nat.le_of_ble_eq_true rfl, Nat.le_of_ble_eq_true rfl⟩ ⟨Nat.le_refl 0, Nat.le_refl 0⟩ (Nat.le_of_ble_eq_true rfl) rfl d_M_tellLaw_107 (fun h24 hw => ?_)
      refine qx_aload_n (x := x0) X d_M_tellLaw_110 rfl 1 rfl ?_
      refine qx_bipush (v := (30 : Int32)) X d_M_tellLaw_111 (by decide) ?_
      obtain ⟨g25, hw⟩ := hw
      refine qx_callVV (st := []) (As := [.int (30 : Int32)]) X (t_M_must (adK := adK) (adV := adV) l D cy b N x0 (30 : Int32) h24 _ hw) qm_M_must wm_M_287 wi_M_must wl_M_must qcls12 g25 rfl rfl rfl ⟨Nat.le_of_ble_eq_true rfl, Nat.le_of_ble_eq_true rfl⟩ ⟨Nat.le_refl 0, Nat.le_refl 0⟩ (Nat.le_of_ble_eq_true rfl) rfl d_M_tellLaw_113 (fun h26 hw => ?_)
      refine qx_aload_n (x := x0) X d_M_tellLaw_116 rfl 1 rfl ?_
      obtain ⟨g27, hw⟩ := hw
      refine qx_callVV (st := []) (As := []) X (t_M_term (adK := adK) (adV := adV) l D cy b N x0 h26 _ hw) qm_M_term wm_M_302 wi_M_term wl_M_term qcls12 g27 rfl rfl rfl ⟨Nat.le_of_ble_eq_true rfl, Nat.le_of_ble_eq_true rfl⟩ ⟨Nat.le_refl 0, Nat.le_refl 0⟩ (Nat.le_of_ble_eq_true rfl) rfl d_M_tellLaw_117 (fun h28 hw => ?_)
      refine qx_aload_n (x := x0) X d_M_tellLaw_120 rfl 1 rfl ?_
      refine qx_bipush (v := (31 : Int32)) X d_M_tellLaw_121 (by decide) ?_
      obtain ⟨g29, hw⟩ := hw
      refine qx_callVV (st := []) (As := [.int (31 : Int32)]) X (t_M_must (adK := adK) (adV := adV) l D cy b N x0 (31 : Int32) h28 _ hw) qm_M_must wm_M_287 wi_M_must wl_M_must qcls12 g29 rfl rfl rfl ⟨Nat.le_of_ble_eq_true rfl, Nat.le_of_ble_eq_true rfl⟩ ⟨Nat.le_refl 0, Nat.le_refl 0⟩ (Nat.le_of_ble_eq_true rfl) rfl d_M_tellLaw_123 (fun h30 hw => ?_)
      refine qx_goto X 12 d_M_tellLaw_126 (by decide) ?_
      refine qx_sub [1, 2, 3, 0] rfl ?_
      exact hK12 x0 x1 x2 (x3 + (1 : Int32)) h30 hw
  · have hw := hw.2 q2
    exact qx_vret X hw (Nat.le_refl 0) (Nat.le_refl 0) rfl d_M_tellLaw_45
set_option maxRecDepth 4000 in
theorem t_M_tellLaw_12 (X : qX p s m args meth c D cy b adK adV prog_14_method_29_code "CoatHangersModel" 4 (none) "tellLaw") (N k : Nat) (x0 : Nat) (x1 : Int32) (x2 : Int32) (x3 : Int32) (h : qH) (Q : qH → Prop) (K129 : Nat → Int32 → Int32 → qH → Prop) (hw : w_M_tellLaw_12 N k x0 x1 x2 x3 h Q K129) (hK129 : ∀ (x0 : Nat) (x1 : Int32) (x2 : Int32) (h : qH), K129 x0 x1 x2 h → qW p l e (qrm 5 0 0 103) s m args below meth c D cy b 4 0 0 (MQ below (qQc D cy b qrV (fun (_ : Unit) h => Q h)) args s 0 0 (qA b)) 129 [(0, .inr (.inr (.inl x0))), (1, .inl x1), (2, .inl x2)] [] h) : qW p l e (qrm 5 0 0 103) s m args below meth c D cy b 4 0 0 (MQ below (qQc D cy b qrV (fun (_ : Unit) h => Q h)) args s 0 0 (qA b)) 12 [(0, .inr (.inr (.inl x0))), (1, .inl x1), (2, .inl x2), (3, .inl x3)] [] h := by
  induction k generalizing x0 x1 x2 x3 h with
  | zero => exact hw.elim
  | succ k ih =>
    refine qx_aload_n (x := x0) X d_M_tellLaw_12 rfl 0 rfl ?_
    obtain ⟨g1, hw⟩ := hw
    refine qx_getI X qcls12 g1 13 (by decide) rfl wf_M_215 d_M_tellLaw_13 ?_
    refine qx_if_ne X 129 d_M_tellLaw_16 (by decide) (fun q2 => ?_) (fun q2 => ?_)
    · have hw := hw.1 q2
      refine qx_sub [0, 1, 2] rfl ?_
      exact hK129 x0 x1 x2 h hw
    · have hw := hw.2 q2
      refine qx_aload_n (x := x0) X d_M_tellLaw_19 rfl 0 rfl ?_
      refine qx_bipush (v := (29 : Int32)) X d_M_tellLaw_20 (by decide) ?_
      refine qx_callVI (st := []) (As := [.int (29 : Int32)]) X (t_M_is (adK := adK) (adV := adV) l D cy b N x0 (29 : Int32) h _ hw) qm_M_is wm_M_233 wi_M_is wl_M_is qcls12 g1 rfl rfl rfl ⟨Nat.le_of_ble_eq_true rfl, Nat.le_of_ble_eq_true rfl⟩ ⟨Nat.le_refl 0, Nat.le_refl 0⟩ (Nat.le_of_ble_eq_true rfl) rfl d_M_tellLaw_22 (fun r3 h4 hw => ?_)
      refine qx_if_eq X 129 d_M_tellLaw_25 (by decide) (fun q5 => ?_) (fun q5 => ?_)
      · have hw := hw.1 q5
        refine qx_sub [0, 1, 2] rfl ?_
        exact hK129 x0 x1 x2 h4 hw
      · have hw := hw.2 q5
        refine qx_iload_n (x := x3) X d_M_tellLaw_28 rfl 3 rfl ?_
        refine qx_iconst (v := (4 : Int32)) X d_M_tellLaw_29 (by decide) ?_
        refine qx_icmp_ne X 38 d_M_tellLaw_30 (by decide) (fun q6 => ?_) (fun q6 => ?_)
        · have hw := hw.1 q6
          exact t_M_tellLaw_38 X N x0 x1 x2 x3 h4 Q _ hw ih
        · have hw := hw.2 q6
          refine qx_aload_n (x := x0) X d_M_tellLaw_33 rfl 0 rfl ?_
          refine qx_iconst (v := (2 : Int32)) X d_M_tellLaw_34 (by decide) ?_
          obtain ⟨g7, hw⟩ := hw
          refine qx_callVV (st := []) (As := [.int (2 : Int32)]) X (t_M_fail (adK := adK) (adV := adV) l D cy b N x0 (2 : Int32) h4 _ hw) qm_M_fail wm_M_230 wi_M_fail wl_M_fail qcls12 g7 rfl rfl rfl ⟨Nat.le_of_ble_eq_true rfl, Nat.le_of_ble_eq_true rfl⟩ ⟨Nat.le_refl 0, Nat.le_refl 0⟩ (Nat.le_of_ble_eq_true rfl) rfl d_M_tellLaw_35 (fun h8 hw => ?_)
          exact t_M_tellLaw_38 X N x0 x1 x2 x3 h8 Q _ hw ih
set_option maxRecDepth 4000 in
theorem t_M_tellLaw_129 (X : qX p s m args meth c D cy b adK adV prog_14_method_29_code "CoatHangersModel" 4 (none) "tellLaw") (N : Nat) (x0 : Nat) (x1 : Int32) (x2 : Int32) (h : qH) (Q : qH → Prop)  (hw : w_M_tellLaw_129 N x0 x1 x2 h Q ) : qW p l e (qrm 5 0 0 103) s m args below meth c D cy b 4 0 0 (MQ below (qQc D cy b qrV (fun (_ : Unit) h => Q h)) args s 0 0 (qA b)) 129 [(0, .inr (.inr (.inl x0))), (1, .inl x1), (2, .inl x2)] [] h := by
  unfold w_M_tellLaw_129 at hw
  refine qx_aload_n (x := x0) X d_M_tellLaw_129 rfl 0 rfl ?_
  obtain ⟨g1, hw⟩ := hw
  refine qx_getR X qcls12 g1 36 (by decide) rfl wf_M_82 d_M_tellLaw_130 ?_
  refine qx_aload_n (x := x0) X d_M_tellLaw_133 rfl 0 rfl ?_
  refine qx_getI X qcls12 g1 35 (by decide) rfl wf_M_254 d_M_tellLaw_134 ?_
  refine qx_iconst (v := (0 : Int32)) X d_M_tellLaw_137 (by decide) ?_
  obtain ⟨g2, hw⟩ := hw
  refine qx_zst X g2 d_M_tellLaw_138 ?_
  refine qx_toph (fun h3 eh3 => ?_)
  have hw := hw h3 eh3
  refine qx_aload_n (x := x0) X d_M_tellLaw_139 rfl 0 rfl ?_
  obtain ⟨g4, hw⟩ := hw
  refine qx_callVV (st := []) (As := []) X (t_M_term (adK := adK) (adV := adV) l D cy b N x0 h3 _ hw) qm_M_term wm_M_302 wi_M_term wl_M_term qcls12 g4 rfl rfl rfl ⟨Nat.le_of_ble_eq_true rfl, Nat.le_of_ble_eq_true rfl⟩ ⟨Nat.le_refl 0, Nat.le_refl 0⟩ (Nat.le_of_ble_eq_true rfl) rfl d_M_tellLaw_140 (fun h5 hw => ?_)
  refine qx_aload_n (x := x0) X d_M_tellLaw_143 rfl 0 rfl ?_
  refine qx_iconst (v := (4 : Int32)) X d_M_tellLaw_144 (by decide) ?_
  obtain ⟨g6, hw⟩ := hw
  refine qx_callVV (st := []) (As := [.int (4 : Int32)]) X (t_M_must (adK := adK) (adV := adV) l D cy b N x0 (4 : Int32) h5 _ hw) qm_M_must wm_M_287 wi_M_must wl_M_must qcls12 g6 rfl rfl rfl ⟨Nat.le_of_ble_eq_true rfl, Nat.le_of_ble_eq_true rfl⟩ ⟨Nat.le_refl 0, Nat.le_refl 0⟩ (Nat.le_of_ble_eq_true rfl) rfl d_M_tellLaw_145 (fun h7 hw => ?_)
  refine qx_aload_n (x := x0) X d_M_tellLaw_148 rfl 0 rfl ?_
  obtain ⟨g8, hw⟩ := hw
  refine qx_getI X qcls12 g8 13 (by decide) rfl wf_M_215 d_M_tellLaw_149 ?_
  refine qx_if_le X 156 d_M_tellLaw_152 (by decide) (fun q9 => ?_) (fun q9 => ?_)
  · have hw := hw.1 q9
    refine qx_aload_n (x := x0) X d_M_tellLaw_156 rfl 0 rfl ?_
    refine qx_getR X qcls12 g8 33 (by decide) rfl wf_M_76 d_M_tellLaw_157 ?_
    refine qx_iconst (v := (4 : Int32)) X d_M_tellLaw_160 (by decide) ?_
    refine qx_aload_n (x := x0) X d_M_tellLaw_161 rfl 0 rfl ?_
    refine qx_getI X qcls12 g8 19 (by decide) rfl wf_M_248 d_M_tellLaw_162 ?_
    refine qx_imul X d_M_tellLaw_165 ?_
    refine qx_iload_n (x := x1) X d_M_tellLaw_166 rfl 1 rfl ?_
    refine qx_iadd X d_M_tellLaw_167 ?_
    refine qx_iload_n (x := x2) X d_M_tellLaw_168 rfl 2 rfl ?_
    obtain ⟨g10, hw⟩ := hw
    refine qx_ist X g10 d_M_tellLaw_169 ?_
    refine qx_toph (fun h11 eh11 => ?_)
    have hw := hw h11 eh11
    refine qx_aload_n (x := x0) X d_M_tellLaw_170 rfl 0 rfl ?_
    obtain ⟨g12, hw⟩ := hw
    refine qx_getR X qcls12 g12 34 (by decide) rfl wf_M_79 d_M_tellLaw_171 ?_
    refine qx_iconst (v := (4 : Int32)) X d_M_tellLaw_174 (by decide) ?_
    refine qx_aload_n (x := x0) X d_M_tellLaw_175 rfl 0 rfl ?_
    refine qx_getI X qcls12 g12 19 (by decide) rfl wf_M_248 d_M_tellLaw_176 ?_
    refine qx_imul X d_M_tellLaw_179 ?_
    refine qx_iload_n (x := x1) X d_M_tellLaw_180 rfl 1 rfl ?_
    refine qx_iadd X d_M_tellLaw_181 ?_
    refine qx_aload_n (x := x0) X d_M_tellLaw_182 rfl 0 rfl ?_
    refine qx_getI X qcls12 g12 35 (by decide) rfl wf_M_254 d_M_tellLaw_183 ?_
    obtain ⟨g13, hw⟩ := hw
    refine qx_ist X g13 d_M_tellLaw_186 ?_
    refine qx_toph (fun h14 eh14 => ?_)
    have hw := hw h14 eh14
    exact qx_vret X hw (Nat.le_refl 0) (Nat.le_refl 0) rfl d_M_tellLaw_187
  · have hw := hw.2 q9
    exact qx_vret X hw (Nat.le_refl 0) (Nat.le_refl 0) rfl d_M_tellLaw_155
set_option maxRecDepth 4000 in
theorem t_M_tellLaw {adK adV : Nat → Nat} (l : Launch) (D : va_G) (cy : Nat → ClassId) (b : Nat) (N : Nat) (x0 : Nat) (x1 : Int32) (h : qH) (Q : qH → Prop) (hw : w_M_tellLaw N x0 x1 h Q) : Met l y_M_tellLaw (Cond.code y_M_tellLaw prog_14_method_29_code 4 (none) :: qT) (qrm 5 0 0 103) (qPc D cy b adK adV h [qr b x0, .int x1]) (qQc D cy b qrV (fun (_ : Unit) h => Q h)) 0 0 (qA b) := by
  refine qmet (L0 := [(0, .inr (.inr (.inl x0))), (1, .inl x1)]) qm_M_tellLaw (plainFor_of_name (by decide)) [.inr (.inr (.inl x0)), .inl x1] rfl (Nat.le_of_ble_eq_true rfl) rfl (fun p e s m args below meth c X => ?_)
  unfold w_M_tellLaw at hw
  refine qx_aload_n (x := x0) X d_M_tellLaw_0 rfl 0 rfl ?_
  refine qx_iconst (v := (5 : Int32)) X d_M_tellLaw_1 (by decide) ?_
  obtain ⟨g1, hw⟩ := hw
  refine qx_callVV (st := []) (As := [.int (5 : Int32)]) X (t_M_must (adK := adK) (adV := adV) l D cy b N x0 (5 : Int32) h _ hw) qm_M_must wm_M_287 wi_M_must wl_M_must qcls12 g1 rfl rfl rfl ⟨Nat.le_of_ble_eq_true rfl, Nat.le_of_ble_eq_true rfl⟩ ⟨Nat.le_refl 0, Nat.le_refl 0⟩ (Nat.le_of_ble_eq_true rfl) rfl d_M_tellLaw_2 (fun h2 hw => ?_)
  refine qx_aload_n (x := x0) X d_M_tellLaw_5 rfl 0 rfl ?_
  obtain ⟨g3, hw⟩ := hw
  refine qx_getI X qcls12 g3 35 (by decide) rfl wf_M_254 d_M_tellLaw_6 ?_
  refine qx_topi (fun y4 ey4 => ?_)
  have hw := hw y4 ey4
  refine qx_istore_n (L' := [(2, .inl y4), (0, .inr (.inr (.inl x0))), (1, .inl x1)]) X d_M_tellLaw_9 rfl (by decide) rfl ?_
  refine qx_iconst (v := (0 : Int32)) X d_M_tellLaw_10 (by decide) ?_
  refine qx_istore_n (L' := [(3, .inl (0 : Int32)), (2, .inl y4), (0, .inr (.inr (.inl x0))), (1, .inl x1)]) X d_M_tellLaw_11 rfl (by decide) rfl ?_
  refine qx_sub [2, 3, 1, 0] rfl ?_
  refine t_M_tellLaw_12 X N N x0 x1 y4 (0 : Int32) h2 Q _ hw (fun x5 x6 x7 h8 hw => ?_)
  exact t_M_tellLaw_129 X N x5 x6 x7 h8 Q  hw 
set_option maxRecDepth 4000 in
theorem t_M_tellOne_397 (X : qX p s m args meth c D cy b adK adV prog_14_method_23_code "CoatHangersModel" 3 (none) "tellOne") (N : Nat) (x0 : Nat) (x1 : Int32) (h : qH) (Q : qH → Prop)  (hw : w_M_tellOne_397 N x0 x1 h Q ) : qW p l e (qrm 6 0 0 126) s m args below meth c D cy b 3 0 0 (MQ below (qQc D cy b qrV (fun (_ : Unit) h => Q h)) args s 0 0 (qA b)) 397 [(0, .inr (.inr (.inl x0))), (1, .inl x1)] [] h := by
  unfold w_M_tellOne_397 at hw
  refine qx_aload_n (x := x0) X d_M_tellOne_397 rfl 0 rfl ?_
  refine qx_iconst (v := (1 : Int32)) X d_M_tellOne_398 (by decide) ?_
  obtain ⟨g1, hw⟩ := hw
  refine qx_callVV (st := []) (As := [.int (1 : Int32)]) X (t_M_fail (adK := adK) (adV := adV) l D cy b N x0 (1 : Int32) h _ hw) qm_M_fail wm_M_230 wi_M_fail wl_M_fail qcls12 g1 rfl rfl rfl ⟨Nat.le_of_ble_eq_true rfl, Nat.le_of_ble_eq_true rfl⟩ ⟨Nat.le_refl 0, Nat.le_refl 0⟩ (Nat.le_of_ble_eq_true rfl) rfl d_M_tellOne_399 (fun h2 hw => ?_)
  refine qx_aload_n (x := x0) X d_M_tellOne_402 rfl 0 rfl ?_
  obtain ⟨g3, hw⟩ := hw
  refine qx_getI X qcls12 g3 13 (by decide) rfl wf_M_215 d_M_tellOne_403 ?_
  refine qx_if_le X 410 d_M_tellOne_406 (by decide) (fun q4 => ?_) (fun q4 => ?_)
  · have hw := hw.1 q4
    refine qx_aload_n (x := x0) X d_M_tellOne_410 rfl 0 rfl ?_
    refine qx_callVV (st := []) (As := []) X (t_M_goesOn (adK := adK) (adV := adV) l D cy b N x0 h2 _ hw) qm_M_goesOn wm_M_236 wi_M_goesOn wl_M_goesOn qcls12 g3 rfl rfl rfl ⟨Nat.le_of_ble_eq_true rfl, Nat.le_of_ble_eq_true rfl⟩ ⟨Nat.le_refl 0, Nat.le_refl 0⟩ (Nat.le_of_ble_eq_true rfl) rfl d_M_tellOne_411 (fun h5 hw => ?_)
    refine qx_aload_n (x := x0) X d_M_tellOne_414 rfl 0 rfl ?_
    refine qx_iload_n (x := x1) X d_M_tellOne_415 rfl 1 rfl ?_
    obtain ⟨g6, hw⟩ := hw
    refine qx_callVV (st := []) (As := [.int x1]) X (t_M_tellLaw (adK := adK) (adV := adV) l D cy b N x0 x1 h5 _ hw) qm_M_tellLaw wm_M_290 wi_M_tellLaw wl_M_tellLaw qcls12 g6 rfl rfl rfl ⟨Nat.le_of_ble_eq_true rfl, Nat.le_of_ble_eq_true rfl⟩ ⟨Nat.le_refl 0, Nat.le_refl 0⟩ (Nat.le_of_ble_eq_true rfl) rfl d_M_tellOne_416 (fun h7 hw => ?_)
    exact qx_vret X hw (Nat.le_refl 0) (Nat.le_refl 0) rfl d_M_tellOne_419
  · have hw := hw.2 q4
    exact qx_vret X hw (Nat.le_refl 0) (Nat.le_refl 0) rfl d_M_tellOne_409
set_option maxRecDepth 4000 in
theorem t_M_tellOne {adK adV : Nat → Nat} (l : Launch) (D : va_G) (cy : Nat → ClassId) (b : Nat) (N : Nat) (x0 : Nat) (h : qH) (Q : qH → Prop) (hw : w_M_tellOne N x0 h Q) : Met l y_M_tellOne (Cond.code y_M_tellOne prog_14_method_23_code 3 (none) :: qT) (qrm 6 0 0 126) (qPc D cy b adK adV h [qr b x0]) (qQc D cy b qrV (fun (_ : Unit) h => Q h)) 0 0 (qA b) := by
  refine qmet (L0 := [(0, .inr (.inr (.inl x0)))]) qm_M_tellOne (plainFor_of_name (by decide)) [.inr (.inr (.inl x0))] rfl (Nat.le_of_ble_eq_true rfl) rfl (fun p e s m args below meth c X => ?_)
  unfold w_M_tellOne at hw
  refine qx_aload_n (x := x0) X d_M_tellOne_0 rfl 0 rfl ?_
  obtain ⟨g1, hw⟩ := hw
  refine qx_getR X qcls12 g1 5 (by decide) rfl wf_M_20 d_M_tellOne_1 ?_
  refine qx_aload_n (x := x0) X d_M_tellOne_4 rfl 0 rfl ?_
  refine qx_getI X qcls12 g1 11 (by decide) rfl wf_M_218 d_M_tellOne_5 ?_
  obtain ⟨g2, hw⟩ := hw
  refine qx_ild X g2 d_M_tellOne_8 ?_
  refine qx_topi (fun y3 ey3 => ?_)
  have hw := hw y3 ey3
  by_cases q4 : y3 = (20 : Int32)
  · have hw := hw.1 q4
    refine qx_tableIn (off := (51)) X 60 d_M_tellOne_9 (by rw [q4]; decide) (by rw [q4]; decide) (by rw [q4]; rfl) (by decide) ?_
    refine qx_aload_n (x := x0) X d_M_tellOne_60 rfl 0 rfl ?_
    refine qx_aload_n (x := x0) X d_M_tellOne_61 rfl 0 rfl ?_
    refine qx_getR X qcls12 g1 23 (by decide) rfl wf_M_46 d_M_tellOne_62 ?_
    refine qx_aload_n (x := x0) X d_M_tellOne_65 rfl 0 rfl ?_
    refine qx_getI X qcls12 g1 19 (by decide) rfl wf_M_248 d_M_tellOne_66 ?_
    obtain ⟨g5, hw⟩ := hw
    refine qx_ild X g5 d_M_tellOne_69 ?_
    refine qx_bipush (v := (7 : Int32)) X d_M_tellOne_70 (by decide) ?_
    refine qx_callVV (st := []) (As := [.int (qI h (qR h x0 23) ((qI h x0 19)).toNatClampNeg), .int (7 : Int32)]) X (t_M_roomFor (adK := adK) (adV := adV) l D cy b N x0 (qI h (qR h x0 23) ((qI h x0 19)).toNatClampNeg) (7 : Int32) h _ hw) qm_M_roomFor wm_M_269 wi_M_roomFor wl_M_roomFor qcls12 g1 rfl rfl rfl ⟨Nat.le_of_ble_eq_true rfl, Nat.le_of_ble_eq_true rfl⟩ ⟨Nat.le_refl 0, Nat.le_refl 0⟩ (Nat.le_of_ble_eq_true rfl) rfl d_M_tellOne_72 (fun h6 hw => ?_)
    refine qx_aload_n (x := x0) X d_M_tellOne_75 rfl 0 rfl ?_
    obtain ⟨g7, hw⟩ := hw
    refine qx_getI X qcls12 g7 13 (by decide) rfl wf_M_215 d_M_tellOne_76 ?_
    refine qx_if_le X 83 d_M_tellOne_79 (by decide) (fun q8 => ?_) (fun q8 => ?_)
    · have hw := hw.1 q8
      refine qx_bipush (v := (7 : Int32)) X d_M_tellOne_83 (by decide) ?_
      refine qx_aload_n (x := x0) X d_M_tellOne_85 rfl 0 rfl ?_
      refine qx_getI X qcls12 g7 19 (by decide) rfl wf_M_248 d_M_tellOne_86 ?_
      refine qx_imul X d_M_tellOne_89 ?_
      refine qx_aload_n (x := x0) X d_M_tellOne_90 rfl 0 rfl ?_
      refine qx_getR X qcls12 g7 23 (by decide) rfl wf_M_46 d_M_tellOne_91 ?_
      refine qx_aload_n (x := x0) X d_M_tellOne_94 rfl 0 rfl ?_
      refine qx_getI X qcls12 g7 19 (by decide) rfl wf_M_248 d_M_tellOne_95 ?_
      obtain ⟨g9, hw⟩ := hw
      refine qx_ild X g9 d_M_tellOne_98 ?_
      refine qx_iadd X d_M_tellOne_99 ?_
      refine qx_topi (fun y10 ey10 => ?_)
      have hw := hw y10 ey10
      refine qx_istore_n (L' := [(1, .inl y10), (0, .inr (.inr (.inl x0)))]) X d_M_tellOne_100 rfl (by decide) rfl ?_
      refine qx_aload_n (x := x0) X d_M_tellOne_101 rfl 1 rfl ?_
      refine qx_callVI (st := []) (As := []) X (t_M_named (adK := adK) (adV := adV) l D cy b N x0 h6 _ hw) qm_M_named wm_M_273 wi_M_named wl_M_named qcls12 g7 rfl rfl rfl ⟨Nat.le_of_ble_eq_true rfl, Nat.le_of_ble_eq_true rfl⟩ ⟨Nat.le_refl 0, Nat.le_refl 0⟩ (Nat.le_of_ble_eq_true rfl) rfl d_M_tellOne_102 (fun r11 h12 hw => ?_)
      refine qx_istore_n (L' := [(2, .inl r11), (1, .inl y10), (0, .inr (.inr (.inl x0)))]) X d_M_tellOne_105 rfl (by decide) rfl ?_
      refine qx_aload_n (x := x0) X d_M_tellOne_106 rfl 2 rfl ?_
      obtain ⟨g13, hw⟩ := hw
      refine qx_getR X qcls12 g13 24 (by decide) rfl wf_M_49 d_M_tellOne_107 ?_
      refine qx_iload_n (x := y10) X d_M_tellOne_110 rfl 1 rfl ?_
      refine qx_aload_n (x := x0) X d_M_tellOne_111 rfl 2 rfl ?_
      refine qx_iconst (v := (0 : Int32)) X d_M_tellOne_112 (by decide) ?_
      refine qx_iconst (v := (4 : Int32)) X d_M_tellOne_113 (by decide) ?_
      refine qx_callVI (st := [.int y10, qr b (qR h12 x0 24)]) (As := [.int (0 : Int32), .int (4 : Int32)]) X (t_M_bounded (adK := adK) (adV := adV) l D cy b N x0 (0 : Int32) (4 : Int32) h12 _ hw) qm_M_bounded wm_M_277 wi_M_bounded wl_M_bounded qcls12 g13 rfl rfl rfl ⟨Nat.le_of_ble_eq_true rfl, Nat.le_of_ble_eq_true rfl⟩ ⟨Nat.le_refl 0, Nat.le_refl 0⟩ (Nat.le_of_ble_eq_true rfl) rfl d_M_tellOne_114 (fun r14 h15 hw => ?_)
      obtain ⟨g16, hw⟩ := hw
      refine qx_ist X g16 d_M_tellOne_117 ?_
      refine qx_toph (fun h17 eh17 => ?_)
      have hw := hw h17 eh17
      refine qx_aload_n (x := x0) X d_M_tellOne_118 rfl 2 rfl ?_
      obtain ⟨g18, hw⟩ := hw
      refine qx_getR X qcls12 g18 25 (by decide) rfl wf_M_52 d_M_tellOne_119 ?_
      refine qx_iload_n (x := y10) X d_M_tellOne_122 rfl 1 rfl ?_
      refine qx_aload_n (x := x0) X d_M_tellOne_123 rfl 2 rfl ?_
      refine qx_iconst (v := (0 : Int32)) X d_M_tellOne_124 (by decide) ?_
      refine qx_bipush (v := (99 : Int32)) X d_M_tellOne_125 (by decide) ?_
      refine qx_callVI (st := [.int y10, qr b (qR h17 x0 25)]) (As := [.int (0 : Int32), .int (99 : Int32)]) X (t_M_bounded (adK := adK) (adV := adV) l D cy b N x0 (0 : Int32) (99 : Int32) h17 _ hw) qm_M_bounded wm_M_277 wi_M_bounded wl_M_bounded qcls12 g18 rfl rfl rfl ⟨Nat.le_of_ble_eq_true rfl, Nat.le_of_ble_eq_true rfl⟩ ⟨Nat.le_refl 0, Nat.le_refl 0⟩ (Nat.le_of_ble_eq_true rfl) rfl d_M_tellOne_127 (fun r19 h20 hw => ?_)
      obtain ⟨g21, hw⟩ := hw
      refine qx_ist X g21 d_M_tellOne_130 ?_
      refine qx_toph (fun h22 eh22 => ?_)
      have hw := hw h22 eh22
      refine qx_aload_n (x := x0) X d_M_tellOne_131 rfl 2 rfl ?_
      refine qx_iload_n (x := r11) X d_M_tellOne_132 rfl 0 rfl ?_
      refine qx_aload_n (x := x0) X d_M_tellOne_133 rfl 2 rfl ?_
      obtain ⟨g23, hw⟩ := hw
      refine qx_getR X qcls12 g23 23 (by decide) rfl wf_M_46 d_M_tellOne_134 ?_
      refine qx_aload_n (x := x0) X d_M_tellOne_137 rfl 2 rfl ?_
      refine qx_getI X qcls12 g23 19 (by decide) rfl wf_M_248 d_M_tellOne_138 ?_
      obtain ⟨g24, hw⟩ := hw
      refine qx_ild X g24 d_M_tellOne_141 ?_
      refine qx_callVV (st := []) (As := [.int r11, .int (qI h22 (qR h22 x0 23) ((qI h22 x0 19)).toNatClampNeg)]) X (t_M_endsName (adK := adK) (adV := adV) l D cy b N x0 r11 (qI h22 (qR h22 x0 23) ((qI h22 x0 19)).toNatClampNeg) h22 _ hw) qm_M_endsName wm_M_281 wi_M_endsName wl_M_endsName qcls12 g23 rfl rfl rfl ⟨Nat.le_of_ble_eq_true rfl, Nat.le_of_ble_eq_true rfl⟩ ⟨Nat.le_refl 0, Nat.le_refl 0⟩ (Nat.le_of_ble_eq_true rfl) rfl d_M_tellOne_142 (fun h25 hw => ?_)
      refine qx_aload_n (x := x0) X d_M_tellOne_145 rfl 2 rfl ?_
      obtain ⟨g26, hw⟩ := hw
      refine qx_getI X qcls12 g26 13 (by decide) rfl wf_M_215 d_M_tellOne_146 ?_
      refine qx_if_ne X 419 d_M_tellOne_149 (by decide) (fun q27 => ?_) (fun q27 => ?_)
      · have hw := hw.1 q27
        exact qx_vret X hw (Nat.le_refl 0) (Nat.le_refl 0) rfl d_M_tellOne_419
      · have hw := hw.2 q27
        refine qx_aload_n (x := x0) X d_M_tellOne_152 rfl 2 rfl ?_
        refine qx_getR X qcls12 g26 23 (by decide) rfl wf_M_46 d_M_tellOne_153 ?_
        refine qx_aload_n (x := x0) X d_M_tellOne_156 rfl 2 rfl ?_
        refine qx_getI X qcls12 g26 19 (by decide) rfl wf_M_248 d_M_tellOne_157 ?_
        refine qx_dup2 X rfl (qr_cat _ _) d_M_tellOne_160 ?_
        obtain ⟨g28, hw⟩ := hw
        refine qx_ild X g28 d_M_tellOne_161 ?_
        refine qx_iconst (v := (1 : Int32)) X d_M_tellOne_162 (by decide) ?_
        refine qx_iadd X d_M_tellOne_163 ?_
        refine qx_ist X g28 d_M_tellOne_164 ?_
        refine qx_toph (fun h29 eh29 => ?_)
        have hw := hw h29 eh29
        refine qx_goto X 419 d_M_tellOne_165 (by decide) ?_
        exact qx_vret X hw (Nat.le_refl 0) (Nat.le_refl 0) rfl d_M_tellOne_419
    · have hw := hw.2 q8
      exact qx_vret X hw (Nat.le_refl 0) (Nat.le_refl 0) rfl d_M_tellOne_82
  · have hw := hw.2 q4
    by_cases q30 : y3 = (21 : Int32)
    · have hw := hw.1 q30
      refine qx_tableIn (off := (159)) X 168 d_M_tellOne_9 (by rw [q30]; decide) (by rw [q30]; decide) (by rw [q30]; rfl) (by decide) ?_
      refine qx_aload_n (x := x0) X d_M_tellOne_168 rfl 0 rfl ?_
      refine qx_aload_n (x := x0) X d_M_tellOne_169 rfl 0 rfl ?_
      refine qx_getR X qcls12 g1 26 (by decide) rfl wf_M_55 d_M_tellOne_170 ?_
      refine qx_aload_n (x := x0) X d_M_tellOne_173 rfl 0 rfl ?_
      refine qx_getI X qcls12 g1 19 (by decide) rfl wf_M_248 d_M_tellOne_174 ?_
      obtain ⟨g31, hw⟩ := hw
      refine qx_ild X g31 d_M_tellOne_177 ?_
      refine qx_bipush (v := (6 : Int32)) X d_M_tellOne_178 (by decide) ?_
      refine qx_callVV (st := []) (As := [.int (qI h (qR h x0 26) ((qI h x0 19)).toNatClampNeg), .int (6 : Int32)]) X (t_M_roomFor (adK := adK) (adV := adV) l D cy b N x0 (qI h (qR h x0 26) ((qI h x0 19)).toNatClampNeg) (6 : Int32) h _ hw) qm_M_roomFor wm_M_269 wi_M_roomFor wl_M_roomFor qcls12 g1 rfl rfl rfl ⟨Nat.le_of_ble_eq_true rfl, Nat.le_of_ble_eq_true rfl⟩ ⟨Nat.le_refl 0, Nat.le_refl 0⟩ (Nat.le_of_ble_eq_true rfl) rfl d_M_tellOne_180 (fun h32 hw => ?_)
      refine qx_aload_n (x := x0) X d_M_tellOne_183 rfl 0 rfl ?_
      obtain ⟨g33, hw⟩ := hw
      refine qx_getI X qcls12 g33 13 (by decide) rfl wf_M_215 d_M_tellOne_184 ?_
      refine qx_if_le X 191 d_M_tellOne_187 (by decide) (fun q34 => ?_) (fun q34 => ?_)
      · have hw := hw.1 q34
        refine qx_bipush (v := (6 : Int32)) X d_M_tellOne_191 (by decide) ?_
        refine qx_aload_n (x := x0) X d_M_tellOne_193 rfl 0 rfl ?_
        refine qx_getI X qcls12 g33 19 (by decide) rfl wf_M_248 d_M_tellOne_194 ?_
        refine qx_imul X d_M_tellOne_197 ?_
        refine qx_aload_n (x := x0) X d_M_tellOne_198 rfl 0 rfl ?_
        refine qx_getR X qcls12 g33 26 (by decide) rfl wf_M_55 d_M_tellOne_199 ?_
        refine qx_aload_n (x := x0) X d_M_tellOne_202 rfl 0 rfl ?_
        refine qx_getI X qcls12 g33 19 (by decide) rfl wf_M_248 d_M_tellOne_203 ?_
        obtain ⟨g35, hw⟩ := hw
        refine qx_ild X g35 d_M_tellOne_206 ?_
        refine qx_iadd X d_M_tellOne_207 ?_
        refine qx_topi (fun y36 ey36 => ?_)
        have hw := hw y36 ey36
        refine qx_istore_n (L' := [(1, .inl y36), (0, .inr (.inr (.inl x0)))]) X d_M_tellOne_208 rfl (by decide) rfl ?_
        refine qx_aload_n (x := x0) X d_M_tellOne_209 rfl 1 rfl ?_
        refine qx_callVI (st := []) (As := []) X (t_M_named (adK := adK) (adV := adV) l D cy b N x0 h32 _ hw) qm_M_named wm_M_273 wi_M_named wl_M_named qcls12 g33 rfl rfl rfl ⟨Nat.le_of_ble_eq_true rfl, Nat.le_of_ble_eq_true rfl⟩ ⟨Nat.le_refl 0, Nat.le_refl 0⟩ (Nat.le_of_ble_eq_true rfl) rfl d_M_tellOne_210 (fun r37 h38 hw => ?_)
        refine qx_istore_n (L' := [(2, .inl r37), (1, .inl y36), (0, .inr (.inr (.inl x0)))]) X d_M_tellOne_213 rfl (by decide) rfl ?_
        refine qx_aload_n (x := x0) X d_M_tellOne_214 rfl 2 rfl ?_
        obtain ⟨g39, hw⟩ := hw
        refine qx_getR X qcls12 g39 27 (by decide) rfl wf_M_58 d_M_tellOne_215 ?_
        refine qx_iload_n (x := y36) X d_M_tellOne_218 rfl 1 rfl ?_
        refine qx_aload_n (x := x0) X d_M_tellOne_219 rfl 2 rfl ?_
        refine qx_iconst (v := (0 : Int32)) X d_M_tellOne_220 (by decide) ?_
        refine qx_bipush (v := (99 : Int32)) X d_M_tellOne_221 (by decide) ?_
        refine qx_callVI (st := [.int y36, qr b (qR h38 x0 27)]) (As := [.int (0 : Int32), .int (99 : Int32)]) X (t_M_bounded (adK := adK) (adV := adV) l D cy b N x0 (0 : Int32) (99 : Int32) h38 _ hw) qm_M_bounded wm_M_277 wi_M_bounded wl_M_bounded qcls12 g39 rfl rfl rfl ⟨Nat.le_of_ble_eq_true rfl, Nat.le_of_ble_eq_true rfl⟩ ⟨Nat.le_refl 0, Nat.le_refl 0⟩ (Nat.le_of_ble_eq_true rfl) rfl d_M_tellOne_223 (fun r40 h41 hw => ?_)
        obtain ⟨g42, hw⟩ := hw
        refine qx_ist X g42 d_M_tellOne_226 ?_
        refine qx_toph (fun h43 eh43 => ?_)
        have hw := hw h43 eh43
        refine qx_aload_n (x := x0) X d_M_tellOne_227 rfl 2 rfl ?_
        obtain ⟨g44, hw⟩ := hw
        refine qx_getR X qcls12 g44 28 (by decide) rfl wf_M_61 d_M_tellOne_228 ?_
        refine qx_iload_n (x := y36) X d_M_tellOne_231 rfl 1 rfl ?_
        refine qx_aload_n (x := x0) X d_M_tellOne_232 rfl 2 rfl ?_
        refine qx_iconst (v := (0 : Int32)) X d_M_tellOne_233 (by decide) ?_
        refine qx_bipush (v := (9 : Int32)) X d_M_tellOne_234 (by decide) ?_
        refine qx_callVI (st := [.int y36, qr b (qR h43 x0 28)]) (As := [.int (0 : Int32), .int (9 : Int32)]) X (t_M_bounded (adK := adK) (adV := adV) l D cy b N x0 (0 : Int32) (9 : Int32) h43 _ hw) qm_M_bounded wm_M_277 wi_M_bounded wl_M_bounded qcls12 g44 rfl rfl rfl ⟨Nat.le_of_ble_eq_true rfl, Nat.le_of_ble_eq_true rfl⟩ ⟨Nat.le_refl 0, Nat.le_refl 0⟩ (Nat.le_of_ble_eq_true rfl) rfl d_M_tellOne_236 (fun r45 h46 hw => ?_)
        obtain ⟨g47, hw⟩ := hw
        refine qx_ist X g47 d_M_tellOne_239 ?_
        refine qx_toph (fun h48 eh48 => ?_)
        have hw := hw h48 eh48
        refine qx_aload_n (x := x0) X d_M_tellOne_240 rfl 2 rfl ?_
        refine qx_iload_n (x := r37) X d_M_tellOne_241 rfl 0 rfl ?_
        refine qx_bipush (v := (10 : Int32)) X d_M_tellOne_242 (by decide) ?_
        refine qx_aload_n (x := x0) X d_M_tellOne_244 rfl 2 rfl ?_
        obtain ⟨g49, hw⟩ := hw
        refine qx_getR X qcls12 g49 26 (by decide) rfl wf_M_55 d_M_tellOne_245 ?_
        refine qx_aload_n (x := x0) X d_M_tellOne_248 rfl 2 rfl ?_
        refine qx_getI X qcls12 g49 19 (by decide) rfl wf_M_248 d_M_tellOne_249 ?_
        obtain ⟨g50, hw⟩ := hw
        refine qx_ild X g50 d_M_tellOne_252 ?_
        refine qx_iadd X d_M_tellOne_253 ?_
        refine qx_callVV (st := []) (As := [.int r37, .int ((10 : Int32) + (qI h48 (qR h48 x0 26) ((qI h48 x0 19)).toNatClampNeg))]) X (t_M_endsName (adK := adK) (adV := adV) l D cy b N x0 r37 ((10 : Int32) + (qI h48 (qR h48 x0 26) ((qI h48 x0 19)).toNatClampNeg)) h48 _ hw) qm_M_endsName wm_M_281 wi_M_endsName wl_M_endsName qcls12 g49 rfl rfl rfl ⟨Nat.le_of_ble_eq_true rfl, Nat.le_of_ble_eq_true rfl⟩ ⟨Nat.le_refl 0, Nat.le_refl 0⟩ (Nat.le_of_ble_eq_true rfl) rfl d_M_tellOne_254 (fun h51 hw => ?_)
        refine qx_aload_n (x := x0) X d_M_tellOne_257 rfl 2 rfl ?_
        obtain ⟨g52, hw⟩ := hw
        refine qx_getI X qcls12 g52 13 (by decide) rfl wf_M_215 d_M_tellOne_258 ?_
        refine qx_if_ne X 419 d_M_tellOne_261 (by decide) (fun q53 => ?_) (fun q53 => ?_)
        · have hw := hw.1 q53
          exact qx_vret X hw (Nat.le_refl 0) (Nat.le_refl 0) rfl d_M_tellOne_419
        · have hw := hw.2 q53
          refine qx_aload_n (x := x0) X d_M_tellOne_264 rfl 2 rfl ?_
          refine qx_getR X qcls12 g52 26 (by decide) rfl wf_M_55 d_M_tellOne_265 ?_
          refine qx_aload_n (x := x0) X d_M_tellOne_268 rfl 2 rfl ?_
          refine qx_getI X qcls12 g52 19 (by decide) rfl wf_M_248 d_M_tellOne_269 ?_
          refine qx_dup2 X rfl (qr_cat _ _) d_M_tellOne_272 ?_
          obtain ⟨g54, hw⟩ := hw
          refine qx_ild X g54 d_M_tellOne_273 ?_
          refine qx_iconst (v := (1 : Int32)) X d_M_tellOne_274 (by decide) ?_
          refine qx_iadd X d_M_tellOne_275 ?_
          refine qx_ist X g54 d_M_tellOne_276 ?_
          refine qx_toph (fun h55 eh55 => ?_)
          have hw := hw h55 eh55
          refine qx_goto X 419 d_M_tellOne_277 (by decide) ?_
          exact qx_vret X hw (Nat.le_refl 0) (Nat.le_refl 0) rfl d_M_tellOne_419
      · have hw := hw.2 q34
        exact qx_vret X hw (Nat.le_refl 0) (Nat.le_refl 0) rfl d_M_tellOne_190
    · have hw := hw.2 q30
      by_cases q56 : y3 = (22 : Int32)
      · have hw := hw.1 q56
        refine qx_tableIn (off := (271)) X 280 d_M_tellOne_9 (by rw [q56]; decide) (by rw [q56]; decide) (by rw [q56]; rfl) (by decide) ?_
        refine qx_aload_n (x := x0) X d_M_tellOne_280 rfl 0 rfl ?_
        refine qx_aload_n (x := x0) X d_M_tellOne_281 rfl 0 rfl ?_
        refine qx_getR X qcls12 g1 30 (by decide) rfl wf_M_67 d_M_tellOne_282 ?_
        refine qx_aload_n (x := x0) X d_M_tellOne_285 rfl 0 rfl ?_
        refine qx_getI X qcls12 g1 19 (by decide) rfl wf_M_248 d_M_tellOne_286 ?_
        obtain ⟨g57, hw⟩ := hw
        refine qx_ild X g57 d_M_tellOne_289 ?_
        refine qx_bipush (v := (6 : Int32)) X d_M_tellOne_290 (by decide) ?_
        refine qx_callVV (st := []) (As := [.int (qI h (qR h x0 30) ((qI h x0 19)).toNatClampNeg), .int (6 : Int32)]) X (t_M_roomFor (adK := adK) (adV := adV) l D cy b N x0 (qI h (qR h x0 30) ((qI h x0 19)).toNatClampNeg) (6 : Int32) h _ hw) qm_M_roomFor wm_M_269 wi_M_roomFor wl_M_roomFor qcls12 g1 rfl rfl rfl ⟨Nat.le_of_ble_eq_true rfl, Nat.le_of_ble_eq_true rfl⟩ ⟨Nat.le_refl 0, Nat.le_refl 0⟩ (Nat.le_of_ble_eq_true rfl) rfl d_M_tellOne_292 (fun h58 hw => ?_)
        refine qx_aload_n (x := x0) X d_M_tellOne_295 rfl 0 rfl ?_
        obtain ⟨g59, hw⟩ := hw
        refine qx_getI X qcls12 g59 13 (by decide) rfl wf_M_215 d_M_tellOne_296 ?_
        refine qx_if_ne X 419 d_M_tellOne_299 (by decide) (fun q60 => ?_) (fun q60 => ?_)
        · have hw := hw.1 q60
          exact qx_vret X hw (Nat.le_refl 0) (Nat.le_refl 0) rfl d_M_tellOne_419
        · have hw := hw.2 q60
          refine qx_aload_n (x := x0) X d_M_tellOne_302 rfl 0 rfl ?_
          refine qx_callVV (st := []) (As := []) X (t_M_tellHangs (adK := adK) (adV := adV) l D cy b N x0 h58 _ hw) qm_M_tellHangs wm_M_284 wi_M_tellHangs wl_M_tellHangs qcls12 g59 rfl rfl rfl ⟨Nat.le_of_ble_eq_true rfl, Nat.le_of_ble_eq_true rfl⟩ ⟨Nat.le_refl 0, Nat.le_refl 0⟩ (Nat.le_of_ble_eq_true rfl) rfl d_M_tellOne_303 (fun h61 hw => ?_)
          refine qx_goto X 419 d_M_tellOne_306 (by decide) ?_
          exact qx_vret X hw (Nat.le_refl 0) (Nat.le_refl 0) rfl d_M_tellOne_419
      · have hw := hw.2 q56
        by_cases q62 : y3 = (23 : Int32)
        · have hw := hw.1 q62
          refine qx_tableIn (off := (357)) X 366 d_M_tellOne_9 (by rw [q62]; decide) (by rw [q62]; decide) (by rw [q62]; rfl) (by decide) ?_
          refine qx_aload_n (x := x0) X d_M_tellOne_366 rfl 0 rfl ?_
          refine qx_getR X qcls12 g1 5 (by decide) rfl wf_M_20 d_M_tellOne_367 ?_
          refine qx_aload_n (x := x0) X d_M_tellOne_370 rfl 0 rfl ?_
          refine qx_getI X qcls12 g1 11 (by decide) rfl wf_M_218 d_M_tellOne_371 ?_
          refine qx_ild X g2 d_M_tellOne_374 ?_
          refine qx_bipush (v := (23 : Int32)) X d_M_tellOne_375 (by decide) ?_
          refine qx_isub X d_M_tellOne_377 ?_
          refine qx_topi (fun y63 ey63 => ?_)
          have hw := hw y63 ey63
          refine qx_istore_n (L' := [(1, .inl y63), (0, .inr (.inr (.inl x0)))]) X d_M_tellOne_378 rfl (by decide) rfl ?_
          refine qx_iload_n (x := y63) X d_M_tellOne_379 rfl 0 rfl ?_
          refine qx_if_lt X 397 d_M_tellOne_380 (by decide) (fun q64 => ?_) (fun q64 => ?_)
          · have hw := hw.1 q64
            refine qx_sub [1, 0] rfl ?_
            exact t_M_tellOne_397 X N x0 y63 h Q  hw 
          · have hw := hw.2 q64
            refine qx_aload_n (x := x0) X d_M_tellOne_383 rfl 1 rfl ?_
            refine qx_getR X qcls12 g1 5 (by decide) rfl wf_M_20 d_M_tellOne_384 ?_
            refine qx_aload_n (x := x0) X d_M_tellOne_387 rfl 1 rfl ?_
            refine qx_getI X qcls12 g1 11 (by decide) rfl wf_M_218 d_M_tellOne_388 ?_
            refine qx_ild X g2 d_M_tellOne_391 ?_
            refine qx_bipush (v := (26 : Int32)) X d_M_tellOne_392 (by decide) ?_
            refine qx_icmp_le X 402 d_M_tellOne_394 (by decide) (fun q65 => ?_) (fun q65 => ?_)
            · have hw := hw.1 q65
              refine qx_aload_n (x := x0) X d_M_tellOne_402 rfl 1 rfl ?_
              refine qx_getI X qcls12 g1 13 (by decide) rfl wf_M_215 d_M_tellOne_403 ?_
              refine qx_if_le X 410 d_M_tellOne_406 (by decide) (fun q66 => ?_) (fun q66 => ?_)
              · have hw := hw.1 q66
                refine qx_aload_n (x := x0) X d_M_tellOne_410 rfl 1 rfl ?_
                refine qx_callVV (st := []) (As := []) X (t_M_goesOn (adK := adK) (adV := adV) l D cy b N x0 h _ hw) qm_M_goesOn wm_M_236 wi_M_goesOn wl_M_goesOn qcls12 g1 rfl rfl rfl ⟨Nat.le_of_ble_eq_true rfl, Nat.le_of_ble_eq_true rfl⟩ ⟨Nat.le_refl 0, Nat.le_refl 0⟩ (Nat.le_of_ble_eq_true rfl) rfl d_M_tellOne_411 (fun h67 hw => ?_)
                refine qx_aload_n (x := x0) X d_M_tellOne_414 rfl 1 rfl ?_
                refine qx_iload_n (x := y63) X d_M_tellOne_415 rfl 0 rfl ?_
                obtain ⟨g68, hw⟩ := hw
                refine qx_callVV (st := []) (As := [.int y63]) X (t_M_tellLaw (adK := adK) (adV := adV) l D cy b N x0 y63 h67 _ hw) qm_M_tellLaw wm_M_290 wi_M_tellLaw wl_M_tellLaw qcls12 g68 rfl rfl rfl ⟨Nat.le_of_ble_eq_true rfl, Nat.le_of_ble_eq_true rfl⟩ ⟨Nat.le_refl 0, Nat.le_refl 0⟩ (Nat.le_of_ble_eq_true rfl) rfl d_M_tellOne_416 (fun h69 hw => ?_)
                exact qx_vret X hw (Nat.le_refl 0) (Nat.le_refl 0) rfl d_M_tellOne_419
              · have hw := hw.2 q66
                exact qx_vret X hw (Nat.le_refl 0) (Nat.le_refl 0) rfl d_M_tellOne_409
            · have hw := hw.2 q65
              refine qx_sub [1, 0] rfl ?_
              exact t_M_tellOne_397 X N x0 y63 h Q  hw 
        · have hw := hw.2 q62
          by_cases q70 : y3 = (24 : Int32)
          · have hw := hw.1 q70
            refine qx_tableIn (off := (357)) X 366 d_M_tellOne_9 (by rw [q70]; decide) (by rw [q70]; decide) (by rw [q70]; rfl) (by decide) ?_
            refine qx_aload_n (x := x0) X d_M_tellOne_366 rfl 0 rfl ?_
            refine qx_getR X qcls12 g1 5 (by decide) rfl wf_M_20 d_M_tellOne_367 ?_
            refine qx_aload_n (x := x0) X d_M_tellOne_370 rfl 0 rfl ?_
            refine qx_getI X qcls12 g1 11 (by decide) rfl wf_M_218 d_M_tellOne_371 ?_
            refine qx_ild X g2 d_M_tellOne_374 ?_
            refine qx_bipush (v := (23 : Int32)) X d_M_tellOne_375 (by decide) ?_
            refine qx_isub X d_M_tellOne_377 ?_
            refine qx_topi (fun y71 ey71 => ?_)
            have hw := hw y71 ey71
            refine qx_istore_n (L' := [(1, .inl y71), (0, .inr (.inr (.inl x0)))]) X d_M_tellOne_378 rfl (by decide) rfl ?_
            refine qx_iload_n (x := y71) X d_M_tellOne_379 rfl 0 rfl ?_
            refine qx_if_lt X 397 d_M_tellOne_380 (by decide) (fun q72 => ?_) (fun q72 => ?_)
            · have hw := hw.1 q72
              refine qx_sub [1, 0] rfl ?_
              exact t_M_tellOne_397 X N x0 y71 h Q  hw 
            · have hw := hw.2 q72
              refine qx_aload_n (x := x0) X d_M_tellOne_383 rfl 1 rfl ?_
              refine qx_getR X qcls12 g1 5 (by decide) rfl wf_M_20 d_M_tellOne_384 ?_
              refine qx_aload_n (x := x0) X d_M_tellOne_387 rfl 1 rfl ?_
              refine qx_getI X qcls12 g1 11 (by decide) rfl wf_M_218 d_M_tellOne_388 ?_
              refine qx_ild X g2 d_M_tellOne_391 ?_
              refine qx_bipush (v := (26 : Int32)) X d_M_tellOne_392 (by decide) ?_
              refine qx_icmp_le X 402 d_M_tellOne_394 (by decide) (fun q73 => ?_) (fun q73 => ?_)
              · have hw := hw.1 q73
                refine qx_aload_n (x := x0) X d_M_tellOne_402 rfl 1 rfl ?_
                refine qx_getI X qcls12 g1 13 (by decide) rfl wf_M_215 d_M_tellOne_403 ?_
                refine qx_if_le X 410 d_M_tellOne_406 (by decide) (fun q74 => ?_) (fun q74 => ?_)
                · have hw := hw.1 q74
                  refine qx_aload_n (x := x0) X d_M_tellOne_410 rfl 1 rfl ?_
                  refine qx_callVV (st := []) (As := []) X (t_M_goesOn (adK := adK) (adV := adV) l D cy b N x0 h _ hw) qm_M_goesOn wm_M_236 wi_M_goesOn wl_M_goesOn qcls12 g1 rfl rfl rfl ⟨Nat.le_of_ble_eq_true rfl, Nat.le_of_ble_eq_true rfl⟩ ⟨Nat.le_refl 0, Nat.le_refl 0⟩ (Nat.le_of_ble_eq_true rfl) rfl d_M_tellOne_411 (fun h75 hw => ?_)
                  refine qx_aload_n (x := x0) X d_M_tellOne_414 rfl 1 rfl ?_
                  refine qx_iload_n (x := y71) X d_M_tellOne_415 rfl 0 rfl ?_
                  obtain ⟨g76, hw⟩ := hw
                  refine qx_callVV (st := []) (As := [.int y71]) X (t_M_tellLaw (adK := adK) (adV := adV) l D cy b N x0 y71 h75 _ hw) qm_M_tellLaw wm_M_290 wi_M_tellLaw wl_M_tellLaw qcls12 g76 rfl rfl rfl ⟨Nat.le_of_ble_eq_true rfl, Nat.le_of_ble_eq_true rfl⟩ ⟨Nat.le_refl 0, Nat.le_refl 0⟩ (Nat.le_of_ble_eq_true rfl) rfl d_M_tellOne_416 (fun h77 hw => ?_)
                  exact qx_vret X hw (Nat.le_refl 0) (Nat.le_refl 0) rfl d_M_tellOne_419
                · have hw := hw.2 q74
                  exact qx_vret X hw (Nat.le_refl 0) (Nat.le_refl 0) rfl d_M_tellOne_409
              · have hw := hw.2 q73
                refine qx_sub [1, 0] rfl ?_
                exact t_M_tellOne_397 X N x0 y71 h Q  hw 
          · have hw := hw.2 q70
            by_cases q78 : y3 = (25 : Int32)
            · have hw := hw.1 q78
              refine qx_tableIn (off := (357)) X 366 d_M_tellOne_9 (by rw [q78]; decide) (by rw [q78]; decide) (by rw [q78]; rfl) (by decide) ?_
              refine qx_aload_n (x := x0) X d_M_tellOne_366 rfl 0 rfl ?_
              refine qx_getR X qcls12 g1 5 (by decide) rfl wf_M_20 d_M_tellOne_367 ?_
              refine qx_aload_n (x := x0) X d_M_tellOne_370 rfl 0 rfl ?_
              refine qx_getI X qcls12 g1 11 (by decide) rfl wf_M_218 d_M_tellOne_371 ?_
              refine qx_ild X g2 d_M_tellOne_374 ?_
              refine qx_bipush (v := (23 : Int32)) X d_M_tellOne_375 (by decide) ?_
              refine qx_isub X d_M_tellOne_377 ?_
              refine qx_topi (fun y79 ey79 => ?_)
              have hw := hw y79 ey79
              refine qx_istore_n (L' := [(1, .inl y79), (0, .inr (.inr (.inl x0)))]) X d_M_tellOne_378 rfl (by decide) rfl ?_
              refine qx_iload_n (x := y79) X d_M_tellOne_379 rfl 0 rfl ?_
              refine qx_if_lt X 397 d_M_tellOne_380 (by decide) (fun q80 => ?_) (fun q80 => ?_)
              · have hw := hw.1 q80
                refine qx_sub [1, 0] rfl ?_
                exact t_M_tellOne_397 X N x0 y79 h Q  hw 
              · have hw := hw.2 q80
                refine qx_aload_n (x := x0) X d_M_tellOne_383 rfl 1 rfl ?_
                refine qx_getR X qcls12 g1 5 (by decide) rfl wf_M_20 d_M_tellOne_384 ?_
                refine qx_aload_n (x := x0) X d_M_tellOne_387 rfl 1 rfl ?_
                refine qx_getI X qcls12 g1 11 (by decide) rfl wf_M_218 d_M_tellOne_388 ?_
                refine qx_ild X g2 d_M_tellOne_391 ?_
                refine qx_bipush (v := (26 : Int32)) X d_M_tellOne_392 (by decide) ?_
                refine qx_icmp_le X 402 d_M_tellOne_394 (by decide) (fun q81 => ?_) (fun q81 => ?_)
                · have hw := hw.1 q81
                  refine qx_aload_n (x := x0) X d_M_tellOne_402 rfl 1 rfl ?_
                  refine qx_getI X qcls12 g1 13 (by decide) rfl wf_M_215 d_M_tellOne_403 ?_
                  refine qx_if_le X 410 d_M_tellOne_406 (by decide) (fun q82 => ?_) (fun q82 => ?_)
                  · have hw := hw.1 q82
                    refine qx_aload_n (x := x0) X d_M_tellOne_410 rfl 1 rfl ?_
                    refine qx_callVV (st := []) (As := []) X (t_M_goesOn (adK := adK) (adV := adV) l D cy b N x0 h _ hw) qm_M_goesOn wm_M_236 wi_M_goesOn wl_M_goesOn qcls12 g1 rfl rfl rfl ⟨Nat.le_of_ble_eq_true rfl, Nat.le_of_ble_eq_true rfl⟩ ⟨Nat.le_refl 0, Nat.le_refl 0⟩ (Nat.le_of_ble_eq_true rfl) rfl d_M_tellOne_411 (fun h83 hw => ?_)
                    refine qx_aload_n (x := x0) X d_M_tellOne_414 rfl 1 rfl ?_
                    refine qx_iload_n (x := y79) X d_M_tellOne_415 rfl 0 rfl ?_
                    obtain ⟨g84, hw⟩ := hw
                    refine qx_callVV (st := []) (As := [.int y79]) X (t_M_tellLaw (adK := adK) (adV := adV) l D cy b N x0 y79 h83 _ hw) qm_M_tellLaw wm_M_290 wi_M_tellLaw wl_M_tellLaw qcls12 g84 rfl rfl rfl ⟨Nat.le_of_ble_eq_true rfl, Nat.le_of_ble_eq_true rfl⟩ ⟨Nat.le_refl 0, Nat.le_refl 0⟩ (Nat.le_of_ble_eq_true rfl) rfl d_M_tellOne_416 (fun h85 hw => ?_)
                    exact qx_vret X hw (Nat.le_refl 0) (Nat.le_refl 0) rfl d_M_tellOne_419
                  · have hw := hw.2 q82
                    exact qx_vret X hw (Nat.le_refl 0) (Nat.le_refl 0) rfl d_M_tellOne_409
                · have hw := hw.2 q81
                  refine qx_sub [1, 0] rfl ?_
                  exact t_M_tellOne_397 X N x0 y79 h Q  hw 
            · have hw := hw.2 q78
              by_cases q86 : y3 = (26 : Int32)
              · have hw := hw.1 q86
                refine qx_tableIn (off := (357)) X 366 d_M_tellOne_9 (by rw [q86]; decide) (by rw [q86]; decide) (by rw [q86]; rfl) (by decide) ?_
                refine qx_aload_n (x := x0) X d_M_tellOne_366 rfl 0 rfl ?_
                refine qx_getR X qcls12 g1 5 (by decide) rfl wf_M_20 d_M_tellOne_367 ?_
                refine qx_aload_n (x := x0) X d_M_tellOne_370 rfl 0 rfl ?_
                refine qx_getI X qcls12 g1 11 (by decide) rfl wf_M_218 d_M_tellOne_371 ?_
                refine qx_ild X g2 d_M_tellOne_374 ?_
                refine qx_bipush (v := (23 : Int32)) X d_M_tellOne_375 (by decide) ?_
                refine qx_isub X d_M_tellOne_377 ?_
                refine qx_topi (fun y87 ey87 => ?_)
                have hw := hw y87 ey87
                refine qx_istore_n (L' := [(1, .inl y87), (0, .inr (.inr (.inl x0)))]) X d_M_tellOne_378 rfl (by decide) rfl ?_
                refine qx_iload_n (x := y87) X d_M_tellOne_379 rfl 0 rfl ?_
                refine qx_if_lt X 397 d_M_tellOne_380 (by decide) (fun q88 => ?_) (fun q88 => ?_)
                · have hw := hw.1 q88
                  refine qx_sub [1, 0] rfl ?_
                  exact t_M_tellOne_397 X N x0 y87 h Q  hw 
                · have hw := hw.2 q88
                  refine qx_aload_n (x := x0) X d_M_tellOne_383 rfl 1 rfl ?_
                  refine qx_getR X qcls12 g1 5 (by decide) rfl wf_M_20 d_M_tellOne_384 ?_
                  refine qx_aload_n (x := x0) X d_M_tellOne_387 rfl 1 rfl ?_
                  refine qx_getI X qcls12 g1 11 (by decide) rfl wf_M_218 d_M_tellOne_388 ?_
                  refine qx_ild X g2 d_M_tellOne_391 ?_
                  refine qx_bipush (v := (26 : Int32)) X d_M_tellOne_392 (by decide) ?_
                  refine qx_icmp_le X 402 d_M_tellOne_394 (by decide) (fun q89 => ?_) (fun q89 => ?_)
                  · have hw := hw.1 q89
                    refine qx_aload_n (x := x0) X d_M_tellOne_402 rfl 1 rfl ?_
                    refine qx_getI X qcls12 g1 13 (by decide) rfl wf_M_215 d_M_tellOne_403 ?_
                    refine qx_if_le X 410 d_M_tellOne_406 (by decide) (fun q90 => ?_) (fun q90 => ?_)
                    · have hw := hw.1 q90
                      refine qx_aload_n (x := x0) X d_M_tellOne_410 rfl 1 rfl ?_
                      refine qx_callVV (st := []) (As := []) X (t_M_goesOn (adK := adK) (adV := adV) l D cy b N x0 h _ hw) qm_M_goesOn wm_M_236 wi_M_goesOn wl_M_goesOn qcls12 g1 rfl rfl rfl ⟨Nat.le_of_ble_eq_true rfl, Nat.le_of_ble_eq_true rfl⟩ ⟨Nat.le_refl 0, Nat.le_refl 0⟩ (Nat.le_of_ble_eq_true rfl) rfl d_M_tellOne_411 (fun h91 hw => ?_)
                      refine qx_aload_n (x := x0) X d_M_tellOne_414 rfl 1 rfl ?_
                      refine qx_iload_n (x := y87) X d_M_tellOne_415 rfl 0 rfl ?_
                      obtain ⟨g92, hw⟩ := hw
                      refine qx_callVV (st := []) (As := [.int y87]) X (t_M_tellLaw (adK := adK) (adV := adV) l D cy b N x0 y87 h91 _ hw) qm_M_tellLaw wm_M_290 wi_M_tellLaw wl_M_tellLaw qcls12 g92 rfl rfl rfl ⟨Nat.le_of_ble_eq_true rfl, Nat.le_of_ble_eq_true rfl⟩ ⟨Nat.le_refl 0, Nat.le_refl 0⟩ (Nat.le_of_ble_eq_true rfl) rfl d_M_tellOne_416 (fun h93 hw => ?_)
                      exact qx_vret X hw (Nat.le_refl 0) (Nat.le_refl 0) rfl d_M_tellOne_419
                    · have hw := hw.2 q90
                      exact qx_vret X hw (Nat.le_refl 0) (Nat.le_refl 0) rfl d_M_tellOne_409
                  · have hw := hw.2 q89
                    refine qx_sub [1, 0] rfl ?_
                    exact t_M_tellOne_397 X N x0 y87 h Q  hw 
              · have hw := hw.2 q86
                by_cases q94 : y3 = (27 : Int32)
                · have hw := hw.1 q94
                  refine qx_tableIn (off := (300)) X 309 d_M_tellOne_9 (by rw [q94]; decide) (by rw [q94]; decide) (by rw [q94]; rfl) (by decide) ?_
                  refine qx_aload_n (x := x0) X d_M_tellOne_309 rfl 0 rfl ?_
                  refine qx_callVV (st := []) (As := []) X (t_M_goesOn (adK := adK) (adV := adV) l D cy b N x0 h _ hw) qm_M_goesOn wm_M_236 wi_M_goesOn wl_M_goesOn qcls12 g1 rfl rfl rfl ⟨Nat.le_of_ble_eq_true rfl, Nat.le_of_ble_eq_true rfl⟩ ⟨Nat.le_refl 0, Nat.le_refl 0⟩ (Nat.le_of_ble_eq_true rfl) rfl d_M_tellOne_310 (fun h95 hw => ?_)
                  refine qx_aload_n (x := x0) X d_M_tellOne_313 rfl 0 rfl ?_
                  obtain ⟨g96, hw⟩ := hw
                  refine qx_getR X qcls12 g96 31 (by decide) rfl wf_M_70 d_M_tellOne_314 ?_
                  refine qx_aload_n (x := x0) X d_M_tellOne_317 rfl 0 rfl ?_
                  refine qx_getI X qcls12 g96 19 (by decide) rfl wf_M_248 d_M_tellOne_318 ?_
                  refine qx_aload_n (x := x0) X d_M_tellOne_321 rfl 0 rfl ?_
                  refine qx_iconst (v := (0 : Int32)) X d_M_tellOne_322 (by decide) ?_
                  refine qx_bipush (v := (100 : Int32)) X d_M_tellOne_323 (by decide) ?_
                  refine qx_callVI (st := [.int (qI h95 x0 19), qr b (qR h95 x0 31)]) (As := [.int (0 : Int32), .int (100 : Int32)]) X (t_M_bounded (adK := adK) (adV := adV) l D cy b N x0 (0 : Int32) (100 : Int32) h95 _ hw) qm_M_bounded wm_M_277 wi_M_bounded wl_M_bounded qcls12 g96 rfl rfl rfl ⟨Nat.le_of_ble_eq_true rfl, Nat.le_of_ble_eq_true rfl⟩ ⟨Nat.le_refl 0, Nat.le_refl 0⟩ (Nat.le_of_ble_eq_true rfl) rfl d_M_tellOne_325 (fun r97 h98 hw => ?_)
                  obtain ⟨g99, hw⟩ := hw
                  refine qx_ist X g99 d_M_tellOne_328 ?_
                  refine qx_toph (fun h100 eh100 => ?_)
                  have hw := hw h100 eh100
                  refine qx_aload_n (x := x0) X d_M_tellOne_329 rfl 0 rfl ?_
                  refine qx_iconst (v := (4 : Int32)) X d_M_tellOne_330 (by decide) ?_
                  obtain ⟨g101, hw⟩ := hw
                  refine qx_callVV (st := []) (As := [.int (4 : Int32)]) X (t_M_must (adK := adK) (adV := adV) l D cy b N x0 (4 : Int32) h100 _ hw) qm_M_must wm_M_287 wi_M_must wl_M_must qcls12 g101 rfl rfl rfl ⟨Nat.le_of_ble_eq_true rfl, Nat.le_of_ble_eq_true rfl⟩ ⟨Nat.le_refl 0, Nat.le_refl 0⟩ (Nat.le_of_ble_eq_true rfl) rfl d_M_tellOne_331 (fun h102 hw => ?_)
                  refine qx_goto X 419 d_M_tellOne_334 (by decide) ?_
                  exact qx_vret X hw (Nat.le_refl 0) (Nat.le_refl 0) rfl d_M_tellOne_419
                · have hw := hw.2 q94
                  by_cases q103 : y3 = (28 : Int32)
                  · have hw := hw.1 q103
                    refine qx_tableIn (off := (328)) X 337 d_M_tellOne_9 (by rw [q103]; decide) (by rw [q103]; decide) (by rw [q103]; rfl) (by decide) ?_
                    refine qx_aload_n (x := x0) X d_M_tellOne_337 rfl 0 rfl ?_
                    refine qx_callVV (st := []) (As := []) X (t_M_goesOn (adK := adK) (adV := adV) l D cy b N x0 h _ hw) qm_M_goesOn wm_M_236 wi_M_goesOn wl_M_goesOn qcls12 g1 rfl rfl rfl ⟨Nat.le_of_ble_eq_true rfl, Nat.le_of_ble_eq_true rfl⟩ ⟨Nat.le_refl 0, Nat.le_refl 0⟩ (Nat.le_of_ble_eq_true rfl) rfl d_M_tellOne_338 (fun h104 hw => ?_)
                    refine qx_aload_n (x := x0) X d_M_tellOne_341 rfl 0 rfl ?_
                    obtain ⟨g105, hw⟩ := hw
                    refine qx_getR X qcls12 g105 32 (by decide) rfl wf_M_73 d_M_tellOne_342 ?_
                    refine qx_aload_n (x := x0) X d_M_tellOne_345 rfl 0 rfl ?_
                    refine qx_getI X qcls12 g105 19 (by decide) rfl wf_M_248 d_M_tellOne_346 ?_
                    refine qx_aload_n (x := x0) X d_M_tellOne_349 rfl 0 rfl ?_
                    refine qx_iconst (v := (0 : Int32)) X d_M_tellOne_350 (by decide) ?_
                    refine qx_sipush (v := (9999 : Int32)) X d_M_tellOne_351 (by decide) ?_
                    refine qx_callVI (st := [.int (qI h104 x0 19), qr b (qR h104 x0 32)]) (As := [.int (0 : Int32), .int (9999 : Int32)]) X (t_M_bounded (adK := adK) (adV := adV) l D cy b N x0 (0 : Int32) (9999 : Int32) h104 _ hw) qm_M_bounded wm_M_277 wi_M_bounded wl_M_bounded qcls12 g105 rfl rfl rfl ⟨Nat.le_of_ble_eq_true rfl, Nat.le_of_ble_eq_true rfl⟩ ⟨Nat.le_refl 0, Nat.le_refl 0⟩ (Nat.le_of_ble_eq_true rfl) rfl d_M_tellOne_354 (fun r106 h107 hw => ?_)
                    obtain ⟨g108, hw⟩ := hw
                    refine qx_ist X g108 d_M_tellOne_357 ?_
                    refine qx_toph (fun h109 eh109 => ?_)
                    have hw := hw h109 eh109
                    refine qx_aload_n (x := x0) X d_M_tellOne_358 rfl 0 rfl ?_
                    refine qx_iconst (v := (4 : Int32)) X d_M_tellOne_359 (by decide) ?_
                    obtain ⟨g110, hw⟩ := hw
                    refine qx_callVV (st := []) (As := [.int (4 : Int32)]) X (t_M_must (adK := adK) (adV := adV) l D cy b N x0 (4 : Int32) h109 _ hw) qm_M_must wm_M_287 wi_M_must wl_M_must qcls12 g110 rfl rfl rfl ⟨Nat.le_of_ble_eq_true rfl, Nat.le_of_ble_eq_true rfl⟩ ⟨Nat.le_refl 0, Nat.le_refl 0⟩ (Nat.le_of_ble_eq_true rfl) rfl d_M_tellOne_360 (fun h111 hw => ?_)
                    refine qx_goto X 419 d_M_tellOne_363 (by decide) ?_
                    exact qx_vret X hw (Nat.le_refl 0) (Nat.le_refl 0) rfl d_M_tellOne_419
                  · have hw := hw.2 q103
                    have gx : y3.toInt < 20 ∨ 28 < y3.toInt := by
                      have nq4 : y3.toInt ≠ 20 := fun z => q4 (Int32.toInt_inj.mp z)
                      have nq30 : y3.toInt ≠ 21 := fun z => q30 (Int32.toInt_inj.mp z)
                      have nq56 : y3.toInt ≠ 22 := fun z => q56 (Int32.toInt_inj.mp z)
                      have nq62 : y3.toInt ≠ 23 := fun z => q62 (Int32.toInt_inj.mp z)
                      have nq70 : y3.toInt ≠ 24 := fun z => q70 (Int32.toInt_inj.mp z)
                      have nq78 : y3.toInt ≠ 25 := fun z => q78 (Int32.toInt_inj.mp z)
                      have nq86 : y3.toInt ≠ 26 := fun z => q86 (Int32.toInt_inj.mp z)
                      have nq94 : y3.toInt ≠ 27 := fun z => q94 (Int32.toInt_inj.mp z)
                      have nq103 : y3.toInt ≠ 28 := fun z => q103 (Int32.toInt_inj.mp z)
                      omega
                    refine qx_tableOut X 366 d_M_tellOne_9 gx (by decide) ?_
                    refine qx_aload_n (x := x0) X d_M_tellOne_366 rfl 0 rfl ?_
                    refine qx_getR X qcls12 g1 5 (by decide) rfl wf_M_20 d_M_tellOne_367 ?_
                    refine qx_aload_n (x := x0) X d_M_tellOne_370 rfl 0 rfl ?_
                    refine qx_getI X qcls12 g1 11 (by decide) rfl wf_M_218 d_M_tellOne_371 ?_
                    refine qx_ild X g2 d_M_tellOne_374 ?_
                    refine qx_bipush (v := (23 : Int32)) X d_M_tellOne_375 (by decide) ?_
                    refine qx_isub X d_M_tellOne_377 ?_
                    refine qx_topi (fun y112 ey112 => ?_)
                    have hw := hw y112 ey112
                    refine qx_istore_n (L' := [(1, .inl y112), (0, .inr (.inr (.inl x0)))]) X d_M_tellOne_378 rfl (by decide) rfl ?_
                    refine qx_iload_n (x := y112) X d_M_tellOne_379 rfl 0 rfl ?_
                    refine qx_if_lt X 397 d_M_tellOne_380 (by decide) (fun q113 => ?_) (fun q113 => ?_)
                    · have hw := hw.1 q113
                      refine qx_sub [1, 0] rfl ?_
                      exact t_M_tellOne_397 X N x0 y112 h Q  hw 
                    · have hw := hw.2 q113
                      refine qx_aload_n (x := x0) X d_M_tellOne_383 rfl 1 rfl ?_
                      refine qx_getR X qcls12 g1 5 (by decide) rfl wf_M_20 d_M_tellOne_384 ?_
                      refine qx_aload_n (x := x0) X d_M_tellOne_387 rfl 1 rfl ?_
                      refine qx_getI X qcls12 g1 11 (by decide) rfl wf_M_218 d_M_tellOne_388 ?_
                      refine qx_ild X g2 d_M_tellOne_391 ?_
                      refine qx_bipush (v := (26 : Int32)) X d_M_tellOne_392 (by decide) ?_
                      refine qx_icmp_le X 402 d_M_tellOne_394 (by decide) (fun q114 => ?_) (fun q114 => ?_)
                      · have hw := hw.1 q114
                        refine qx_aload_n (x := x0) X d_M_tellOne_402 rfl 1 rfl ?_
                        refine qx_getI X qcls12 g1 13 (by decide) rfl wf_M_215 d_M_tellOne_403 ?_
                        refine qx_if_le X 410 d_M_tellOne_406 (by decide) (fun q115 => ?_) (fun q115 => ?_)
                        · have hw := hw.1 q115
                          refine qx_aload_n (x := x0) X d_M_tellOne_410 rfl 1 rfl ?_
                          refine qx_callVV (st := []) (As := []) X (t_M_goesOn (adK := adK) (adV := adV) l D cy b N x0 h _ hw) qm_M_goesOn wm_M_236 wi_M_goesOn wl_M_goesOn qcls12 g1 rfl rfl rfl ⟨Nat.le_of_ble_eq_true rfl, Nat.le_of_ble_eq_true rfl⟩ ⟨Nat.le_refl 0, Nat.le_refl 0⟩ (Nat.le_of_ble_eq_true rfl) rfl d_M_tellOne_411 (fun h116 hw => ?_)
                          refine qx_aload_n (x := x0) X d_M_tellOne_414 rfl 1 rfl ?_
                          refine qx_iload_n (x := y112) X d_M_tellOne_415 rfl 0 rfl ?_
                          obtain ⟨g117, hw⟩ := hw
                          refine qx_callVV (st := []) (As := [.int y112]) X (t_M_tellLaw (adK := adK) (adV := adV) l D cy b N x0 y112 h116 _ hw) qm_M_tellLaw wm_M_290 wi_M_tellLaw wl_M_tellLaw qcls12 g117 rfl rfl rfl ⟨Nat.le_of_ble_eq_true rfl, Nat.le_of_ble_eq_true rfl⟩ ⟨Nat.le_refl 0, Nat.le_refl 0⟩ (Nat.le_of_ble_eq_true rfl) rfl d_M_tellOne_416 (fun h118 hw => ?_)
                          exact qx_vret X hw (Nat.le_refl 0) (Nat.le_refl 0) rfl d_M_tellOne_419
                        · have hw := hw.2 q115
                          exact qx_vret X hw (Nat.le_refl 0) (Nat.le_refl 0) rfl d_M_tellOne_409
                      · have hw := hw.2 q114
                        refine qx_sub [1, 0] rfl ?_
                        exact t_M_tellOne_397 X N x0 y112 h Q  hw 
end QG
