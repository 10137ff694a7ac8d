/-! Night: written by wip/whole/emit.py out of the bytecode -/
def y_Night_crook : MethodName := ⟨"CoatHangers$Night", "crook", "(LCoatHangers$State;I)V"⟩
theorem qm_Night_crook : qMt y_Night_crook prog_3_method_6_code 4 (none) 2 := ⟨qT_4 (i := 179) (by decide +kernel) rfl, qT_1 (i := 13) (by decide +kernel) rfl, by decide, by decide, by decide +kernel⟩
theorem wi_Night_crook : Cond.instanceMethod y_Night_crook ∈ qT := qT_4 (i := 178) (by decide +kernel) rfl
theorem wl_Night_crook : Cond.selects y_Night_crook.cls y_Night_crook y_Night_crook ∈ qT := qT_s (i := 35) (by decide +kernel) rfl
def y_Night_mixed : MethodName := ⟨"CoatHangers$Night", "mixed", "(II)I"⟩
theorem qm_Night_mixed : qMt y_Night_mixed prog_3_method_13_code 3 (some .int) 2 := ⟨qT_4 (i := 203) (by decide +kernel) rfl, qT_1 (i := 13) (by decide +kernel) rfl, by decide, by decide, by decide +kernel⟩
theorem wi_Night_mixed : Cond.static y_Night_mixed ∈ qT := qT_4 (i := 202) (by decide +kernel) rfl
def y_Night_lot : MethodName := ⟨"CoatHangers$Night", "lot", "(III)I"⟩
theorem qm_Night_lot : qMt y_Night_lot prog_3_method_12_code 4 (some .int) 3 := ⟨qT_4 (i := 200) (by decide +kernel) rfl, qT_1 (i := 13) (by decide +kernel) rfl, by decide, by decide, by decide +kernel⟩
theorem wi_Night_lot : Cond.static y_Night_lot ∈ qT := qT_4 (i := 199) (by decide +kernel) rfl
def y_Night_hasMoth : MethodName := ⟨"CoatHangers$Night", "hasMoth", "(II)Z"⟩
theorem qm_Night_hasMoth : qMt y_Night_hasMoth prog_3_method_11_code 3 (some .boolean) 2 := ⟨qT_4 (i := 212) (by decide +kernel) rfl, qT_1 (i := 13) (by decide +kernel) rfl, by decide, by decide, by decide +kernel⟩
theorem wi_Night_hasMoth : Cond.instanceMethod y_Night_hasMoth ∈ qT := qT_4 (i := 210) (by decide +kernel) rfl
theorem wl_Night_hasMoth : Cond.selects y_Night_hasMoth.cls y_Night_hasMoth y_Night_hasMoth ∈ qT := qT_4 (i := 211) (by decide +kernel) rfl
def y_Night_letMothEat : MethodName := ⟨"CoatHangers$Night", "letMothEat", "(LCoatHangers$State;I)V"⟩
theorem qm_Night_letMothEat : qMt y_Night_letMothEat prog_3_method_10_code 4 (none) 2 := ⟨qT_4 (i := 208) (by decide +kernel) rfl, qT_1 (i := 13) (by decide +kernel) rfl, by decide, by decide, by decide +kernel⟩
theorem wi_Night_letMothEat : Cond.instanceMethod y_Night_letMothEat ∈ qT := qT_4 (i := 207) (by decide +kernel) rfl
theorem wl_Night_letMothEat : Cond.selects y_Night_letMothEat.cls y_Night_letMothEat y_Night_letMothEat ∈ qT := qT_s (i := 38) (by decide +kernel) rfl
def y_Night_letSlip : MethodName := ⟨"CoatHangers$Night", "letSlip", "(LCoatHangers$State;I)V"⟩
theorem qm_Night_letSlip : qMt y_Night_letSlip prog_3_method_9_code 4 (none) 2 := ⟨qT_4 (i := 197) (by decide +kernel) rfl, qT_1 (i := 13) (by decide +kernel) rfl, by decide, by decide, by decide +kernel⟩
theorem wi_Night_letSlip : Cond.instanceMethod y_Night_letSlip ∈ qT := qT_4 (i := 196) (by decide +kernel) rfl
theorem wl_Night_letSlip : Cond.selects y_Night_letSlip.cls y_Night_letSlip y_Night_letSlip ∈ qT := qT_s (i := 37) (by decide +kernel) rfl
def y_Night_wakeOnNail : MethodName := ⟨"CoatHangers$Night", "wakeOnNail", "(LCoatHangers$State;I)V"⟩
theorem qm_Night_wakeOnNail : qMt y_Night_wakeOnNail prog_3_method_8_code 6 (none) 2 := ⟨qT_4 (i := 192) (by decide +kernel) rfl, qT_1 (i := 13) (by decide +kernel) rfl, by decide, by decide, by decide +kernel⟩
theorem wi_Night_wakeOnNail : Cond.instanceMethod y_Night_wakeOnNail ∈ qT := qT_4 (i := 191) (by decide +kernel) rfl
theorem wl_Night_wakeOnNail : Cond.selects y_Night_wakeOnNail.cls y_Night_wakeOnNail y_Night_wakeOnNail ∈ qT := qT_s (i := 36) (by decide +kernel) rfl
def y_Night_wakeAll : MethodName := ⟨"CoatHangers$Night", "wakeAll", "(LCoatHangers$State;)V"⟩
theorem qm_Night_wakeAll : qMt y_Night_wakeAll prog_3_method_7_code 3 (none) 1 := ⟨qT_4 (i := 188) (by decide +kernel) rfl, qT_1 (i := 13) (by decide +kernel) rfl, by decide, by decide, by decide +kernel⟩
theorem wi_Night_wakeAll : Cond.instanceMethod y_Night_wakeAll ∈ qT := qT_4 (i := 186) (by decide +kernel) rfl
theorem wl_Night_wakeAll : Cond.selects y_Night_wakeAll.cls y_Night_wakeAll y_Night_wakeAll ∈ qT := qT_4 (i := 187) (by decide +kernel) rfl
def y_Night_goByOnce : MethodName := ⟨"CoatHangers$Night", "goByOnce", "(LCoatHangers$State;I)V"⟩
theorem qm_Night_goByOnce : qMt y_Night_goByOnce prog_3_method_5_code 4 (none) 2 := ⟨qT_4 (i := 175) (by decide +kernel) rfl, qT_1 (i := 13) (by decide +kernel) rfl, by decide, by decide, by decide +kernel⟩
theorem wi_Night_goByOnce : Cond.instanceMethod y_Night_goByOnce ∈ qT := qT_4 (i := 174) (by decide +kernel) rfl
theorem wl_Night_goByOnce : Cond.selects y_Night_goByOnce.cls y_Night_goByOnce y_Night_goByOnce ∈ qT := qT_s (i := 34) (by decide +kernel) rfl
def y_Night_goByWithAll : MethodName := ⟨"CoatHangers$Night", "goByWithAll", "(LCoatHangers$State;II)V"⟩
theorem qm_Night_goByWithAll : qMt y_Night_goByWithAll prog_3_method_2_code 5 (none) 3 := ⟨qT_4 (i := 171) (by decide +kernel) rfl, qT_1 (i := 13) (by decide +kernel) rfl, by decide, by decide, by decide +kernel⟩
theorem wi_Night_goByWithAll : Cond.instanceMethod y_Night_goByWithAll ∈ qT := qT_4 (i := 169) (by decide +kernel) rfl
theorem wl_Night_goByWithAll : Cond.selects y_Night_goByWithAll.cls y_Night_goByWithAll y_Night_goByWithAll ∈ qT := qT_4 (i := 170) (by decide +kernel) rfl
def y_Night_staysHung : MethodName := ⟨"CoatHangers$Night", "staysHung", "(LCoatHangers$State;III)Z"⟩
theorem qm_Night_staysHung : qMt y_Night_staysHung prog_3_method_3_code 6 (some .boolean) 4 := ⟨qT_5 (i := 165) (by decide +kernel) rfl, qT_1 (i := 13) (by decide +kernel) rfl, by decide, by decide, by decide +kernel⟩
theorem wi_Night_staysHung : Cond.instanceMethod y_Night_staysHung ∈ qT := qT_5 (i := 163) (by decide +kernel) rfl
theorem wl_Night_staysHung : Cond.selects y_Night_staysHung.cls y_Night_staysHung y_Night_staysHung ∈ qT := qT_5 (i := 164) (by decide +kernel) rfl
def y_Night_goByQuietly : MethodName := ⟨"CoatHangers$Night", "goByQuietly", "(LCoatHangers$State;)V"⟩
theorem qm_Night_goByQuietly : qMt y_Night_goByQuietly prog_3_method_4_code 3 (none) 1 := ⟨qT_5 (i := 117) (by decide +kernel) rfl, qT_1 (i := 13) (by decide +kernel) rfl, by decide, by decide, by decide +kernel⟩
theorem wi_Night_goByQuietly : Cond.instanceMethod y_Night_goByQuietly ∈ qT := qT_5 (i := 115) (by decide +kernel) rfl
theorem wl_Night_goByQuietly : Cond.selects y_Night_goByQuietly.cls y_Night_goByQuietly y_Night_goByQuietly ∈ qT := qT_5 (i := 116) (by decide +kernel) rfl
theorem wm_Night_27 : Cond.methodLink "CoatHangers$Night" 27 y_State_isHung ∈ qT := qT_4 (i := 180) (by decide +kernel) rfl
theorem wf_Night_58 : Cond.fieldLink "CoatHangers$Night" 58 "CoatHangers$State" "on" "[I" ∈ qT := qT_2 (i := 76) (by decide +kernel) rfl
theorem wf_Night_19 : Cond.fieldLink "CoatHangers$Night" 19 "CoatHangers$Night" "reckoner" "LCoatHangers$Reckoner;" ∈ qT := qT_2 (i := 128) (by decide +kernel) rfl
theorem wm_Night_61 : Cond.methodLink "CoatHangers$Night" 61 y_State_othersBeside ∈ qT := qT_4 (i := 181) (by decide +kernel) rfl
theorem wm_Night_65 : Cond.methodLink "CoatHangers$Night" 65 y_Reck_lookAt ∈ qT := qT_4 (i := 182) (by decide +kernel) rfl
theorem wf_Night_9 : Cond.fieldLink "CoatHangers$Night" 9 "CoatHangers$Night" "slips" "[I" ∈ qT := qT_2 (i := 129) (by decide +kernel) rfl
theorem wm_Night_71 : Cond.methodLink "CoatHangers$Night" 71 y_Reck_lawTells ∈ qT := qT_4 (i := 183) (by decide +kernel) rfl
theorem wf_Night_55 : Cond.fieldLink "CoatHangers$Night" 55 "CoatHangers$State" "crooked" "[I" ∈ qT := qT_2 (i := 84) (by decide +kernel) rfl
theorem wm_Night_74 : Cond.methodLink "CoatHangers$Night" 74 Lib.Math.min.name ∈ qT := qT_4 (i := 184) (by decide +kernel) rfl
theorem wf_Night_80 : Cond.fieldLink "CoatHangers$Night" 80 "CoatHangers$State" "bent" "[I" ∈ qT := qT_2 (i := 89) (by decide +kernel) rfl
theorem wk_Night_112 : Cond.constant "CoatHangers$Night" 112 (1103515245 : Int32) ∈ qT := qT_4 (i := 204) (by decide +kernel) rfl
theorem wm_Night_109 : Cond.methodLink "CoatHangers$Night" 109 y_Night_mixed ∈ qT := qT_4 (i := 201) (by decide +kernel) rfl
theorem wm_Night_92 : Cond.methodLink "CoatHangers$Night" 92 y_Night_lot ∈ qT := qT_4 (i := 198) (by decide +kernel) rfl
theorem wf_Night_15 : Cond.fieldLink "CoatHangers$Night" 15 "CoatHangers$Night" "text" "LCoatHangers$Text;" ∈ qT := qT_2 (i := 127) (by decide +kernel) rfl
theorem wf_Night_106 : Cond.fieldLink "CoatHangers$Night" 106 "CoatHangers$Text" "moth" "I" ∈ qT := qT_1 (i := 194) (by decide +kernel) rfl
theorem wf_Night_33 : Cond.fieldLink "CoatHangers$Night" 33 "CoatHangers$Text" "people" "I" ∈ qT := qT_1 (i := 172) (by decide +kernel) rfl
theorem wf_Night_46 : Cond.fieldLink "CoatHangers$Night" 46 "CoatHangers$State" "night" "I" ∈ qT := qT_2 (i := 68) (by decide +kernel) rfl
theorem wm_Night_96 : Cond.methodLink "CoatHangers$Night" 96 y_Night_hasMoth ∈ qT := qT_4 (i := 209) (by decide +kernel) rfl
theorem wf_Night_100 : Cond.fieldLink "CoatHangers$Night" 100 "CoatHangers$State" "wide" "[I" ∈ qT := qT_2 (i := 73) (by decide +kernel) rfl
theorem wm_Night_103 : Cond.methodLink "CoatHangers$Night" 103 Lib.Math.max.name ∈ qT := qT_4 (i := 213) (by decide +kernel) rfl
theorem wm_Night_86 : Cond.methodLink "CoatHangers$Night" 86 y_State_nailOf ∈ qT := qT_4 (i := 193) (by decide +kernel) rfl
theorem wf_Night_89 : Cond.fieldLink "CoatHangers$Night" 89 "CoatHangers$State" "self" "[I" ∈ qT := qT_2 (i := 81) (by decide +kernel) rfl
theorem wm_Night_83 : Cond.methodLink "CoatHangers$Night" 83 y_Night_wakeOnNail ∈ qT := qT_4 (i := 189) (by decide +kernel) rfl
theorem wm_Night_39 : Cond.methodLink "CoatHangers$Night" 39 y_Night_crook ∈ qT := qT_4 (i := 176) (by decide +kernel) rfl
theorem wm_Night_42 : Cond.methodLink "CoatHangers$Night" 42 y_Night_wakeAll ∈ qT := qT_4 (i := 185) (by decide +kernel) rfl
theorem wm_Night_49 : Cond.methodLink "CoatHangers$Night" 49 y_Night_letSlip ∈ qT := qT_4 (i := 194) (by decide +kernel) rfl
theorem wm_Night_52 : Cond.methodLink "CoatHangers$Night" 52 y_Night_letMothEat ∈ qT := qT_4 (i := 205) (by decide +kernel) rfl
theorem wm_Night_23 : Cond.methodLink "CoatHangers$Night" 23 y_Night_goByOnce ∈ qT := qT_4 (i := 172) (by decide +kernel) rfl
theorem d_Night_crook_0 : decode prog_3_method_6_code 0 = .ok (.aload_n 1, 1) := by decide +kernel
theorem d_Night_crook_1 : decode prog_3_method_6_code 1 = .ok (.iload_n 2, 1) := by decide +kernel
theorem d_Night_crook_2 : decode prog_3_method_6_code 2 = .ok (.invokevirtual 27, 3) := by decide +kernel
theorem d_Night_crook_5 : decode prog_3_method_6_code 5 = .ok (.ifCond .ne 18, 3) := by decide +kernel
theorem d_Night_crook_8 : decode prog_3_method_6_code 8 = .ok (.aload_n 1, 1) := by decide +kernel
theorem d_Night_crook_9 : decode prog_3_method_6_code 9 = .ok (.getfield 55, 3) := by decide +kernel
theorem d_Night_crook_12 : decode prog_3_method_6_code 12 = .ok (.iload_n 2, 1) := by decide +kernel
theorem d_Night_crook_13 : decode prog_3_method_6_code 13 = .ok (.iconst 0, 1) := by decide +kernel
theorem d_Night_crook_14 : decode prog_3_method_6_code 14 = .ok (.iastore, 1) := by decide +kernel
theorem d_Night_crook_15 : decode prog_3_method_6_code 15 = .ok (.aload_n 0, 1) := by decide +kernel
theorem d_Night_crook_16 : decode prog_3_method_6_code 16 = .ok (.getfield 9, 3) := by decide +kernel
theorem d_Night_crook_19 : decode prog_3_method_6_code 19 = .ok (.iload_n 2, 1) := by decide +kernel
theorem d_Night_crook_20 : decode prog_3_method_6_code 20 = .ok (.iconst 0, 1) := by decide +kernel
theorem d_Night_crook_21 : decode prog_3_method_6_code 21 = .ok (.iastore, 1) := by decide +kernel
theorem d_Night_crook_22 : decode prog_3_method_6_code 22 = .ok (.return_, 1) := by decide +kernel
theorem d_Night_crook_23 : decode prog_3_method_6_code 23 = .ok (.aload_n 1, 1) := by decide +kernel
theorem d_Night_crook_24 : decode prog_3_method_6_code 24 = .ok (.getfield 58, 3) := by decide +kernel
theorem d_Night_crook_27 : decode prog_3_method_6_code 27 = .ok (.iload_n 2, 1) := by decide +kernel
theorem d_Night_crook_28 : decode prog_3_method_6_code 28 = .ok (.iaload, 1) := by decide +kernel
theorem d_Night_crook_29 : decode prog_3_method_6_code 29 = .ok (.istore_n 3, 1) := by decide +kernel
theorem d_Night_crook_30 : decode prog_3_method_6_code 30 = .ok (.aload_n 0, 1) := by decide +kernel
theorem d_Night_crook_31 : decode prog_3_method_6_code 31 = .ok (.getfield 19, 3) := by decide +kernel
theorem d_Night_crook_34 : decode prog_3_method_6_code 34 = .ok (.aload_n 1, 1) := by decide +kernel
theorem d_Night_crook_35 : decode prog_3_method_6_code 35 = .ok (.iload_n 2, 1) := by decide +kernel
theorem d_Night_crook_36 : decode prog_3_method_6_code 36 = .ok (.iload_n 3, 1) := by decide +kernel
theorem d_Night_crook_37 : decode prog_3_method_6_code 37 = .ok (.aload_n 1, 1) := by decide +kernel
theorem d_Night_crook_38 : decode prog_3_method_6_code 38 = .ok (.iload_n 2, 1) := by decide +kernel
theorem d_Night_crook_39 : decode prog_3_method_6_code 39 = .ok (.invokevirtual 61, 3) := by decide +kernel
theorem d_Night_crook_42 : decode prog_3_method_6_code 42 = .ok (.invokevirtual 65, 3) := by decide +kernel
theorem d_Night_crook_45 : decode prog_3_method_6_code 45 = .ok (.aload_n 0, 1) := by decide +kernel
theorem d_Night_crook_46 : decode prog_3_method_6_code 46 = .ok (.getfield 9, 3) := by decide +kernel
theorem d_Night_crook_49 : decode prog_3_method_6_code 49 = .ok (.iload_n 2, 1) := by decide +kernel
theorem d_Night_crook_50 : decode prog_3_method_6_code 50 = .ok (.aload_n 0, 1) := by decide +kernel
theorem d_Night_crook_51 : decode prog_3_method_6_code 51 = .ok (.getfield 19, 3) := by decide +kernel
theorem d_Night_crook_54 : decode prog_3_method_6_code 54 = .ok (.iconst 2, 1) := by decide +kernel
theorem d_Night_crook_55 : decode prog_3_method_6_code 55 = .ok (.invokevirtual 71, 3) := by decide +kernel
theorem d_Night_crook_58 : decode prog_3_method_6_code 58 = .ok (.iastore, 1) := by decide +kernel
theorem d_Night_crook_59 : decode prog_3_method_6_code 59 = .ok (.aload_n 1, 1) := by decide +kernel
theorem d_Night_crook_60 : decode prog_3_method_6_code 60 = .ok (.getfield 55, 3) := by decide +kernel
theorem d_Night_crook_63 : decode prog_3_method_6_code 63 = .ok (.iload_n 2, 1) := by decide +kernel
theorem d_Night_crook_64 : decode prog_3_method_6_code 64 = .ok (.sipush 999, 3) := by decide +kernel
theorem d_Night_crook_67 : decode prog_3_method_6_code 67 = .ok (.aload_n 1, 1) := by decide +kernel
theorem d_Night_crook_68 : decode prog_3_method_6_code 68 = .ok (.getfield 55, 3) := by decide +kernel
theorem d_Night_crook_71 : decode prog_3_method_6_code 71 = .ok (.iload_n 2, 1) := by decide +kernel
theorem d_Night_crook_72 : decode prog_3_method_6_code 72 = .ok (.iaload, 1) := by decide +kernel
theorem d_Night_crook_73 : decode prog_3_method_6_code 73 = .ok (.aload_n 0, 1) := by decide +kernel
theorem d_Night_crook_74 : decode prog_3_method_6_code 74 = .ok (.getfield 19, 3) := by decide +kernel
theorem d_Night_crook_77 : decode prog_3_method_6_code 77 = .ok (.iconst 0, 1) := by decide +kernel
theorem d_Night_crook_78 : decode prog_3_method_6_code 78 = .ok (.invokevirtual 71, 3) := by decide +kernel
theorem d_Night_crook_81 : decode prog_3_method_6_code 81 = .ok (.iadd, 1) := by decide +kernel
theorem d_Night_crook_82 : decode prog_3_method_6_code 82 = .ok (.invokestatic 74, 3) := by decide +kernel
theorem d_Night_crook_85 : decode prog_3_method_6_code 85 = .ok (.iastore, 1) := by decide +kernel
theorem d_Night_crook_86 : decode prog_3_method_6_code 86 = .ok (.aload_n 1, 1) := by decide +kernel
theorem d_Night_crook_87 : decode prog_3_method_6_code 87 = .ok (.getfield 80, 3) := by decide +kernel
theorem d_Night_crook_90 : decode prog_3_method_6_code 90 = .ok (.iload_n 3, 1) := by decide +kernel
theorem d_Night_crook_91 : decode prog_3_method_6_code 91 = .ok (.bipush 99, 2) := by decide +kernel
theorem d_Night_crook_93 : decode prog_3_method_6_code 93 = .ok (.aload_n 1, 1) := by decide +kernel
theorem d_Night_crook_94 : decode prog_3_method_6_code 94 = .ok (.getfield 80, 3) := by decide +kernel
theorem d_Night_crook_97 : decode prog_3_method_6_code 97 = .ok (.iload_n 3, 1) := by decide +kernel
theorem d_Night_crook_98 : decode prog_3_method_6_code 98 = .ok (.iaload, 1) := by decide +kernel
theorem d_Night_crook_99 : decode prog_3_method_6_code 99 = .ok (.aload_n 0, 1) := by decide +kernel
theorem d_Night_crook_100 : decode prog_3_method_6_code 100 = .ok (.getfield 19, 3) := by decide +kernel
theorem d_Night_crook_103 : decode prog_3_method_6_code 103 = .ok (.iconst 1, 1) := by decide +kernel
theorem d_Night_crook_104 : decode prog_3_method_6_code 104 = .ok (.invokevirtual 71, 3) := by decide +kernel
theorem d_Night_crook_107 : decode prog_3_method_6_code 107 = .ok (.iadd, 1) := by decide +kernel
theorem d_Night_crook_108 : decode prog_3_method_6_code 108 = .ok (.invokestatic 74, 3) := by decide +kernel
theorem d_Night_crook_111 : decode prog_3_method_6_code 111 = .ok (.iastore, 1) := by decide +kernel
theorem d_Night_crook_112 : decode prog_3_method_6_code 112 = .ok (.return_, 1) := by decide +kernel
theorem d_Night_mixed_0 : decode prog_3_method_13_code 0 = .ok (.iload_n 0, 1) := by decide +kernel
theorem d_Night_mixed_1 : decode prog_3_method_13_code 1 = .ok (.iload_n 1, 1) := by decide +kernel
theorem d_Night_mixed_2 : decode prog_3_method_13_code 2 = .ok (.ixor, 1) := by decide +kernel
theorem d_Night_mixed_3 : decode prog_3_method_13_code 3 = .ok (.ldc 112, 2) := by decide +kernel
theorem d_Night_mixed_5 : decode prog_3_method_13_code 5 = .ok (.imul, 1) := by decide +kernel
theorem d_Night_mixed_6 : decode prog_3_method_13_code 6 = .ok (.sipush 12345, 3) := by decide +kernel
theorem d_Night_mixed_9 : decode prog_3_method_13_code 9 = .ok (.iadd, 1) := by decide +kernel
theorem d_Night_mixed_10 : decode prog_3_method_13_code 10 = .ok (.istore_n 2, 1) := by decide +kernel
theorem d_Night_mixed_11 : decode prog_3_method_13_code 11 = .ok (.iload_n 2, 1) := by decide +kernel
theorem d_Night_mixed_12 : decode prog_3_method_13_code 12 = .ok (.iload_n 2, 1) := by decide +kernel
theorem d_Night_mixed_13 : decode prog_3_method_13_code 13 = .ok (.bipush 15, 2) := by decide +kernel
theorem d_Night_mixed_15 : decode prog_3_method_13_code 15 = .ok (.iushr, 1) := by decide +kernel
theorem d_Night_mixed_16 : decode prog_3_method_13_code 16 = .ok (.ixor, 1) := by decide +kernel
theorem d_Night_mixed_17 : decode prog_3_method_13_code 17 = .ok (.ireturn, 1) := by decide +kernel
theorem d_Night_lot_0 : decode prog_3_method_12_code 0 = .ok (.iload_n 1, 1) := by decide +kernel
theorem d_Night_lot_1 : decode prog_3_method_12_code 1 = .ok (.sipush 159, 3) := by decide +kernel
theorem d_Night_lot_4 : decode prog_3_method_12_code 4 = .ok (.invokestatic 109, 3) := by decide +kernel
theorem d_Night_lot_7 : decode prog_3_method_12_code 7 = .ok (.iload_n 2, 1) := by decide +kernel
theorem d_Night_lot_8 : decode prog_3_method_12_code 8 = .ok (.invokestatic 109, 3) := by decide +kernel
theorem d_Night_lot_11 : decode prog_3_method_12_code 11 = .ok (.istore_n 3, 1) := by decide +kernel
theorem d_Night_lot_12 : decode prog_3_method_12_code 12 = .ok (.iload_n 0, 1) := by decide +kernel
theorem d_Night_lot_13 : decode prog_3_method_12_code 13 = .ok (.ifCond .le 11, 3) := by decide +kernel
theorem d_Night_lot_16 : decode prog_3_method_12_code 16 = .ok (.iload_n 3, 1) := by decide +kernel
theorem d_Night_lot_17 : decode prog_3_method_12_code 17 = .ok (.iconst 1, 1) := by decide +kernel
theorem d_Night_lot_18 : decode prog_3_method_12_code 18 = .ok (.iushr, 1) := by decide +kernel
theorem d_Night_lot_19 : decode prog_3_method_12_code 19 = .ok (.iload_n 0, 1) := by decide +kernel
theorem d_Night_lot_20 : decode prog_3_method_12_code 20 = .ok (.irem, 1) := by decide +kernel
theorem d_Night_lot_21 : decode prog_3_method_12_code 21 = .ok (.goto 4, 3) := by decide +kernel
theorem d_Night_lot_24 : decode prog_3_method_12_code 24 = .ok (.iconst 0, 1) := by decide +kernel
theorem d_Night_lot_25 : decode prog_3_method_12_code 25 = .ok (.ireturn, 1) := by decide +kernel
theorem d_Night_hasMoth_0 : decode prog_3_method_11_code 0 = .ok (.bipush 100, 2) := by decide +kernel
theorem d_Night_hasMoth_2 : decode prog_3_method_11_code 2 = .ok (.iload_n 1, 1) := by decide +kernel
theorem d_Night_hasMoth_3 : decode prog_3_method_11_code 3 = .ok (.bipush 16, 2) := by decide +kernel
theorem d_Night_hasMoth_5 : decode prog_3_method_11_code 5 = .ok (.iload_n 2, 1) := by decide +kernel
theorem d_Night_hasMoth_6 : decode prog_3_method_11_code 6 = .ok (.imul, 1) := by decide +kernel
theorem d_Night_hasMoth_7 : decode prog_3_method_11_code 7 = .ok (.bipush 8, 2) := by decide +kernel
theorem d_Night_hasMoth_9 : decode prog_3_method_11_code 9 = .ok (.iadd, 1) := by decide +kernel
theorem d_Night_hasMoth_10 : decode prog_3_method_11_code 10 = .ok (.invokestatic 92, 3) := by decide +kernel
theorem d_Night_hasMoth_13 : decode prog_3_method_11_code 13 = .ok (.aload_n 0, 1) := by decide +kernel
theorem d_Night_hasMoth_14 : decode prog_3_method_11_code 14 = .ok (.getfield 15, 3) := by decide +kernel
theorem d_Night_hasMoth_17 : decode prog_3_method_11_code 17 = .ok (.getfield 106, 3) := by decide +kernel
theorem d_Night_hasMoth_20 : decode prog_3_method_11_code 20 = .ok (.if_icmp .ge 7, 3) := by decide +kernel
theorem d_Night_hasMoth_23 : decode prog_3_method_11_code 23 = .ok (.iconst 1, 1) := by decide +kernel
theorem d_Night_hasMoth_24 : decode prog_3_method_11_code 24 = .ok (.goto 4, 3) := by decide +kernel
theorem d_Night_hasMoth_27 : decode prog_3_method_11_code 27 = .ok (.iconst 0, 1) := by decide +kernel
theorem d_Night_hasMoth_28 : decode prog_3_method_11_code 28 = .ok (.ireturn, 1) := by decide +kernel
theorem d_Night_letMothEat_0 : decode prog_3_method_10_code 0 = .ok (.aload_n 0, 1) := by decide +kernel
theorem d_Night_letMothEat_1 : decode prog_3_method_10_code 1 = .ok (.getfield 15, 3) := by decide +kernel
theorem d_Night_letMothEat_4 : decode prog_3_method_10_code 4 = .ok (.getfield 33, 3) := by decide +kernel
theorem d_Night_letMothEat_7 : decode prog_3_method_10_code 7 = .ok (.ifCond .le 55, 3) := by decide +kernel
theorem d_Night_letMothEat_10 : decode prog_3_method_10_code 10 = .ok (.aload_n 0, 1) := by decide +kernel
theorem d_Night_letMothEat_11 : decode prog_3_method_10_code 11 = .ok (.iload_n 2, 1) := by decide +kernel
theorem d_Night_letMothEat_12 : decode prog_3_method_10_code 12 = .ok (.aload_n 1, 1) := by decide +kernel
theorem d_Night_letMothEat_13 : decode prog_3_method_10_code 13 = .ok (.getfield 46, 3) := by decide +kernel
theorem d_Night_letMothEat_16 : decode prog_3_method_10_code 16 = .ok (.invokevirtual 96, 3) := by decide +kernel
theorem d_Night_letMothEat_19 : decode prog_3_method_10_code 19 = .ok (.ifCond .eq 43, 3) := by decide +kernel
theorem d_Night_letMothEat_22 : decode prog_3_method_10_code 22 = .ok (.aload_n 0, 1) := by decide +kernel
theorem d_Night_letMothEat_23 : decode prog_3_method_10_code 23 = .ok (.getfield 15, 3) := by decide +kernel
theorem d_Night_letMothEat_26 : decode prog_3_method_10_code 26 = .ok (.getfield 33, 3) := by decide +kernel
theorem d_Night_letMothEat_29 : decode prog_3_method_10_code 29 = .ok (.iload_n 2, 1) := by decide +kernel
theorem d_Night_letMothEat_30 : decode prog_3_method_10_code 30 = .ok (.bipush 16, 2) := by decide +kernel
theorem d_Night_letMothEat_32 : decode prog_3_method_10_code 32 = .ok (.aload_n 1, 1) := by decide +kernel
theorem d_Night_letMothEat_33 : decode prog_3_method_10_code 33 = .ok (.getfield 46, 3) := by decide +kernel
theorem d_Night_letMothEat_36 : decode prog_3_method_10_code 36 = .ok (.imul, 1) := by decide +kernel
theorem d_Night_letMothEat_37 : decode prog_3_method_10_code 37 = .ok (.bipush 9, 2) := by decide +kernel
theorem d_Night_letMothEat_39 : decode prog_3_method_10_code 39 = .ok (.iadd, 1) := by decide +kernel
theorem d_Night_letMothEat_40 : decode prog_3_method_10_code 40 = .ok (.invokestatic 92, 3) := by decide +kernel
theorem d_Night_letMothEat_43 : decode prog_3_method_10_code 43 = .ok (.istore_n 3, 1) := by decide +kernel
theorem d_Night_letMothEat_44 : decode prog_3_method_10_code 44 = .ok (.aload_n 1, 1) := by decide +kernel
theorem d_Night_letMothEat_45 : decode prog_3_method_10_code 45 = .ok (.getfield 100, 3) := by decide +kernel
theorem d_Night_letMothEat_48 : decode prog_3_method_10_code 48 = .ok (.iload_n 3, 1) := by decide +kernel
theorem d_Night_letMothEat_49 : decode prog_3_method_10_code 49 = .ok (.iconst 0, 1) := by decide +kernel
theorem d_Night_letMothEat_50 : decode prog_3_method_10_code 50 = .ok (.aload_n 1, 1) := by decide +kernel
theorem d_Night_letMothEat_51 : decode prog_3_method_10_code 51 = .ok (.getfield 100, 3) := by decide +kernel
theorem d_Night_letMothEat_54 : decode prog_3_method_10_code 54 = .ok (.iload_n 3, 1) := by decide +kernel
theorem d_Night_letMothEat_55 : decode prog_3_method_10_code 55 = .ok (.iaload, 1) := by decide +kernel
theorem d_Night_letMothEat_56 : decode prog_3_method_10_code 56 = .ok (.iconst 1, 1) := by decide +kernel
theorem d_Night_letMothEat_57 : decode prog_3_method_10_code 57 = .ok (.isub, 1) := by decide +kernel
theorem d_Night_letMothEat_58 : decode prog_3_method_10_code 58 = .ok (.invokestatic 103, 3) := by decide +kernel
theorem d_Night_letMothEat_61 : decode prog_3_method_10_code 61 = .ok (.iastore, 1) := by decide +kernel
theorem d_Night_letMothEat_62 : decode prog_3_method_10_code 62 = .ok (.return_, 1) := by decide +kernel
theorem d_Night_letSlip_0 : decode prog_3_method_9_code 0 = .ok (.iconst 0, 1) := by decide +kernel
theorem d_Night_letSlip_1 : decode prog_3_method_9_code 1 = .ok (.istore_n 3, 1) := by decide +kernel
theorem d_Night_letSlip_2 : decode prog_3_method_9_code 2 = .ok (.iload_n 3, 1) := by decide +kernel
theorem d_Night_letSlip_3 : decode prog_3_method_9_code 3 = .ok (.aload_n 0, 1) := by decide +kernel
theorem d_Night_letSlip_4 : decode prog_3_method_9_code 4 = .ok (.getfield 15, 3) := by decide +kernel
theorem d_Night_letSlip_7 : decode prog_3_method_9_code 7 = .ok (.getfield 33, 3) := by decide +kernel
theorem d_Night_letSlip_10 : decode prog_3_method_9_code 10 = .ok (.if_icmp .ge 41, 3) := by decide +kernel
theorem d_Night_letSlip_13 : decode prog_3_method_9_code 13 = .ok (.bipush 100, 2) := by decide +kernel
theorem d_Night_letSlip_15 : decode prog_3_method_9_code 15 = .ok (.iload_n 2, 1) := by decide +kernel
theorem d_Night_letSlip_16 : decode prog_3_method_9_code 16 = .ok (.bipush 16, 2) := by decide +kernel
theorem d_Night_letSlip_18 : decode prog_3_method_9_code 18 = .ok (.aload_n 1, 1) := by decide +kernel
theorem d_Night_letSlip_19 : decode prog_3_method_9_code 19 = .ok (.getfield 46, 3) := by decide +kernel
theorem d_Night_letSlip_22 : decode prog_3_method_9_code 22 = .ok (.imul, 1) := by decide +kernel
theorem d_Night_letSlip_23 : decode prog_3_method_9_code 23 = .ok (.iload_n 3, 1) := by decide +kernel
theorem d_Night_letSlip_24 : decode prog_3_method_9_code 24 = .ok (.iadd, 1) := by decide +kernel
theorem d_Night_letSlip_25 : decode prog_3_method_9_code 25 = .ok (.invokestatic 92, 3) := by decide +kernel
theorem d_Night_letSlip_28 : decode prog_3_method_9_code 28 = .ok (.aload_n 0, 1) := by decide +kernel
theorem d_Night_letSlip_29 : decode prog_3_method_9_code 29 = .ok (.getfield 9, 3) := by decide +kernel
theorem d_Night_letSlip_32 : decode prog_3_method_9_code 32 = .ok (.iload_n 3, 1) := by decide +kernel
theorem d_Night_letSlip_33 : decode prog_3_method_9_code 33 = .ok (.iaload, 1) := by decide +kernel
theorem d_Night_letSlip_34 : decode prog_3_method_9_code 34 = .ok (.if_icmp .ge 11, 3) := by decide +kernel
theorem d_Night_letSlip_37 : decode prog_3_method_9_code 37 = .ok (.aload_n 1, 1) := by decide +kernel
theorem d_Night_letSlip_38 : decode prog_3_method_9_code 38 = .ok (.getfield 58, 3) := by decide +kernel
theorem d_Night_letSlip_41 : decode prog_3_method_9_code 41 = .ok (.iload_n 3, 1) := by decide +kernel
theorem d_Night_letSlip_42 : decode prog_3_method_9_code 42 = .ok (.bipush (-2), 2) := by decide +kernel
theorem d_Night_letSlip_44 : decode prog_3_method_9_code 44 = .ok (.iastore, 1) := by decide +kernel
theorem d_Night_letSlip_45 : decode prog_3_method_9_code 45 = .ok (.iinc 3 1, 3) := by decide +kernel
theorem d_Night_letSlip_48 : decode prog_3_method_9_code 48 = .ok (.goto (-46), 3) := by decide +kernel
theorem d_Night_letSlip_51 : decode prog_3_method_9_code 51 = .ok (.return_, 1) := by decide +kernel
theorem d_Night_wakeOnNail_0 : decode prog_3_method_8_code 0 = .ok (.bipush (-2), 2) := by decide +kernel
theorem d_Night_wakeOnNail_2 : decode prog_3_method_8_code 2 = .ok (.istore_n 3, 1) := by decide +kernel
theorem d_Night_wakeOnNail_3 : decode prog_3_method_8_code 3 = .ok (.bipush (-2), 2) := by decide +kernel
theorem d_Night_wakeOnNail_5 : decode prog_3_method_8_code 5 = .ok (.istore 4, 2) := by decide +kernel
theorem d_Night_wakeOnNail_7 : decode prog_3_method_8_code 7 = .ok (.iconst 0, 1) := by decide +kernel
theorem d_Night_wakeOnNail_8 : decode prog_3_method_8_code 8 = .ok (.istore 5, 2) := by decide +kernel
theorem d_Night_wakeOnNail_10 : decode prog_3_method_8_code 10 = .ok (.iload 5, 2) := by decide +kernel
theorem d_Night_wakeOnNail_12 : decode prog_3_method_8_code 12 = .ok (.aload_n 0, 1) := by decide +kernel
theorem d_Night_wakeOnNail_13 : decode prog_3_method_8_code 13 = .ok (.getfield 15, 3) := by decide +kernel
theorem d_Night_wakeOnNail_16 : decode prog_3_method_8_code 16 = .ok (.getfield 33, 3) := by decide +kernel
theorem d_Night_wakeOnNail_19 : decode prog_3_method_8_code 19 = .ok (.if_icmp .ge 53, 3) := by decide +kernel
theorem d_Night_wakeOnNail_22 : decode prog_3_method_8_code 22 = .ok (.aload_n 1, 1) := by decide +kernel
theorem d_Night_wakeOnNail_23 : decode prog_3_method_8_code 23 = .ok (.iload 5, 2) := by decide +kernel
theorem d_Night_wakeOnNail_25 : decode prog_3_method_8_code 25 = .ok (.invokevirtual 86, 3) := by decide +kernel
theorem d_Night_wakeOnNail_28 : decode prog_3_method_8_code 28 = .ok (.iload_n 2, 1) := by decide +kernel
theorem d_Night_wakeOnNail_29 : decode prog_3_method_8_code 29 = .ok (.if_icmp .ne 37, 3) := by decide +kernel
theorem d_Night_wakeOnNail_32 : decode prog_3_method_8_code 32 = .ok (.iload_n 3, 1) := by decide +kernel
theorem d_Night_wakeOnNail_33 : decode prog_3_method_8_code 33 = .ok (.bipush (-2), 2) := by decide +kernel
theorem d_Night_wakeOnNail_35 : decode prog_3_method_8_code 35 = .ok (.if_icmp .ne 15, 3) := by decide +kernel
theorem d_Night_wakeOnNail_38 : decode prog_3_method_8_code 38 = .ok (.aload_n 1, 1) := by decide +kernel
theorem d_Night_wakeOnNail_39 : decode prog_3_method_8_code 39 = .ok (.getfield 89, 3) := by decide +kernel
theorem d_Night_wakeOnNail_42 : decode prog_3_method_8_code 42 = .ok (.iload 5, 2) := by decide +kernel
theorem d_Night_wakeOnNail_44 : decode prog_3_method_8_code 44 = .ok (.iaload, 1) := by decide +kernel
theorem d_Night_wakeOnNail_45 : decode prog_3_method_8_code 45 = .ok (.istore 4, 2) := by decide +kernel
theorem d_Night_wakeOnNail_47 : decode prog_3_method_8_code 47 = .ok (.goto 16, 3) := by decide +kernel
theorem d_Night_wakeOnNail_50 : decode prog_3_method_8_code 50 = .ok (.aload_n 1, 1) := by decide +kernel
theorem d_Night_wakeOnNail_51 : decode prog_3_method_8_code 51 = .ok (.getfield 89, 3) := by decide +kernel
theorem d_Night_wakeOnNail_54 : decode prog_3_method_8_code 54 = .ok (.iload_n 3, 1) := by decide +kernel
theorem d_Night_wakeOnNail_55 : decode prog_3_method_8_code 55 = .ok (.aload_n 1, 1) := by decide +kernel
theorem d_Night_wakeOnNail_56 : decode prog_3_method_8_code 56 = .ok (.getfield 89, 3) := by decide +kernel
theorem d_Night_wakeOnNail_59 : decode prog_3_method_8_code 59 = .ok (.iload 5, 2) := by decide +kernel
theorem d_Night_wakeOnNail_61 : decode prog_3_method_8_code 61 = .ok (.iaload, 1) := by decide +kernel
theorem d_Night_wakeOnNail_62 : decode prog_3_method_8_code 62 = .ok (.iastore, 1) := by decide +kernel
theorem d_Night_wakeOnNail_63 : decode prog_3_method_8_code 63 = .ok (.iload 5, 2) := by decide +kernel
theorem d_Night_wakeOnNail_65 : decode prog_3_method_8_code 65 = .ok (.istore_n 3, 1) := by decide +kernel
theorem d_Night_wakeOnNail_66 : decode prog_3_method_8_code 66 = .ok (.iinc 5 1, 3) := by decide +kernel
theorem d_Night_wakeOnNail_69 : decode prog_3_method_8_code 69 = .ok (.goto (-59), 3) := by decide +kernel
theorem d_Night_wakeOnNail_72 : decode prog_3_method_8_code 72 = .ok (.iload_n 3, 1) := by decide +kernel
theorem d_Night_wakeOnNail_73 : decode prog_3_method_8_code 73 = .ok (.bipush (-2), 2) := by decide +kernel
theorem d_Night_wakeOnNail_75 : decode prog_3_method_8_code 75 = .ok (.if_icmp .eq 11, 3) := by decide +kernel
theorem d_Night_wakeOnNail_78 : decode prog_3_method_8_code 78 = .ok (.aload_n 1, 1) := by decide +kernel
theorem d_Night_wakeOnNail_79 : decode prog_3_method_8_code 79 = .ok (.getfield 89, 3) := by decide +kernel
theorem d_Night_wakeOnNail_82 : decode prog_3_method_8_code 82 = .ok (.iload_n 3, 1) := by decide +kernel
theorem d_Night_wakeOnNail_83 : decode prog_3_method_8_code 83 = .ok (.iload 4, 2) := by decide +kernel
theorem d_Night_wakeOnNail_85 : decode prog_3_method_8_code 85 = .ok (.iastore, 1) := by decide +kernel
theorem d_Night_wakeOnNail_86 : decode prog_3_method_8_code 86 = .ok (.return_, 1) := by decide +kernel
theorem d_Night_wakeAll_0 : decode prog_3_method_7_code 0 = .ok (.iconst 0, 1) := by decide +kernel
theorem d_Night_wakeAll_1 : decode prog_3_method_7_code 1 = .ok (.istore_n 2, 1) := by decide +kernel
theorem d_Night_wakeAll_2 : decode prog_3_method_7_code 2 = .ok (.iload_n 2, 1) := by decide +kernel
theorem d_Night_wakeAll_3 : decode prog_3_method_7_code 3 = .ok (.iconst 5, 1) := by decide +kernel
theorem d_Night_wakeAll_4 : decode prog_3_method_7_code 4 = .ok (.if_icmp .ge 15, 3) := by decide +kernel
theorem d_Night_wakeAll_7 : decode prog_3_method_7_code 7 = .ok (.aload_n 0, 1) := by decide +kernel
theorem d_Night_wakeAll_8 : decode prog_3_method_7_code 8 = .ok (.aload_n 1, 1) := by decide +kernel
theorem d_Night_wakeAll_9 : decode prog_3_method_7_code 9 = .ok (.iload_n 2, 1) := by decide +kernel
theorem d_Night_wakeAll_10 : decode prog_3_method_7_code 10 = .ok (.invokevirtual 83, 3) := by decide +kernel
theorem d_Night_wakeAll_13 : decode prog_3_method_7_code 13 = .ok (.iinc 2 1, 3) := by decide +kernel
theorem d_Night_wakeAll_16 : decode prog_3_method_7_code 16 = .ok (.goto (-14), 3) := by decide +kernel
theorem d_Night_wakeAll_19 : decode prog_3_method_7_code 19 = .ok (.return_, 1) := by decide +kernel
theorem d_Night_goByOnce_0 : decode prog_3_method_5_code 0 = .ok (.iconst 0, 1) := by decide +kernel
theorem d_Night_goByOnce_1 : decode prog_3_method_5_code 1 = .ok (.istore_n 3, 1) := by decide +kernel
theorem d_Night_goByOnce_2 : decode prog_3_method_5_code 2 = .ok (.iload_n 3, 1) := by decide +kernel
theorem d_Night_goByOnce_3 : decode prog_3_method_5_code 3 = .ok (.aload_n 0, 1) := by decide +kernel
theorem d_Night_goByOnce_4 : decode prog_3_method_5_code 4 = .ok (.getfield 15, 3) := by decide +kernel
theorem d_Night_goByOnce_7 : decode prog_3_method_5_code 7 = .ok (.getfield 33, 3) := by decide +kernel
theorem d_Night_goByOnce_10 : decode prog_3_method_5_code 10 = .ok (.if_icmp .ge 15, 3) := by decide +kernel
theorem d_Night_goByOnce_13 : decode prog_3_method_5_code 13 = .ok (.aload_n 0, 1) := by decide +kernel
theorem d_Night_goByOnce_14 : decode prog_3_method_5_code 14 = .ok (.aload_n 1, 1) := by decide +kernel
theorem d_Night_goByOnce_15 : decode prog_3_method_5_code 15 = .ok (.iload_n 3, 1) := by decide +kernel
theorem d_Night_goByOnce_16 : decode prog_3_method_5_code 16 = .ok (.invokevirtual 39, 3) := by decide +kernel
theorem d_Night_goByOnce_19 : decode prog_3_method_5_code 19 = .ok (.iinc 3 1, 3) := by decide +kernel
theorem d_Night_goByOnce_22 : decode prog_3_method_5_code 22 = .ok (.goto (-20), 3) := by decide +kernel
theorem d_Night_goByOnce_25 : decode prog_3_method_5_code 25 = .ok (.aload_n 0, 1) := by decide +kernel
theorem d_Night_goByOnce_26 : decode prog_3_method_5_code 26 = .ok (.aload_n 1, 1) := by decide +kernel
theorem d_Night_goByOnce_27 : decode prog_3_method_5_code 27 = .ok (.invokevirtual 42, 3) := by decide +kernel
theorem d_Night_goByOnce_30 : decode prog_3_method_5_code 30 = .ok (.aload_n 0, 1) := by decide +kernel
theorem d_Night_goByOnce_31 : decode prog_3_method_5_code 31 = .ok (.aload_n 1, 1) := by decide +kernel
theorem d_Night_goByOnce_32 : decode prog_3_method_5_code 32 = .ok (.iload_n 2, 1) := by decide +kernel
theorem d_Night_goByOnce_33 : decode prog_3_method_5_code 33 = .ok (.invokevirtual 49, 3) := by decide +kernel
theorem d_Night_goByOnce_36 : decode prog_3_method_5_code 36 = .ok (.aload_n 0, 1) := by decide +kernel
theorem d_Night_goByOnce_37 : decode prog_3_method_5_code 37 = .ok (.aload_n 1, 1) := by decide +kernel
theorem d_Night_goByOnce_38 : decode prog_3_method_5_code 38 = .ok (.iload_n 2, 1) := by decide +kernel
theorem d_Night_goByOnce_39 : decode prog_3_method_5_code 39 = .ok (.invokevirtual 52, 3) := by decide +kernel
theorem d_Night_goByOnce_42 : decode prog_3_method_5_code 42 = .ok (.aload_n 1, 1) := by decide +kernel
theorem d_Night_goByOnce_43 : decode prog_3_method_5_code 43 = .ok (.dup, 1) := by decide +kernel
theorem d_Night_goByOnce_44 : decode prog_3_method_5_code 44 = .ok (.getfield 46, 3) := by decide +kernel
theorem d_Night_goByOnce_47 : decode prog_3_method_5_code 47 = .ok (.iconst 1, 1) := by decide +kernel
theorem d_Night_goByOnce_48 : decode prog_3_method_5_code 48 = .ok (.iadd, 1) := by decide +kernel
theorem d_Night_goByOnce_49 : decode prog_3_method_5_code 49 = .ok (.putfield 46, 3) := by decide +kernel
theorem d_Night_goByOnce_52 : decode prog_3_method_5_code 52 = .ok (.return_, 1) := by decide +kernel
theorem d_Night_goByWithAll_0 : decode prog_3_method_2_code 0 = .ok (.iconst 0, 1) := by decide +kernel
theorem d_Night_goByWithAll_1 : decode prog_3_method_2_code 1 = .ok (.istore 4, 2) := by decide +kernel
theorem d_Night_goByWithAll_3 : decode prog_3_method_2_code 3 = .ok (.iload 4, 2) := by decide +kernel
theorem d_Night_goByWithAll_5 : decode prog_3_method_2_code 5 = .ok (.iload_n 2, 1) := by decide +kernel
theorem d_Night_goByWithAll_6 : decode prog_3_method_2_code 6 = .ok (.if_icmp .ge 15, 3) := by decide +kernel
theorem d_Night_goByWithAll_9 : decode prog_3_method_2_code 9 = .ok (.aload_n 0, 1) := by decide +kernel
theorem d_Night_goByWithAll_10 : decode prog_3_method_2_code 10 = .ok (.aload_n 1, 1) := by decide +kernel
theorem d_Night_goByWithAll_11 : decode prog_3_method_2_code 11 = .ok (.iload_n 3, 1) := by decide +kernel
theorem d_Night_goByWithAll_12 : decode prog_3_method_2_code 12 = .ok (.invokevirtual 23, 3) := by decide +kernel
theorem d_Night_goByWithAll_15 : decode prog_3_method_2_code 15 = .ok (.iinc 4 1, 3) := by decide +kernel
theorem d_Night_goByWithAll_18 : decode prog_3_method_2_code 18 = .ok (.goto (-15), 3) := by decide +kernel
theorem d_Night_goByWithAll_21 : decode prog_3_method_2_code 21 = .ok (.return_, 1) := by decide +kernel
theorem d_Night_staysHung_0 : decode prog_3_method_3_code 0 = .ok (.iconst 0, 1) := by decide +kernel
theorem d_Night_staysHung_1 : decode prog_3_method_3_code 1 = .ok (.istore 5, 2) := by decide +kernel
theorem d_Night_staysHung_3 : decode prog_3_method_3_code 3 = .ok (.iload 5, 2) := by decide +kernel
theorem d_Night_staysHung_5 : decode prog_3_method_3_code 5 = .ok (.iload_n 2, 1) := by decide +kernel
theorem d_Night_staysHung_6 : decode prog_3_method_3_code 6 = .ok (.if_icmp .ge 24, 3) := by decide +kernel
theorem d_Night_staysHung_9 : decode prog_3_method_3_code 9 = .ok (.aload_n 1, 1) := by decide +kernel
theorem d_Night_staysHung_10 : decode prog_3_method_3_code 10 = .ok (.iload 4, 2) := by decide +kernel
theorem d_Night_staysHung_12 : decode prog_3_method_3_code 12 = .ok (.invokevirtual 27, 3) := by decide +kernel
theorem d_Night_staysHung_15 : decode prog_3_method_3_code 15 = .ok (.ifCond .eq 15, 3) := by decide +kernel
theorem d_Night_staysHung_18 : decode prog_3_method_3_code 18 = .ok (.aload_n 0, 1) := by decide +kernel
theorem d_Night_staysHung_19 : decode prog_3_method_3_code 19 = .ok (.aload_n 1, 1) := by decide +kernel
theorem d_Night_staysHung_20 : decode prog_3_method_3_code 20 = .ok (.iload_n 3, 1) := by decide +kernel
theorem d_Night_staysHung_21 : decode prog_3_method_3_code 21 = .ok (.invokevirtual 23, 3) := by decide +kernel
theorem d_Night_staysHung_24 : decode prog_3_method_3_code 24 = .ok (.iinc 5 1, 3) := by decide +kernel
theorem d_Night_staysHung_27 : decode prog_3_method_3_code 27 = .ok (.goto (-24), 3) := by decide +kernel
theorem d_Night_staysHung_30 : decode prog_3_method_3_code 30 = .ok (.aload_n 1, 1) := by decide +kernel
theorem d_Night_staysHung_31 : decode prog_3_method_3_code 31 = .ok (.iload 4, 2) := by decide +kernel
theorem d_Night_staysHung_33 : decode prog_3_method_3_code 33 = .ok (.invokevirtual 27, 3) := by decide +kernel
theorem d_Night_staysHung_36 : decode prog_3_method_3_code 36 = .ok (.ireturn, 1) := by decide +kernel
theorem d_Night_goByQuietly_0 : decode prog_3_method_4_code 0 = .ok (.iconst 0, 1) := by decide +kernel
theorem d_Night_goByQuietly_1 : decode prog_3_method_4_code 1 = .ok (.istore_n 2, 1) := by decide +kernel
theorem d_Night_goByQuietly_2 : decode prog_3_method_4_code 2 = .ok (.iload_n 2, 1) := by decide +kernel
theorem d_Night_goByQuietly_3 : decode prog_3_method_4_code 3 = .ok (.aload_n 0, 1) := by decide +kernel
theorem d_Night_goByQuietly_4 : decode prog_3_method_4_code 4 = .ok (.getfield 15, 3) := by decide +kernel
theorem d_Night_goByQuietly_7 : decode prog_3_method_4_code 7 = .ok (.getfield 33, 3) := by decide +kernel
theorem d_Night_goByQuietly_10 : decode prog_3_method_4_code 10 = .ok (.if_icmp .ge 15, 3) := by decide +kernel
theorem d_Night_goByQuietly_13 : decode prog_3_method_4_code 13 = .ok (.aload_n 0, 1) := by decide +kernel
theorem d_Night_goByQuietly_14 : decode prog_3_method_4_code 14 = .ok (.aload_n 1, 1) := by decide +kernel
theorem d_Night_goByQuietly_15 : decode prog_3_method_4_code 15 = .ok (.iload_n 2, 1) := by decide +kernel
theorem d_Night_goByQuietly_16 : decode prog_3_method_4_code 16 = .ok (.invokevirtual 39, 3) := by decide +kernel
theorem d_Night_goByQuietly_19 : decode prog_3_method_4_code 19 = .ok (.iinc 2 1, 3) := by decide +kernel
theorem d_Night_goByQuietly_22 : decode prog_3_method_4_code 22 = .ok (.goto (-20), 3) := by decide +kernel
theorem d_Night_goByQuietly_25 : decode prog_3_method_4_code 25 = .ok (.aload_n 0, 1) := by decide +kernel
theorem d_Night_goByQuietly_26 : decode prog_3_method_4_code 26 = .ok (.aload_n 1, 1) := by decide +kernel
theorem d_Night_goByQuietly_27 : decode prog_3_method_4_code 27 = .ok (.invokevirtual 42, 3) := by decide +kernel
theorem d_Night_goByQuietly_30 : decode prog_3_method_4_code 30 = .ok (.aload_n 1, 1) := by decide +kernel
theorem d_Night_goByQuietly_31 : decode prog_3_method_4_code 31 = .ok (.dup, 1) := by decide +kernel
theorem d_Night_goByQuietly_32 : decode prog_3_method_4_code 32 = .ok (.getfield 46, 3) := by decide +kernel
theorem d_Night_goByQuietly_35 : decode prog_3_method_4_code 35 = .ok (.iconst 1, 1) := by decide +kernel
theorem d_Night_goByQuietly_36 : decode prog_3_method_4_code 36 = .ok (.iadd, 1) := by decide +kernel
theorem d_Night_goByQuietly_37 : decode prog_3_method_4_code 37 = .ok (.putfield 46, 3) := by decide +kernel
theorem d_Night_goByQuietly_40 : decode prog_3_method_4_code 40 = .ok (.return_, 1) := by decide +kernel
def w_Night_crook (N : Nat) (x0 : Nat) (x1 : Nat) (x2 : Int32) (h : qH) (Q : qH → Prop) : Prop := (qS h x1 = .inl 6 ∧ w_State_isHung N x1 x2 h (fun r2 h3 => ((¬ r2 = 0 → (qS h3 x1 = .inl 6 ∧ (qok h3 (qR h3 x1 3) 0 x2 ∧ (∀ y7 : Int32, y7 = (qI h3 (qR h3 x1 3) (x2).toNatClampNeg) → (qS h3 x0 = .inl 1 ∧ (w_State_othersBeside N x1 x2 h3 (fun r9 h10 => (qS h10 (qR h3 x0 1) = .inl 5 ∧ w_Reck_lookAt N (qR h3 x0 1) x1 x2 y7 r9 h10 (fun h12 => (qS h12 x0 = .inl 1 ∧ (qS h12 (qR h12 x0 1) = .inl 5 ∧ w_Reck_lawTells N (qR h12 x0 1) (2 : Int32) h12 (fun r15 h16 => (qok h16 (qR h12 x0 2) 0 x2 ∧ ∀ h18 : qH, h18 = qsI h16 (qR h12 x0 2) (x2).toNatClampNeg r15 → (qS h18 x1 = .inl 6 ∧ (qok h18 (qR h18 x1 5) 0 x2 ∧ (qS h18 x0 = .inl 1 ∧ (qS h18 (qR h18 x0 1) = .inl 5 ∧ w_Reck_lawTells N (qR h18 x0 1) (0 : Int32) h18 (fun r23 h24 => (qok h24 (qR h18 x1 5) 0 x2 ∧ ∀ h26 : qH, h26 = qsI h24 (qR h18 x1 5) (x2).toNatClampNeg (if ((qI h18 (qR h18 x1 5) (x2).toNatClampNeg) + r23) < (999 : Int32) then ((qI h18 (qR h18 x1 5) (x2).toNatClampNeg) + r23) else (999 : Int32)) → (qS h26 x1 = .inl 6 ∧ (qok h26 (qR h26 x1 6) 0 y7 ∧ (qS h26 x0 = .inl 1 ∧ (qS h26 (qR h26 x0 1) = .inl 5 ∧ w_Reck_lawTells N (qR h26 x0 1) (1 : Int32) h26 (fun r31 h32 => (qok h32 (qR h26 x1 6) 0 y7 ∧ ∀ h34 : qH, h34 = qsI h32 (qR h26 x1 6) (y7).toNatClampNeg (if ((qI h26 (qR h26 x1 6) (y7).toNatClampNeg) + r31) < (99 : Int32) then ((qI h26 (qR h26 x1 6) (y7).toNatClampNeg) + r31) else (99 : Int32)) → Q h34))))))))))))))))))))))))) ∧ (r2 = 0 → (qS h3 x1 = .inl 6 ∧ (qok h3 (qR h3 x1 5) 0 x2 ∧ ∀ h37 : qH, h37 = qsI h3 (qR h3 x1 5) (x2).toNatClampNeg (0 : Int32) → (qS h37 x0 = .inl 1 ∧ (qok h37 (qR h37 x0 2) 0 x2 ∧ ∀ h40 : qH, h40 = qsI h37 (qR h37 x0 2) (x2).toNatClampNeg (0 : Int32) → Q h40))))))))
def w_Night_mixed (N : Nat) (x0 : Int32) (x1 : Int32) (h : qH) (Q : Int32 → qH → Prop) : Prop := (∀ y1 : Int32, y1 = (((x0 ^^^ x1) * (1103515245 : Int32)) + (12345 : Int32)) → Q (y1 ^^^ ((y1).toUInt32 >>> (((15 : Int32)).toUInt32 &&& Int32.toUInt32 31)).toInt32) h)
def w_Night_lot (N : Nat) (x0 : Int32) (x1 : Int32) (x2 : Int32) (h : qH) (Q : Int32 → qH → Prop) : Prop := (w_Night_mixed N x1 (159 : Int32) h (fun r1 h2 => (w_Night_mixed N r1 x2 h2 (fun r3 h4 => ((x0 ≤ 0 → Q (0 : Int32) h4) ∧ (¬ x0 ≤ 0 → (¬ x0 = 0 ∧ Q (((r3).toUInt32 >>> (((1 : Int32)).toUInt32 &&& Int32.toUInt32 31)).toInt32 - ((r3).toUInt32 >>> (((1 : Int32)).toUInt32 &&& Int32.toUInt32 31)).toInt32 / x0 * x0) h4)))))))
def w_Night_hasMoth (N : Nat) (x0 : Nat) (x1 : Int32) (x2 : Int32) (h : qH) (Q : Int32 → qH → Prop) : Prop := (w_Night_lot N (100 : Int32) x1 (((16 : Int32) * x2) + (8 : Int32)) h (fun r1 h2 => (qS h2 x0 = .inl 1 ∧ (qS h2 (qR h2 x0 0) = .inl 8 ∧ (((qI h2 (qR h2 x0 0) 11) ≤ r1 → (qzb (0 : Int32) ∧ Q (0 : Int32) h2)) ∧ (¬ (qI h2 (qR h2 x0 0) 11) ≤ r1 → (qzb (1 : Int32) ∧ Q (1 : Int32) h2)))))))
def w_Night_letMothEat (N : Nat) (x0 : Nat) (x1 : Nat) (x2 : Int32) (h : qH) (Q : qH → Prop) : Prop := (qS h x0 = .inl 1 ∧ (qS h (qR h x0 0) = .inl 8 ∧ (((qI h (qR h x0 0) 3) ≤ 0 → Q h) ∧ (¬ (qI h (qR h x0 0) 3) ≤ 0 → (qS h x1 = .inl 6 ∧ (w_Night_hasMoth N x0 x2 (qI h x1 1) h (fun r5 h6 => ((r5 = 0 → Q h6) ∧ (¬ r5 = 0 → (qS h6 x0 = .inl 1 ∧ (qS h6 (qR h6 x0 0) = .inl 8 ∧ (qS h6 x1 = .inl 6 ∧ (w_Night_lot N (qI h6 (qR h6 x0 0) 3) x2 (((16 : Int32) * (qI h6 x1 1)) + (9 : Int32)) h6 (fun r11 h12 => (qS h12 x1 = .inl 6 ∧ (qok h12 (qR h12 x1 2) 0 r11 ∧ (∀ h15 : qH, h15 = qsI h12 (qR h12 x1 2) (r11).toNatClampNeg (if (0 : Int32) < ((qI h12 (qR h12 x1 2) (r11).toNatClampNeg) - (1 : Int32)) then ((qI h12 (qR h12 x1 2) (r11).toNatClampNeg) - (1 : Int32)) else (0 : Int32)) → Q h15)))))))))))))))))
def w_Night_letSlip_2 (N : Nat) : Nat → Nat → Nat → Int32 → Int32 → qH → (qH → Prop) → Prop
  | 0 => fun _ _ _ _ _ _ => False
  | k + 1 => fun x0 x1 x2 x3 h Q => (qS h x0 = .inl 1 ∧ (qS h (qR h x0 0) = .inl 8 ∧ (((qI h (qR h x0 0) 3) ≤ x3 → Q h) ∧ (¬ (qI h (qR h x0 0) 3) ≤ x3 → (qS h x1 = .inl 6 ∧ (w_Night_lot N (100 : Int32) x2 (((16 : Int32) * (qI h x1 1)) + x3) h (fun r5 h6 => (qS h6 x0 = .inl 1 ∧ (qok h6 (qR h6 x0 2) 0 x3 ∧ (((qI h6 (qR h6 x0 2) (x3).toNatClampNeg) ≤ r5 → (w_Night_letSlip_2 N k x0 x1 x2 (x3 + (1 : Int32)) h6 Q)) ∧ (¬ (qI h6 (qR h6 x0 2) (x3).toNatClampNeg) ≤ r5 → (qS h6 x1 = .inl 6 ∧ (qok h6 (qR h6 x1 3) 0 x3 ∧ ∀ h12 : qH, h12 = qsI h6 (qR h6 x1 3) (x3).toNatClampNeg (-2 : Int32) → (w_Night_letSlip_2 N k x0 x1 x2 (x3 + (1 : Int32)) h12 Q))))))))))))))
def w_Night_letSlip (N : Nat) (x0 : Nat) (x1 : Nat) (x2 : Int32) (h : qH) (Q : qH → Prop) : Prop := (w_Night_letSlip_2 N N x0 x1 x2 (0 : Int32) h Q )
def w_Night_wakeOnNail_10 (N : Nat) : Nat → Nat → Nat → Int32 → Int32 → Int32 → Int32 → qH → (qH → Prop) → (Nat → Int32 → Int32 → qH → Prop) → Prop
  | 0 => fun _ _ _ _ _ _ _ _ _ => False
  | k + 1 => fun x0 x1 x2 x3 x4 x5 h Q K72 => (qS h x0 = .inl 1 ∧ (qS h (qR h x0 0) = .inl 8 ∧ (((qI h (qR h x0 0) 3) ≤ x5 → (K72 x1 x3 x4 h)) ∧ (¬ (qI h (qR h x0 0) 3) ≤ x5 → (qS h x1 = .inl 6 ∧ w_State_nailOf N x1 x5 h (fun r5 h6 => ((¬ r5 = x2 → (w_Night_wakeOnNail_10 N k x0 x1 x2 x3 x4 (x5 + (1 : Int32)) h6 Q K72)) ∧ (r5 = x2 → ((¬ x3 = (-2 : Int32) → (qS h6 x1 = .inl 6 ∧ (qok h6 (qR h6 x1 4) 0 x5 ∧ (qok h6 (qR h6 x1 4) 0 x3 ∧ ∀ h12 : qH, h12 = qsI h6 (qR h6 x1 4) (x3).toNatClampNeg (qI h6 (qR h6 x1 4) (x5).toNatClampNeg) → (w_Night_wakeOnNail_10 N k x0 x1 x2 x5 x4 (x5 + (1 : Int32)) h12 Q K72))))) ∧ (x3 = (-2 : Int32) → (qS h6 x1 = .inl 6 ∧ (qok h6 (qR h6 x1 4) 0 x5 ∧ (∀ y15 : Int32, y15 = (qI h6 (qR h6 x1 4) (x5).toNatClampNeg) → (w_Night_wakeOnNail_10 N k x0 x1 x2 x5 y15 (x5 + (1 : Int32)) h6 Q K72))))))))))))))
def w_Night_wakeOnNail (N : Nat) (x0 : Nat) (x1 : Nat) (x2 : Int32) (h : qH) (Q : qH → Prop) : Prop := (w_Night_wakeOnNail_10 N N x0 x1 x2 (-2 : Int32) (-2 : Int32) (0 : Int32) h Q (fun x1 x2 x3 h4 => ((x2 = (-2 : Int32) → Q h4) ∧ (¬ x2 = (-2 : Int32) → (qS h4 x1 = .inl 6 ∧ (qok h4 (qR h4 x1 4) 0 x2 ∧ ∀ h8 : qH, h8 = qsI h4 (qR h4 x1 4) (x2).toNatClampNeg x3 → Q h8))))))
def w_Night_wakeAll_2 (N : Nat) : Nat → Nat → Nat → Int32 → qH → (qH → Prop) → Prop
  | 0 => fun _ _ _ _ _ => False
  | k + 1 => fun x0 x1 x2 h Q => (((5 : Int32) ≤ x2 → Q h) ∧ (¬ (5 : Int32) ≤ x2 → (qS h x0 = .inl 1 ∧ w_Night_wakeOnNail N x0 x1 x2 h (fun h3 => (w_Night_wakeAll_2 N k x0 x1 (x2 + (1 : Int32)) h3 Q)))))
def w_Night_wakeAll (N : Nat) (x0 : Nat) (x1 : Nat) (h : qH) (Q : qH → Prop) : Prop := (w_Night_wakeAll_2 N N x0 x1 (0 : Int32) h Q )
def w_Night_goByOnce_2 (N : Nat) : Nat → Nat → Nat → Int32 → Int32 → qH → (qH → Prop) → (Nat → Nat → Int32 → qH → Prop) → Prop
  | 0 => fun _ _ _ _ _ _ _ => False
  | k + 1 => fun x0 x1 x2 x3 h Q K25 => (qS h x0 = .inl 1 ∧ (qS h (qR h x0 0) = .inl 8 ∧ (((qI h (qR h x0 0) 3) ≤ x3 → (K25 x0 x1 x2 h)) ∧ (¬ (qI h (qR h x0 0) 3) ≤ x3 → (w_Night_crook N x0 x1 x3 h (fun h4 => (w_Night_goByOnce_2 N k x0 x1 x2 (x3 + (1 : Int32)) h4 Q K25)))))))
def w_Night_goByOnce (N : Nat) (x0 : Nat) (x1 : Nat) (x2 : Int32) (h : qH) (Q : qH → Prop) : Prop := (w_Night_goByOnce_2 N N x0 x1 x2 (0 : Int32) h Q (fun x1 x2 x3 h4 => (qS h4 x1 = .inl 1 ∧ w_Night_wakeAll N x1 x2 h4 (fun h6 => (qS h6 x1 = .inl 1 ∧ w_Night_letSlip N x1 x2 x3 h6 (fun h8 => (qS h8 x1 = .inl 1 ∧ w_Night_letMothEat N x1 x2 x3 h8 (fun h10 => (qS h10 x2 = .inl 6 ∧ (∀ h12 : qH, h12 = qsI h10 x2 1 ((qI h10 x2 1) + (1 : Int32)) → Q h12))))))))))
def w_Night_goByWithAll_3 (N : Nat) : Nat → Nat → Nat → Int32 → Int32 → Int32 → qH → (qH → Prop) → Prop
  | 0 => fun _ _ _ _ _ _ _ => False
  | k + 1 => fun x0 x1 x2 x3 x4 h Q => ((x2 ≤ x4 → Q h) ∧ (¬ x2 ≤ x4 → (qS h x0 = .inl 1 ∧ w_Night_goByOnce N x0 x1 x3 h (fun h3 => (w_Night_goByWithAll_3 N k x0 x1 x2 x3 (x4 + (1 : Int32)) h3 Q)))))
def w_Night_goByWithAll (N : Nat) (x0 : Nat) (x1 : Nat) (x2 : Int32) (x3 : Int32) (h : qH) (Q : qH → Prop) : Prop := (w_Night_goByWithAll_3 N N x0 x1 x2 x3 (0 : Int32) h Q )
def w_Night_staysHung_3 (N : Nat) : Nat → Nat → Nat → Int32 → Int32 → Int32 → Int32 → qH → (Int32 → qH → Prop) → Prop
  | 0 => fun _ _ _ _ _ _ _ _ => False
  | k + 1 => fun x0 x1 x2 x3 x4 x5 h Q => ((x2 ≤ x5 → (qS h x1 = .inl 6 ∧ w_State_isHung N x1 x4 h (fun r3 h4 => (qzb r3 ∧ Q r3 h4)))) ∧ (¬ x2 ≤ x5 → (qS h x1 = .inl 6 ∧ w_State_isHung N x1 x4 h (fun r6 h7 => ((r6 = 0 → (qS h7 x1 = .inl 6 ∧ w_State_isHung N x1 x4 h7 (fun r10 h11 => (qzb r10 ∧ Q r10 h11)))) ∧ (¬ r6 = 0 → (qS h7 x0 = .inl 1 ∧ w_Night_goByOnce N x0 x1 x3 h7 (fun h13 => (w_Night_staysHung_3 N k x0 x1 x2 x3 x4 (x5 + (1 : Int32)) h13 Q)))))))))
def w_Night_staysHung (N : Nat) (x0 : Nat) (x1 : Nat) (x2 : Int32) (x3 : Int32) (x4 : Int32) (h : qH) (Q : Int32 → qH → Prop) : Prop := (w_Night_staysHung_3 N N x0 x1 x2 x3 x4 (0 : Int32) h Q )
def w_Night_goByQuietly_2 (N : Nat) : Nat → Nat → Nat → Int32 → qH → (qH → Prop) → (Nat → Nat → qH → Prop) → Prop
  | 0 => fun _ _ _ _ _ _ => False
  | k + 1 => fun x0 x1 x2 h Q K25 => (qS h x0 = .inl 1 ∧ (qS h (qR h x0 0) = .inl 8 ∧ (((qI h (qR h x0 0) 3) ≤ x2 → (K25 x0 x1 h)) ∧ (¬ (qI h (qR h x0 0) 3) ≤ x2 → (w_Night_crook N x0 x1 x2 h (fun h4 => (w_Night_goByQuietly_2 N k x0 x1 (x2 + (1 : Int32)) h4 Q K25)))))))
def w_Night_goByQuietly (N : Nat) (x0 : Nat) (x1 : Nat) (h : qH) (Q : qH → Prop) : Prop := (w_Night_goByQuietly_2 N N x0 x1 (0 : Int32) h Q (fun x1 x2 h3 => (qS h3 x1 = .inl 1 ∧ w_Night_wakeAll N x1 x2 h3 (fun h5 => (qS h5 x2 = .inl 6 ∧ (∀ h7 : qH, h7 = qsI h5 x2 1 ((qI h5 x2 1) + (1 : Int32)) → Q h7))))))
section QG
variable {p : Program} {l : Launch} {e : Env} {s : State} {m : MethodId} {args : Array Value} {below : List Frame} {meth : Method} {c : Code} {D : va_G} {cy : Nat → ClassId} {b : Nat} {adK adV : Nat → Nat}

set_option maxRecDepth 4000 in
theorem t_Night_crook {adK adV : Nat → Nat} (l : Launch) (D : va_G) (cy : Nat → ClassId) (b : Nat) (N : Nat) (x0 : Nat) (x1 : Nat) (x2 : Int32) (h : qH) (Q : qH → Prop) (hw : w_Night_crook N x0 x1 x2 h Q) : Met l y_Night_crook (Cond.code y_Night_crook prog_3_method_6_code 4 (none) :: qT) (qrm 3 0 0 69) (qPc D cy b adK adV h [qr b x0, qr b x1, .int x2]) (qQc D cy b qrV (fun (_ : Unit) h => Q h)) 0 0 (qA b) := by
  refine qmet (L0 := [(0, .inr (.inr (.inl x0))), (1, .inr (.inr (.inl x1))), (2, .inl x2)]) qm_Night_crook (plainFor_of_name (by decide)) [.inr (.inr (.inl x0)), .inr (.inr (.inl x1)), .inl x2] rfl (Nat.le_of_ble_eq_true rfl) rfl (fun p e s m args below meth c X => ?_)
  unfold w_Night_crook at hw
  refine qx_aload_n (x := x1) X d_Night_crook_0 rfl 1 rfl ?_
  refine qx_iload_n (x := x2) X d_Night_crook_1 rfl 2 rfl ?_
  obtain ⟨g1, hw⟩ := hw
  refine qx_callVI (st := []) (As := [.int x2]) X (t_State_isHung (adK := adK) (adV := adV) l D cy b N x1 x2 h _ hw) qm_State_isHung wm_Night_27 wi_State_isHung wl_State_isHung qcls6 g1 rfl rfl rfl ⟨Nat.le_of_ble_eq_true rfl, Nat.le_of_ble_eq_true rfl⟩ ⟨Nat.le_refl 0, Nat.le_refl 0⟩ (Nat.le_of_ble_eq_true rfl) rfl d_Night_crook_2 (fun r2 h3 hw => ?_)
  refine qx_if_ne X 23 d_Night_crook_5 (by decide) (fun q4 => ?_) (fun q4 => ?_)
  · have hw := hw.1 q4
    refine qx_aload_n (x := x1) X d_Night_crook_23 rfl 1 rfl ?_
    obtain ⟨g5, hw⟩ := hw
    refine qx_getR X qcls6 g5 3 (by decide) rfl wf_Night_58 d_Night_crook_24 ?_
    refine qx_iload_n (x := x2) X d_Night_crook_27 rfl 2 rfl ?_
    obtain ⟨g6, hw⟩ := hw
    refine qx_ild X g6 d_Night_crook_28 ?_
    refine qx_topi (fun y7 ey7 => ?_)
    have hw := hw y7 ey7
    refine qx_istore_n (L' := [(3, .inl y7), (0, .inr (.inr (.inl x0))), (1, .inr (.inr (.inl x1))), (2, .inl x2)]) X d_Night_crook_29 rfl (by decide) rfl ?_
    refine qx_aload_n (x := x0) X d_Night_crook_30 rfl 1 rfl ?_
    obtain ⟨g8, hw⟩ := hw
    refine qx_getR X qcls1 g8 1 (by decide) rfl wf_Night_19 d_Night_crook_31 ?_
    refine qx_aload_n (x := x1) X d_Night_crook_34 rfl 2 rfl ?_
    refine qx_iload_n (x := x2) X d_Night_crook_35 rfl 3 rfl ?_
    refine qx_iload_n (x := y7) X d_Night_crook_36 rfl 0 rfl ?_
    refine qx_aload_n (x := x1) X d_Night_crook_37 rfl 2 rfl ?_
    refine qx_iload_n (x := x2) X d_Night_crook_38 rfl 3 rfl ?_
    refine qx_callVI (st := [.int y7, .int x2, qr b x1, qr b (qR h3 x0 1)]) (As := [.int x2]) X (t_State_othersBeside (adK := adK) (adV := adV) l D cy b N x1 x2 h3 _ hw) qm_State_othersBeside wm_Night_61 wi_State_othersBeside wl_State_othersBeside qcls6 g5 rfl rfl rfl ⟨Nat.le_of_ble_eq_true rfl, Nat.le_of_ble_eq_true rfl⟩ ⟨Nat.le_refl 0, Nat.le_refl 0⟩ (Nat.le_of_ble_eq_true rfl) rfl d_Night_crook_39 (fun r9 h10 hw => ?_)
    obtain ⟨g11, hw⟩ := hw
    refine qx_callVV (st := []) (As := [qr b x1, .int x2, .int y7, .int r9]) X (t_Reck_lookAt (adK := adK) (adV := adV) l D cy b N (qR h3 x0 1) x1 x2 y7 r9 h10 _ hw) qm_Reck_lookAt wm_Night_65 wi_Reck_lookAt wl_Reck_lookAt qcls5 g11 rfl rfl rfl ⟨Nat.le_of_ble_eq_true rfl, Nat.le_of_ble_eq_true rfl⟩ ⟨Nat.le_refl 0, Nat.le_refl 0⟩ (Nat.le_of_ble_eq_true rfl) rfl d_Night_crook_42 (fun h12 hw => ?_)
    refine qx_aload_n (x := x0) X d_Night_crook_45 rfl 1 rfl ?_
    obtain ⟨g13, hw⟩ := hw
    refine qx_getR X qcls1 g13 2 (by decide) rfl wf_Night_9 d_Night_crook_46 ?_
    refine qx_iload_n (x := x2) X d_Night_crook_49 rfl 3 rfl ?_
    refine qx_aload_n (x := x0) X d_Night_crook_50 rfl 1 rfl ?_
    refine qx_getR X qcls1 g13 1 (by decide) rfl wf_Night_19 d_Night_crook_51 ?_
    refine qx_iconst (v := (2 : Int32)) X d_Night_crook_54 (by decide) ?_
    obtain ⟨g14, hw⟩ := hw
    refine qx_callVI (st := [.int x2, qr b (qR h12 x0 2)]) (As := [.int (2 : Int32)]) X (t_Reck_lawTells (adK := adK) (adV := adV) l D cy b N (qR h12 x0 1) (2 : Int32) h12 _ hw) qm_Reck_lawTells wm_Night_71 wi_Reck_lawTells wl_Reck_lawTells qcls5 g14 rfl rfl rfl ⟨Nat.le_of_ble_eq_true rfl, Nat.le_of_ble_eq_true rfl⟩ ⟨Nat.le_refl 0, Nat.le_refl 0⟩ (Nat.le_of_ble_eq_true rfl) rfl d_Night_crook_55 (fun r15 h16 hw => ?_)
    obtain ⟨g17, hw⟩ := hw
    refine qx_ist X g17 d_Night_crook_58 ?_
    refine qx_toph (fun h18 eh18 => ?_)
    have hw := hw h18 eh18
    refine qx_aload_n (x := x1) X d_Night_crook_59 rfl 2 rfl ?_
    obtain ⟨g19, hw⟩ := hw
    refine qx_getR X qcls6 g19 5 (by decide) rfl wf_Night_55 d_Night_crook_60 ?_
    refine qx_iload_n (x := x2) X d_Night_crook_63 rfl 3 rfl ?_
    refine qx_sipush (v := (999 : Int32)) X d_Night_crook_64 (by decide) ?_
    refine qx_aload_n (x := x1) X d_Night_crook_67 rfl 2 rfl ?_
    refine qx_getR X qcls6 g19 5 (by decide) rfl wf_Night_55 d_Night_crook_68 ?_
    refine qx_iload_n (x := x2) X d_Night_crook_71 rfl 3 rfl ?_
    obtain ⟨g20, hw⟩ := hw
    refine qx_ild X g20 d_Night_crook_72 ?_
    refine qx_aload_n (x := x0) X d_Night_crook_73 rfl 1 rfl ?_
    obtain ⟨g21, hw⟩ := hw
    refine qx_getR X qcls1 g21 1 (by decide) rfl wf_Night_19 d_Night_crook_74 ?_
    refine qx_iconst (v := (0 : Int32)) X d_Night_crook_77 (by decide) ?_
    obtain ⟨g22, hw⟩ := hw
    refine qx_callVI (st := [.int (qI h18 (qR h18 x1 5) (x2).toNatClampNeg), .int (999 : Int32), .int x2, qr b (qR h18 x1 5)]) (As := [.int (0 : Int32)]) X (t_Reck_lawTells (adK := adK) (adV := adV) l D cy b N (qR h18 x0 1) (0 : Int32) h18 _ hw) qm_Reck_lawTells wm_Night_71 wi_Reck_lawTells wl_Reck_lawTells qcls5 g22 rfl rfl rfl ⟨Nat.le_of_ble_eq_true rfl, Nat.le_of_ble_eq_true rfl⟩ ⟨Nat.le_refl 0, Nat.le_refl 0⟩ (Nat.le_of_ble_eq_true rfl) rfl d_Night_crook_78 (fun r23 h24 hw => ?_)
    refine qx_iadd X d_Night_crook_81 ?_
    refine qx_mmin X wm_Night_74 ws_mmin wz_Math wk_mmin (Nat.le_of_ble_eq_true rfl) (Nat.le_of_ble_eq_true rfl) (Nat.le_of_ble_eq_true rfl) (Nat.le_of_ble_eq_true rfl) d_Night_crook_82 ?_
    obtain ⟨g25, hw⟩ := hw
    refine qx_ist X g25 d_Night_crook_85 ?_
    refine qx_toph (fun h26 eh26 => ?_)
    have hw := hw h26 eh26
    refine qx_aload_n (x := x1) X d_Night_crook_86 rfl 2 rfl ?_
    obtain ⟨g27, hw⟩ := hw
    refine qx_getR X qcls6 g27 6 (by decide) rfl wf_Night_80 d_Night_crook_87 ?_
    refine qx_iload_n (x := y7) X d_Night_crook_90 rfl 0 rfl ?_
    refine qx_bipush (v := (99 : Int32)) X d_Night_crook_91 (by decide) ?_
    refine qx_aload_n (x := x1) X d_Night_crook_93 rfl 2 rfl ?_
    refine qx_getR X qcls6 g27 6 (by decide) rfl wf_Night_80 d_Night_crook_94 ?_
    refine qx_iload_n (x := y7) X d_Night_crook_97 rfl 0 rfl ?_
    obtain ⟨g28, hw⟩ := hw
    refine qx_ild X g28 d_Night_crook_98 ?_
    refine qx_aload_n (x := x0) X d_Night_crook_99 rfl 1 rfl ?_
    obtain ⟨g29, hw⟩ := hw
    refine qx_getR X qcls1 g29 1 (by decide) rfl wf_Night_19 d_Night_crook_100 ?_
    refine qx_iconst (v := (1 : Int32)) X d_Night_crook_103 (by decide) ?_
    obtain ⟨g30, hw⟩ := hw
    refine qx_callVI (st := [.int (qI h26 (qR h26 x1 6) (y7).toNatClampNeg), .int (99 : Int32), .int y7, qr b (qR h26 x1 6)]) (As := [.int (1 : Int32)]) X (t_Reck_lawTells (adK := adK) (adV := adV) l D cy b N (qR h26 x0 1) (1 : Int32) h26 _ hw) qm_Reck_lawTells wm_Night_71 wi_Reck_lawTells wl_Reck_lawTells qcls5 g30 rfl rfl rfl ⟨Nat.le_of_ble_eq_true rfl, Nat.le_of_ble_eq_true rfl⟩ ⟨Nat.le_refl 0, Nat.le_refl 0⟩ (Nat.le_of_ble_eq_true rfl) rfl d_Night_crook_104 (fun r31 h32 hw => ?_)
    refine qx_iadd X d_Night_crook_107 ?_
    refine qx_mmin X wm_Night_74 ws_mmin wz_Math wk_mmin (Nat.le_of_ble_eq_true rfl) (Nat.le_of_ble_eq_true rfl) (Nat.le_of_ble_eq_true rfl) (Nat.le_of_ble_eq_true rfl) d_Night_crook_108 ?_
    obtain ⟨g33, hw⟩ := hw
    refine qx_ist X g33 d_Night_crook_111 ?_
    refine qx_toph (fun h34 eh34 => ?_)
    have hw := hw h34 eh34
    exact qx_vret X hw (Nat.le_refl 0) (Nat.le_refl 0) rfl d_Night_crook_112
  · have hw := hw.2 q4
    refine qx_aload_n (x := x1) X d_Night_crook_8 rfl 1 rfl ?_
    obtain ⟨g35, hw⟩ := hw
    refine qx_getR X qcls6 g35 5 (by decide) rfl wf_Night_55 d_Night_crook_9 ?_
    refine qx_iload_n (x := x2) X d_Night_crook_12 rfl 2 rfl ?_
    refine qx_iconst (v := (0 : Int32)) X d_Night_crook_13 (by decide) ?_
    obtain ⟨g36, hw⟩ := hw
    refine qx_ist X g36 d_Night_crook_14 ?_
    refine qx_toph (fun h37 eh37 => ?_)
    have hw := hw h37 eh37
    refine qx_aload_n (x := x0) X d_Night_crook_15 rfl 0 rfl ?_
    obtain ⟨g38, hw⟩ := hw
    refine qx_getR X qcls1 g38 2 (by decide) rfl wf_Night_9 d_Night_crook_16 ?_
    refine qx_iload_n (x := x2) X d_Night_crook_19 rfl 2 rfl ?_
    refine qx_iconst (v := (0 : Int32)) X d_Night_crook_20 (by decide) ?_
    obtain ⟨g39, hw⟩ := hw
    refine qx_ist X g39 d_Night_crook_21 ?_
    refine qx_toph (fun h40 eh40 => ?_)
    have hw := hw h40 eh40
    exact qx_vret X hw (Nat.le_refl 0) (Nat.le_refl 0) rfl d_Night_crook_22
set_option maxRecDepth 4000 in
theorem t_Night_mixed {adK adV : Nat → Nat} (l : Launch) (D : va_G) (cy : Nat → ClassId) (b : Nat) (N : Nat) (x0 : Int32) (x1 : Int32) (h : qH) (Q : Int32 → qH → Prop) (hw : w_Night_mixed N x0 x1 h Q) : Met l y_Night_mixed (Cond.code y_Night_mixed prog_3_method_13_code 3 (some .int) :: qT) (qrm 0 0 0 0) (qPc D cy b adK adV h [.int x0, .int x1]) (qQc D cy b qrI Q) 0 0 (qA b) := by
  refine qmet (L0 := [(0, .inl x0), (1, .inl x1)]) qm_Night_mixed (plainFor_of_name (by decide)) [.inl x0, .inl x1] rfl (Nat.le_of_ble_eq_true rfl) rfl (fun p e s m args below meth c X => ?_)
  unfold w_Night_mixed at hw
  refine qx_iload_n (x := x0) X d_Night_mixed_0 rfl 0 rfl ?_
  refine qx_iload_n (x := x1) X d_Night_mixed_1 rfl 1 rfl ?_
  refine qx_ixor X d_Night_mixed_2 ?_
  refine qx_ldc (v := (1103515245 : Int32)) X wk_Night_112 d_Night_mixed_3 ?_
  refine qx_imul X d_Night_mixed_5 ?_
  refine qx_sipush (v := (12345 : Int32)) X d_Night_mixed_6 (by decide) ?_
  refine qx_iadd X d_Night_mixed_9 ?_
  refine qx_topi (fun y1 ey1 => ?_)
  have hw := hw y1 ey1
  refine qx_istore_n (L' := [(2, .inl y1), (0, .inl x0), (1, .inl x1)]) X d_Night_mixed_10 rfl (by decide) rfl ?_
  refine qx_iload_n (x := y1) X d_Night_mixed_11 rfl 0 rfl ?_
  refine qx_iload_n (x := y1) X d_Night_mixed_12 rfl 0 rfl ?_
  refine qx_bipush (v := (15 : Int32)) X d_Night_mixed_13 (by decide) ?_
  refine qx_iushr X d_Night_mixed_15 ?_
  refine qx_ixor X d_Night_mixed_16 ?_
  exact qx_iret X hw (Nat.le_refl 0) (Nat.le_refl 0) rfl d_Night_mixed_17
set_option maxRecDepth 4000 in
theorem t_Night_lot {adK adV : Nat → Nat} (l : Launch) (D : va_G) (cy : Nat → ClassId) (b : Nat) (N : Nat) (x0 : Int32) (x1 : Int32) (x2 : Int32) (h : qH) (Q : Int32 → qH → Prop) (hw : w_Night_lot N x0 x1 x2 h Q) : Met l y_Night_lot (Cond.code y_Night_lot prog_3_method_12_code 4 (some .int) :: qT) (qrm 1 0 0 22) (qPc D cy b adK adV h [.int x0, .int x1, .int x2]) (qQc D cy b qrI Q) 0 0 (qA b) := by
  refine qmet (L0 := [(0, .inl x0), (1, .inl x1), (2, .inl x2)]) qm_Night_lot (plainFor_of_name (by decide)) [.inl x0, .inl x1, .inl x2] rfl (Nat.le_of_ble_eq_true rfl) rfl (fun p e s m args below meth c X => ?_)
  unfold w_Night_lot at hw
  refine qx_iload_n (x := x1) X d_Night_lot_0 rfl 1 rfl ?_
  refine qx_sipush (v := (159 : Int32)) X d_Night_lot_1 (by decide) ?_
  refine qx_callSI (st := []) (As := [.int x1, .int (159 : Int32)]) X (t_Night_mixed (adK := adK) (adV := adV) l D cy b N x1 (159 : Int32) h _ hw) qm_Night_mixed wm_Night_109 wi_Night_mixed rfl rfl rfl ⟨Nat.le_of_ble_eq_true rfl, Nat.le_of_ble_eq_true rfl⟩ ⟨Nat.le_refl 0, Nat.le_refl 0⟩ (Nat.le_of_ble_eq_true rfl) rfl d_Night_lot_4 (fun r1 h2 hw => ?_)
  refine qx_iload_n (x := x2) X d_Night_lot_7 rfl 2 rfl ?_
  refine qx_callSI (st := []) (As := [.int r1, .int x2]) X (t_Night_mixed (adK := adK) (adV := adV) l D cy b N r1 x2 h2 _ hw) qm_Night_mixed wm_Night_109 wi_Night_mixed rfl rfl rfl ⟨Nat.le_of_ble_eq_true rfl, Nat.le_of_ble_eq_true rfl⟩ ⟨Nat.le_refl 0, Nat.le_refl 0⟩ (Nat.le_of_ble_eq_true rfl) rfl d_Night_lot_8 (fun r3 h4 hw => ?_)
  refine qx_istore_n (L' := [(3, .inl r3), (0, .inl x0), (1, .inl x1), (2, .inl x2)]) X d_Night_lot_11 rfl (by decide) rfl ?_
  refine qx_iload_n (x := x0) X d_Night_lot_12 rfl 1 rfl ?_
  refine qx_if_le X 24 d_Night_lot_13 (by decide) (fun q5 => ?_) (fun q5 => ?_)
  · have hw := hw.1 q5
    refine qx_iconst (v := (0 : Int32)) X d_Night_lot_24 (by decide) ?_
    exact qx_iret X hw (Nat.le_refl 0) (Nat.le_refl 0) rfl d_Night_lot_25
  · have hw := hw.2 q5
    refine qx_iload_n (x := r3) X d_Night_lot_16 rfl 0 rfl ?_
    refine qx_iconst (v := (1 : Int32)) X d_Night_lot_17 (by decide) ?_
    refine qx_iushr X d_Night_lot_18 ?_
    refine qx_iload_n (x := x0) X d_Night_lot_19 rfl 1 rfl ?_
    obtain ⟨g6, hw⟩ := hw
    refine qx_irem X g6 d_Night_lot_20 ?_
    refine qx_goto X 25 d_Night_lot_21 (by decide) ?_
    exact qx_iret X hw (Nat.le_refl 0) (Nat.le_refl 0) rfl d_Night_lot_25
set_option maxRecDepth 4000 in
theorem t_Night_hasMoth {adK adV : Nat → Nat} (l : Launch) (D : va_G) (cy : Nat → ClassId) (b : Nat) (N : Nat) (x0 : Nat) (x1 : Int32) (x2 : Int32) (h : qH) (Q : Int32 → qH → Prop) (hw : w_Night_hasMoth N x0 x1 x2 h Q) : Met l y_Night_hasMoth (Cond.code y_Night_hasMoth prog_3_method_11_code 3 (some .boolean) :: qT) (qrm 2 0 0 45) (qPc D cy b adK adV h [qr b x0, .int x1, .int x2]) (qQc D cy b qrI Q) 0 0 (qA b) := by
  refine qmet (L0 := [(0, .inr (.inr (.inl x0))), (1, .inl x1), (2, .inl x2)]) qm_Night_hasMoth (plainFor_of_name (by decide)) [.inr (.inr (.inl x0)), .inl x1, .inl x2] rfl (Nat.le_of_ble_eq_true rfl) rfl (fun p e s m args below meth c X => ?_)
  unfold w_Night_hasMoth at hw
  refine qx_bipush (v := (100 : Int32)) X d_Night_hasMoth_0 (by decide) ?_
  refine qx_iload_n (x := x1) X d_Night_hasMoth_2 rfl 1 rfl ?_
  refine qx_bipush (v := (16 : Int32)) X d_Night_hasMoth_3 (by decide) ?_
  refine qx_iload_n (x := x2) X d_Night_hasMoth_5 rfl 2 rfl ?_
  refine qx_imul X d_Night_hasMoth_6 ?_
  refine qx_bipush (v := (8 : Int32)) X d_Night_hasMoth_7 (by decide) ?_
  refine qx_iadd X d_Night_hasMoth_9 ?_
  refine qx_callSI (st := []) (As := [.int (100 : Int32), .int x1, .int (((16 : Int32) * x2) + (8 : Int32))]) X (t_Night_lot (adK := adK) (adV := adV) l D cy b N (100 : Int32) x1 (((16 : Int32) * x2) + (8 : Int32)) h _ hw) qm_Night_lot wm_Night_92 wi_Night_lot rfl rfl rfl ⟨Nat.le_of_ble_eq_true rfl, Nat.le_of_ble_eq_true rfl⟩ ⟨Nat.le_refl 0, Nat.le_refl 0⟩ (Nat.le_of_ble_eq_true rfl) rfl d_Night_hasMoth_10 (fun r1 h2 hw => ?_)
  refine qx_aload_n (x := x0) X d_Night_hasMoth_13 rfl 0 rfl ?_
  obtain ⟨g3, hw⟩ := hw
  refine qx_getR X qcls1 g3 0 (by decide) rfl wf_Night_15 d_Night_hasMoth_14 ?_
  obtain ⟨g4, hw⟩ := hw
  refine qx_getI X qcls8 g4 11 (by decide) rfl wf_Night_106 d_Night_hasMoth_17 ?_
  refine qx_icmp_ge X 27 d_Night_hasMoth_20 (by decide) (fun q5 => ?_) (fun q5 => ?_)
  · have hw := hw.1 q5
    refine qx_iconst (v := (0 : Int32)) X d_Night_hasMoth_27 (by decide) ?_
    exact qx_zret X hw (Nat.le_refl 0) (Nat.le_refl 0) rfl d_Night_hasMoth_28
  · have hw := hw.2 q5
    refine qx_iconst (v := (1 : Int32)) X d_Night_hasMoth_23 (by decide) ?_
    refine qx_goto X 28 d_Night_hasMoth_24 (by decide) ?_
    exact qx_zret X hw (Nat.le_refl 0) (Nat.le_refl 0) rfl d_Night_hasMoth_28
set_option maxRecDepth 4000 in
theorem t_Night_letMothEat {adK adV : Nat → Nat} (l : Launch) (D : va_G) (cy : Nat → ClassId) (b : Nat) (N : Nat) (x0 : Nat) (x1 : Nat) (x2 : Int32) (h : qH) (Q : qH → Prop) (hw : w_Night_letMothEat N x0 x1 x2 h Q) : Met l y_Night_letMothEat (Cond.code y_Night_letMothEat prog_3_method_10_code 4 (none) :: qT) (qrm 3 0 0 67) (qPc D cy b adK adV h [qr b x0, qr b x1, .int x2]) (qQc D cy b qrV (fun (_ : Unit) h => Q h)) 0 0 (qA b) := by
  refine qmet (L0 := [(0, .inr (.inr (.inl x0))), (1, .inr (.inr (.inl x1))), (2, .inl x2)]) qm_Night_letMothEat (plainFor_of_name (by decide)) [.inr (.inr (.inl x0)), .inr (.inr (.inl x1)), .inl x2] rfl (Nat.le_of_ble_eq_true rfl) rfl (fun p e s m args below meth c X => ?_)
  unfold w_Night_letMothEat at hw
  refine qx_aload_n (x := x0) X d_Night_letMothEat_0 rfl 0 rfl ?_
  obtain ⟨g1, hw⟩ := hw
  refine qx_getR X qcls1 g1 0 (by decide) rfl wf_Night_15 d_Night_letMothEat_1 ?_
  obtain ⟨g2, hw⟩ := hw
  refine qx_getI X qcls8 g2 3 (by decide) rfl wf_Night_33 d_Night_letMothEat_4 ?_
  refine qx_if_le X 62 d_Night_letMothEat_7 (by decide) (fun q3 => ?_) (fun q3 => ?_)
  · have hw := hw.1 q3
    exact qx_vret X hw (Nat.le_refl 0) (Nat.le_refl 0) rfl d_Night_letMothEat_62
  · have hw := hw.2 q3
    refine qx_aload_n (x := x0) X d_Night_letMothEat_10 rfl 0 rfl ?_
    refine qx_iload_n (x := x2) X d_Night_letMothEat_11 rfl 2 rfl ?_
    refine qx_aload_n (x := x1) X d_Night_letMothEat_12 rfl 1 rfl ?_
    obtain ⟨g4, hw⟩ := hw
    refine qx_getI X qcls6 g4 1 (by decide) rfl wf_Night_46 d_Night_letMothEat_13 ?_
    refine qx_callVI (st := []) (As := [.int x2, .int (qI h x1 1)]) X (t_Night_hasMoth (adK := adK) (adV := adV) l D cy b N x0 x2 (qI h x1 1) h _ hw) qm_Night_hasMoth wm_Night_96 wi_Night_hasMoth wl_Night_hasMoth qcls1 g1 rfl rfl rfl ⟨Nat.le_of_ble_eq_true rfl, Nat.le_of_ble_eq_true rfl⟩ ⟨Nat.le_refl 0, Nat.le_refl 0⟩ (Nat.le_of_ble_eq_true rfl) rfl d_Night_letMothEat_16 (fun r5 h6 hw => ?_)
    refine qx_if_eq X 62 d_Night_letMothEat_19 (by decide) (fun q7 => ?_) (fun q7 => ?_)
    · have hw := hw.1 q7
      exact qx_vret X hw (Nat.le_refl 0) (Nat.le_refl 0) rfl d_Night_letMothEat_62
    · have hw := hw.2 q7
      refine qx_aload_n (x := x0) X d_Night_letMothEat_22 rfl 0 rfl ?_
      obtain ⟨g8, hw⟩ := hw
      refine qx_getR X qcls1 g8 0 (by decide) rfl wf_Night_15 d_Night_letMothEat_23 ?_
      obtain ⟨g9, hw⟩ := hw
      refine qx_getI X qcls8 g9 3 (by decide) rfl wf_Night_33 d_Night_letMothEat_26 ?_
      refine qx_iload_n (x := x2) X d_Night_letMothEat_29 rfl 2 rfl ?_
      refine qx_bipush (v := (16 : Int32)) X d_Night_letMothEat_30 (by decide) ?_
      refine qx_aload_n (x := x1) X d_Night_letMothEat_32 rfl 1 rfl ?_
      obtain ⟨g10, hw⟩ := hw
      refine qx_getI X qcls6 g10 1 (by decide) rfl wf_Night_46 d_Night_letMothEat_33 ?_
      refine qx_imul X d_Night_letMothEat_36 ?_
      refine qx_bipush (v := (9 : Int32)) X d_Night_letMothEat_37 (by decide) ?_
      refine qx_iadd X d_Night_letMothEat_39 ?_
      refine qx_callSI (st := []) (As := [.int (qI h6 (qR h6 x0 0) 3), .int x2, .int (((16 : Int32) * (qI h6 x1 1)) + (9 : Int32))]) X (t_Night_lot (adK := adK) (adV := adV) l D cy b N (qI h6 (qR h6 x0 0) 3) x2 (((16 : Int32) * (qI h6 x1 1)) + (9 : Int32)) h6 _ hw) qm_Night_lot wm_Night_92 wi_Night_lot rfl rfl rfl ⟨Nat.le_of_ble_eq_true rfl, Nat.le_of_ble_eq_true rfl⟩ ⟨Nat.le_refl 0, Nat.le_refl 0⟩ (Nat.le_of_ble_eq_true rfl) rfl d_Night_letMothEat_40 (fun r11 h12 hw => ?_)
      refine qx_istore_n (L' := [(3, .inl r11), (0, .inr (.inr (.inl x0))), (1, .inr (.inr (.inl x1))), (2, .inl x2)]) X d_Night_letMothEat_43 rfl (by decide) rfl ?_
      refine qx_aload_n (x := x1) X d_Night_letMothEat_44 rfl 2 rfl ?_
      obtain ⟨g13, hw⟩ := hw
      refine qx_getR X qcls6 g13 2 (by decide) rfl wf_Night_100 d_Night_letMothEat_45 ?_
      refine qx_iload_n (x := r11) X d_Night_letMothEat_48 rfl 0 rfl ?_
      refine qx_iconst (v := (0 : Int32)) X d_Night_letMothEat_49 (by decide) ?_
      refine qx_aload_n (x := x1) X d_Night_letMothEat_50 rfl 2 rfl ?_
      refine qx_getR X qcls6 g13 2 (by decide) rfl wf_Night_100 d_Night_letMothEat_51 ?_
      refine qx_iload_n (x := r11) X d_Night_letMothEat_54 rfl 0 rfl ?_
      obtain ⟨g14, hw⟩ := hw
      refine qx_ild X g14 d_Night_letMothEat_55 ?_
      refine qx_iconst (v := (1 : Int32)) X d_Night_letMothEat_56 (by decide) ?_
      refine qx_isub X d_Night_letMothEat_57 ?_
      refine qx_mmax X wm_Night_103 ws_mmax wz_Math wk_mmax (Nat.le_of_ble_eq_true rfl) (Nat.le_of_ble_eq_true rfl) (Nat.le_of_ble_eq_true rfl) (Nat.le_of_ble_eq_true rfl) d_Night_letMothEat_58 ?_
      refine qx_ist X g14 d_Night_letMothEat_61 ?_
      refine qx_toph (fun h15 eh15 => ?_)
      have hw := hw h15 eh15
      exact qx_vret X hw (Nat.le_refl 0) (Nat.le_refl 0) rfl d_Night_letMothEat_62
set_option maxRecDepth 4000 in
theorem t_Night_letSlip_2 (X : qX p s m args meth c D cy b adK adV prog_3_method_9_code "CoatHangers$Night" 4 (none) "letSlip") (N k : Nat) (x0 : Nat) (x1 : Nat) (x2 : Int32) (x3 : Int32) (h : qH) (Q : qH → Prop)  (hw : w_Night_letSlip_2 N k x0 x1 x2 x3 h Q ) : qW p l e (qrm 2 0 0 45) s m args below meth c D cy b 4 0 0 (MQ below (qQc D cy b qrV (fun (_ : Unit) h => Q h)) args s 0 0 (qA b)) 2 [(0, .inr (.inr (.inl x0))), (1, .inr (.inr (.inl x1))), (2, .inl x2), (3, .inl x3)] [] h := by
  induction k generalizing x0 x1 x2 x3 h with
  | zero => exact hw.elim
  | succ k ih =>
    refine qx_iload_n (x := x3) X d_Night_letSlip_2 rfl 3 rfl ?_
    refine qx_aload_n (x := x0) X d_Night_letSlip_3 rfl 0 rfl ?_
    obtain ⟨g1, hw⟩ := hw
    refine qx_getR X qcls1 g1 0 (by decide) rfl wf_Night_15 d_Night_letSlip_4 ?_
    obtain ⟨g2, hw⟩ := hw
    refine qx_getI X qcls8 g2 3 (by decide) rfl wf_Night_33 d_Night_letSlip_7 ?_
    refine qx_icmp_ge X 51 d_Night_letSlip_10 (by decide) (fun q3 => ?_) (fun q3 => ?_)
    · have hw := hw.1 q3
      exact qx_vret X hw (Nat.le_refl 0) (Nat.le_refl 0) rfl d_Night_letSlip_51
    · have hw := hw.2 q3
      refine qx_bipush (v := (100 : Int32)) X d_Night_letSlip_13 (by decide) ?_
      refine qx_iload_n (x := x2) X d_Night_letSlip_15 rfl 2 rfl ?_
      refine qx_bipush (v := (16 : Int32)) X d_Night_letSlip_16 (by decide) ?_
      refine qx_aload_n (x := x1) X d_Night_letSlip_18 rfl 1 rfl ?_
      obtain ⟨g4, hw⟩ := hw
      refine qx_getI X qcls6 g4 1 (by decide) rfl wf_Night_46 d_Night_letSlip_19 ?_
      refine qx_imul X d_Night_letSlip_22 ?_
      refine qx_iload_n (x := x3) X d_Night_letSlip_23 rfl 3 rfl ?_
      refine qx_iadd X d_Night_letSlip_24 ?_
      refine qx_callSI (st := []) (As := [.int (100 : Int32), .int x2, .int (((16 : Int32) * (qI h x1 1)) + x3)]) X (t_Night_lot (adK := adK) (adV := adV) l D cy b N (100 : Int32) x2 (((16 : Int32) * (qI h x1 1)) + x3) h _ hw) qm_Night_lot wm_Night_92 wi_Night_lot rfl rfl rfl ⟨Nat.le_of_ble_eq_true rfl, Nat.le_of_ble_eq_true rfl⟩ ⟨Nat.le_refl 0, Nat.le_refl 0⟩ (Nat.le_of_ble_eq_true rfl) rfl d_Night_letSlip_25 (fun r5 h6 hw => ?_)
      refine qx_aload_n (x := x0) X d_Night_letSlip_28 rfl 0 rfl ?_
      obtain ⟨g7, hw⟩ := hw
      refine qx_getR X qcls1 g7 2 (by decide) rfl wf_Night_9 d_Night_letSlip_29 ?_
      refine qx_iload_n (x := x3) X d_Night_letSlip_32 rfl 3 rfl ?_
      obtain ⟨g8, hw⟩ := hw
      refine qx_ild X g8 d_Night_letSlip_33 ?_
      refine qx_icmp_ge X 45 d_Night_letSlip_34 (by decide) (fun q9 => ?_) (fun q9 => ?_)
      · have hw := hw.1 q9
        refine qx_iinc (v := (x3 + (1 : Int32))) (L' := [(3, .inl (x3 + (1 : Int32))), (0, .inr (.inr (.inl x0))), (1, .inr (.inr (.inl x1))), (2, .inl x2)]) X d_Night_letSlip_45 3 rfl rfl (by decide) rfl ?_
        refine qx_goto X 2 d_Night_letSlip_48 (by decide) ?_
        refine qx_sub [1, 2, 3, 0] rfl ?_
        exact ih x0 x1 x2 (x3 + (1 : Int32)) h6 hw
      · have hw := hw.2 q9
        refine qx_aload_n (x := x1) X d_Night_letSlip_37 rfl 1 rfl ?_
        obtain ⟨g10, hw⟩ := hw
        refine qx_getR X qcls6 g10 3 (by decide) rfl wf_Night_58 d_Night_letSlip_38 ?_
        refine qx_iload_n (x := x3) X d_Night_letSlip_41 rfl 3 rfl ?_
        refine qx_bipush (v := (-2 : Int32)) X d_Night_letSlip_42 (by decide) ?_
        obtain ⟨g11, hw⟩ := hw
        refine qx_ist X g11 d_Night_letSlip_44 ?_
        refine qx_toph (fun h12 eh12 => ?_)
        have hw := hw h12 eh12
        refine qx_iinc (v := (x3 + (1 : Int32))) (L' := [(3, .inl (x3 + (1 : Int32))), (0, .inr (.inr (.inl x0))), (1, .inr (.inr (.inl x1))), (2, .inl x2)]) X d_Night_letSlip_45 3 rfl rfl (by decide) rfl ?_
        refine qx_goto X 2 d_Night_letSlip_48 (by decide) ?_
        refine qx_sub [1, 2, 3, 0] rfl ?_
        exact ih x0 x1 x2 (x3 + (1 : Int32)) h12 hw
set_option maxRecDepth 4000 in
theorem t_Night_letSlip {adK adV : Nat → Nat} (l : Launch) (D : va_G) (cy : Nat → ClassId) (b : Nat) (N : Nat) (x0 : Nat) (x1 : Nat) (x2 : Int32) (h : qH) (Q : qH → Prop) (hw : w_Night_letSlip N x0 x1 x2 h Q) : Met l y_Night_letSlip (Cond.code y_Night_letSlip prog_3_method_9_code 4 (none) :: qT) (qrm 2 0 0 45) (qPc D cy b adK adV h [qr b x0, qr b x1, .int x2]) (qQc D cy b qrV (fun (_ : Unit) h => Q h)) 0 0 (qA b) := by
  refine qmet (L0 := [(0, .inr (.inr (.inl x0))), (1, .inr (.inr (.inl x1))), (2, .inl x2)]) qm_Night_letSlip (plainFor_of_name (by decide)) [.inr (.inr (.inl x0)), .inr (.inr (.inl x1)), .inl x2] rfl (Nat.le_of_ble_eq_true rfl) rfl (fun p e s m args below meth c X => ?_)
  unfold w_Night_letSlip at hw
  refine qx_iconst (v := (0 : Int32)) X d_Night_letSlip_0 (by decide) ?_
  refine qx_istore_n (L' := [(3, .inl (0 : Int32)), (0, .inr (.inr (.inl x0))), (1, .inr (.inr (.inl x1))), (2, .inl x2)]) X d_Night_letSlip_1 rfl (by decide) rfl ?_
  refine qx_sub [1, 2, 3, 0] rfl ?_
  exact t_Night_letSlip_2 X N N x0 x1 x2 (0 : Int32) h Q  hw 
set_option maxRecDepth 4000 in
theorem t_Night_wakeOnNail_10 (X : qX p s m args meth c D cy b adK adV prog_3_method_8_code "CoatHangers$Night" 6 (none) "wakeOnNail") (N k : Nat) (x0 : Nat) (x1 : Nat) (x2 : Int32) (x3 : Int32) (x4 : Int32) (x5 : Int32) (h : qH) (Q : qH → Prop) (K72 : Nat → Int32 → Int32 → qH → Prop) (hw : w_Night_wakeOnNail_10 N k x0 x1 x2 x3 x4 x5 h Q K72) (hK72 : ∀ (x1 : Nat) (x3 : Int32) (x4 : Int32) (h : qH), K72 x1 x3 x4 h → qW p l e (qrm 1 0 0 22) s m args below meth c D cy b 6 0 0 (MQ below (qQc D cy b qrV (fun (_ : Unit) h => Q h)) args s 0 0 (qA b)) 72 [(1, .inr (.inr (.inl x1))), (3, .inl x3), (4, .inl x4)] [] h) : qW p l e (qrm 1 0 0 22) s m args below meth c D cy b 6 0 0 (MQ below (qQc D cy b qrV (fun (_ : Unit) h => Q h)) args s 0 0 (qA b)) 10 [(0, .inr (.inr (.inl x0))), (1, .inr (.inr (.inl x1))), (2, .inl x2), (3, .inl x3), (4, .inl x4), (5, .inl x5)] [] h := by
  induction k generalizing x0 x1 x2 x3 x4 x5 h with
  | zero => exact hw.elim
  | succ k ih =>
    refine qx_iload (x := x5) X d_Night_wakeOnNail_10 5 rfl ?_
    refine qx_aload_n (x := x0) X d_Night_wakeOnNail_12 rfl 0 rfl ?_
    obtain ⟨g1, hw⟩ := hw
    refine qx_getR X qcls1 g1 0 (by decide) rfl wf_Night_15 d_Night_wakeOnNail_13 ?_
    obtain ⟨g2, hw⟩ := hw
    refine qx_getI X qcls8 g2 3 (by decide) rfl wf_Night_33 d_Night_wakeOnNail_16 ?_
    refine qx_icmp_ge X 72 d_Night_wakeOnNail_19 (by decide) (fun q3 => ?_) (fun q3 => ?_)
    · have hw := hw.1 q3
      refine qx_sub [1, 3, 4] rfl ?_
      exact hK72 x1 x3 x4 h hw
    · have hw := hw.2 q3
      refine qx_aload_n (x := x1) X d_Night_wakeOnNail_22 rfl 1 rfl ?_
      refine qx_iload (x := x5) X d_Night_wakeOnNail_23 5 rfl ?_
      obtain ⟨g4, hw⟩ := hw
      refine qx_callVI (st := []) (As := [.int x5]) X (t_State_nailOf (adK := adK) (adV := adV) l D cy b N x1 x5 h _ hw) qm_State_nailOf wm_Night_86 wi_State_nailOf wl_State_nailOf qcls6 g4 rfl rfl rfl ⟨Nat.le_of_ble_eq_true rfl, Nat.le_of_ble_eq_true rfl⟩ ⟨Nat.le_refl 0, Nat.le_refl 0⟩ (Nat.le_of_ble_eq_true rfl) rfl d_Night_wakeOnNail_25 (fun r5 h6 hw => ?_)
      refine qx_iload_n (x := x2) X d_Night_wakeOnNail_28 rfl 2 rfl ?_
      refine qx_icmp_ne X 66 d_Night_wakeOnNail_29 (by decide) (fun q7 => ?_) (fun q7 => ?_)
      · have hw := hw.1 q7
        refine qx_iinc (v := (x5 + (1 : Int32))) (L' := [(5, .inl (x5 + (1 : Int32))), (0, .inr (.inr (.inl x0))), (1, .inr (.inr (.inl x1))), (2, .inl x2), (3, .inl x3), (4, .inl x4)]) X d_Night_wakeOnNail_66 5 rfl rfl (by decide) rfl ?_
        refine qx_goto X 10 d_Night_wakeOnNail_69 (by decide) ?_
        refine qx_sub [1, 2, 3, 4, 5, 0] rfl ?_
        exact ih x0 x1 x2 x3 x4 (x5 + (1 : Int32)) h6 hw
      · have hw := hw.2 q7
        refine qx_iload_n (x := x3) X d_Night_wakeOnNail_32 rfl 3 rfl ?_
        refine qx_bipush (v := (-2 : Int32)) X d_Night_wakeOnNail_33 (by decide) ?_
        refine qx_icmp_ne X 50 d_Night_wakeOnNail_35 (by decide) (fun q8 => ?_) (fun q8 => ?_)
        · have hw := hw.1 q8
          refine qx_aload_n (x := x1) X d_Night_wakeOnNail_50 rfl 1 rfl ?_
          obtain ⟨g9, hw⟩ := hw
          refine qx_getR X qcls6 g9 4 (by decide) rfl wf_Night_89 d_Night_wakeOnNail_51 ?_
          refine qx_iload_n (x := x3) X d_Night_wakeOnNail_54 rfl 3 rfl ?_
          refine qx_aload_n (x := x1) X d_Night_wakeOnNail_55 rfl 1 rfl ?_
          refine qx_getR X qcls6 g9 4 (by decide) rfl wf_Night_89 d_Night_wakeOnNail_56 ?_
          refine qx_iload (x := x5) X d_Night_wakeOnNail_59 5 rfl ?_
          obtain ⟨g10, hw⟩ := hw
          refine qx_ild X g10 d_Night_wakeOnNail_61 ?_
          obtain ⟨g11, hw⟩ := hw
          refine qx_ist X g11 d_Night_wakeOnNail_62 ?_
          refine qx_toph (fun h12 eh12 => ?_)
          have hw := hw h12 eh12
          refine qx_iload (x := x5) X d_Night_wakeOnNail_63 5 rfl ?_
          refine qx_istore_n (L' := [(3, .inl x5), (0, .inr (.inr (.inl x0))), (1, .inr (.inr (.inl x1))), (2, .inl x2), (4, .inl x4), (5, .inl x5)]) X d_Night_wakeOnNail_65 rfl (by decide) rfl ?_
          refine qx_iinc (v := (x5 + (1 : Int32))) (L' := [(5, .inl (x5 + (1 : Int32))), (3, .inl x5), (0, .inr (.inr (.inl x0))), (1, .inr (.inr (.inl x1))), (2, .inl x2), (4, .inl x4)]) X d_Night_wakeOnNail_66 5 rfl rfl (by decide) rfl ?_
          refine qx_goto X 10 d_Night_wakeOnNail_69 (by decide) ?_
          refine qx_sub [2, 3, 4, 1, 5, 0] rfl ?_
          exact ih x0 x1 x2 x5 x4 (x5 + (1 : Int32)) h12 hw
        · have hw := hw.2 q8
          refine qx_aload_n (x := x1) X d_Night_wakeOnNail_38 rfl 1 rfl ?_
          obtain ⟨g13, hw⟩ := hw
          refine qx_getR X qcls6 g13 4 (by decide) rfl wf_Night_89 d_Night_wakeOnNail_39 ?_
          refine qx_iload (x := x5) X d_Night_wakeOnNail_42 5 rfl ?_
          obtain ⟨g14, hw⟩ := hw
          refine qx_ild X g14 d_Night_wakeOnNail_44 ?_
          refine qx_topi (fun y15 ey15 => ?_)
          have hw := hw y15 ey15
          refine qx_istore (L' := [(4, .inl y15), (0, .inr (.inr (.inl x0))), (1, .inr (.inr (.inl x1))), (2, .inl x2), (3, .inl x3), (5, .inl x5)]) X d_Night_wakeOnNail_45 (by decide) rfl ?_
          refine qx_goto X 63 d_Night_wakeOnNail_47 (by decide) ?_
          refine qx_iload (x := x5) X d_Night_wakeOnNail_63 5 rfl ?_
          refine qx_istore_n (L' := [(3, .inl x5), (4, .inl y15), (0, .inr (.inr (.inl x0))), (1, .inr (.inr (.inl x1))), (2, .inl x2), (5, .inl x5)]) X d_Night_wakeOnNail_65 rfl (by decide) rfl ?_
          refine qx_iinc (v := (x5 + (1 : Int32))) (L' := [(5, .inl (x5 + (1 : Int32))), (3, .inl x5), (4, .inl y15), (0, .inr (.inr (.inl x0))), (1, .inr (.inr (.inl x1))), (2, .inl x2)]) X d_Night_wakeOnNail_66 5 rfl rfl (by decide) rfl ?_
          refine qx_goto X 10 d_Night_wakeOnNail_69 (by decide) ?_
          refine qx_sub [3, 4, 5, 1, 2, 0] rfl ?_
          exact ih x0 x1 x2 x5 y15 (x5 + (1 : Int32)) h6 hw
set_option maxRecDepth 4000 in
theorem t_Night_wakeOnNail {adK adV : Nat → Nat} (l : Launch) (D : va_G) (cy : Nat → ClassId) (b : Nat) (N : Nat) (x0 : Nat) (x1 : Nat) (x2 : Int32) (h : qH) (Q : qH → Prop) (hw : w_Night_wakeOnNail N x0 x1 x2 h Q) : Met l y_Night_wakeOnNail (Cond.code y_Night_wakeOnNail prog_3_method_8_code 6 (none) :: qT) (qrm 1 0 0 22) (qPc D cy b adK adV h [qr b x0, qr b x1, .int x2]) (qQc D cy b qrV (fun (_ : Unit) h => Q h)) 0 0 (qA b) := by
  refine qmet (L0 := [(0, .inr (.inr (.inl x0))), (1, .inr (.inr (.inl x1))), (2, .inl x2)]) qm_Night_wakeOnNail (plainFor_of_name (by decide)) [.inr (.inr (.inl x0)), .inr (.inr (.inl x1)), .inl x2] rfl (Nat.le_of_ble_eq_true rfl) rfl (fun p e s m args below meth c X => ?_)
  unfold w_Night_wakeOnNail at hw
  refine qx_bipush (v := (-2 : Int32)) X d_Night_wakeOnNail_0 (by decide) ?_
  refine qx_istore_n (L' := [(3, .inl (-2 : Int32)), (0, .inr (.inr (.inl x0))), (1, .inr (.inr (.inl x1))), (2, .inl x2)]) X d_Night_wakeOnNail_2 rfl (by decide) rfl ?_
  refine qx_bipush (v := (-2 : Int32)) X d_Night_wakeOnNail_3 (by decide) ?_
  refine qx_istore (L' := [(4, .inl (-2 : Int32)), (3, .inl (-2 : Int32)), (0, .inr (.inr (.inl x0))), (1, .inr (.inr (.inl x1))), (2, .inl x2)]) X d_Night_wakeOnNail_5 (by decide) rfl ?_
  refine qx_iconst (v := (0 : Int32)) X d_Night_wakeOnNail_7 (by decide) ?_
  refine qx_istore (L' := [(5, .inl (0 : Int32)), (4, .inl (-2 : Int32)), (3, .inl (-2 : Int32)), (0, .inr (.inr (.inl x0))), (1, .inr (.inr (.inl x1))), (2, .inl x2)]) X d_Night_wakeOnNail_8 (by decide) rfl ?_
  refine qx_sub [3, 4, 5, 2, 1, 0] rfl ?_
  refine t_Night_wakeOnNail_10 X N N x0 x1 x2 (-2 : Int32) (-2 : Int32) (0 : Int32) h Q _ hw (fun x1 x2 x3 h4 hw => ?_)
  refine qx_iload_n (x := x2) X d_Night_wakeOnNail_72 rfl 1 rfl ?_
  refine qx_bipush (v := (-2 : Int32)) X d_Night_wakeOnNail_73 (by decide) ?_
  refine qx_icmp_eq X 86 d_Night_wakeOnNail_75 (by decide) (fun q5 => ?_) (fun q5 => ?_)
  · have hw := hw.1 q5
    exact qx_vret X hw (Nat.le_refl 0) (Nat.le_refl 0) rfl d_Night_wakeOnNail_86
  · have hw := hw.2 q5
    refine qx_aload_n (x := x1) X d_Night_wakeOnNail_78 rfl 0 rfl ?_
    obtain ⟨g6, hw⟩ := hw
    refine qx_getR X qcls6 g6 4 (by decide) rfl wf_Night_89 d_Night_wakeOnNail_79 ?_
    refine qx_iload_n (x := x2) X d_Night_wakeOnNail_82 rfl 1 rfl ?_
    refine qx_iload (x := x3) X d_Night_wakeOnNail_83 2 rfl ?_
    obtain ⟨g7, hw⟩ := hw
    refine qx_ist X g7 d_Night_wakeOnNail_85 ?_
    refine qx_toph (fun h8 eh8 => ?_)
    have hw := hw h8 eh8
    exact qx_vret X hw (Nat.le_refl 0) (Nat.le_refl 0) rfl d_Night_wakeOnNail_86
set_option maxRecDepth 4000 in
theorem t_Night_wakeAll_2 (X : qX p s m args meth c D cy b adK adV prog_3_method_7_code "CoatHangers$Night" 3 (none) "wakeAll") (N k : Nat) (x0 : Nat) (x1 : Nat) (x2 : Int32) (h : qH) (Q : qH → Prop)  (hw : w_Night_wakeAll_2 N k x0 x1 x2 h Q ) : qW p l e (qrm 2 0 0 47) s m args below meth c D cy b 3 0 0 (MQ below (qQc D cy b qrV (fun (_ : Unit) h => Q h)) args s 0 0 (qA b)) 2 [(0, .inr (.inr (.inl x0))), (1, .inr (.inr (.inl x1))), (2, .inl x2)] [] h := by
  induction k generalizing x0 x1 x2 h with
  | zero => exact hw.elim
  | succ k ih =>
    refine qx_iload_n (x := x2) X d_Night_wakeAll_2 rfl 2 rfl ?_
    refine qx_iconst (v := (5 : Int32)) X d_Night_wakeAll_3 (by decide) ?_
    refine qx_icmp_ge X 19 d_Night_wakeAll_4 (by decide) (fun q1 => ?_) (fun q1 => ?_)
    · have hw := hw.1 q1
      exact qx_vret X hw (Nat.le_refl 0) (Nat.le_refl 0) rfl d_Night_wakeAll_19
    · have hw := hw.2 q1
      refine qx_aload_n (x := x0) X d_Night_wakeAll_7 rfl 0 rfl ?_
      refine qx_aload_n (x := x1) X d_Night_wakeAll_8 rfl 1 rfl ?_
      refine qx_iload_n (x := x2) X d_Night_wakeAll_9 rfl 2 rfl ?_
      obtain ⟨g2, hw⟩ := hw
      refine qx_callVV (st := []) (As := [qr b x1, .int x2]) X (t_Night_wakeOnNail (adK := adK) (adV := adV) l D cy b N x0 x1 x2 h _ hw) qm_Night_wakeOnNail wm_Night_83 wi_Night_wakeOnNail wl_Night_wakeOnNail qcls1 g2 rfl rfl rfl ⟨Nat.le_of_ble_eq_true rfl, Nat.le_of_ble_eq_true rfl⟩ ⟨Nat.le_refl 0, Nat.le_refl 0⟩ (Nat.le_of_ble_eq_true rfl) rfl d_Night_wakeAll_10 (fun h3 hw => ?_)
      refine qx_iinc (v := (x2 + (1 : Int32))) (L' := [(2, .inl (x2 + (1 : Int32))), (0, .inr (.inr (.inl x0))), (1, .inr (.inr (.inl x1)))]) X d_Night_wakeAll_13 2 rfl rfl (by decide) rfl ?_
      refine qx_goto X 2 d_Night_wakeAll_16 (by decide) ?_
      refine qx_sub [1, 2, 0] rfl ?_
      exact ih x0 x1 (x2 + (1 : Int32)) h3 hw
set_option maxRecDepth 4000 in
theorem t_Night_wakeAll {adK adV : Nat → Nat} (l : Launch) (D : va_G) (cy : Nat → ClassId) (b : Nat) (N : Nat) (x0 : Nat) (x1 : Nat) (h : qH) (Q : qH → Prop) (hw : w_Night_wakeAll N x0 x1 h Q) : Met l y_Night_wakeAll (Cond.code y_Night_wakeAll prog_3_method_7_code 3 (none) :: qT) (qrm 2 0 0 47) (qPc D cy b adK adV h [qr b x0, qr b x1]) (qQc D cy b qrV (fun (_ : Unit) h => Q h)) 0 0 (qA b) := by
  refine qmet (L0 := [(0, .inr (.inr (.inl x0))), (1, .inr (.inr (.inl x1)))]) qm_Night_wakeAll (plainFor_of_name (by decide)) [.inr (.inr (.inl x0)), .inr (.inr (.inl x1))] rfl (Nat.le_of_ble_eq_true rfl) rfl (fun p e s m args below meth c X => ?_)
  unfold w_Night_wakeAll at hw
  refine qx_iconst (v := (0 : Int32)) X d_Night_wakeAll_0 (by decide) ?_
  refine qx_istore_n (L' := [(2, .inl (0 : Int32)), (0, .inr (.inr (.inl x0))), (1, .inr (.inr (.inl x1)))]) X d_Night_wakeAll_1 rfl (by decide) rfl ?_
  refine qx_sub [1, 2, 0] rfl ?_
  exact t_Night_wakeAll_2 X N N x0 x1 (0 : Int32) h Q  hw 
set_option maxRecDepth 4000 in
theorem t_Night_goByOnce_2 (X : qX p s m args meth c D cy b adK adV prog_3_method_5_code "CoatHangers$Night" 4 (none) "goByOnce") (N k : Nat) (x0 : Nat) (x1 : Nat) (x2 : Int32) (x3 : Int32) (h : qH) (Q : qH → Prop) (K25 : Nat → Nat → Int32 → qH → Prop) (hw : w_Night_goByOnce_2 N k x0 x1 x2 x3 h Q K25) (hK25 : ∀ (x0 : Nat) (x1 : Nat) (x2 : Int32) (h : qH), K25 x0 x1 x2 h → qW p l e (qrm 4 0 0 92) s m args below meth c D cy b 4 0 0 (MQ below (qQc D cy b qrV (fun (_ : Unit) h => Q h)) args s 0 0 (qA b)) 25 [(0, .inr (.inr (.inl x0))), (1, .inr (.inr (.inl x1))), (2, .inl x2)] [] h) : qW p l e (qrm 4 0 0 92) s m args below meth c D cy b 4 0 0 (MQ below (qQc D cy b qrV (fun (_ : Unit) h => Q h)) args s 0 0 (qA b)) 2 [(0, .inr (.inr (.inl x0))), (1, .inr (.inr (.inl x1))), (2, .inl x2), (3, .inl x3)] [] h := by
  induction k generalizing x0 x1 x2 x3 h with
  | zero => exact hw.elim
  | succ k ih =>
    refine qx_iload_n (x := x3) X d_Night_goByOnce_2 rfl 3 rfl ?_
    refine qx_aload_n (x := x0) X d_Night_goByOnce_3 rfl 0 rfl ?_
    obtain ⟨g1, hw⟩ := hw
    refine qx_getR X qcls1 g1 0 (by decide) rfl wf_Night_15 d_Night_goByOnce_4 ?_
    obtain ⟨g2, hw⟩ := hw
    refine qx_getI X qcls8 g2 3 (by decide) rfl wf_Night_33 d_Night_goByOnce_7 ?_
    refine qx_icmp_ge X 25 d_Night_goByOnce_10 (by decide) (fun q3 => ?_) (fun q3 => ?_)
    · have hw := hw.1 q3
      refine qx_sub [0, 1, 2] rfl ?_
      exact hK25 x0 x1 x2 h hw
    · have hw := hw.2 q3
      refine qx_aload_n (x := x0) X d_Night_goByOnce_13 rfl 0 rfl ?_
      refine qx_aload_n (x := x1) X d_Night_goByOnce_14 rfl 1 rfl ?_
      refine qx_iload_n (x := x3) X d_Night_goByOnce_15 rfl 3 rfl ?_
      refine qx_callVV (st := []) (As := [qr b x1, .int x3]) X (t_Night_crook (adK := adK) (adV := adV) l D cy b N x0 x1 x3 h _ hw) qm_Night_crook wm_Night_39 wi_Night_crook wl_Night_crook qcls1 g1 rfl rfl rfl ⟨Nat.le_of_ble_eq_true rfl, Nat.le_of_ble_eq_true rfl⟩ ⟨Nat.le_refl 0, Nat.le_refl 0⟩ (Nat.le_of_ble_eq_true rfl) rfl d_Night_goByOnce_16 (fun h4 hw => ?_)
      refine qx_iinc (v := (x3 + (1 : Int32))) (L' := [(3, .inl (x3 + (1 : Int32))), (0, .inr (.inr (.inl x0))), (1, .inr (.inr (.inl x1))), (2, .inl x2)]) X d_Night_goByOnce_19 3 rfl rfl (by decide) rfl ?_
      refine qx_goto X 2 d_Night_goByOnce_22 (by decide) ?_
      refine qx_sub [1, 2, 3, 0] rfl ?_
      exact ih x0 x1 x2 (x3 + (1 : Int32)) h4 hw
set_option maxRecDepth 4000 in
theorem t_Night_goByOnce {adK adV : Nat → Nat} (l : Launch) (D : va_G) (cy : Nat → ClassId) (b : Nat) (N : Nat) (x0 : Nat) (x1 : Nat) (x2 : Int32) (h : qH) (Q : qH → Prop) (hw : w_Night_goByOnce N x0 x1 x2 h Q) : Met l y_Night_goByOnce (Cond.code y_Night_goByOnce prog_3_method_5_code 4 (none) :: qT) (qrm 4 0 0 92) (qPc D cy b adK adV h [qr b x0, qr b x1, .int x2]) (qQc D cy b qrV (fun (_ : Unit) h => Q h)) 0 0 (qA b) := by
  refine qmet (L0 := [(0, .inr (.inr (.inl x0))), (1, .inr (.inr (.inl x1))), (2, .inl x2)]) qm_Night_goByOnce (plainFor_of_name (by decide)) [.inr (.inr (.inl x0)), .inr (.inr (.inl x1)), .inl x2] rfl (Nat.le_of_ble_eq_true rfl) rfl (fun p e s m args below meth c X => ?_)
  unfold w_Night_goByOnce at hw
  refine qx_iconst (v := (0 : Int32)) X d_Night_goByOnce_0 (by decide) ?_
  refine qx_istore_n (L' := [(3, .inl (0 : Int32)), (0, .inr (.inr (.inl x0))), (1, .inr (.inr (.inl x1))), (2, .inl x2)]) X d_Night_goByOnce_1 rfl (by decide) rfl ?_
  refine qx_sub [1, 2, 3, 0] rfl ?_
  refine t_Night_goByOnce_2 X N N x0 x1 x2 (0 : Int32) h Q _ hw (fun x1 x2 x3 h4 hw => ?_)
  refine qx_aload_n (x := x1) X d_Night_goByOnce_25 rfl 0 rfl ?_
  refine qx_aload_n (x := x2) X d_Night_goByOnce_26 rfl 1 rfl ?_
  obtain ⟨g5, hw⟩ := hw
  refine qx_callVV (st := []) (As := [qr b x2]) X (t_Night_wakeAll (adK := adK) (adV := adV) l D cy b N x1 x2 h4 _ hw) qm_Night_wakeAll wm_Night_42 wi_Night_wakeAll wl_Night_wakeAll qcls1 g5 rfl rfl rfl ⟨Nat.le_of_ble_eq_true rfl, Nat.le_of_ble_eq_true rfl⟩ ⟨Nat.le_refl 0, Nat.le_refl 0⟩ (Nat.le_of_ble_eq_true rfl) rfl d_Night_goByOnce_27 (fun h6 hw => ?_)
  refine qx_aload_n (x := x1) X d_Night_goByOnce_30 rfl 0 rfl ?_
  refine qx_aload_n (x := x2) X d_Night_goByOnce_31 rfl 1 rfl ?_
  refine qx_iload_n (x := x3) X d_Night_goByOnce_32 rfl 2 rfl ?_
  obtain ⟨g7, hw⟩ := hw
  refine qx_callVV (st := []) (As := [qr b x2, .int x3]) X (t_Night_letSlip (adK := adK) (adV := adV) l D cy b N x1 x2 x3 h6 _ hw) qm_Night_letSlip wm_Night_49 wi_Night_letSlip wl_Night_letSlip qcls1 g7 rfl rfl rfl ⟨Nat.le_of_ble_eq_true rfl, Nat.le_of_ble_eq_true rfl⟩ ⟨Nat.le_refl 0, Nat.le_refl 0⟩ (Nat.le_of_ble_eq_true rfl) rfl d_Night_goByOnce_33 (fun h8 hw => ?_)
  refine qx_aload_n (x := x1) X d_Night_goByOnce_36 rfl 0 rfl ?_
  refine qx_aload_n (x := x2) X d_Night_goByOnce_37 rfl 1 rfl ?_
  refine qx_iload_n (x := x3) X d_Night_goByOnce_38 rfl 2 rfl ?_
  obtain ⟨g9, hw⟩ := hw
  refine qx_callVV (st := []) (As := [qr b x2, .int x3]) X (t_Night_letMothEat (adK := adK) (adV := adV) l D cy b N x1 x2 x3 h8 _ hw) qm_Night_letMothEat wm_Night_52 wi_Night_letMothEat wl_Night_letMothEat qcls1 g9 rfl rfl rfl ⟨Nat.le_of_ble_eq_true rfl, Nat.le_of_ble_eq_true rfl⟩ ⟨Nat.le_refl 0, Nat.le_refl 0⟩ (Nat.le_of_ble_eq_true rfl) rfl d_Night_goByOnce_39 (fun h10 hw => ?_)
  refine qx_aload_n (x := x2) X d_Night_goByOnce_42 rfl 1 rfl ?_
  refine qx_dup X (qr_cat _ _) d_Night_goByOnce_43 ?_
  obtain ⟨g11, hw⟩ := hw
  refine qx_getI X qcls6 g11 1 (by decide) rfl wf_Night_46 d_Night_goByOnce_44 ?_
  refine qx_iconst (v := (1 : Int32)) X d_Night_goByOnce_47 (by decide) ?_
  refine qx_iadd X d_Night_goByOnce_48 ?_
  refine qx_putI X qcls6 g11 1 (by decide) rfl wf_Night_46 rfl rfl rfl d_Night_goByOnce_49 ?_
  refine qx_toph (fun h12 eh12 => ?_)
  have hw := hw h12 eh12
  exact qx_vret X hw (Nat.le_refl 0) (Nat.le_refl 0) rfl d_Night_goByOnce_52
set_option maxRecDepth 4000 in
theorem t_Night_goByWithAll_3 (X : qX p s m args meth c D cy b adK adV prog_3_method_2_code "CoatHangers$Night" 5 (none) "goByWithAll") (N k : Nat) (x0 : Nat) (x1 : Nat) (x2 : Int32) (x3 : Int32) (x4 : Int32) (h : qH) (Q : qH → Prop)  (hw : w_Night_goByWithAll_3 N k x0 x1 x2 x3 x4 h Q ) : qW p l e (qrm 5 0 0 115) s m args below meth c D cy b 5 0 0 (MQ below (qQc D cy b qrV (fun (_ : Unit) h => Q h)) args s 0 0 (qA b)) 3 [(0, .inr (.inr (.inl x0))), (1, .inr (.inr (.inl x1))), (2, .inl x2), (3, .inl x3), (4, .inl x4)] [] h := by
  induction k generalizing x0 x1 x2 x3 x4 h with
  | zero => exact hw.elim
  | succ k ih =>
    refine qx_iload (x := x4) X d_Night_goByWithAll_3 4 rfl ?_
    refine qx_iload_n (x := x2) X d_Night_goByWithAll_5 rfl 2 rfl ?_
    refine qx_icmp_ge X 21 d_Night_goByWithAll_6 (by decide) (fun q1 => ?_) (fun q1 => ?_)
    · have hw := hw.1 q1
      exact qx_vret X hw (Nat.le_refl 0) (Nat.le_refl 0) rfl d_Night_goByWithAll_21
    · have hw := hw.2 q1
      refine qx_aload_n (x := x0) X d_Night_goByWithAll_9 rfl 0 rfl ?_
      refine qx_aload_n (x := x1) X d_Night_goByWithAll_10 rfl 1 rfl ?_
      refine qx_iload_n (x := x3) X d_Night_goByWithAll_11 rfl 3 rfl ?_
      obtain ⟨g2, hw⟩ := hw
      refine qx_callVV (st := []) (As := [qr b x1, .int x3]) X (t_Night_goByOnce (adK := adK) (adV := adV) l D cy b N x0 x1 x3 h _ hw) qm_Night_goByOnce wm_Night_23 wi_Night_goByOnce wl_Night_goByOnce qcls1 g2 rfl rfl rfl ⟨Nat.le_of_ble_eq_true rfl, Nat.le_of_ble_eq_true rfl⟩ ⟨Nat.le_refl 0, Nat.le_refl 0⟩ (Nat.le_of_ble_eq_true rfl) rfl d_Night_goByWithAll_12 (fun h3 hw => ?_)
      refine qx_iinc (v := (x4 + (1 : Int32))) (L' := [(4, .inl (x4 + (1 : Int32))), (0, .inr (.inr (.inl x0))), (1, .inr (.inr (.inl x1))), (2, .inl x2), (3, .inl x3)]) X d_Night_goByWithAll_15 4 rfl rfl (by decide) rfl ?_
      refine qx_goto X 3 d_Night_goByWithAll_18 (by decide) ?_
      refine qx_sub [1, 2, 3, 4, 0] rfl ?_
      exact ih x0 x1 x2 x3 (x4 + (1 : Int32)) h3 hw
set_option maxRecDepth 4000 in
theorem t_Night_goByWithAll {adK adV : Nat → Nat} (l : Launch) (D : va_G) (cy : Nat → ClassId) (b : Nat) (N : Nat) (x0 : Nat) (x1 : Nat) (x2 : Int32) (x3 : Int32) (h : qH) (Q : qH → Prop) (hw : w_Night_goByWithAll N x0 x1 x2 x3 h Q) : Met l y_Night_goByWithAll (Cond.code y_Night_goByWithAll prog_3_method_2_code 5 (none) :: qT) (qrm 5 0 0 115) (qPc D cy b adK adV h [qr b x0, qr b x1, .int x2, .int x3]) (qQc D cy b qrV (fun (_ : Unit) h => Q h)) 0 0 (qA b) := by
  refine qmet (L0 := [(0, .inr (.inr (.inl x0))), (1, .inr (.inr (.inl x1))), (2, .inl x2), (3, .inl x3)]) qm_Night_goByWithAll (plainFor_of_name (by decide)) [.inr (.inr (.inl x0)), .inr (.inr (.inl x1)), .inl x2, .inl x3] rfl (Nat.le_of_ble_eq_true rfl) rfl (fun p e s m args below meth c X => ?_)
  unfold w_Night_goByWithAll at hw
  refine qx_iconst (v := (0 : Int32)) X d_Night_goByWithAll_0 (by decide) ?_
  refine qx_istore (L' := [(4, .inl (0 : Int32)), (0, .inr (.inr (.inl x0))), (1, .inr (.inr (.inl x1))), (2, .inl x2), (3, .inl x3)]) X d_Night_goByWithAll_1 (by decide) rfl ?_
  refine qx_sub [1, 2, 3, 4, 0] rfl ?_
  exact t_Night_goByWithAll_3 X N N x0 x1 x2 x3 (0 : Int32) h Q  hw 
set_option maxRecDepth 4000 in
theorem t_Night_staysHung_3 (X : qX p s m args meth c D cy b adK adV prog_3_method_3_code "CoatHangers$Night" 6 (some .boolean) "staysHung") (N k : Nat) (x0 : Nat) (x1 : Nat) (x2 : Int32) (x3 : Int32) (x4 : Int32) (x5 : Int32) (h : qH) (Q : Int32 → qH → Prop)  (hw : w_Night_staysHung_3 N k x0 x1 x2 x3 x4 x5 h Q ) : qW p l e (qrm 5 0 0 115) s m args below meth c D cy b 6 0 0 (MQ below (qQc D cy b qrI Q) args s 0 0 (qA b)) 3 [(0, .inr (.inr (.inl x0))), (1, .inr (.inr (.inl x1))), (2, .inl x2), (3, .inl x3), (4, .inl x4), (5, .inl x5)] [] h := by
  induction k generalizing x0 x1 x2 x3 x4 x5 h with
  | zero => exact hw.elim
  | succ k ih =>
    refine qx_iload (x := x5) X d_Night_staysHung_3 5 rfl ?_
    refine qx_iload_n (x := x2) X d_Night_staysHung_5 rfl 2 rfl ?_
    refine qx_icmp_ge X 30 d_Night_staysHung_6 (by decide) (fun q1 => ?_) (fun q1 => ?_)
    · have hw := hw.1 q1
      refine qx_aload_n (x := x1) X d_Night_staysHung_30 rfl 1 rfl ?_
      refine qx_iload (x := x4) X d_Night_staysHung_31 4 rfl ?_
      obtain ⟨g2, hw⟩ := hw
      refine qx_callVI (st := []) (As := [.int x4]) X (t_State_isHung (adK := adK) (adV := adV) l D cy b N x1 x4 h _ hw) qm_State_isHung wm_Night_27 wi_State_isHung wl_State_isHung qcls6 g2 rfl rfl rfl ⟨Nat.le_of_ble_eq_true rfl, Nat.le_of_ble_eq_true rfl⟩ ⟨Nat.le_refl 0, Nat.le_refl 0⟩ (Nat.le_of_ble_eq_true rfl) rfl d_Night_staysHung_33 (fun r3 h4 hw => ?_)
      exact qx_zret X hw (Nat.le_refl 0) (Nat.le_refl 0) rfl d_Night_staysHung_36
    · have hw := hw.2 q1
      refine qx_aload_n (x := x1) X d_Night_staysHung_9 rfl 1 rfl ?_
      refine qx_iload (x := x4) X d_Night_staysHung_10 4 rfl ?_
      obtain ⟨g5, hw⟩ := hw
      refine qx_callVI (st := []) (As := [.int x4]) X (t_State_isHung (adK := adK) (adV := adV) l D cy b N x1 x4 h _ hw) qm_State_isHung wm_Night_27 wi_State_isHung wl_State_isHung qcls6 g5 rfl rfl rfl ⟨Nat.le_of_ble_eq_true rfl, Nat.le_of_ble_eq_true rfl⟩ ⟨Nat.le_refl 0, Nat.le_refl 0⟩ (Nat.le_of_ble_eq_true rfl) rfl d_Night_staysHung_12 (fun r6 h7 hw => ?_)
      refine qx_if_eq X 30 d_Night_staysHung_15 (by decide) (fun q8 => ?_) (fun q8 => ?_)
      · have hw := hw.1 q8
        refine qx_aload_n (x := x1) X d_Night_staysHung_30 rfl 1 rfl ?_
        refine qx_iload (x := x4) X d_Night_staysHung_31 4 rfl ?_
        obtain ⟨g9, hw⟩ := hw
        refine qx_callVI (st := []) (As := [.int x4]) X (t_State_isHung (adK := adK) (adV := adV) l D cy b N x1 x4 h7 _ hw) qm_State_isHung wm_Night_27 wi_State_isHung wl_State_isHung qcls6 g9 rfl rfl rfl ⟨Nat.le_of_ble_eq_true rfl, Nat.le_of_ble_eq_true rfl⟩ ⟨Nat.le_refl 0, Nat.le_refl 0⟩ (Nat.le_of_ble_eq_true rfl) rfl d_Night_staysHung_33 (fun r10 h11 hw => ?_)
        exact qx_zret X hw (Nat.le_refl 0) (Nat.le_refl 0) rfl d_Night_staysHung_36
      · have hw := hw.2 q8
        refine qx_aload_n (x := x0) X d_Night_staysHung_18 rfl 0 rfl ?_
        refine qx_aload_n (x := x1) X d_Night_staysHung_19 rfl 1 rfl ?_
        refine qx_iload_n (x := x3) X d_Night_staysHung_20 rfl 3 rfl ?_
        obtain ⟨g12, hw⟩ := hw
        refine qx_callVV (st := []) (As := [qr b x1, .int x3]) X (t_Night_goByOnce (adK := adK) (adV := adV) l D cy b N x0 x1 x3 h7 _ hw) qm_Night_goByOnce wm_Night_23 wi_Night_goByOnce wl_Night_goByOnce qcls1 g12 rfl rfl rfl ⟨Nat.le_of_ble_eq_true rfl, Nat.le_of_ble_eq_true rfl⟩ ⟨Nat.le_refl 0, Nat.le_refl 0⟩ (Nat.le_of_ble_eq_true rfl) rfl d_Night_staysHung_21 (fun h13 hw => ?_)
        refine qx_iinc (v := (x5 + (1 : Int32))) (L' := [(5, .inl (x5 + (1 : Int32))), (0, .inr (.inr (.inl x0))), (1, .inr (.inr (.inl x1))), (2, .inl x2), (3, .inl x3), (4, .inl x4)]) X d_Night_staysHung_24 5 rfl rfl (by decide) rfl ?_
        refine qx_goto X 3 d_Night_staysHung_27 (by decide) ?_
        refine qx_sub [1, 2, 3, 4, 5, 0] rfl ?_
        exact ih x0 x1 x2 x3 x4 (x5 + (1 : Int32)) h13 hw
set_option maxRecDepth 4000 in
theorem t_Night_staysHung {adK adV : Nat → Nat} (l : Launch) (D : va_G) (cy : Nat → ClassId) (b : Nat) (N : Nat) (x0 : Nat) (x1 : Nat) (x2 : Int32) (x3 : Int32) (x4 : Int32) (h : qH) (Q : Int32 → qH → Prop) (hw : w_Night_staysHung N x0 x1 x2 x3 x4 h Q) : Met l y_Night_staysHung (Cond.code y_Night_staysHung prog_3_method_3_code 6 (some .boolean) :: qT) (qrm 5 0 0 115) (qPc D cy b adK adV h [qr b x0, qr b x1, .int x2, .int x3, .int x4]) (qQc D cy b qrI Q) 0 0 (qA b) := by
  refine qmet (L0 := [(0, .inr (.inr (.inl x0))), (1, .inr (.inr (.inl x1))), (2, .inl x2), (3, .inl x3), (4, .inl x4)]) qm_Night_staysHung (plainFor_of_name (by decide)) [.inr (.inr (.inl x0)), .inr (.inr (.inl x1)), .inl x2, .inl x3, .inl x4] rfl (Nat.le_of_ble_eq_true rfl) rfl (fun p e s m args below meth c X => ?_)
  unfold w_Night_staysHung at hw
  refine qx_iconst (v := (0 : Int32)) X d_Night_staysHung_0 (by decide) ?_
  refine qx_istore (L' := [(5, .inl (0 : Int32)), (0, .inr (.inr (.inl x0))), (1, .inr (.inr (.inl x1))), (2, .inl x2), (3, .inl x3), (4, .inl x4)]) X d_Night_staysHung_1 (by decide) rfl ?_
  refine qx_sub [1, 2, 3, 4, 5, 0] rfl ?_
  exact t_Night_staysHung_3 X N N x0 x1 x2 x3 x4 (0 : Int32) h Q  hw 
set_option maxRecDepth 4000 in
theorem t_Night_goByQuietly_2 (X : qX p s m args meth c D cy b adK adV prog_3_method_4_code "CoatHangers$Night" 3 (none) "goByQuietly") (N k : Nat) (x0 : Nat) (x1 : Nat) (x2 : Int32) (h : qH) (Q : qH → Prop) (K25 : Nat → Nat → qH → Prop) (hw : w_Night_goByQuietly_2 N k x0 x1 x2 h Q K25) (hK25 : ∀ (x0 : Nat) (x1 : Nat) (h : qH), K25 x0 x1 h → qW p l e (qrm 4 0 0 92) s m args below meth c D cy b 3 0 0 (MQ below (qQc D cy b qrV (fun (_ : Unit) h => Q h)) args s 0 0 (qA b)) 25 [(0, .inr (.inr (.inl x0))), (1, .inr (.inr (.inl x1)))] [] h) : qW p l e (qrm 4 0 0 92) s m args below meth c D cy b 3 0 0 (MQ below (qQc D cy b qrV (fun (_ : Unit) h => Q h)) args s 0 0 (qA b)) 2 [(0, .inr (.inr (.inl x0))), (1, .inr (.inr (.inl x1))), (2, .inl x2)] [] h := by
  induction k generalizing x0 x1 x2 h with
  | zero => exact hw.elim
  | succ k ih =>
    refine qx_iload_n (x := x2) X d_Night_goByQuietly_2 rfl 2 rfl ?_
    refine qx_aload_n (x := x0) X d_Night_goByQuietly_3 rfl 0 rfl ?_
    obtain ⟨g1, hw⟩ := hw
    refine qx_getR X qcls1 g1 0 (by decide) rfl wf_Night_15 d_Night_goByQuietly_4 ?_
    obtain ⟨g2, hw⟩ := hw
    refine qx_getI X qcls8 g2 3 (by decide) rfl wf_Night_33 d_Night_goByQuietly_7 ?_
    refine qx_icmp_ge X 25 d_Night_goByQuietly_10 (by decide) (fun q3 => ?_) (fun q3 => ?_)
    · have hw := hw.1 q3
      refine qx_sub [0, 1] rfl ?_
      exact hK25 x0 x1 h hw
    · have hw := hw.2 q3
      refine qx_aload_n (x := x0) X d_Night_goByQuietly_13 rfl 0 rfl ?_
      refine qx_aload_n (x := x1) X d_Night_goByQuietly_14 rfl 1 rfl ?_
      refine qx_iload_n (x := x2) X d_Night_goByQuietly_15 rfl 2 rfl ?_
      refine qx_callVV (st := []) (As := [qr b x1, .int x2]) X (t_Night_crook (adK := adK) (adV := adV) l D cy b N x0 x1 x2 h _ hw) qm_Night_crook wm_Night_39 wi_Night_crook wl_Night_crook qcls1 g1 rfl rfl rfl ⟨Nat.le_of_ble_eq_true rfl, Nat.le_of_ble_eq_true rfl⟩ ⟨Nat.le_refl 0, Nat.le_refl 0⟩ (Nat.le_of_ble_eq_true rfl) rfl d_Night_goByQuietly_16 (fun h4 hw => ?_)
      refine qx_iinc (v := (x2 + (1 : Int32))) (L' := [(2, .inl (x2 + (1 : Int32))), (0, .inr (.inr (.inl x0))), (1, .inr (.inr (.inl x1)))]) X d_Night_goByQuietly_19 2 rfl rfl (by decide) rfl ?_
      refine qx_goto X 2 d_Night_goByQuietly_22 (by decide) ?_
      refine qx_sub [1, 2, 0] rfl ?_
      exact ih x0 x1 (x2 + (1 : Int32)) h4 hw
set_option maxRecDepth 4000 in
theorem t_Night_goByQuietly {adK adV : Nat → Nat} (l : Launch) (D : va_G) (cy : Nat → ClassId) (b : Nat) (N : Nat) (x0 : Nat) (x1 : Nat) (h : qH) (Q : qH → Prop) (hw : w_Night_goByQuietly N x0 x1 h Q) : Met l y_Night_goByQuietly (Cond.code y_Night_goByQuietly prog_3_method_4_code 3 (none) :: qT) (qrm 4 0 0 92) (qPc D cy b adK adV h [qr b x0, qr b x1]) (qQc D cy b qrV (fun (_ : Unit) h => Q h)) 0 0 (qA b) := by
  refine qmet (L0 := [(0, .inr (.inr (.inl x0))), (1, .inr (.inr (.inl x1)))]) qm_Night_goByQuietly (plainFor_of_name (by decide)) [.inr (.inr (.inl x0)), .inr (.inr (.inl x1))] rfl (Nat.le_of_ble_eq_true rfl) rfl (fun p e s m args below meth c X => ?_)
  unfold w_Night_goByQuietly at hw
  refine qx_iconst (v := (0 : Int32)) X d_Night_goByQuietly_0 (by decide) ?_
  refine qx_istore_n (L' := [(2, .inl (0 : Int32)), (0, .inr (.inr (.inl x0))), (1, .inr (.inr (.inl x1)))]) X d_Night_goByQuietly_1 rfl (by decide) rfl ?_
  refine qx_sub [1, 2, 0] rfl ?_
  refine t_Night_goByQuietly_2 X N N x0 x1 (0 : Int32) h Q _ hw (fun x1 x2 h3 hw => ?_)
  refine qx_aload_n (x := x1) X d_Night_goByQuietly_25 rfl 0 rfl ?_
  refine qx_aload_n (x := x2) X d_Night_goByQuietly_26 rfl 1 rfl ?_
  obtain ⟨g4, hw⟩ := hw
  refine qx_callVV (st := []) (As := [qr b x2]) X (t_Night_wakeAll (adK := adK) (adV := adV) l D cy b N x1 x2 h3 _ hw) qm_Night_wakeAll wm_Night_42 wi_Night_wakeAll wl_Night_wakeAll qcls1 g4 rfl rfl rfl ⟨Nat.le_of_ble_eq_true rfl, Nat.le_of_ble_eq_true rfl⟩ ⟨Nat.le_refl 0, Nat.le_refl 0⟩ (Nat.le_of_ble_eq_true rfl) rfl d_Night_goByQuietly_27 (fun h5 hw => ?_)
  refine qx_aload_n (x := x2) X d_Night_goByQuietly_30 rfl 1 rfl ?_
  refine qx_dup X (qr_cat _ _) d_Night_goByQuietly_31 ?_
  obtain ⟨g6, hw⟩ := hw
  refine qx_getI X qcls6 g6 1 (by decide) rfl wf_Night_46 d_Night_goByQuietly_32 ?_
  refine qx_iconst (v := (1 : Int32)) X d_Night_goByQuietly_35 (by decide) ?_
  refine qx_iadd X d_Night_goByQuietly_36 ?_
  refine qx_putI X qcls6 g6 1 (by decide) rfl wf_Night_46 rfl rfl rfl d_Night_goByQuietly_37 ?_
  refine qx_toph (fun h7 eh7 => ?_)
  have hw := hw h7 eh7
  exact qx_vret X hw (Nat.le_refl 0) (Nat.le_refl 0) rfl d_Night_goByQuietly_40
end QG
