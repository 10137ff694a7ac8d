/-! Reckoner: written by wip/whole/emit.py out of the bytecode -/
def y_Reck_joined : MethodName := ⟨"CoatHangers$Reckoner", "joined", "(III)I"⟩
theorem qm_Reck_joined : qMt y_Reck_joined prog_7_method_9_code 3 (some .int) 3 := ⟨qT_4 (i := 123) (by decide +kernel) rfl, qT_1 (i := 12) (by decide +kernel) rfl, by decide, by decide, by decide +kernel⟩
theorem wi_Reck_joined : Cond.static y_Reck_joined ∈ qT := qT_4 (i := 122) (by decide +kernel) rfl
def y_Reck_varOf : MethodName := ⟨"CoatHangers$Reckoner", "varOf", "(I)I"⟩
theorem qm_Reck_varOf : qMt y_Reck_varOf prog_7_method_8_code 2 (some .int) 1 := ⟨qT_4 (i := 120) (by decide +kernel) rfl, qT_1 (i := 12) (by decide +kernel) rfl, by decide, by decide, by decide +kernel⟩
theorem wi_Reck_varOf : Cond.instanceMethod y_Reck_varOf ∈ qT := qT_4 (i := 119) (by decide +kernel) rfl
theorem wl_Reck_varOf : Cond.selects y_Reck_varOf.cls y_Reck_varOf y_Reck_varOf ∈ qT := qT_s (i := 33) (by decide +kernel) rfl
def y_Reck_valueOf : MethodName := ⟨"CoatHangers$Reckoner", "valueOf", "(LCoatHangers$Law;)I"⟩
theorem qm_Reck_valueOf : qMt y_Reck_valueOf prog_7_method_7_code 6 (some .int) 1 := ⟨qT_4 (i := 116) (by decide +kernel) rfl, qT_1 (i := 12) (by decide +kernel) rfl, by decide, by decide, by decide +kernel⟩
theorem wi_Reck_valueOf : Cond.instanceMethod y_Reck_valueOf ∈ qT := qT_4 (i := 115) (by decide +kernel) rfl
theorem wl_Reck_valueOf : Cond.selects y_Reck_valueOf.cls y_Reck_valueOf y_Reck_valueOf ∈ qT := qT_s (i := 32) (by decide +kernel) rfl
def y_Reck_lawTells : MethodName := ⟨"CoatHangers$Reckoner", "lawTells", "(I)I"⟩
theorem qm_Reck_lawTells : qMt y_Reck_lawTells prog_7_method_6_code 3 (some .int) 1 := ⟨qT_4 (i := 111) (by decide +kernel) rfl, qT_1 (i := 12) (by decide +kernel) rfl, by decide, by decide, by decide +kernel⟩
theorem wi_Reck_lawTells : Cond.instanceMethod y_Reck_lawTells ∈ qT := qT_4 (i := 109) (by decide +kernel) rfl
theorem wl_Reck_lawTells : Cond.selects y_Reck_lawTells.cls y_Reck_lawTells y_Reck_lawTells ∈ qT := qT_4 (i := 110) (by decide +kernel) rfl
def y_Reck_lookAt : MethodName := ⟨"CoatHangers$Reckoner", "lookAt", "(LCoatHangers$State;III)V"⟩
theorem qm_Reck_lookAt : qMt y_Reck_lookAt prog_7_method_3_code 7 (none) 4 := ⟨qT_4 (i := 104) (by decide +kernel) rfl, qT_1 (i := 12) (by decide +kernel) rfl, by decide, by decide, by decide +kernel⟩
theorem wi_Reck_lookAt : Cond.instanceMethod y_Reck_lookAt ∈ qT := qT_4 (i := 102) (by decide +kernel) rfl
theorem wl_Reck_lookAt : Cond.selects y_Reck_lookAt.cls y_Reck_lookAt y_Reck_lookAt ∈ qT := qT_4 (i := 103) (by decide +kernel) rfl
def y_Reck_costAlone : MethodName := ⟨"CoatHangers$Reckoner", "costAlone", "(LCoatHangers$State;II)I"⟩
theorem qm_Reck_costAlone : qMt y_Reck_costAlone prog_7_method_4_code 4 (some .int) 3 := ⟨qT_4 (i := 237) (by decide +kernel) rfl, qT_1 (i := 12) (by decide +kernel) rfl, by decide, by decide, by decide +kernel⟩
theorem wi_Reck_costAlone : Cond.instanceMethod y_Reck_costAlone ∈ qT := qT_4 (i := 235) (by decide +kernel) rfl
theorem wl_Reck_costAlone : Cond.selects y_Reck_costAlone.cls y_Reck_costAlone y_Reck_costAlone ∈ qT := qT_4 (i := 236) (by decide +kernel) rfl
def y_Reck_lookAtHung : MethodName := ⟨"CoatHangers$Reckoner", "lookAtHung", "(LCoatHangers$State;I)V"⟩
theorem qm_Reck_lookAtHung : qMt y_Reck_lookAtHung prog_7_method_2_code 3 (none) 2 := ⟨qT_4 (i := 98) (by decide +kernel) rfl, qT_1 (i := 12) (by decide +kernel) rfl, by decide, by decide, by decide +kernel⟩
theorem wi_Reck_lookAtHung : Cond.instanceMethod y_Reck_lookAtHung ∈ qT := qT_4 (i := 96) (by decide +kernel) rfl
theorem wl_Reck_lookAtHung : Cond.selects y_Reck_lookAtHung.cls y_Reck_lookAtHung y_Reck_lookAtHung ∈ qT := qT_4 (i := 97) (by decide +kernel) rfl
def y_Reck_costOfAll : MethodName := ⟨"CoatHangers$Reckoner", "costOfAll", "(LCoatHangers$State;)I"⟩
theorem qm_Reck_costOfAll : qMt y_Reck_costOfAll prog_7_method_5_code 4 (some .int) 1 := ⟨qT_5 (i := 112) (by decide +kernel) rfl, qT_1 (i := 12) (by decide +kernel) rfl, by decide, by decide, by decide +kernel⟩
theorem wi_Reck_costOfAll : Cond.instanceMethod y_Reck_costOfAll ∈ qT := qT_5 (i := 110) (by decide +kernel) rfl
theorem wl_Reck_costOfAll : Cond.selects y_Reck_costOfAll.cls y_Reck_costOfAll y_Reck_costOfAll ∈ qT := qT_5 (i := 111) (by decide +kernel) rfl
theorem wf_Reck_11 : Cond.fieldLink "CoatHangers$Reckoner" 11 "CoatHangers$Reckoner" "vars" "[I" ∈ qT := qT_2 (i := 112) (by decide +kernel) rfl
theorem wf_Reck_93 : Cond.fieldLink "CoatHangers$Reckoner" 93 "CoatHangers$Law" "size" "I" ∈ qT := qT_1 (i := 135) (by decide +kernel) rfl
theorem wf_Reck_98 : Cond.fieldLink "CoatHangers$Reckoner" 98 "CoatHangers$Law" "kinds" "[I" ∈ qT := qT_1 (i := 131) (by decide +kernel) rfl
theorem wf_Reck_101 : Cond.fieldLink "CoatHangers$Reckoner" 101 "CoatHangers$Law" "values" "[I" ∈ qT := qT_1 (i := 133) (by decide +kernel) rfl
theorem wf_Reck_15 : Cond.fieldLink "CoatHangers$Reckoner" 15 "CoatHangers$Reckoner" "pile" "[I" ∈ qT := qT_2 (i := 113) (by decide +kernel) rfl
theorem wm_Reck_104 : Cond.methodLink "CoatHangers$Reckoner" 104 y_Reck_varOf ∈ qT := qT_4 (i := 117) (by decide +kernel) rfl
theorem wm_Reck_90 : Cond.methodLink "CoatHangers$Reckoner" 90 Lib.Math.max.name ∈ qT := qT_4 (i := 124) (by decide +kernel) rfl
theorem wm_Reck_107 : Cond.methodLink "CoatHangers$Reckoner" 107 y_Reck_joined ∈ qT := qT_4 (i := 121) (by decide +kernel) rfl
theorem wf_Reck_18 : Cond.fieldLink "CoatHangers$Reckoner" 18 "CoatHangers$Reckoner" "text" "LCoatHangers$Text;" ∈ qT := qT_2 (i := 111) (by decide +kernel) rfl
theorem wm_Reck_78 : Cond.methodLink "CoatHangers$Reckoner" 78 y_Text_law ∈ qT := qT_4 (i := 112) (by decide +kernel) rfl
theorem wm_Reck_82 : Cond.methodLink "CoatHangers$Reckoner" 82 y_Reck_valueOf ∈ qT := qT_4 (i := 113) (by decide +kernel) rfl
theorem wm_Reck_86 : Cond.methodLink "CoatHangers$Reckoner" 86 Lib.Math.min.name ∈ qT := qT_4 (i := 125) (by decide +kernel) rfl
theorem wf_Reck_39 : Cond.fieldLink "CoatHangers$Reckoner" 39 "CoatHangers$State" "bent" "[I" ∈ qT := qT_2 (i := 87) (by decide +kernel) rfl
theorem wf_Reck_42 : Cond.fieldLink "CoatHangers$Reckoner" 42 "CoatHangers$State" "wide" "[I" ∈ qT := qT_2 (i := 71) (by decide +kernel) rfl
theorem wf_Reck_45 : Cond.fieldLink "CoatHangers$Reckoner" 45 "CoatHangers$Text" "breadth" "[I" ∈ qT := qT_1 (i := 167) (by decide +kernel) rfl
theorem wm_Reck_50 : Cond.methodLink "CoatHangers$Reckoner" 50 Lib.Math.abs.name ∈ qT := qT_4 (i := 105) (by decide +kernel) rfl
theorem wf_Reck_55 : Cond.fieldLink "CoatHangers$Reckoner" 55 "CoatHangers$Text" "rank" "[I" ∈ qT := qT_1 (i := 182) (by decide +kernel) rfl
theorem wf_Reck_58 : Cond.fieldLink "CoatHangers$Reckoner" 58 "CoatHangers$State" "night" "I" ∈ qT := qT_2 (i := 67) (by decide +kernel) rfl
theorem wf_Reck_62 : Cond.fieldLink "CoatHangers$Reckoner" 62 "CoatHangers$State" "crooked" "[I" ∈ qT := qT_2 (i := 83) (by decide +kernel) rfl
theorem wf_Reck_65 : Cond.fieldLink "CoatHangers$Reckoner" 65 "CoatHangers$Text" "nail" "[I" ∈ qT := qT_1 (i := 161) (by decide +kernel) rfl
theorem wm_Reck_35 : Cond.methodLink "CoatHangers$Reckoner" 35 y_Reck_lookAt ∈ qT := qT_4 (i := 101) (by decide +kernel) rfl
theorem wm_Reck_68 : Cond.methodLink "CoatHangers$Reckoner" 68 y_Reck_lawTells ∈ qT := qT_4 (i := 238) (by decide +kernel) rfl
theorem wm_Reck_22 : Cond.methodLink "CoatHangers$Reckoner" 22 y_State_isHung ∈ qT := qT_4 (i := 99) (by decide +kernel) rfl
theorem wf_Reck_28 : Cond.fieldLink "CoatHangers$Reckoner" 28 "CoatHangers$State" "on" "[I" ∈ qT := qT_2 (i := 75) (by decide +kernel) rfl
theorem wm_Reck_31 : Cond.methodLink "CoatHangers$Reckoner" 31 y_State_othersBeside ∈ qT := qT_4 (i := 100) (by decide +kernel) rfl
theorem wf_Reck_71 : Cond.fieldLink "CoatHangers$Reckoner" 71 "CoatHangers$Text" "people" "I" ∈ qT := qT_1 (i := 175) (by decide +kernel) rfl
theorem wm_Reck_74 : Cond.methodLink "CoatHangers$Reckoner" 74 y_Reck_lookAtHung ∈ qT := qT_5 (i := 113) (by decide +kernel) rfl
theorem d_Reck_joined_0 : decode prog_7_method_9_code 0 = .ok (.iload_n 0, 1) := by decide +kernel
theorem d_Reck_joined_1 : decode prog_7_method_9_code 1 = .ok (.tableswitch 43 42 45 #[39, 31, 43, 35], 31) := by decide +kernel
theorem d_Reck_joined_32 : decode prog_7_method_9_code 32 = .ok (.iload_n 1, 1) := by decide +kernel
theorem d_Reck_joined_33 : decode prog_7_method_9_code 33 = .ok (.iload_n 2, 1) := by decide +kernel
theorem d_Reck_joined_34 : decode prog_7_method_9_code 34 = .ok (.iadd, 1) := by decide +kernel
theorem d_Reck_joined_35 : decode prog_7_method_9_code 35 = .ok (.ireturn, 1) := by decide +kernel
theorem d_Reck_joined_36 : decode prog_7_method_9_code 36 = .ok (.iload_n 1, 1) := by decide +kernel
theorem d_Reck_joined_37 : decode prog_7_method_9_code 37 = .ok (.iload_n 2, 1) := by decide +kernel
theorem d_Reck_joined_38 : decode prog_7_method_9_code 38 = .ok (.isub, 1) := by decide +kernel
theorem d_Reck_joined_39 : decode prog_7_method_9_code 39 = .ok (.ireturn, 1) := by decide +kernel
theorem d_Reck_joined_40 : decode prog_7_method_9_code 40 = .ok (.iload_n 1, 1) := by decide +kernel
theorem d_Reck_joined_41 : decode prog_7_method_9_code 41 = .ok (.iload_n 2, 1) := by decide +kernel
theorem d_Reck_joined_42 : decode prog_7_method_9_code 42 = .ok (.imul, 1) := by decide +kernel
theorem d_Reck_joined_43 : decode prog_7_method_9_code 43 = .ok (.ireturn, 1) := by decide +kernel
theorem d_Reck_joined_44 : decode prog_7_method_9_code 44 = .ok (.iload_n 2, 1) := by decide +kernel
theorem d_Reck_joined_45 : decode prog_7_method_9_code 45 = .ok (.ifCond .ne 7, 3) := by decide +kernel
theorem d_Reck_joined_48 : decode prog_7_method_9_code 48 = .ok (.iconst 0, 1) := by decide +kernel
theorem d_Reck_joined_49 : decode prog_7_method_9_code 49 = .ok (.goto 6, 3) := by decide +kernel
theorem d_Reck_joined_52 : decode prog_7_method_9_code 52 = .ok (.iload_n 1, 1) := by decide +kernel
theorem d_Reck_joined_53 : decode prog_7_method_9_code 53 = .ok (.iload_n 2, 1) := by decide +kernel
theorem d_Reck_joined_54 : decode prog_7_method_9_code 54 = .ok (.idiv, 1) := by decide +kernel
theorem d_Reck_joined_55 : decode prog_7_method_9_code 55 = .ok (.ireturn, 1) := by decide +kernel
theorem d_Reck_varOf_0 : decode prog_7_method_8_code 0 = .ok (.iload_n 1, 1) := by decide +kernel
theorem d_Reck_varOf_1 : decode prog_7_method_8_code 1 = .ok (.ifCond .lt 18, 3) := by decide +kernel
theorem d_Reck_varOf_4 : decode prog_7_method_8_code 4 = .ok (.iload_n 1, 1) := by decide +kernel
theorem d_Reck_varOf_5 : decode prog_7_method_8_code 5 = .ok (.bipush 9, 2) := by decide +kernel
theorem d_Reck_varOf_7 : decode prog_7_method_8_code 7 = .ok (.if_icmp .ge 12, 3) := by decide +kernel
theorem d_Reck_varOf_10 : decode prog_7_method_8_code 10 = .ok (.aload_n 0, 1) := by decide +kernel
theorem d_Reck_varOf_11 : decode prog_7_method_8_code 11 = .ok (.getfield 11, 3) := by decide +kernel
theorem d_Reck_varOf_14 : decode prog_7_method_8_code 14 = .ok (.iload_n 1, 1) := by decide +kernel
theorem d_Reck_varOf_15 : decode prog_7_method_8_code 15 = .ok (.iaload, 1) := by decide +kernel
theorem d_Reck_varOf_16 : decode prog_7_method_8_code 16 = .ok (.goto 4, 3) := by decide +kernel
theorem d_Reck_varOf_19 : decode prog_7_method_8_code 19 = .ok (.iconst 0, 1) := by decide +kernel
theorem d_Reck_varOf_20 : decode prog_7_method_8_code 20 = .ok (.ireturn, 1) := by decide +kernel
theorem d_Reck_valueOf_0 : decode prog_7_method_7_code 0 = .ok (.iconst 0, 1) := by decide +kernel
theorem d_Reck_valueOf_1 : decode prog_7_method_7_code 1 = .ok (.istore_n 2, 1) := by decide +kernel
theorem d_Reck_valueOf_2 : decode prog_7_method_7_code 2 = .ok (.iconst 0, 1) := by decide +kernel
theorem d_Reck_valueOf_3 : decode prog_7_method_7_code 3 = .ok (.istore_n 3, 1) := by decide +kernel
theorem d_Reck_valueOf_4 : decode prog_7_method_7_code 4 = .ok (.iload_n 3, 1) := by decide +kernel
theorem d_Reck_valueOf_5 : decode prog_7_method_7_code 5 = .ok (.aload_n 1, 1) := by decide +kernel
theorem d_Reck_valueOf_6 : decode prog_7_method_7_code 6 = .ok (.getfield 93, 3) := by decide +kernel
theorem d_Reck_valueOf_9 : decode prog_7_method_7_code 9 = .ok (.if_icmp .ge 186, 3) := by decide +kernel
theorem d_Reck_valueOf_12 : decode prog_7_method_7_code 12 = .ok (.aload_n 1, 1) := by decide +kernel
theorem d_Reck_valueOf_13 : decode prog_7_method_7_code 13 = .ok (.getfield 98, 3) := by decide +kernel
theorem d_Reck_valueOf_16 : decode prog_7_method_7_code 16 = .ok (.iload_n 3, 1) := by decide +kernel
theorem d_Reck_valueOf_17 : decode prog_7_method_7_code 17 = .ok (.iaload, 1) := by decide +kernel
theorem d_Reck_valueOf_18 : decode prog_7_method_7_code 18 = .ok (.istore 4, 2) := by decide +kernel
theorem d_Reck_valueOf_20 : decode prog_7_method_7_code 20 = .ok (.aload_n 1, 1) := by decide +kernel
theorem d_Reck_valueOf_21 : decode prog_7_method_7_code 21 = .ok (.getfield 101, 3) := by decide +kernel
theorem d_Reck_valueOf_24 : decode prog_7_method_7_code 24 = .ok (.iload_n 3, 1) := by decide +kernel
theorem d_Reck_valueOf_25 : decode prog_7_method_7_code 25 = .ok (.iaload, 1) := by decide +kernel
theorem d_Reck_valueOf_26 : decode prog_7_method_7_code 26 = .ok (.istore 5, 2) := by decide +kernel
theorem d_Reck_valueOf_28 : decode prog_7_method_7_code 28 = .ok (.iinc 3 1, 3) := by decide +kernel
theorem d_Reck_valueOf_31 : decode prog_7_method_7_code 31 = .ok (.iload 4, 2) := by decide +kernel
theorem d_Reck_valueOf_33 : decode prog_7_method_7_code 33 = .ok (.iconst 1, 1) := by decide +kernel
theorem d_Reck_valueOf_34 : decode prog_7_method_7_code 34 = .ok (.if_icmp .eq 9, 3) := by decide +kernel
theorem d_Reck_valueOf_37 : decode prog_7_method_7_code 37 = .ok (.iload 4, 2) := by decide +kernel
theorem d_Reck_valueOf_39 : decode prog_7_method_7_code 39 = .ok (.iconst 2, 1) := by decide +kernel
theorem d_Reck_valueOf_40 : decode prog_7_method_7_code 40 = .ok (.if_icmp .ne 40, 3) := by decide +kernel
theorem d_Reck_valueOf_43 : decode prog_7_method_7_code 43 = .ok (.iload_n 2, 1) := by decide +kernel
theorem d_Reck_valueOf_44 : decode prog_7_method_7_code 44 = .ok (.bipush 32, 2) := by decide +kernel
theorem d_Reck_valueOf_46 : decode prog_7_method_7_code 46 = .ok (.if_icmp .lt 5, 3) := by decide +kernel
theorem d_Reck_valueOf_49 : decode prog_7_method_7_code 49 = .ok (.iconst 0, 1) := by decide +kernel
theorem d_Reck_valueOf_50 : decode prog_7_method_7_code 50 = .ok (.ireturn, 1) := by decide +kernel
theorem d_Reck_valueOf_51 : decode prog_7_method_7_code 51 = .ok (.aload_n 0, 1) := by decide +kernel
theorem d_Reck_valueOf_52 : decode prog_7_method_7_code 52 = .ok (.getfield 15, 3) := by decide +kernel
theorem d_Reck_valueOf_55 : decode prog_7_method_7_code 55 = .ok (.iload_n 2, 1) := by decide +kernel
theorem d_Reck_valueOf_56 : decode prog_7_method_7_code 56 = .ok (.iload 4, 2) := by decide +kernel
theorem d_Reck_valueOf_58 : decode prog_7_method_7_code 58 = .ok (.iconst 1, 1) := by decide +kernel
theorem d_Reck_valueOf_59 : decode prog_7_method_7_code 59 = .ok (.if_icmp .ne 8, 3) := by decide +kernel
theorem d_Reck_valueOf_62 : decode prog_7_method_7_code 62 = .ok (.iload 5, 2) := by decide +kernel
theorem d_Reck_valueOf_64 : decode prog_7_method_7_code 64 = .ok (.goto 9, 3) := by decide +kernel
theorem d_Reck_valueOf_67 : decode prog_7_method_7_code 67 = .ok (.aload_n 0, 1) := by decide +kernel
theorem d_Reck_valueOf_68 : decode prog_7_method_7_code 68 = .ok (.iload 5, 2) := by decide +kernel
theorem d_Reck_valueOf_70 : decode prog_7_method_7_code 70 = .ok (.invokevirtual 104, 3) := by decide +kernel
theorem d_Reck_valueOf_73 : decode prog_7_method_7_code 73 = .ok (.iastore, 1) := by decide +kernel
theorem d_Reck_valueOf_74 : decode prog_7_method_7_code 74 = .ok (.iinc 2 1, 3) := by decide +kernel
theorem d_Reck_valueOf_77 : decode prog_7_method_7_code 77 = .ok (.goto 115, 3) := by decide +kernel
theorem d_Reck_valueOf_80 : decode prog_7_method_7_code 80 = .ok (.iload 4, 2) := by decide +kernel
theorem d_Reck_valueOf_82 : decode prog_7_method_7_code 82 = .ok (.iconst 4, 1) := by decide +kernel
theorem d_Reck_valueOf_83 : decode prog_7_method_7_code 83 = .ok (.if_icmp .ne 20, 3) := by decide +kernel
theorem d_Reck_valueOf_86 : decode prog_7_method_7_code 86 = .ok (.iload_n 2, 1) := by decide +kernel
theorem d_Reck_valueOf_87 : decode prog_7_method_7_code 87 = .ok (.ifCond .le 14, 3) := by decide +kernel
theorem d_Reck_valueOf_90 : decode prog_7_method_7_code 90 = .ok (.aload_n 0, 1) := by decide +kernel
theorem d_Reck_valueOf_91 : decode prog_7_method_7_code 91 = .ok (.getfield 15, 3) := by decide +kernel
theorem d_Reck_valueOf_94 : decode prog_7_method_7_code 94 = .ok (.iload_n 2, 1) := by decide +kernel
theorem d_Reck_valueOf_95 : decode prog_7_method_7_code 95 = .ok (.iconst 1, 1) := by decide +kernel
theorem d_Reck_valueOf_96 : decode prog_7_method_7_code 96 = .ok (.isub, 1) := by decide +kernel
theorem d_Reck_valueOf_97 : decode prog_7_method_7_code 97 = .ok (.iaload, 1) := by decide +kernel
theorem d_Reck_valueOf_98 : decode prog_7_method_7_code 98 = .ok (.goto 4, 3) := by decide +kernel
theorem d_Reck_valueOf_101 : decode prog_7_method_7_code 101 = .ok (.iconst 0, 1) := by decide +kernel
theorem d_Reck_valueOf_102 : decode prog_7_method_7_code 102 = .ok (.ireturn, 1) := by decide +kernel
theorem d_Reck_valueOf_103 : decode prog_7_method_7_code 103 = .ok (.iload_n 2, 1) := by decide +kernel
theorem d_Reck_valueOf_104 : decode prog_7_method_7_code 104 = .ok (.iconst 2, 1) := by decide +kernel
theorem d_Reck_valueOf_105 : decode prog_7_method_7_code 105 = .ok (.if_icmp .lt 21, 3) := by decide +kernel
theorem d_Reck_valueOf_108 : decode prog_7_method_7_code 108 = .ok (.iload 4, 2) := by decide +kernel
theorem d_Reck_valueOf_110 : decode prog_7_method_7_code 110 = .ok (.bipush 47, 2) := by decide +kernel
theorem d_Reck_valueOf_112 : decode prog_7_method_7_code 112 = .ok (.if_icmp .ne 16, 3) := by decide +kernel
theorem d_Reck_valueOf_115 : decode prog_7_method_7_code 115 = .ok (.aload_n 0, 1) := by decide +kernel
theorem d_Reck_valueOf_116 : decode prog_7_method_7_code 116 = .ok (.getfield 15, 3) := by decide +kernel
theorem d_Reck_valueOf_119 : decode prog_7_method_7_code 119 = .ok (.iload_n 2, 1) := by decide +kernel
theorem d_Reck_valueOf_120 : decode prog_7_method_7_code 120 = .ok (.iconst 1, 1) := by decide +kernel
theorem d_Reck_valueOf_121 : decode prog_7_method_7_code 121 = .ok (.isub, 1) := by decide +kernel
theorem d_Reck_valueOf_122 : decode prog_7_method_7_code 122 = .ok (.iaload, 1) := by decide +kernel
theorem d_Reck_valueOf_123 : decode prog_7_method_7_code 123 = .ok (.ifCond .ne 5, 3) := by decide +kernel
theorem d_Reck_valueOf_126 : decode prog_7_method_7_code 126 = .ok (.iconst 0, 1) := by decide +kernel
theorem d_Reck_valueOf_127 : decode prog_7_method_7_code 127 = .ok (.ireturn, 1) := by decide +kernel
theorem d_Reck_valueOf_128 : decode prog_7_method_7_code 128 = .ok (.iinc 2 (-2), 3) := by decide +kernel
theorem d_Reck_valueOf_131 : decode prog_7_method_7_code 131 = .ok (.iload 4, 2) := by decide +kernel
theorem d_Reck_valueOf_133 : decode prog_7_method_7_code 133 = .ok (.iconst 3, 1) := by decide +kernel
theorem d_Reck_valueOf_134 : decode prog_7_method_7_code 134 = .ok (.if_icmp .eq 34, 3) := by decide +kernel
theorem d_Reck_valueOf_137 : decode prog_7_method_7_code 137 = .ok (.aload_n 0, 1) := by decide +kernel
theorem d_Reck_valueOf_138 : decode prog_7_method_7_code 138 = .ok (.getfield 15, 3) := by decide +kernel
theorem d_Reck_valueOf_141 : decode prog_7_method_7_code 141 = .ok (.iload_n 2, 1) := by decide +kernel
theorem d_Reck_valueOf_142 : decode prog_7_method_7_code 142 = .ok (.iload 4, 2) := by decide +kernel
theorem d_Reck_valueOf_144 : decode prog_7_method_7_code 144 = .ok (.aload_n 0, 1) := by decide +kernel
theorem d_Reck_valueOf_145 : decode prog_7_method_7_code 145 = .ok (.getfield 15, 3) := by decide +kernel
theorem d_Reck_valueOf_148 : decode prog_7_method_7_code 148 = .ok (.iload_n 2, 1) := by decide +kernel
theorem d_Reck_valueOf_149 : decode prog_7_method_7_code 149 = .ok (.iaload, 1) := by decide +kernel
theorem d_Reck_valueOf_150 : decode prog_7_method_7_code 150 = .ok (.aload_n 0, 1) := by decide +kernel
theorem d_Reck_valueOf_151 : decode prog_7_method_7_code 151 = .ok (.getfield 15, 3) := by decide +kernel
theorem d_Reck_valueOf_154 : decode prog_7_method_7_code 154 = .ok (.iload_n 2, 1) := by decide +kernel
theorem d_Reck_valueOf_155 : decode prog_7_method_7_code 155 = .ok (.iconst 1, 1) := by decide +kernel
theorem d_Reck_valueOf_156 : decode prog_7_method_7_code 156 = .ok (.iadd, 1) := by decide +kernel
theorem d_Reck_valueOf_157 : decode prog_7_method_7_code 157 = .ok (.iaload, 1) := by decide +kernel
theorem d_Reck_valueOf_158 : decode prog_7_method_7_code 158 = .ok (.invokestatic 107, 3) := by decide +kernel
theorem d_Reck_valueOf_161 : decode prog_7_method_7_code 161 = .ok (.iastore, 1) := by decide +kernel
theorem d_Reck_valueOf_162 : decode prog_7_method_7_code 162 = .ok (.iinc 2 1, 3) := by decide +kernel
theorem d_Reck_valueOf_165 : decode prog_7_method_7_code 165 = .ok (.goto 27, 3) := by decide +kernel
theorem d_Reck_valueOf_168 : decode prog_7_method_7_code 168 = .ok (.aload_n 0, 1) := by decide +kernel
theorem d_Reck_valueOf_169 : decode prog_7_method_7_code 169 = .ok (.getfield 15, 3) := by decide +kernel
theorem d_Reck_valueOf_172 : decode prog_7_method_7_code 172 = .ok (.iload_n 2, 1) := by decide +kernel
theorem d_Reck_valueOf_173 : decode prog_7_method_7_code 173 = .ok (.iaload, 1) := by decide +kernel
theorem d_Reck_valueOf_174 : decode prog_7_method_7_code 174 = .ok (.aload_n 0, 1) := by decide +kernel
theorem d_Reck_valueOf_175 : decode prog_7_method_7_code 175 = .ok (.getfield 15, 3) := by decide +kernel
theorem d_Reck_valueOf_178 : decode prog_7_method_7_code 178 = .ok (.iload_n 2, 1) := by decide +kernel
theorem d_Reck_valueOf_179 : decode prog_7_method_7_code 179 = .ok (.iconst 1, 1) := by decide +kernel
theorem d_Reck_valueOf_180 : decode prog_7_method_7_code 180 = .ok (.iadd, 1) := by decide +kernel
theorem d_Reck_valueOf_181 : decode prog_7_method_7_code 181 = .ok (.iaload, 1) := by decide +kernel
theorem d_Reck_valueOf_182 : decode prog_7_method_7_code 182 = .ok (.if_icmp .lt 10, 3) := by decide +kernel
theorem d_Reck_valueOf_185 : decode prog_7_method_7_code 185 = .ok (.iload_n 3, 1) := by decide +kernel
theorem d_Reck_valueOf_186 : decode prog_7_method_7_code 186 = .ok (.iload 5, 2) := by decide +kernel
theorem d_Reck_valueOf_188 : decode prog_7_method_7_code 188 = .ok (.invokestatic 90, 3) := by decide +kernel
theorem d_Reck_valueOf_191 : decode prog_7_method_7_code 191 = .ok (.istore_n 3, 1) := by decide +kernel
theorem d_Reck_valueOf_192 : decode prog_7_method_7_code 192 = .ok (.goto (-188), 3) := by decide +kernel
theorem d_Reck_valueOf_195 : decode prog_7_method_7_code 195 = .ok (.iconst 0, 1) := by decide +kernel
theorem d_Reck_valueOf_196 : decode prog_7_method_7_code 196 = .ok (.ireturn, 1) := by decide +kernel
theorem d_Reck_lawTells_0 : decode prog_7_method_6_code 0 = .ok (.iload_n 1, 1) := by decide +kernel
theorem d_Reck_lawTells_1 : decode prog_7_method_6_code 1 = .ok (.iconst 2, 1) := by decide +kernel
theorem d_Reck_lawTells_2 : decode prog_7_method_6_code 2 = .ok (.if_icmp .ne 8, 3) := by decide +kernel
theorem d_Reck_lawTells_5 : decode prog_7_method_6_code 5 = .ok (.bipush 100, 2) := by decide +kernel
theorem d_Reck_lawTells_7 : decode prog_7_method_6_code 7 = .ok (.goto 5, 3) := by decide +kernel
theorem d_Reck_lawTells_10 : decode prog_7_method_6_code 10 = .ok (.bipush 99, 2) := by decide +kernel
theorem d_Reck_lawTells_12 : decode prog_7_method_6_code 12 = .ok (.istore_n 2, 1) := by decide +kernel
theorem d_Reck_lawTells_13 : decode prog_7_method_6_code 13 = .ok (.iconst 0, 1) := by decide +kernel
theorem d_Reck_lawTells_14 : decode prog_7_method_6_code 14 = .ok (.iload_n 2, 1) := by decide +kernel
theorem d_Reck_lawTells_15 : decode prog_7_method_6_code 15 = .ok (.aload_n 0, 1) := by decide +kernel
theorem d_Reck_lawTells_16 : decode prog_7_method_6_code 16 = .ok (.aload_n 0, 1) := by decide +kernel
theorem d_Reck_lawTells_17 : decode prog_7_method_6_code 17 = .ok (.getfield 18, 3) := by decide +kernel
theorem d_Reck_lawTells_20 : decode prog_7_method_6_code 20 = .ok (.iload_n 1, 1) := by decide +kernel
theorem d_Reck_lawTells_21 : decode prog_7_method_6_code 21 = .ok (.invokevirtual 78, 3) := by decide +kernel
theorem d_Reck_lawTells_24 : decode prog_7_method_6_code 24 = .ok (.invokevirtual 82, 3) := by decide +kernel
theorem d_Reck_lawTells_27 : decode prog_7_method_6_code 27 = .ok (.invokestatic 86, 3) := by decide +kernel
theorem d_Reck_lawTells_30 : decode prog_7_method_6_code 30 = .ok (.invokestatic 90, 3) := by decide +kernel
theorem d_Reck_lawTells_33 : decode prog_7_method_6_code 33 = .ok (.ireturn, 1) := by decide +kernel
theorem d_Reck_lookAt_0 : decode prog_7_method_3_code 0 = .ok (.aload_n 1, 1) := by decide +kernel
theorem d_Reck_lookAt_1 : decode prog_7_method_3_code 1 = .ok (.getfield 39, 3) := by decide +kernel
theorem d_Reck_lookAt_4 : decode prog_7_method_3_code 4 = .ok (.iload_n 3, 1) := by decide +kernel
theorem d_Reck_lookAt_5 : decode prog_7_method_3_code 5 = .ok (.iaload, 1) := by decide +kernel
theorem d_Reck_lookAt_6 : decode prog_7_method_3_code 6 = .ok (.istore 5, 2) := by decide +kernel
theorem d_Reck_lookAt_8 : decode prog_7_method_3_code 8 = .ok (.aload_n 1, 1) := by decide +kernel
theorem d_Reck_lookAt_9 : decode prog_7_method_3_code 9 = .ok (.getfield 42, 3) := by decide +kernel
theorem d_Reck_lookAt_12 : decode prog_7_method_3_code 12 = .ok (.iload_n 2, 1) := by decide +kernel
theorem d_Reck_lookAt_13 : decode prog_7_method_3_code 13 = .ok (.iaload, 1) := by decide +kernel
theorem d_Reck_lookAt_14 : decode prog_7_method_3_code 14 = .ok (.istore 6, 2) := by decide +kernel
theorem d_Reck_lookAt_16 : decode prog_7_method_3_code 16 = .ok (.aload_n 0, 1) := by decide +kernel
theorem d_Reck_lookAt_17 : decode prog_7_method_3_code 17 = .ok (.getfield 11, 3) := by decide +kernel
theorem d_Reck_lookAt_20 : decode prog_7_method_3_code 20 = .ok (.iconst 0, 1) := by decide +kernel
theorem d_Reck_lookAt_21 : decode prog_7_method_3_code 21 = .ok (.iload 6, 2) := by decide +kernel
theorem d_Reck_lookAt_23 : decode prog_7_method_3_code 23 = .ok (.aload_n 0, 1) := by decide +kernel
theorem d_Reck_lookAt_24 : decode prog_7_method_3_code 24 = .ok (.getfield 18, 3) := by decide +kernel
theorem d_Reck_lookAt_27 : decode prog_7_method_3_code 27 = .ok (.getfield 45, 3) := by decide +kernel
theorem d_Reck_lookAt_30 : decode prog_7_method_3_code 30 = .ok (.iload_n 3, 1) := by decide +kernel
theorem d_Reck_lookAt_31 : decode prog_7_method_3_code 31 = .ok (.iaload, 1) := by decide +kernel
theorem d_Reck_lookAt_32 : decode prog_7_method_3_code 32 = .ok (.isub, 1) := by decide +kernel
theorem d_Reck_lookAt_33 : decode prog_7_method_3_code 33 = .ok (.invokestatic 50, 3) := by decide +kernel
theorem d_Reck_lookAt_36 : decode prog_7_method_3_code 36 = .ok (.iload 5, 2) := by decide +kernel
theorem d_Reck_lookAt_38 : decode prog_7_method_3_code 38 = .ok (.iadd, 1) := by decide +kernel
theorem d_Reck_lookAt_39 : decode prog_7_method_3_code 39 = .ok (.iastore, 1) := by decide +kernel
theorem d_Reck_lookAt_40 : decode prog_7_method_3_code 40 = .ok (.aload_n 0, 1) := by decide +kernel
theorem d_Reck_lookAt_41 : decode prog_7_method_3_code 41 = .ok (.getfield 11, 3) := by decide +kernel
theorem d_Reck_lookAt_44 : decode prog_7_method_3_code 44 = .ok (.iconst 1, 1) := by decide +kernel
theorem d_Reck_lookAt_45 : decode prog_7_method_3_code 45 = .ok (.iload 5, 2) := by decide +kernel
theorem d_Reck_lookAt_47 : decode prog_7_method_3_code 47 = .ok (.iastore, 1) := by decide +kernel
theorem d_Reck_lookAt_48 : decode prog_7_method_3_code 48 = .ok (.aload_n 0, 1) := by decide +kernel
theorem d_Reck_lookAt_49 : decode prog_7_method_3_code 49 = .ok (.getfield 11, 3) := by decide +kernel
theorem d_Reck_lookAt_52 : decode prog_7_method_3_code 52 = .ok (.iconst 2, 1) := by decide +kernel
theorem d_Reck_lookAt_53 : decode prog_7_method_3_code 53 = .ok (.iload 6, 2) := by decide +kernel
theorem d_Reck_lookAt_55 : decode prog_7_method_3_code 55 = .ok (.iastore, 1) := by decide +kernel
theorem d_Reck_lookAt_56 : decode prog_7_method_3_code 56 = .ok (.aload_n 0, 1) := by decide +kernel
theorem d_Reck_lookAt_57 : decode prog_7_method_3_code 57 = .ok (.getfield 11, 3) := by decide +kernel
theorem d_Reck_lookAt_60 : decode prog_7_method_3_code 60 = .ok (.iconst 3, 1) := by decide +kernel
theorem d_Reck_lookAt_61 : decode prog_7_method_3_code 61 = .ok (.aload_n 0, 1) := by decide +kernel
theorem d_Reck_lookAt_62 : decode prog_7_method_3_code 62 = .ok (.getfield 18, 3) := by decide +kernel
theorem d_Reck_lookAt_65 : decode prog_7_method_3_code 65 = .ok (.getfield 55, 3) := by decide +kernel
theorem d_Reck_lookAt_68 : decode prog_7_method_3_code 68 = .ok (.iload_n 2, 1) := by decide +kernel
theorem d_Reck_lookAt_69 : decode prog_7_method_3_code 69 = .ok (.iaload, 1) := by decide +kernel
theorem d_Reck_lookAt_70 : decode prog_7_method_3_code 70 = .ok (.iastore, 1) := by decide +kernel
theorem d_Reck_lookAt_71 : decode prog_7_method_3_code 71 = .ok (.aload_n 0, 1) := by decide +kernel
theorem d_Reck_lookAt_72 : decode prog_7_method_3_code 72 = .ok (.getfield 11, 3) := by decide +kernel
theorem d_Reck_lookAt_75 : decode prog_7_method_3_code 75 = .ok (.iconst 4, 1) := by decide +kernel
theorem d_Reck_lookAt_76 : decode prog_7_method_3_code 76 = .ok (.aload_n 1, 1) := by decide +kernel
theorem d_Reck_lookAt_77 : decode prog_7_method_3_code 77 = .ok (.getfield 58, 3) := by decide +kernel
theorem d_Reck_lookAt_80 : decode prog_7_method_3_code 80 = .ok (.iastore, 1) := by decide +kernel
theorem d_Reck_lookAt_81 : decode prog_7_method_3_code 81 = .ok (.aload_n 0, 1) := by decide +kernel
theorem d_Reck_lookAt_82 : decode prog_7_method_3_code 82 = .ok (.getfield 11, 3) := by decide +kernel
theorem d_Reck_lookAt_85 : decode prog_7_method_3_code 85 = .ok (.iconst 5, 1) := by decide +kernel
theorem d_Reck_lookAt_86 : decode prog_7_method_3_code 86 = .ok (.aload_n 1, 1) := by decide +kernel
theorem d_Reck_lookAt_87 : decode prog_7_method_3_code 87 = .ok (.getfield 62, 3) := by decide +kernel
theorem d_Reck_lookAt_90 : decode prog_7_method_3_code 90 = .ok (.iload_n 2, 1) := by decide +kernel
theorem d_Reck_lookAt_91 : decode prog_7_method_3_code 91 = .ok (.iaload, 1) := by decide +kernel
theorem d_Reck_lookAt_92 : decode prog_7_method_3_code 92 = .ok (.iastore, 1) := by decide +kernel
theorem d_Reck_lookAt_93 : decode prog_7_method_3_code 93 = .ok (.aload_n 0, 1) := by decide +kernel
theorem d_Reck_lookAt_94 : decode prog_7_method_3_code 94 = .ok (.getfield 11, 3) := by decide +kernel
theorem d_Reck_lookAt_97 : decode prog_7_method_3_code 97 = .ok (.bipush 6, 2) := by decide +kernel
theorem d_Reck_lookAt_99 : decode prog_7_method_3_code 99 = .ok (.iload 4, 2) := by decide +kernel
theorem d_Reck_lookAt_101 : decode prog_7_method_3_code 101 = .ok (.iastore, 1) := by decide +kernel
theorem d_Reck_lookAt_102 : decode prog_7_method_3_code 102 = .ok (.aload_n 0, 1) := by decide +kernel
theorem d_Reck_lookAt_103 : decode prog_7_method_3_code 103 = .ok (.getfield 11, 3) := by decide +kernel
theorem d_Reck_lookAt_106 : decode prog_7_method_3_code 106 = .ok (.bipush 7, 2) := by decide +kernel
theorem d_Reck_lookAt_108 : decode prog_7_method_3_code 108 = .ok (.iload_n 2, 1) := by decide +kernel
theorem d_Reck_lookAt_109 : decode prog_7_method_3_code 109 = .ok (.iastore, 1) := by decide +kernel
theorem d_Reck_lookAt_110 : decode prog_7_method_3_code 110 = .ok (.aload_n 0, 1) := by decide +kernel
theorem d_Reck_lookAt_111 : decode prog_7_method_3_code 111 = .ok (.getfield 11, 3) := by decide +kernel
theorem d_Reck_lookAt_114 : decode prog_7_method_3_code 114 = .ok (.bipush 8, 2) := by decide +kernel
theorem d_Reck_lookAt_116 : decode prog_7_method_3_code 116 = .ok (.aload_n 0, 1) := by decide +kernel
theorem d_Reck_lookAt_117 : decode prog_7_method_3_code 117 = .ok (.getfield 18, 3) := by decide +kernel
theorem d_Reck_lookAt_120 : decode prog_7_method_3_code 120 = .ok (.getfield 65, 3) := by decide +kernel
theorem d_Reck_lookAt_123 : decode prog_7_method_3_code 123 = .ok (.iload_n 3, 1) := by decide +kernel
theorem d_Reck_lookAt_124 : decode prog_7_method_3_code 124 = .ok (.iaload, 1) := by decide +kernel
theorem d_Reck_lookAt_125 : decode prog_7_method_3_code 125 = .ok (.iastore, 1) := by decide +kernel
theorem d_Reck_lookAt_126 : decode prog_7_method_3_code 126 = .ok (.return_, 1) := by decide +kernel
theorem d_Reck_costAlone_0 : decode prog_7_method_4_code 0 = .ok (.aload_n 0, 1) := by decide +kernel
theorem d_Reck_costAlone_1 : decode prog_7_method_4_code 1 = .ok (.aload_n 1, 1) := by decide +kernel
theorem d_Reck_costAlone_2 : decode prog_7_method_4_code 2 = .ok (.iload_n 2, 1) := by decide +kernel
theorem d_Reck_costAlone_3 : decode prog_7_method_4_code 3 = .ok (.iload_n 3, 1) := by decide +kernel
theorem d_Reck_costAlone_4 : decode prog_7_method_4_code 4 = .ok (.iconst 0, 1) := by decide +kernel
theorem d_Reck_costAlone_5 : decode prog_7_method_4_code 5 = .ok (.invokevirtual 35, 3) := by decide +kernel
theorem d_Reck_costAlone_8 : decode prog_7_method_4_code 8 = .ok (.aload_n 0, 1) := by decide +kernel
theorem d_Reck_costAlone_9 : decode prog_7_method_4_code 9 = .ok (.iconst 3, 1) := by decide +kernel
theorem d_Reck_costAlone_10 : decode prog_7_method_4_code 10 = .ok (.invokevirtual 68, 3) := by decide +kernel
theorem d_Reck_costAlone_13 : decode prog_7_method_4_code 13 = .ok (.ireturn, 1) := by decide +kernel
theorem d_Reck_lookAtHung_0 : decode prog_7_method_2_code 0 = .ok (.aload_n 1, 1) := by decide +kernel
theorem d_Reck_lookAtHung_1 : decode prog_7_method_2_code 1 = .ok (.iload_n 2, 1) := by decide +kernel
theorem d_Reck_lookAtHung_2 : decode prog_7_method_2_code 2 = .ok (.invokevirtual 22, 3) := by decide +kernel
theorem d_Reck_lookAtHung_5 : decode prog_7_method_2_code 5 = .ok (.ifCond .eq 20, 3) := by decide +kernel
theorem d_Reck_lookAtHung_8 : decode prog_7_method_2_code 8 = .ok (.aload_n 0, 1) := by decide +kernel
theorem d_Reck_lookAtHung_9 : decode prog_7_method_2_code 9 = .ok (.aload_n 1, 1) := by decide +kernel
theorem d_Reck_lookAtHung_10 : decode prog_7_method_2_code 10 = .ok (.iload_n 2, 1) := by decide +kernel
theorem d_Reck_lookAtHung_11 : decode prog_7_method_2_code 11 = .ok (.aload_n 1, 1) := by decide +kernel
theorem d_Reck_lookAtHung_12 : decode prog_7_method_2_code 12 = .ok (.getfield 28, 3) := by decide +kernel
theorem d_Reck_lookAtHung_15 : decode prog_7_method_2_code 15 = .ok (.iload_n 2, 1) := by decide +kernel
theorem d_Reck_lookAtHung_16 : decode prog_7_method_2_code 16 = .ok (.iaload, 1) := by decide +kernel
theorem d_Reck_lookAtHung_17 : decode prog_7_method_2_code 17 = .ok (.aload_n 1, 1) := by decide +kernel
theorem d_Reck_lookAtHung_18 : decode prog_7_method_2_code 18 = .ok (.iload_n 2, 1) := by decide +kernel
theorem d_Reck_lookAtHung_19 : decode prog_7_method_2_code 19 = .ok (.invokevirtual 31, 3) := by decide +kernel
theorem d_Reck_lookAtHung_22 : decode prog_7_method_2_code 22 = .ok (.invokevirtual 35, 3) := by decide +kernel
theorem d_Reck_lookAtHung_25 : decode prog_7_method_2_code 25 = .ok (.return_, 1) := by decide +kernel
theorem d_Reck_costOfAll_0 : decode prog_7_method_5_code 0 = .ok (.iconst 0, 1) := by decide +kernel
theorem d_Reck_costOfAll_1 : decode prog_7_method_5_code 1 = .ok (.istore_n 2, 1) := by decide +kernel
theorem d_Reck_costOfAll_2 : decode prog_7_method_5_code 2 = .ok (.iconst 0, 1) := by decide +kernel
theorem d_Reck_costOfAll_3 : decode prog_7_method_5_code 3 = .ok (.istore_n 3, 1) := by decide +kernel
theorem d_Reck_costOfAll_4 : decode prog_7_method_5_code 4 = .ok (.iload_n 3, 1) := by decide +kernel
theorem d_Reck_costOfAll_5 : decode prog_7_method_5_code 5 = .ok (.aload_n 0, 1) := by decide +kernel
theorem d_Reck_costOfAll_6 : decode prog_7_method_5_code 6 = .ok (.getfield 18, 3) := by decide +kernel
theorem d_Reck_costOfAll_9 : decode prog_7_method_5_code 9 = .ok (.getfield 71, 3) := by decide +kernel
theorem d_Reck_costOfAll_12 : decode prog_7_method_5_code 12 = .ok (.if_icmp .ge 31, 3) := by decide +kernel
theorem d_Reck_costOfAll_15 : decode prog_7_method_5_code 15 = .ok (.aload_n 1, 1) := by decide +kernel
theorem d_Reck_costOfAll_16 : decode prog_7_method_5_code 16 = .ok (.iload_n 3, 1) := by decide +kernel
theorem d_Reck_costOfAll_17 : decode prog_7_method_5_code 17 = .ok (.invokevirtual 22, 3) := by decide +kernel
theorem d_Reck_costOfAll_20 : decode prog_7_method_5_code 20 = .ok (.ifCond .eq 17, 3) := by decide +kernel
theorem d_Reck_costOfAll_23 : decode prog_7_method_5_code 23 = .ok (.aload_n 0, 1) := by decide +kernel
theorem d_Reck_costOfAll_24 : decode prog_7_method_5_code 24 = .ok (.aload_n 1, 1) := by decide +kernel
theorem d_Reck_costOfAll_25 : decode prog_7_method_5_code 25 = .ok (.iload_n 3, 1) := by decide +kernel
theorem d_Reck_costOfAll_26 : decode prog_7_method_5_code 26 = .ok (.invokevirtual 74, 3) := by decide +kernel
theorem d_Reck_costOfAll_29 : decode prog_7_method_5_code 29 = .ok (.iload_n 2, 1) := by decide +kernel
theorem d_Reck_costOfAll_30 : decode prog_7_method_5_code 30 = .ok (.aload_n 0, 1) := by decide +kernel
theorem d_Reck_costOfAll_31 : decode prog_7_method_5_code 31 = .ok (.iconst 3, 1) := by decide +kernel
theorem d_Reck_costOfAll_32 : decode prog_7_method_5_code 32 = .ok (.invokevirtual 68, 3) := by decide +kernel
theorem d_Reck_costOfAll_35 : decode prog_7_method_5_code 35 = .ok (.iadd, 1) := by decide +kernel
theorem d_Reck_costOfAll_36 : decode prog_7_method_5_code 36 = .ok (.istore_n 2, 1) := by decide +kernel
theorem d_Reck_costOfAll_37 : decode prog_7_method_5_code 37 = .ok (.iinc 3 1, 3) := by decide +kernel
theorem d_Reck_costOfAll_40 : decode prog_7_method_5_code 40 = .ok (.goto (-36), 3) := by decide +kernel
theorem d_Reck_costOfAll_43 : decode prog_7_method_5_code 43 = .ok (.iload_n 2, 1) := by decide +kernel
theorem d_Reck_costOfAll_44 : decode prog_7_method_5_code 44 = .ok (.ireturn, 1) := by decide +kernel
def w_Reck_joined (N : Nat) (x0 : Int32) (x1 : Int32) (x2 : Int32) (h : qH) (Q : Int32 → qH → Prop) : Prop := ((x0 = (42 : Int32) → Q (x1 * x2) h) ∧ (¬ x0 = (42 : Int32) → ((x0 = (43 : Int32) → Q (x1 + x2) h) ∧ (¬ x0 = (43 : Int32) → ((x0 = (44 : Int32) → ((¬ x2 = 0 → (¬ x2 = 0 ∧ Q (x1 / x2) h)) ∧ (x2 = 0 → Q (0 : Int32) h))) ∧ (¬ x0 = (44 : Int32) → ((x0 = (45 : Int32) → Q (x1 - x2) h) ∧ (¬ x0 = (45 : Int32) → ((¬ x2 = 0 → (¬ x2 = 0 ∧ Q (x1 / x2) h)) ∧ (x2 = 0 → Q (0 : Int32) h))))))))))
def w_Reck_varOf (N : Nat) (x0 : Nat) (x1 : Int32) (h : qH) (Q : Int32 → qH → Prop) : Prop := ((x1 < 0 → Q (0 : Int32) h) ∧ (¬ x1 < 0 → (((9 : Int32) ≤ x1 → Q (0 : Int32) h) ∧ (¬ (9 : Int32) ≤ x1 → (qS h x0 = .inl 5 ∧ (qok h (qR h x0 1) 0 x1 ∧ Q (qI h (qR h x0 1) (x1).toNatClampNeg) h))))))
def w_Reck_valueOf_43 (N : Nat) (x0 : Nat) (x1 : Nat) (x2 : Int32) (x3 : Int32) (x4 : Int32) (x5 : Int32) (h : qH) (Q : Int32 → qH → Prop) (K4 : Nat → Nat → Int32 → Int32 → qH → Prop) : Prop := ((x2 < (32 : Int32) → (qS h x0 = .inl 5 ∧ ((¬ x4 = (1 : Int32) → (w_Reck_varOf N x0 x5 h (fun r4 h5 => (qok h5 (qR h x0 2) 0 x2 ∧ ∀ h7 : qH, h7 = qsI h5 (qR h x0 2) (x2).toNatClampNeg r4 → (K4 x0 x1 (x2 + (1 : Int32)) x3 h7))))) ∧ (x4 = (1 : Int32) → (qok h (qR h x0 2) 0 x2 ∧ ∀ h9 : qH, h9 = qsI h (qR h x0 2) (x2).toNatClampNeg x5 → (K4 x0 x1 (x2 + (1 : Int32)) x3 h9)))))) ∧ (¬ x2 < (32 : Int32) → Q (0 : Int32) h))
def w_Reck_valueOf_128 (N : Nat) (x0 : Nat) (x1 : Nat) (x2 : Int32) (x3 : Int32) (x4 : Int32) (x5 : Int32) (h : qH) (Q : Int32 → qH → Prop) (K4 : Nat → Nat → Int32 → Int32 → qH → Prop) : Prop := ((x4 = (3 : Int32) → (qS h x0 = .inl 5 ∧ (qok h (qR h x0 2) 0 (x2 + (-2 : Int32)) ∧ (qok h (qR h x0 2) 0 ((x2 + (-2 : Int32)) + (1 : Int32)) ∧ (((qI h (qR h x0 2) ((x2 + (-2 : Int32))).toNatClampNeg) < (qI h (qR h x0 2) (((x2 + (-2 : Int32)) + (1 : Int32))).toNatClampNeg) → (K4 x0 x1 (x2 + (-2 : Int32)) x3 h)) ∧ (¬ (qI h (qR h x0 2) ((x2 + (-2 : Int32))).toNatClampNeg) < (qI h (qR h x0 2) (((x2 + (-2 : Int32)) + (1 : Int32))).toNatClampNeg) → (∀ y6 : Int32, y6 = (if x3 < x5 then x5 else x3) → (K4 x0 x1 (x2 + (-2 : Int32)) y6 h)))))))) ∧ (¬ x4 = (3 : Int32) → (qS h x0 = .inl 5 ∧ (qok h (qR h x0 2) 0 (x2 + (-2 : Int32)) ∧ (qok h (qR h x0 2) 0 ((x2 + (-2 : Int32)) + (1 : Int32)) ∧ (w_Reck_joined N x4 (qI h (qR h x0 2) ((x2 + (-2 : Int32))).toNatClampNeg) (qI h (qR h x0 2) (((x2 + (-2 : Int32)) + (1 : Int32))).toNatClampNeg) h (fun r10 h11 => (qok h11 (qR h x0 2) 0 (x2 + (-2 : Int32)) ∧ ∀ h13 : qH, h13 = qsI h11 (qR h x0 2) ((x2 + (-2 : Int32))).toNatClampNeg r10 → (K4 x0 x1 ((x2 + (-2 : Int32)) + (1 : Int32)) x3 h13)))))))))
def w_Reck_valueOf_4 (N : Nat) : Nat → Nat → Nat → Int32 → Int32 → qH → (Int32 → qH → Prop) → (Nat → Int32 → qH → Prop) → Prop
  | 0 => fun _ _ _ _ _ _ _ => False
  | k + 1 => fun x0 x1 x2 x3 h Q K86 => (qS h x1 = .inl 0 ∧ (((qI h x1 2) ≤ x3 → Q (0 : Int32) h) ∧ (¬ (qI h x1 2) ≤ x3 → (qok h (qR h x1 0) 0 x3 ∧ (∀ y4 : Int32, y4 = (qI h (qR h x1 0) (x3).toNatClampNeg) → (qok h (qR h x1 1) 0 x3 ∧ (∀ y6 : Int32, y6 = (qI h (qR h x1 1) (x3).toNatClampNeg) → ((y4 = (1 : Int32) → (w_Reck_valueOf_43 N x0 x1 x2 (x3 + (1 : Int32)) y4 y6 h Q (fun x0 x1 x2 x3 h => w_Reck_valueOf_4 N k x0 x1 x2 x3 h Q K86))) ∧ (¬ y4 = (1 : Int32) → ((¬ y4 = (2 : Int32) → ((¬ y4 = (4 : Int32) → ((x2 < (2 : Int32) → Q (0 : Int32) h) ∧ (¬ x2 < (2 : Int32) → ((¬ y4 = (47 : Int32) → (w_Reck_valueOf_128 N x0 x1 x2 (x3 + (1 : Int32)) y4 y6 h Q (fun x0 x1 x2 x3 h => w_Reck_valueOf_4 N k x0 x1 x2 x3 h Q K86))) ∧ (y4 = (47 : Int32) → (qS h x0 = .inl 5 ∧ (qok h (qR h x0 2) 0 (x2 - (1 : Int32)) ∧ ((¬ (qI h (qR h x0 2) ((x2 - (1 : Int32))).toNatClampNeg) = 0 → (w_Reck_valueOf_128 N x0 x1 x2 (x3 + (1 : Int32)) y4 y6 h Q (fun x0 x1 x2 x3 h => w_Reck_valueOf_4 N k x0 x1 x2 x3 h Q K86))) ∧ ((qI h (qR h x0 2) ((x2 - (1 : Int32))).toNatClampNeg) = 0 → Q (0 : Int32) h))))))))) ∧ (y4 = (4 : Int32) → (K86 x0 x2 h)))) ∧ (y4 = (2 : Int32) → (w_Reck_valueOf_43 N x0 x1 x2 (x3 + (1 : Int32)) y4 y6 h Q (fun x0 x1 x2 x3 h => w_Reck_valueOf_4 N k x0 x1 x2 x3 h Q K86)))))))))))))
def w_Reck_valueOf (N : Nat) (x0 : Nat) (x1 : Nat) (h : qH) (Q : Int32 → qH → Prop) : Prop := (w_Reck_valueOf_4 N N x0 x1 (0 : Int32) (0 : Int32) h Q (fun x1 x2 h3 => ((x2 ≤ 0 → Q (0 : Int32) h3) ∧ (¬ x2 ≤ 0 → (qS h3 x1 = .inl 5 ∧ (qok h3 (qR h3 x1 2) 0 (x2 - (1 : Int32)) ∧ Q (qI h3 (qR h3 x1 2) ((x2 - (1 : Int32))).toNatClampNeg) h3))))))
def w_Reck_lawTells_12 (N : Nat) (x0 : Nat) (x1 : Int32) (z0 : Int32) (h : qH) (Q : Int32 → qH → Prop)  : Prop := (qS h x0 = .inl 5 ∧ (qS h (qR h x0 0) = .inl 8 ∧ w_Text_law N (qR h x0 0) x1 h (fun r3 h4 => (qS h4 x0 = .inl 5 ∧ w_Reck_valueOf N x0 r3 h4 (fun r6 h7 => Q (if (0 : Int32) < (if r6 < z0 then r6 else z0) then (if r6 < z0 then r6 else z0) else (0 : Int32)) h7)))))
def w_Reck_lawTells (N : Nat) (x0 : Nat) (x1 : Int32) (h : qH) (Q : Int32 → qH → Prop) : Prop := ((¬ x1 = (2 : Int32) → (w_Reck_lawTells_12 N x0 x1 (99 : Int32) h Q )) ∧ (x1 = (2 : Int32) → (w_Reck_lawTells_12 N x0 x1 (100 : Int32) h Q )))
def w_Reck_lookAt (N : Nat) (x0 : Nat) (x1 : Nat) (x2 : Int32) (x3 : Int32) (x4 : Int32) (h : qH) (Q : qH → Prop) : Prop := (qS h x1 = .inl 6 ∧ (qok h (qR h x1 6) 0 x3 ∧ (∀ y3 : Int32, y3 = (qI h (qR h x1 6) (x3).toNatClampNeg) → (qok h (qR h x1 2) 0 x2 ∧ (∀ y5 : Int32, y5 = (qI h (qR h x1 2) (x2).toNatClampNeg) → (qS h x0 = .inl 5 ∧ (qS h (qR h x0 0) = .inl 8 ∧ (qok h (qR h (qR h x0 0) 2) 0 x3 ∧ (qok h (qR h x0 1) 0 (0 : Int32) ∧ ∀ h10 : qH, h10 = qsI h (qR h x0 1) ((0 : Int32)).toNatClampNeg ((if 0 ≤ (y5 - (qI h (qR h (qR h x0 0) 2) (x3).toNatClampNeg)) then (y5 - (qI h (qR h (qR h x0 0) 2) (x3).toNatClampNeg)) else 0 - (y5 - (qI h (qR h (qR h x0 0) 2) (x3).toNatClampNeg))) + y3) → (qS h10 x0 = .inl 5 ∧ (qok h10 (qR h10 x0 1) 0 (1 : Int32) ∧ ∀ h13 : qH, h13 = qsI h10 (qR h10 x0 1) ((1 : Int32)).toNatClampNeg y3 → (qS h13 x0 = .inl 5 ∧ (qok h13 (qR h13 x0 1) 0 (2 : Int32) ∧ ∀ h16 : qH, h16 = qsI h13 (qR h13 x0 1) ((2 : Int32)).toNatClampNeg y5 → (qS h16 x0 = .inl 5 ∧ (qS h16 (qR h16 x0 0) = .inl 8 ∧ (qok h16 (qR h16 (qR h16 x0 0) 5) 0 x2 ∧ (qok h16 (qR h16 x0 1) 0 (3 : Int32) ∧ ∀ h21 : qH, h21 = qsI h16 (qR h16 x0 1) ((3 : Int32)).toNatClampNeg (qI h16 (qR h16 (qR h16 x0 0) 5) (x2).toNatClampNeg) → (qS h21 x0 = .inl 5 ∧ (qS h21 x1 = .inl 6 ∧ (qok h21 (qR h21 x0 1) 0 (4 : Int32) ∧ ∀ h25 : qH, h25 = qsI h21 (qR h21 x0 1) ((4 : Int32)).toNatClampNeg (qI h21 x1 1) → (qS h25 x0 = .inl 5 ∧ (qS h25 x1 = .inl 6 ∧ (qok h25 (qR h25 x1 5) 0 x2 ∧ (qok h25 (qR h25 x0 1) 0 (5 : Int32) ∧ ∀ h30 : qH, h30 = qsI h25 (qR h25 x0 1) ((5 : Int32)).toNatClampNeg (qI h25 (qR h25 x1 5) (x2).toNatClampNeg) → (qS h30 x0 = .inl 5 ∧ (qok h30 (qR h30 x0 1) 0 (6 : Int32) ∧ ∀ h33 : qH, h33 = qsI h30 (qR h30 x0 1) ((6 : Int32)).toNatClampNeg x4 → (qS h33 x0 = .inl 5 ∧ (qok h33 (qR h33 x0 1) 0 (7 : Int32) ∧ ∀ h36 : qH, h36 = qsI h33 (qR h33 x0 1) ((7 : Int32)).toNatClampNeg x2 → (qS h36 x0 = .inl 5 ∧ (qS h36 (qR h36 x0 0) = .inl 8 ∧ (qok h36 (qR h36 (qR h36 x0 0) 1) 0 x3 ∧ (qok h36 (qR h36 x0 1) 0 (8 : Int32) ∧ ∀ h41 : qH, h41 = qsI h36 (qR h36 x0 1) ((8 : Int32)).toNatClampNeg (qI h36 (qR h36 (qR h36 x0 0) 1) (x3).toNatClampNeg) → Q h41))))))))))))))))))))))))))))))))
def w_Reck_costAlone (N : Nat) (x0 : Nat) (x1 : Nat) (x2 : Int32) (x3 : Int32) (h : qH) (Q : Int32 → qH → Prop) : Prop := (qS h x0 = .inl 5 ∧ w_Reck_lookAt N x0 x1 x2 x3 (0 : Int32) h (fun h2 => (qS h2 x0 = .inl 5 ∧ w_Reck_lawTells N x0 (3 : Int32) h2 (fun r4 h5 => Q r4 h5))))
def w_Reck_lookAtHung (N : Nat) (x0 : Nat) (x1 : Nat) (x2 : Int32) (h : qH) (Q : qH → Prop) : Prop := (qS h x1 = .inl 6 ∧ w_State_isHung N x1 x2 h (fun r2 h3 => ((r2 = 0 → Q h3) ∧ (¬ r2 = 0 → (qS h3 x1 = .inl 6 ∧ (qok h3 (qR h3 x1 3) 0 x2 ∧ (w_State_othersBeside N x1 x2 h3 (fun r7 h8 => (qS h8 x0 = .inl 5 ∧ w_Reck_lookAt N x0 x1 x2 (qI h3 (qR h3 x1 3) (x2).toNatClampNeg) r7 h8 (fun h10 => Q h10))))))))))
def w_Reck_costOfAll_4 (N : Nat) : Nat → Nat → Nat → Int32 → Int32 → qH → (Int32 → qH → Prop) → Prop
  | 0 => fun _ _ _ _ _ _ => False
  | k + 1 => fun x0 x1 x2 x3 h Q => (qS h x0 = .inl 5 ∧ (qS h (qR h x0 0) = .inl 8 ∧ (((qI h (qR h x0 0) 3) ≤ x3 → Q x2 h) ∧ (¬ (qI h (qR h x0 0) 3) ≤ x3 → (qS h x1 = .inl 6 ∧ w_State_isHung N x1 x3 h (fun r5 h6 => ((r5 = 0 → (w_Reck_costOfAll_4 N k x0 x1 x2 (x3 + (1 : Int32)) h6 Q)) ∧ (¬ r5 = 0 → (qS h6 x0 = .inl 5 ∧ w_Reck_lookAtHung N x0 x1 x3 h6 (fun h9 => (qS h9 x0 = .inl 5 ∧ w_Reck_lawTells N x0 (3 : Int32) h9 (fun r11 h12 => (∀ y13 : Int32, y13 = (x2 + r11) → (w_Reck_costOfAll_4 N k x0 x1 y13 (x3 + (1 : Int32)) h12 Q))))))))))))))
def w_Reck_costOfAll (N : Nat) (x0 : Nat) (x1 : Nat) (h : qH) (Q : Int32 → qH → Prop) : Prop := (w_Reck_costOfAll_4 N N x0 x1 (0 : Int32) (0 : Int32) h Q )
section QG
variable {p : Program} {l : Launch} {e : Env} {s : State} {m : MethodId} {args : Array Value} {below : List Frame} {meth : Method} {c : Code} {D : va_G} {cy : Nat → ClassId} {b : Nat} {adK adV : Nat → Nat}

set_option maxRecDepth 4000 in
theorem t_Reck_joined {adK adV : Nat → Nat} (l : Launch) (D : va_G) (cy : Nat → ClassId) (b : Nat) (N : Nat) (x0 : Int32) (x1 : Int32) (x2 : Int32) (h : qH) (Q : Int32 → qH → Prop) (hw : w_Reck_joined N x0 x1 x2 h Q) : Met l y_Reck_joined (Cond.code y_Reck_joined prog_7_method_9_code 3 (some .int) :: qT) (qrm 0 0 0 0) (qPc D cy b adK adV h [.int x0, .int x1, .int x2]) (qQc D cy b qrI Q) 0 0 (qA b) := by
  refine qmet (L0 := [(0, .inl x0), (1, .inl x1), (2, .inl x2)]) qm_Reck_joined (plainFor_of_name (by decide)) [.inl x0, .inl x1, .inl x2] rfl (Nat.le_of_ble_eq_true rfl) rfl (fun p e s m args below meth c X => ?_)
  unfold w_Reck_joined at hw
  refine qx_iload_n (x := x0) X d_Reck_joined_0 rfl 0 rfl ?_
  by_cases q1 : x0 = (42 : Int32)
  · have hw := hw.1 q1
    refine qx_tableIn (off := (39)) X 40 d_Reck_joined_1 (by rw [q1]; decide) (by rw [q1]; decide) (by rw [q1]; rfl) (by decide) ?_
    refine qx_iload_n (x := x1) X d_Reck_joined_40 rfl 1 rfl ?_
    refine qx_iload_n (x := x2) X d_Reck_joined_41 rfl 2 rfl ?_
    refine qx_imul X d_Reck_joined_42 ?_
    exact qx_iret X hw (Nat.le_refl 0) (Nat.le_refl 0) rfl d_Reck_joined_43
  · have hw := hw.2 q1
    by_cases q2 : x0 = (43 : Int32)
    · have hw := hw.1 q2
      refine qx_tableIn (off := (31)) X 32 d_Reck_joined_1 (by rw [q2]; decide) (by rw [q2]; decide) (by rw [q2]; rfl) (by decide) ?_
      refine qx_iload_n (x := x1) X d_Reck_joined_32 rfl 1 rfl ?_
      refine qx_iload_n (x := x2) X d_Reck_joined_33 rfl 2 rfl ?_
      refine qx_iadd X d_Reck_joined_34 ?_
      exact qx_iret X hw (Nat.le_refl 0) (Nat.le_refl 0) rfl d_Reck_joined_35
    · have hw := hw.2 q2
      by_cases q3 : x0 = (44 : Int32)
      · have hw := hw.1 q3
        refine qx_tableIn (off := (43)) X 44 d_Reck_joined_1 (by rw [q3]; decide) (by rw [q3]; decide) (by rw [q3]; rfl) (by decide) ?_
        refine qx_iload_n (x := x2) X d_Reck_joined_44 rfl 2 rfl ?_
        refine qx_if_ne X 52 d_Reck_joined_45 (by decide) (fun q4 => ?_) (fun q4 => ?_)
        · have hw := hw.1 q4
          refine qx_iload_n (x := x1) X d_Reck_joined_52 rfl 1 rfl ?_
          refine qx_iload_n (x := x2) X d_Reck_joined_53 rfl 2 rfl ?_
          obtain ⟨g5, hw⟩ := hw
          refine qx_idiv X g5 d_Reck_joined_54 ?_
          exact qx_iret X hw (Nat.le_refl 0) (Nat.le_refl 0) rfl d_Reck_joined_55
        · have hw := hw.2 q4
          refine qx_iconst (v := (0 : Int32)) X d_Reck_joined_48 (by decide) ?_
          refine qx_goto X 55 d_Reck_joined_49 (by decide) ?_
          exact qx_iret X hw (Nat.le_refl 0) (Nat.le_refl 0) rfl d_Reck_joined_55
      · have hw := hw.2 q3
        by_cases q6 : x0 = (45 : Int32)
        · have hw := hw.1 q6
          refine qx_tableIn (off := (35)) X 36 d_Reck_joined_1 (by rw [q6]; decide) (by rw [q6]; decide) (by rw [q6]; rfl) (by decide) ?_
          refine qx_iload_n (x := x1) X d_Reck_joined_36 rfl 1 rfl ?_
          refine qx_iload_n (x := x2) X d_Reck_joined_37 rfl 2 rfl ?_
          refine qx_isub X d_Reck_joined_38 ?_
          exact qx_iret X hw (Nat.le_refl 0) (Nat.le_refl 0) rfl d_Reck_joined_39
        · have hw := hw.2 q6
          have gx : x0.toInt < 42 ∨ 45 < x0.toInt := by
            have nq1 : x0.toInt ≠ 42 := fun z => q1 (Int32.toInt_inj.mp z)
            have nq2 : x0.toInt ≠ 43 := fun z => q2 (Int32.toInt_inj.mp z)
            have nq3 : x0.toInt ≠ 44 := fun z => q3 (Int32.toInt_inj.mp z)
            have nq6 : x0.toInt ≠ 45 := fun z => q6 (Int32.toInt_inj.mp z)
            omega
          refine qx_tableOut X 44 d_Reck_joined_1 gx (by decide) ?_
          refine qx_iload_n (x := x2) X d_Reck_joined_44 rfl 2 rfl ?_
          refine qx_if_ne X 52 d_Reck_joined_45 (by decide) (fun q7 => ?_) (fun q7 => ?_)
          · have hw := hw.1 q7
            refine qx_iload_n (x := x1) X d_Reck_joined_52 rfl 1 rfl ?_
            refine qx_iload_n (x := x2) X d_Reck_joined_53 rfl 2 rfl ?_
            obtain ⟨g8, hw⟩ := hw
            refine qx_idiv X g8 d_Reck_joined_54 ?_
            exact qx_iret X hw (Nat.le_refl 0) (Nat.le_refl 0) rfl d_Reck_joined_55
          · have hw := hw.2 q7
            refine qx_iconst (v := (0 : Int32)) X d_Reck_joined_48 (by decide) ?_
            refine qx_goto X 55 d_Reck_joined_49 (by decide) ?_
            exact qx_iret X hw (Nat.le_refl 0) (Nat.le_refl 0) rfl d_Reck_joined_55
set_option maxRecDepth 4000 in
theorem t_Reck_varOf {adK adV : Nat → Nat} (l : Launch) (D : va_G) (cy : Nat → ClassId) (b : Nat) (N : Nat) (x0 : Nat) (x1 : Int32) (h : qH) (Q : Int32 → qH → Prop) (hw : w_Reck_varOf N x0 x1 h Q) : Met l y_Reck_varOf (Cond.code y_Reck_varOf prog_7_method_8_code 2 (some .int) :: qT) (qrm 0 0 0 0) (qPc D cy b adK adV h [qr b x0, .int x1]) (qQc D cy b qrI Q) 0 0 (qA b) := by
  refine qmet (L0 := [(0, .inr (.inr (.inl x0))), (1, .inl x1)]) qm_Reck_varOf (plainFor_of_name (by decide)) [.inr (.inr (.inl x0)), .inl x1] rfl (Nat.le_of_ble_eq_true rfl) rfl (fun p e s m args below meth c X => ?_)
  unfold w_Reck_varOf at hw
  refine qx_iload_n (x := x1) X d_Reck_varOf_0 rfl 1 rfl ?_
  refine qx_if_lt X 19 d_Reck_varOf_1 (by decide) (fun q1 => ?_) (fun q1 => ?_)
  · have hw := hw.1 q1
    refine qx_iconst (v := (0 : Int32)) X d_Reck_varOf_19 (by decide) ?_
    exact qx_iret X hw (Nat.le_refl 0) (Nat.le_refl 0) rfl d_Reck_varOf_20
  · have hw := hw.2 q1
    refine qx_iload_n (x := x1) X d_Reck_varOf_4 rfl 1 rfl ?_
    refine qx_bipush (v := (9 : Int32)) X d_Reck_varOf_5 (by decide) ?_
    refine qx_icmp_ge X 19 d_Reck_varOf_7 (by decide) (fun q2 => ?_) (fun q2 => ?_)
    · have hw := hw.1 q2
      refine qx_iconst (v := (0 : Int32)) X d_Reck_varOf_19 (by decide) ?_
      exact qx_iret X hw (Nat.le_refl 0) (Nat.le_refl 0) rfl d_Reck_varOf_20
    · have hw := hw.2 q2
      refine qx_aload_n (x := x0) X d_Reck_varOf_10 rfl 0 rfl ?_
      obtain ⟨g3, hw⟩ := hw
      refine qx_getR X qcls5 g3 1 (by decide) rfl wf_Reck_11 d_Reck_varOf_11 ?_
      refine qx_iload_n (x := x1) X d_Reck_varOf_14 rfl 1 rfl ?_
      obtain ⟨g4, hw⟩ := hw
      refine qx_ild X g4 d_Reck_varOf_15 ?_
      refine qx_goto X 20 d_Reck_varOf_16 (by decide) ?_
      exact qx_iret X hw (Nat.le_refl 0) (Nat.le_refl 0) rfl d_Reck_varOf_20
set_option maxRecDepth 4000 in
theorem t_Reck_valueOf_43 (X : qX p s m args meth c D cy b adK adV prog_7_method_7_code "CoatHangers$Reckoner" 6 (some .int) "valueOf") (N : Nat) (x0 : Nat) (x1 : Nat) (x2 : Int32) (x3 : Int32) (x4 : Int32) (x5 : Int32) (h : qH) (Q : Int32 → qH → Prop) (K4 : Nat → Nat → Int32 → Int32 → qH → Prop) (hw : w_Reck_valueOf_43 N x0 x1 x2 x3 x4 x5 h Q K4) (hK4 : ∀ (x0 : Nat) (x1 : Nat) (x2 : Int32) (x3 : Int32) (h : qH), K4 x0 x1 x2 x3 h → qW p l e (qrm 1 0 0 22) s m args below meth c D cy b 6 0 0 (MQ below (qQc D cy b qrI Q) args s 0 0 (qA b)) 4 [(0, .inr (.inr (.inl x0))), (1, .inr (.inr (.inl x1))), (2, .inl x2), (3, .inl x3)] [] h) : qW p l e (qrm 1 0 0 22) s m args below meth c D cy b 6 0 0 (MQ below (qQc D cy b qrI Q) args s 0 0 (qA b)) 43 [(0, .inr (.inr (.inl x0))), (1, .inr (.inr (.inl x1))), (2, .inl x2), (3, .inl x3), (4, .inl x4), (5, .inl x5)] [] h := by
  unfold w_Reck_valueOf_43 at hw
  refine qx_iload_n (x := x2) X d_Reck_valueOf_43 rfl 2 rfl ?_
  refine qx_bipush (v := (32 : Int32)) X d_Reck_valueOf_44 (by decide) ?_
  refine qx_icmp_lt X 51 d_Reck_valueOf_46 (by decide) (fun q1 => ?_) (fun q1 => ?_)
  · have hw := hw.1 q1
    refine qx_aload_n (x := x0) X d_Reck_valueOf_51 rfl 0 rfl ?_
    obtain ⟨g2, hw⟩ := hw
    refine qx_getR X qcls5 g2 2 (by decide) rfl wf_Reck_15 d_Reck_valueOf_52 ?_
    refine qx_iload_n (x := x2) X d_Reck_valueOf_55 rfl 2 rfl ?_
    refine qx_iload (x := x4) X d_Reck_valueOf_56 4 rfl ?_
    refine qx_iconst (v := (1 : Int32)) X d_Reck_valueOf_58 (by decide) ?_
    refine qx_icmp_ne X 67 d_Reck_valueOf_59 (by decide) (fun q3 => ?_) (fun q3 => ?_)
    · have hw := hw.1 q3
      refine qx_aload_n (x := x0) X d_Reck_valueOf_67 rfl 0 rfl ?_
      refine qx_iload (x := x5) X d_Reck_valueOf_68 5 rfl ?_
      refine qx_callVI (st := [.int x2, qr b (qR h x0 2)]) (As := [.int x5]) X (t_Reck_varOf (adK := adK) (adV := adV) l D cy b N x0 x5 h _ hw) qm_Reck_varOf wm_Reck_104 wi_Reck_varOf wl_Reck_varOf qcls5 g2 rfl rfl rfl ⟨Nat.le_of_ble_eq_true rfl, Nat.le_of_ble_eq_true rfl⟩ ⟨Nat.le_refl 0, Nat.le_refl 0⟩ (Nat.le_of_ble_eq_true rfl) rfl d_Reck_valueOf_70 (fun r4 h5 hw => ?_)
      obtain ⟨g6, hw⟩ := hw
      refine qx_ist X g6 d_Reck_valueOf_73 ?_
      refine qx_toph (fun h7 eh7 => ?_)
      have hw := hw h7 eh7
      refine qx_iinc (v := (x2 + (1 : Int32))) (L' := [(2, .inl (x2 + (1 : Int32))), (0, .inr (.inr (.inl x0))), (1, .inr (.inr (.inl x1))), (3, .inl x3), (4, .inl x4), (5, .inl x5)]) X d_Reck_valueOf_74 2 rfl rfl (by decide) rfl ?_
      refine qx_goto X 192 d_Reck_valueOf_77 (by decide) ?_
      refine qx_goto X 4 d_Reck_valueOf_192 (by decide) ?_
      refine qx_sub [1, 2, 0, 3] rfl ?_
      exact hK4 x0 x1 (x2 + (1 : Int32)) x3 h7 hw
    · have hw := hw.2 q3
      refine qx_iload (x := x5) X d_Reck_valueOf_62 5 rfl ?_
      refine qx_goto X 73 d_Reck_valueOf_64 (by decide) ?_
      obtain ⟨g8, hw⟩ := hw
      refine qx_ist X g8 d_Reck_valueOf_73 ?_
      refine qx_toph (fun h9 eh9 => ?_)
      have hw := hw h9 eh9
      refine qx_iinc (v := (x2 + (1 : Int32))) (L' := [(2, .inl (x2 + (1 : Int32))), (0, .inr (.inr (.inl x0))), (1, .inr (.inr (.inl x1))), (3, .inl x3), (4, .inl x4), (5, .inl x5)]) X d_Reck_valueOf_74 2 rfl rfl (by decide) rfl ?_
      refine qx_goto X 192 d_Reck_valueOf_77 (by decide) ?_
      refine qx_goto X 4 d_Reck_valueOf_192 (by decide) ?_
      refine qx_sub [1, 2, 0, 3] rfl ?_
      exact hK4 x0 x1 (x2 + (1 : Int32)) x3 h9 hw
  · have hw := hw.2 q1
    refine qx_iconst (v := (0 : Int32)) X d_Reck_valueOf_49 (by decide) ?_
    exact qx_iret X hw (Nat.le_refl 0) (Nat.le_refl 0) rfl d_Reck_valueOf_50
set_option maxRecDepth 4000 in
theorem t_Reck_valueOf_128 (X : qX p s m args meth c D cy b adK adV prog_7_method_7_code "CoatHangers$Reckoner" 6 (some .int) "valueOf") (N : Nat) (x0 : Nat) (x1 : Nat) (x2 : Int32) (x3 : Int32) (x4 : Int32) (x5 : Int32) (h : qH) (Q : Int32 → qH → Prop) (K4 : Nat → Nat → Int32 → Int32 → qH → Prop) (hw : w_Reck_valueOf_128 N x0 x1 x2 x3 x4 x5 h Q K4) (hK4 : ∀ (x0 : Nat) (x1 : Nat) (x2 : Int32) (x3 : Int32) (h : qH), K4 x0 x1 x2 x3 h → qW p l e (qrm 1 0 0 22) s m args below meth c D cy b 6 0 0 (MQ below (qQc D cy b qrI Q) args s 0 0 (qA b)) 4 [(0, .inr (.inr (.inl x0))), (1, .inr (.inr (.inl x1))), (2, .inl x2), (3, .inl x3)] [] h) : qW p l e (qrm 1 0 0 22) s m args below meth c D cy b 6 0 0 (MQ below (qQc D cy b qrI Q) args s 0 0 (qA b)) 128 [(0, .inr (.inr (.inl x0))), (1, .inr (.inr (.inl x1))), (2, .inl x2), (3, .inl x3), (4, .inl x4), (5, .inl x5)] [] h := by
  unfold w_Reck_valueOf_128 at hw
  refine qx_iinc (v := (x2 + (-2 : Int32))) (L' := [(2, .inl (x2 + (-2 : Int32))), (0, .inr (.inr (.inl x0))), (1, .inr (.inr (.inl x1))), (3, .inl x3), (4, .inl x4), (5, .inl x5)]) X d_Reck_valueOf_128 2 rfl rfl (by decide) rfl ?_
  refine qx_iload (x := x4) X d_Reck_valueOf_131 4 rfl ?_
  refine qx_iconst (v := (3 : Int32)) X d_Reck_valueOf_133 (by decide) ?_
  refine qx_icmp_eq X 168 d_Reck_valueOf_134 (by decide) (fun q1 => ?_) (fun q1 => ?_)
  · have hw := hw.1 q1
    refine qx_aload_n (x := x0) X d_Reck_valueOf_168 rfl 1 rfl ?_
    obtain ⟨g2, hw⟩ := hw
    refine qx_getR X qcls5 g2 2 (by decide) rfl wf_Reck_15 d_Reck_valueOf_169 ?_
    refine qx_iload_n (x := (x2 + (-2 : Int32))) X d_Reck_valueOf_172 rfl 0 rfl ?_
    obtain ⟨g3, hw⟩ := hw
    refine qx_ild X g3 d_Reck_valueOf_173 ?_
    refine qx_aload_n (x := x0) X d_Reck_valueOf_174 rfl 1 rfl ?_
    refine qx_getR X qcls5 g2 2 (by decide) rfl wf_Reck_15 d_Reck_valueOf_175 ?_
    refine qx_iload_n (x := (x2 + (-2 : Int32))) X d_Reck_valueOf_178 rfl 0 rfl ?_
    refine qx_iconst (v := (1 : Int32)) X d_Reck_valueOf_179 (by decide) ?_
    refine qx_iadd X d_Reck_valueOf_180 ?_
    obtain ⟨g4, hw⟩ := hw
    refine qx_ild X g4 d_Reck_valueOf_181 ?_
    refine qx_icmp_lt X 192 d_Reck_valueOf_182 (by decide) (fun q5 => ?_) (fun q5 => ?_)
    · have hw := hw.1 q5
      refine qx_goto X 4 d_Reck_valueOf_192 (by decide) ?_
      refine qx_sub [1, 2, 0, 3] rfl ?_
      exact hK4 x0 x1 (x2 + (-2 : Int32)) x3 h hw
    · have hw := hw.2 q5
      refine qx_iload_n (x := x3) X d_Reck_valueOf_185 rfl 3 rfl ?_
      refine qx_iload (x := x5) X d_Reck_valueOf_186 5 rfl ?_
      refine qx_mmax X wm_Reck_90 ws_mmax wz_Math wk_mmax (Nat.le_of_ble_eq_true rfl) (Nat.le_of_ble_eq_true rfl) (Nat.le_of_ble_eq_true rfl) (Nat.le_of_ble_eq_true rfl) d_Reck_valueOf_188 ?_
      refine qx_topi (fun y6 ey6 => ?_)
      have hw := hw y6 ey6
      refine qx_istore_n (L' := [(3, .inl y6), (2, .inl (x2 + (-2 : Int32))), (0, .inr (.inr (.inl x0))), (1, .inr (.inr (.inl x1))), (4, .inl x4), (5, .inl x5)]) X d_Reck_valueOf_191 rfl (by decide) rfl ?_
      refine qx_goto X 4 d_Reck_valueOf_192 (by decide) ?_
      refine qx_sub [2, 3, 1, 0] rfl ?_
      exact hK4 x0 x1 (x2 + (-2 : Int32)) y6 h hw
  · have hw := hw.2 q1
    refine qx_aload_n (x := x0) X d_Reck_valueOf_137 rfl 1 rfl ?_
    obtain ⟨g7, hw⟩ := hw
    refine qx_getR X qcls5 g7 2 (by decide) rfl wf_Reck_15 d_Reck_valueOf_138 ?_
    refine qx_iload_n (x := (x2 + (-2 : Int32))) X d_Reck_valueOf_141 rfl 0 rfl ?_
    refine qx_iload (x := x4) X d_Reck_valueOf_142 4 rfl ?_
    refine qx_aload_n (x := x0) X d_Reck_valueOf_144 rfl 1 rfl ?_
    refine qx_getR X qcls5 g7 2 (by decide) rfl wf_Reck_15 d_Reck_valueOf_145 ?_
    refine qx_iload_n (x := (x2 + (-2 : Int32))) X d_Reck_valueOf_148 rfl 0 rfl ?_
    obtain ⟨g8, hw⟩ := hw
    refine qx_ild X g8 d_Reck_valueOf_149 ?_
    refine qx_aload_n (x := x0) X d_Reck_valueOf_150 rfl 1 rfl ?_
    refine qx_getR X qcls5 g7 2 (by decide) rfl wf_Reck_15 d_Reck_valueOf_151 ?_
    refine qx_iload_n (x := (x2 + (-2 : Int32))) X d_Reck_valueOf_154 rfl 0 rfl ?_
    refine qx_iconst (v := (1 : Int32)) X d_Reck_valueOf_155 (by decide) ?_
    refine qx_iadd X d_Reck_valueOf_156 ?_
    obtain ⟨g9, hw⟩ := hw
    refine qx_ild X g9 d_Reck_valueOf_157 ?_
    refine qx_callSI (st := [.int (x2 + (-2 : Int32)), qr b (qR h x0 2)]) (As := [.int x4, .int (qI h (qR h x0 2) ((x2 + (-2 : Int32))).toNatClampNeg), .int (qI h (qR h x0 2) (((x2 + (-2 : Int32)) + (1 : Int32))).toNatClampNeg)]) X (t_Reck_joined (adK := adK) (adV := adV) l D cy b N x4 (qI h (qR h x0 2) ((x2 + (-2 : Int32))).toNatClampNeg) (qI h (qR h x0 2) (((x2 + (-2 : Int32)) + (1 : Int32))).toNatClampNeg) h _ hw) qm_Reck_joined wm_Reck_107 wi_Reck_joined rfl rfl rfl ⟨Nat.le_of_ble_eq_true rfl, Nat.le_of_ble_eq_true rfl⟩ ⟨Nat.le_refl 0, Nat.le_refl 0⟩ (Nat.le_of_ble_eq_true rfl) rfl d_Reck_valueOf_158 (fun r10 h11 hw => ?_)
    obtain ⟨g12, hw⟩ := hw
    refine qx_ist X g12 d_Reck_valueOf_161 ?_
    refine qx_toph (fun h13 eh13 => ?_)
    have hw := hw h13 eh13
    refine qx_iinc (v := ((x2 + (-2 : Int32)) + (1 : Int32))) (L' := [(2, .inl ((x2 + (-2 : Int32)) + (1 : Int32))), (0, .inr (.inr (.inl x0))), (1, .inr (.inr (.inl x1))), (3, .inl x3), (4, .inl x4), (5, .inl x5)]) X d_Reck_valueOf_162 0 rfl rfl (by decide) rfl ?_
    refine qx_goto X 192 d_Reck_valueOf_165 (by decide) ?_
    refine qx_goto X 4 d_Reck_valueOf_192 (by decide) ?_
    refine qx_sub [1, 2, 0, 3] rfl ?_
    exact hK4 x0 x1 ((x2 + (-2 : Int32)) + (1 : Int32)) x3 h13 hw
set_option maxRecDepth 4000 in
theorem t_Reck_valueOf_4 (X : qX p s m args meth c D cy b adK adV prog_7_method_7_code "CoatHangers$Reckoner" 6 (some .int) "valueOf") (N k : Nat) (x0 : Nat) (x1 : Nat) (x2 : Int32) (x3 : Int32) (h : qH) (Q : Int32 → qH → Prop) (K86 : Nat → Int32 → qH → Prop) (hw : w_Reck_valueOf_4 N k x0 x1 x2 x3 h Q K86) (hK86 : ∀ (x0 : Nat) (x2 : Int32) (h : qH), K86 x0 x2 h → qW p l e (qrm 1 0 0 22) s m args below meth c D cy b 6 0 0 (MQ below (qQc D cy b qrI Q) args s 0 0 (qA b)) 86 [(0, .inr (.inr (.inl x0))), (2, .inl x2)] [] h) : qW p l e (qrm 1 0 0 22) s m args below meth c D cy b 6 0 0 (MQ below (qQc D cy b qrI Q) args s 0 0 (qA b)) 4 [(0, .inr (.inr (.inl x0))), (1, .inr (.inr (.inl x1))), (2, .inl x2), (3, .inl x3)] [] h := by
  induction k generalizing x0 x1 x2 x3 h with
  | zero => exact hw.elim
  | succ k ih =>
    refine qx_iload_n (x := x3) X d_Reck_valueOf_4 rfl 3 rfl ?_
    refine qx_aload_n (x := x1) X d_Reck_valueOf_5 rfl 1 rfl ?_
    obtain ⟨g1, hw⟩ := hw
    refine qx_getI X qcls0 g1 2 (by decide) rfl wf_Reck_93 d_Reck_valueOf_6 ?_
    refine qx_icmp_ge X 195 d_Reck_valueOf_9 (by decide) (fun q2 => ?_) (fun q2 => ?_)
    · have hw := hw.1 q2
      refine qx_iconst (v := (0 : Int32)) X d_Reck_valueOf_195 (by decide) ?_
      exact qx_iret X hw (Nat.le_refl 0) (Nat.le_refl 0) rfl d_Reck_valueOf_196
    · have hw := hw.2 q2
      refine qx_aload_n (x := x1) X d_Reck_valueOf_12 rfl 1 rfl ?_
      refine qx_getR X qcls0 g1 0 (by decide) rfl wf_Reck_98 d_Reck_valueOf_13 ?_
      refine qx_iload_n (x := x3) X d_Reck_valueOf_16 rfl 3 rfl ?_
      obtain ⟨g3, hw⟩ := hw
      refine qx_ild X g3 d_Reck_valueOf_17 ?_
      refine qx_topi (fun y4 ey4 => ?_)
      have hw := hw y4 ey4
      refine qx_istore (L' := [(4, .inl y4), (0, .inr (.inr (.inl x0))), (1, .inr (.inr (.inl x1))), (2, .inl x2), (3, .inl x3)]) X d_Reck_valueOf_18 (by decide) rfl ?_
      refine qx_aload_n (x := x1) X d_Reck_valueOf_20 rfl 2 rfl ?_
      refine qx_getR X qcls0 g1 1 (by decide) rfl wf_Reck_101 d_Reck_valueOf_21 ?_
      refine qx_iload_n (x := x3) X d_Reck_valueOf_24 rfl 4 rfl ?_
      obtain ⟨g5, hw⟩ := hw
      refine qx_ild X g5 d_Reck_valueOf_25 ?_
      refine qx_topi (fun y6 ey6 => ?_)
      have hw := hw y6 ey6
      refine qx_istore (L' := [(5, .inl y6), (4, .inl y4), (0, .inr (.inr (.inl x0))), (1, .inr (.inr (.inl x1))), (2, .inl x2), (3, .inl x3)]) X d_Reck_valueOf_26 (by decide) rfl ?_
      refine qx_iinc (v := (x3 + (1 : Int32))) (L' := [(3, .inl (x3 + (1 : Int32))), (5, .inl y6), (4, .inl y4), (0, .inr (.inr (.inl x0))), (1, .inr (.inr (.inl x1))), (2, .inl x2)]) X d_Reck_valueOf_28 5 rfl rfl (by decide) rfl ?_
      refine qx_iload (x := y4) X d_Reck_valueOf_31 2 rfl ?_
      refine qx_iconst (v := (1 : Int32)) X d_Reck_valueOf_33 (by decide) ?_
      refine qx_icmp_eq X 43 d_Reck_valueOf_34 (by decide) (fun q7 => ?_) (fun q7 => ?_)
      · have hw := hw.1 q7
        refine qx_sub [3, 4, 5, 0, 2, 1] rfl ?_
        exact t_Reck_valueOf_43 X N x0 x1 x2 (x3 + (1 : Int32)) y4 y6 h Q _ hw ih
      · have hw := hw.2 q7
        refine qx_iload (x := y4) X d_Reck_valueOf_37 2 rfl ?_
        refine qx_iconst (v := (2 : Int32)) X d_Reck_valueOf_39 (by decide) ?_
        refine qx_icmp_ne X 80 d_Reck_valueOf_40 (by decide) (fun q8 => ?_) (fun q8 => ?_)
        · have hw := hw.1 q8
          refine qx_iload (x := y4) X d_Reck_valueOf_80 2 rfl ?_
          refine qx_iconst (v := (4 : Int32)) X d_Reck_valueOf_82 (by decide) ?_
          refine qx_icmp_ne X 103 d_Reck_valueOf_83 (by decide) (fun q9 => ?_) (fun q9 => ?_)
          · have hw := hw.1 q9
            refine qx_iload_n (x := x2) X d_Reck_valueOf_103 rfl 5 rfl ?_
            refine qx_iconst (v := (2 : Int32)) X d_Reck_valueOf_104 (by decide) ?_
            refine qx_icmp_lt X 126 d_Reck_valueOf_105 (by decide) (fun q10 => ?_) (fun q10 => ?_)
            · have hw := hw.1 q10
              refine qx_iconst (v := (0 : Int32)) X d_Reck_valueOf_126 (by decide) ?_
              exact qx_iret X hw (Nat.le_refl 0) (Nat.le_refl 0) rfl d_Reck_valueOf_127
            · have hw := hw.2 q10
              refine qx_iload (x := y4) X d_Reck_valueOf_108 2 rfl ?_
              refine qx_bipush (v := (47 : Int32)) X d_Reck_valueOf_110 (by decide) ?_
              refine qx_icmp_ne X 128 d_Reck_valueOf_112 (by decide) (fun q11 => ?_) (fun q11 => ?_)
              · have hw := hw.1 q11
                refine qx_sub [3, 4, 5, 0, 2, 1] rfl ?_
                exact t_Reck_valueOf_128 X N x0 x1 x2 (x3 + (1 : Int32)) y4 y6 h Q _ hw ih
              · have hw := hw.2 q11
                refine qx_aload_n (x := x0) X d_Reck_valueOf_115 rfl 3 rfl ?_
                obtain ⟨g12, hw⟩ := hw
                refine qx_getR X qcls5 g12 2 (by decide) rfl wf_Reck_15 d_Reck_valueOf_116 ?_
                refine qx_iload_n (x := x2) X d_Reck_valueOf_119 rfl 5 rfl ?_
                refine qx_iconst (v := (1 : Int32)) X d_Reck_valueOf_120 (by decide) ?_
                refine qx_isub X d_Reck_valueOf_121 ?_
                obtain ⟨g13, hw⟩ := hw
                refine qx_ild X g13 d_Reck_valueOf_122 ?_
                refine qx_if_ne X 128 d_Reck_valueOf_123 (by decide) (fun q14 => ?_) (fun q14 => ?_)
                · have hw := hw.1 q14
                  refine qx_sub [3, 4, 5, 0, 2, 1] rfl ?_
                  exact t_Reck_valueOf_128 X N x0 x1 x2 (x3 + (1 : Int32)) y4 y6 h Q _ hw ih
                · have hw := hw.2 q14
                  refine qx_iconst (v := (0 : Int32)) X d_Reck_valueOf_126 (by decide) ?_
                  exact qx_iret X hw (Nat.le_refl 0) (Nat.le_refl 0) rfl d_Reck_valueOf_127
          · have hw := hw.2 q9
            refine qx_sub [3, 5] rfl ?_
            exact hK86 x0 x2 h hw
        · have hw := hw.2 q8
          refine qx_sub [3, 4, 5, 0, 2, 1] rfl ?_
          exact t_Reck_valueOf_43 X N x0 x1 x2 (x3 + (1 : Int32)) y4 y6 h Q _ hw ih
set_option maxRecDepth 4000 in
theorem t_Reck_valueOf {adK adV : Nat → Nat} (l : Launch) (D : va_G) (cy : Nat → ClassId) (b : Nat) (N : Nat) (x0 : Nat) (x1 : Nat) (h : qH) (Q : Int32 → qH → Prop) (hw : w_Reck_valueOf N x0 x1 h Q) : Met l y_Reck_valueOf (Cond.code y_Reck_valueOf prog_7_method_7_code 6 (some .int) :: qT) (qrm 1 0 0 22) (qPc D cy b adK adV h [qr b x0, qr b x1]) (qQc D cy b qrI Q) 0 0 (qA b) := by
  refine qmet (L0 := [(0, .inr (.inr (.inl x0))), (1, .inr (.inr (.inl x1)))]) qm_Reck_valueOf (plainFor_of_name (by decide)) [.inr (.inr (.inl x0)), .inr (.inr (.inl x1))] rfl (Nat.le_of_ble_eq_true rfl) rfl (fun p e s m args below meth c X => ?_)
  unfold w_Reck_valueOf at hw
  refine qx_iconst (v := (0 : Int32)) X d_Reck_valueOf_0 (by decide) ?_
  refine qx_istore_n (L' := [(2, .inl (0 : Int32)), (0, .inr (.inr (.inl x0))), (1, .inr (.inr (.inl x1)))]) X d_Reck_valueOf_1 rfl (by decide) rfl ?_
  refine qx_iconst (v := (0 : Int32)) X d_Reck_valueOf_2 (by decide) ?_
  refine qx_istore_n (L' := [(3, .inl (0 : Int32)), (2, .inl (0 : Int32)), (0, .inr (.inr (.inl x0))), (1, .inr (.inr (.inl x1)))]) X d_Reck_valueOf_3 rfl (by decide) rfl ?_
  refine qx_sub [2, 3, 1, 0] rfl ?_
  refine t_Reck_valueOf_4 X N N x0 x1 (0 : Int32) (0 : Int32) h Q _ hw (fun x1 x2 h3 hw => ?_)
  refine qx_iload_n (x := x2) X d_Reck_valueOf_86 rfl 1 rfl ?_
  refine qx_if_le X 101 d_Reck_valueOf_87 (by decide) (fun q4 => ?_) (fun q4 => ?_)
  · have hw := hw.1 q4
    refine qx_iconst (v := (0 : Int32)) X d_Reck_valueOf_101 (by decide) ?_
    exact qx_iret X hw (Nat.le_refl 0) (Nat.le_refl 0) rfl d_Reck_valueOf_102
  · have hw := hw.2 q4
    refine qx_aload_n (x := x1) X d_Reck_valueOf_90 rfl 0 rfl ?_
    obtain ⟨g5, hw⟩ := hw
    refine qx_getR X qcls5 g5 2 (by decide) rfl wf_Reck_15 d_Reck_valueOf_91 ?_
    refine qx_iload_n (x := x2) X d_Reck_valueOf_94 rfl 1 rfl ?_
    refine qx_iconst (v := (1 : Int32)) X d_Reck_valueOf_95 (by decide) ?_
    refine qx_isub X d_Reck_valueOf_96 ?_
    obtain ⟨g6, hw⟩ := hw
    refine qx_ild X g6 d_Reck_valueOf_97 ?_
    refine qx_goto X 102 d_Reck_valueOf_98 (by decide) ?_
    exact qx_iret X hw (Nat.le_refl 0) (Nat.le_refl 0) rfl d_Reck_valueOf_102
set_option maxRecDepth 4000 in
theorem t_Reck_lawTells_12 (X : qX p s m args meth c D cy b adK adV prog_7_method_6_code "CoatHangers$Reckoner" 3 (some .int) "lawTells") (N : Nat) (x0 : Nat) (x1 : Int32) (z0 : Int32) (h : qH) (Q : Int32 → qH → Prop)  (hw : w_Reck_lawTells_12 N x0 x1 z0 h Q ) : qW p l e (qrm 2 0 0 47) s m args below meth c D cy b 3 0 0 (MQ below (qQc D cy b qrI Q) args s 0 0 (qA b)) 12 [(0, .inr (.inr (.inl x0))), (1, .inl x1)] [.int z0] h := by
  unfold w_Reck_lawTells_12 at hw
  refine qx_istore_n (L' := [(2, .inl z0), (0, .inr (.inr (.inl x0))), (1, .inl x1)]) X d_Reck_lawTells_12 rfl (by decide) rfl ?_
  refine qx_iconst (v := (0 : Int32)) X d_Reck_lawTells_13 (by decide) ?_
  refine qx_iload_n (x := z0) X d_Reck_lawTells_14 rfl 0 rfl ?_
  refine qx_aload_n (x := x0) X d_Reck_lawTells_15 rfl 1 rfl ?_
  refine qx_aload_n (x := x0) X d_Reck_lawTells_16 rfl 1 rfl ?_
  obtain ⟨g1, hw⟩ := hw
  refine qx_getR X qcls5 g1 0 (by decide) rfl wf_Reck_18 d_Reck_lawTells_17 ?_
  refine qx_iload_n (x := x1) X d_Reck_lawTells_20 rfl 2 rfl ?_
  obtain ⟨g2, hw⟩ := hw
  refine qx_callVR (st := [qr b x0, .int z0, .int (0 : Int32)]) (As := [.int x1]) X (t_Text_law (adK := adK) (adV := adV) l D cy b N (qR h x0 0) x1 h _ hw) qm_Text_law wm_Reck_78 wi_Text_law wl_Text_law qcls8 g2 rfl rfl rfl ⟨Nat.le_of_ble_eq_true rfl, Nat.le_of_ble_eq_true rfl⟩ ⟨Nat.le_refl 0, Nat.le_refl 0⟩ (Nat.le_of_ble_eq_true rfl) rfl d_Reck_lawTells_21 (fun r3 h4 hw => ?_)
  obtain ⟨g5, hw⟩ := hw
  refine qx_callVI (st := [.int z0, .int (0 : Int32)]) (As := [qr b r3]) X (t_Reck_valueOf (adK := adK) (adV := adV) l D cy b N x0 r3 h4 _ hw) qm_Reck_valueOf wm_Reck_82 wi_Reck_valueOf wl_Reck_valueOf qcls5 g5 rfl rfl rfl ⟨Nat.le_of_ble_eq_true rfl, Nat.le_of_ble_eq_true rfl⟩ ⟨Nat.le_refl 0, Nat.le_refl 0⟩ (Nat.le_of_ble_eq_true rfl) rfl d_Reck_lawTells_24 (fun r6 h7 hw => ?_)
  refine qx_mmin X wm_Reck_86 ws_mmin wz_Math wk_mmin (Nat.le_of_ble_eq_true rfl) (Nat.le_of_ble_eq_true rfl) (Nat.le_of_ble_eq_true rfl) (Nat.le_of_ble_eq_true rfl) d_Reck_lawTells_27 ?_
  refine qx_mmax X wm_Reck_90 ws_mmax wz_Math wk_mmax (Nat.le_of_ble_eq_true rfl) (Nat.le_of_ble_eq_true rfl) (Nat.le_of_ble_eq_true rfl) (Nat.le_of_ble_eq_true rfl) d_Reck_lawTells_30 ?_
  exact qx_iret X hw (Nat.le_refl 0) (Nat.le_refl 0) rfl d_Reck_lawTells_33
set_option maxRecDepth 4000 in
theorem t_Reck_lawTells {adK adV : Nat → Nat} (l : Launch) (D : va_G) (cy : Nat → ClassId) (b : Nat) (N : Nat) (x0 : Nat) (x1 : Int32) (h : qH) (Q : Int32 → qH → Prop) (hw : w_Reck_lawTells N x0 x1 h Q) : Met l y_Reck_lawTells (Cond.code y_Reck_lawTells prog_7_method_6_code 3 (some .int) :: qT) (qrm 2 0 0 47) (qPc D cy b adK adV h [qr b x0, .int x1]) (qQc D cy b qrI Q) 0 0 (qA b) := by
  refine qmet (L0 := [(0, .inr (.inr (.inl x0))), (1, .inl x1)]) qm_Reck_lawTells (plainFor_of_name (by decide)) [.inr (.inr (.inl x0)), .inl x1] rfl (Nat.le_of_ble_eq_true rfl) rfl (fun p e s m args below meth c X => ?_)
  unfold w_Reck_lawTells at hw
  refine qx_iload_n (x := x1) X d_Reck_lawTells_0 rfl 1 rfl ?_
  refine qx_iconst (v := (2 : Int32)) X d_Reck_lawTells_1 (by decide) ?_
  refine qx_icmp_ne X 10 d_Reck_lawTells_2 (by decide) (fun q1 => ?_) (fun q1 => ?_)
  · have hw := hw.1 q1
    refine qx_bipush (v := (99 : Int32)) X d_Reck_lawTells_10 (by decide) ?_
    exact t_Reck_lawTells_12 X N x0 x1 (99 : Int32) h Q  hw 
  · have hw := hw.2 q1
    refine qx_bipush (v := (100 : Int32)) X d_Reck_lawTells_5 (by decide) ?_
    refine qx_goto X 12 d_Reck_lawTells_7 (by decide) ?_
    exact t_Reck_lawTells_12 X N x0 x1 (100 : Int32) h Q  hw 
set_option maxRecDepth 4000 in
theorem t_Reck_lookAt {adK adV : Nat → Nat} (l : Launch) (D : va_G) (cy : Nat → ClassId) (b : Nat) (N : Nat) (x0 : Nat) (x1 : Nat) (x2 : Int32) (x3 : Int32) (x4 : Int32) (h : qH) (Q : qH → Prop) (hw : w_Reck_lookAt N x0 x1 x2 x3 x4 h Q) : Met l y_Reck_lookAt (Cond.code y_Reck_lookAt prog_7_method_3_code 7 (none) :: qT) (qrm 1 0 0 17) (qPc D cy b adK adV h [qr b x0, qr b x1, .int x2, .int x3, .int x4]) (qQc D cy b qrV (fun (_ : Unit) h => Q h)) 0 0 (qA b) := by
  refine qmet (L0 := [(0, .inr (.inr (.inl x0))), (1, .inr (.inr (.inl x1))), (2, .inl x2), (3, .inl x3), (4, .inl x4)]) qm_Reck_lookAt (plainFor_of_name (by decide)) [.inr (.inr (.inl x0)), .inr (.inr (.inl x1)), .inl x2, .inl x3, .inl x4] rfl (Nat.le_of_ble_eq_true rfl) rfl (fun p e s m args below meth c X => ?_)
  unfold w_Reck_lookAt at hw
  refine qx_aload_n (x := x1) X d_Reck_lookAt_0 rfl 1 rfl ?_
  obtain ⟨g1, hw⟩ := hw
  refine qx_getR X qcls6 g1 6 (by decide) rfl wf_Reck_39 d_Reck_lookAt_1 ?_
  refine qx_iload_n (x := x3) X d_Reck_lookAt_4 rfl 3 rfl ?_
  obtain ⟨g2, hw⟩ := hw
  refine qx_ild X g2 d_Reck_lookAt_5 ?_
  refine qx_topi (fun y3 ey3 => ?_)
  have hw := hw y3 ey3
  refine qx_istore (L' := [(5, .inl y3), (0, .inr (.inr (.inl x0))), (1, .inr (.inr (.inl x1))), (2, .inl x2), (3, .inl x3), (4, .inl x4)]) X d_Reck_lookAt_6 (by decide) rfl ?_
  refine qx_aload_n (x := x1) X d_Reck_lookAt_8 rfl 2 rfl ?_
  refine qx_getR X qcls6 g1 2 (by decide) rfl wf_Reck_42 d_Reck_lookAt_9 ?_
  refine qx_iload_n (x := x2) X d_Reck_lookAt_12 rfl 3 rfl ?_
  obtain ⟨g4, hw⟩ := hw
  refine qx_ild X g4 d_Reck_lookAt_13 ?_
  refine qx_topi (fun y5 ey5 => ?_)
  have hw := hw y5 ey5
  refine qx_istore (L' := [(6, .inl y5), (5, .inl y3), (0, .inr (.inr (.inl x0))), (1, .inr (.inr (.inl x1))), (2, .inl x2), (3, .inl x3), (4, .inl x4)]) X d_Reck_lookAt_14 (by decide) rfl ?_
  refine qx_aload_n (x := x0) X d_Reck_lookAt_16 rfl 2 rfl ?_
  obtain ⟨g6, hw⟩ := hw
  refine qx_getR X qcls5 g6 1 (by decide) rfl wf_Reck_11 d_Reck_lookAt_17 ?_
  refine qx_iconst (v := (0 : Int32)) X d_Reck_lookAt_20 (by decide) ?_
  refine qx_iload (x := y5) X d_Reck_lookAt_21 0 rfl ?_
  refine qx_aload_n (x := x0) X d_Reck_lookAt_23 rfl 2 rfl ?_
  refine qx_getR X qcls5 g6 0 (by decide) rfl wf_Reck_18 d_Reck_lookAt_24 ?_
  obtain ⟨g7, hw⟩ := hw
  refine qx_getR X qcls8 g7 2 (by decide) rfl wf_Reck_45 d_Reck_lookAt_27 ?_
  refine qx_iload_n (x := x3) X d_Reck_lookAt_30 rfl 5 rfl ?_
  obtain ⟨g8, hw⟩ := hw
  refine qx_ild X g8 d_Reck_lookAt_31 ?_
  refine qx_isub X d_Reck_lookAt_32 ?_
  refine qx_mabs X wm_Reck_50 ws_mabs wz_Math wk_mabs (Nat.le_of_ble_eq_true rfl) (Nat.le_of_ble_eq_true rfl) (Nat.le_of_ble_eq_true rfl) (Nat.le_of_ble_eq_true rfl) d_Reck_lookAt_33 ?_
  refine qx_iload (x := y3) X d_Reck_lookAt_36 1 rfl ?_
  refine qx_iadd X d_Reck_lookAt_38 ?_
  obtain ⟨g9, hw⟩ := hw
  refine qx_ist X g9 d_Reck_lookAt_39 ?_
  refine qx_toph (fun h10 eh10 => ?_)
  have hw := hw h10 eh10
  refine qx_aload_n (x := x0) X d_Reck_lookAt_40 rfl 2 rfl ?_
  obtain ⟨g11, hw⟩ := hw
  refine qx_getR X qcls5 g11 1 (by decide) rfl wf_Reck_11 d_Reck_lookAt_41 ?_
  refine qx_iconst (v := (1 : Int32)) X d_Reck_lookAt_44 (by decide) ?_
  refine qx_iload (x := y3) X d_Reck_lookAt_45 1 rfl ?_
  obtain ⟨g12, hw⟩ := hw
  refine qx_ist X g12 d_Reck_lookAt_47 ?_
  refine qx_toph (fun h13 eh13 => ?_)
  have hw := hw h13 eh13
  refine qx_aload_n (x := x0) X d_Reck_lookAt_48 rfl 2 rfl ?_
  obtain ⟨g14, hw⟩ := hw
  refine qx_getR X qcls5 g14 1 (by decide) rfl wf_Reck_11 d_Reck_lookAt_49 ?_
  refine qx_iconst (v := (2 : Int32)) X d_Reck_lookAt_52 (by decide) ?_
  refine qx_iload (x := y5) X d_Reck_lookAt_53 0 rfl ?_
  obtain ⟨g15, hw⟩ := hw
  refine qx_ist X g15 d_Reck_lookAt_55 ?_
  refine qx_toph (fun h16 eh16 => ?_)
  have hw := hw h16 eh16
  refine qx_aload_n (x := x0) X d_Reck_lookAt_56 rfl 2 rfl ?_
  obtain ⟨g17, hw⟩ := hw
  refine qx_getR X qcls5 g17 1 (by decide) rfl wf_Reck_11 d_Reck_lookAt_57 ?_
  refine qx_iconst (v := (3 : Int32)) X d_Reck_lookAt_60 (by decide) ?_
  refine qx_aload_n (x := x0) X d_Reck_lookAt_61 rfl 2 rfl ?_
  refine qx_getR X qcls5 g17 0 (by decide) rfl wf_Reck_18 d_Reck_lookAt_62 ?_
  obtain ⟨g18, hw⟩ := hw
  refine qx_getR X qcls8 g18 5 (by decide) rfl wf_Reck_55 d_Reck_lookAt_65 ?_
  refine qx_iload_n (x := x2) X d_Reck_lookAt_68 rfl 4 rfl ?_
  obtain ⟨g19, hw⟩ := hw
  refine qx_ild X g19 d_Reck_lookAt_69 ?_
  obtain ⟨g20, hw⟩ := hw
  refine qx_ist X g20 d_Reck_lookAt_70 ?_
  refine qx_toph (fun h21 eh21 => ?_)
  have hw := hw h21 eh21
  refine qx_aload_n (x := x0) X d_Reck_lookAt_71 rfl 2 rfl ?_
  obtain ⟨g22, hw⟩ := hw
  refine qx_getR X qcls5 g22 1 (by decide) rfl wf_Reck_11 d_Reck_lookAt_72 ?_
  refine qx_iconst (v := (4 : Int32)) X d_Reck_lookAt_75 (by decide) ?_
  refine qx_aload_n (x := x1) X d_Reck_lookAt_76 rfl 3 rfl ?_
  obtain ⟨g23, hw⟩ := hw
  refine qx_getI X qcls6 g23 1 (by decide) rfl wf_Reck_58 d_Reck_lookAt_77 ?_
  obtain ⟨g24, hw⟩ := hw
  refine qx_ist X g24 d_Reck_lookAt_80 ?_
  refine qx_toph (fun h25 eh25 => ?_)
  have hw := hw h25 eh25
  refine qx_aload_n (x := x0) X d_Reck_lookAt_81 rfl 2 rfl ?_
  obtain ⟨g26, hw⟩ := hw
  refine qx_getR X qcls5 g26 1 (by decide) rfl wf_Reck_11 d_Reck_lookAt_82 ?_
  refine qx_iconst (v := (5 : Int32)) X d_Reck_lookAt_85 (by decide) ?_
  refine qx_aload_n (x := x1) X d_Reck_lookAt_86 rfl 3 rfl ?_
  obtain ⟨g27, hw⟩ := hw
  refine qx_getR X qcls6 g27 5 (by decide) rfl wf_Reck_62 d_Reck_lookAt_87 ?_
  refine qx_iload_n (x := x2) X d_Reck_lookAt_90 rfl 4 rfl ?_
  obtain ⟨g28, hw⟩ := hw
  refine qx_ild X g28 d_Reck_lookAt_91 ?_
  obtain ⟨g29, hw⟩ := hw
  refine qx_ist X g29 d_Reck_lookAt_92 ?_
  refine qx_toph (fun h30 eh30 => ?_)
  have hw := hw h30 eh30
  refine qx_aload_n (x := x0) X d_Reck_lookAt_93 rfl 2 rfl ?_
  obtain ⟨g31, hw⟩ := hw
  refine qx_getR X qcls5 g31 1 (by decide) rfl wf_Reck_11 d_Reck_lookAt_94 ?_
  refine qx_bipush (v := (6 : Int32)) X d_Reck_lookAt_97 (by decide) ?_
  refine qx_iload (x := x4) X d_Reck_lookAt_99 6 rfl ?_
  obtain ⟨g32, hw⟩ := hw
  refine qx_ist X g32 d_Reck_lookAt_101 ?_
  refine qx_toph (fun h33 eh33 => ?_)
  have hw := hw h33 eh33
  refine qx_aload_n (x := x0) X d_Reck_lookAt_102 rfl 2 rfl ?_
  obtain ⟨g34, hw⟩ := hw
  refine qx_getR X qcls5 g34 1 (by decide) rfl wf_Reck_11 d_Reck_lookAt_103 ?_
  refine qx_bipush (v := (7 : Int32)) X d_Reck_lookAt_106 (by decide) ?_
  refine qx_iload_n (x := x2) X d_Reck_lookAt_108 rfl 4 rfl ?_
  obtain ⟨g35, hw⟩ := hw
  refine qx_ist X g35 d_Reck_lookAt_109 ?_
  refine qx_toph (fun h36 eh36 => ?_)
  have hw := hw h36 eh36
  refine qx_aload_n (x := x0) X d_Reck_lookAt_110 rfl 2 rfl ?_
  obtain ⟨g37, hw⟩ := hw
  refine qx_getR X qcls5 g37 1 (by decide) rfl wf_Reck_11 d_Reck_lookAt_111 ?_
  refine qx_bipush (v := (8 : Int32)) X d_Reck_lookAt_114 (by decide) ?_
  refine qx_aload_n (x := x0) X d_Reck_lookAt_116 rfl 2 rfl ?_
  refine qx_getR X qcls5 g37 0 (by decide) rfl wf_Reck_18 d_Reck_lookAt_117 ?_
  obtain ⟨g38, hw⟩ := hw
  refine qx_getR X qcls8 g38 1 (by decide) rfl wf_Reck_65 d_Reck_lookAt_120 ?_
  refine qx_iload_n (x := x3) X d_Reck_lookAt_123 rfl 5 rfl ?_
  obtain ⟨g39, hw⟩ := hw
  refine qx_ild X g39 d_Reck_lookAt_124 ?_
  obtain ⟨g40, hw⟩ := hw
  refine qx_ist X g40 d_Reck_lookAt_125 ?_
  refine qx_toph (fun h41 eh41 => ?_)
  have hw := hw h41 eh41
  exact qx_vret X hw (Nat.le_refl 0) (Nat.le_refl 0) rfl d_Reck_lookAt_126
set_option maxRecDepth 4000 in
theorem t_Reck_costAlone {adK adV : Nat → Nat} (l : Launch) (D : va_G) (cy : Nat → ClassId) (b : Nat) (N : Nat) (x0 : Nat) (x1 : Nat) (x2 : Int32) (x3 : Int32) (h : qH) (Q : Int32 → qH → Prop) (hw : w_Reck_costAlone N x0 x1 x2 x3 h Q) : Met l y_Reck_costAlone (Cond.code y_Reck_costAlone prog_7_method_4_code 4 (some .int) :: qT) (qrm 3 0 0 69) (qPc D cy b adK adV h [qr b x0, qr b x1, .int x2, .int x3]) (qQc D cy b qrI Q) 0 0 (qA b) := by
  refine qmet (L0 := [(0, .inr (.inr (.inl x0))), (1, .inr (.inr (.inl x1))), (2, .inl x2), (3, .inl x3)]) qm_Reck_costAlone (plainFor_of_name (by decide)) [.inr (.inr (.inl x0)), .inr (.inr (.inl x1)), .inl x2, .inl x3] rfl (Nat.le_of_ble_eq_true rfl) rfl (fun p e s m args below meth c X => ?_)
  unfold w_Reck_costAlone at hw
  refine qx_aload_n (x := x0) X d_Reck_costAlone_0 rfl 0 rfl ?_
  refine qx_aload_n (x := x1) X d_Reck_costAlone_1 rfl 1 rfl ?_
  refine qx_iload_n (x := x2) X d_Reck_costAlone_2 rfl 2 rfl ?_
  refine qx_iload_n (x := x3) X d_Reck_costAlone_3 rfl 3 rfl ?_
  refine qx_iconst (v := (0 : Int32)) X d_Reck_costAlone_4 (by decide) ?_
  obtain ⟨g1, hw⟩ := hw
  refine qx_callVV (st := []) (As := [qr b x1, .int x2, .int x3, .int (0 : Int32)]) X (t_Reck_lookAt (adK := adK) (adV := adV) l D cy b N x0 x1 x2 x3 (0 : Int32) h _ hw) qm_Reck_lookAt wm_Reck_35 wi_Reck_lookAt wl_Reck_lookAt qcls5 g1 rfl rfl rfl ⟨Nat.le_of_ble_eq_true rfl, Nat.le_of_ble_eq_true rfl⟩ ⟨Nat.le_refl 0, Nat.le_refl 0⟩ (Nat.le_of_ble_eq_true rfl) rfl d_Reck_costAlone_5 (fun h2 hw => ?_)
  refine qx_aload_n (x := x0) X d_Reck_costAlone_8 rfl 0 rfl ?_
  refine qx_iconst (v := (3 : Int32)) X d_Reck_costAlone_9 (by decide) ?_
  obtain ⟨g3, hw⟩ := hw
  refine qx_callVI (st := []) (As := [.int (3 : Int32)]) X (t_Reck_lawTells (adK := adK) (adV := adV) l D cy b N x0 (3 : Int32) h2 _ hw) qm_Reck_lawTells wm_Reck_68 wi_Reck_lawTells wl_Reck_lawTells qcls5 g3 rfl rfl rfl ⟨Nat.le_of_ble_eq_true rfl, Nat.le_of_ble_eq_true rfl⟩ ⟨Nat.le_refl 0, Nat.le_refl 0⟩ (Nat.le_of_ble_eq_true rfl) rfl d_Reck_costAlone_10 (fun r4 h5 hw => ?_)
  exact qx_iret X hw (Nat.le_refl 0) (Nat.le_refl 0) rfl d_Reck_costAlone_13
set_option maxRecDepth 4000 in
theorem t_Reck_lookAtHung {adK adV : Nat → Nat} (l : Launch) (D : va_G) (cy : Nat → ClassId) (b : Nat) (N : Nat) (x0 : Nat) (x1 : Nat) (x2 : Int32) (h : qH) (Q : qH → Prop) (hw : w_Reck_lookAtHung N x0 x1 x2 h Q) : Met l y_Reck_lookAtHung (Cond.code y_Reck_lookAtHung prog_7_method_2_code 3 (none) :: qT) (qrm 3 0 0 66) (qPc D cy b adK adV h [qr b x0, qr b x1, .int x2]) (qQc D cy b qrV (fun (_ : Unit) h => Q h)) 0 0 (qA b) := by
  refine qmet (L0 := [(0, .inr (.inr (.inl x0))), (1, .inr (.inr (.inl x1))), (2, .inl x2)]) qm_Reck_lookAtHung (plainFor_of_name (by decide)) [.inr (.inr (.inl x0)), .inr (.inr (.inl x1)), .inl x2] rfl (Nat.le_of_ble_eq_true rfl) rfl (fun p e s m args below meth c X => ?_)
  unfold w_Reck_lookAtHung at hw
  refine qx_aload_n (x := x1) X d_Reck_lookAtHung_0 rfl 1 rfl ?_
  refine qx_iload_n (x := x2) X d_Reck_lookAtHung_1 rfl 2 rfl ?_
  obtain ⟨g1, hw⟩ := hw
  refine qx_callVI (st := []) (As := [.int x2]) X (t_State_isHung (adK := adK) (adV := adV) l D cy b N x1 x2 h _ hw) qm_State_isHung wm_Reck_22 wi_State_isHung wl_State_isHung qcls6 g1 rfl rfl rfl ⟨Nat.le_of_ble_eq_true rfl, Nat.le_of_ble_eq_true rfl⟩ ⟨Nat.le_refl 0, Nat.le_refl 0⟩ (Nat.le_of_ble_eq_true rfl) rfl d_Reck_lookAtHung_2 (fun r2 h3 hw => ?_)
  refine qx_if_eq X 25 d_Reck_lookAtHung_5 (by decide) (fun q4 => ?_) (fun q4 => ?_)
  · have hw := hw.1 q4
    exact qx_vret X hw (Nat.le_refl 0) (Nat.le_refl 0) rfl d_Reck_lookAtHung_25
  · have hw := hw.2 q4
    refine qx_aload_n (x := x0) X d_Reck_lookAtHung_8 rfl 0 rfl ?_
    refine qx_aload_n (x := x1) X d_Reck_lookAtHung_9 rfl 1 rfl ?_
    refine qx_iload_n (x := x2) X d_Reck_lookAtHung_10 rfl 2 rfl ?_
    refine qx_aload_n (x := x1) X d_Reck_lookAtHung_11 rfl 1 rfl ?_
    obtain ⟨g5, hw⟩ := hw
    refine qx_getR X qcls6 g5 3 (by decide) rfl wf_Reck_28 d_Reck_lookAtHung_12 ?_
    refine qx_iload_n (x := x2) X d_Reck_lookAtHung_15 rfl 2 rfl ?_
    obtain ⟨g6, hw⟩ := hw
    refine qx_ild X g6 d_Reck_lookAtHung_16 ?_
    refine qx_aload_n (x := x1) X d_Reck_lookAtHung_17 rfl 1 rfl ?_
    refine qx_iload_n (x := x2) X d_Reck_lookAtHung_18 rfl 2 rfl ?_
    refine qx_callVI (st := [.int (qI h3 (qR h3 x1 3) (x2).toNatClampNeg), .int x2, qr b x1, qr b x0]) (As := [.int x2]) X (t_State_othersBeside (adK := adK) (adV := adV) l D cy b N x1 x2 h3 _ hw) qm_State_othersBeside wm_Reck_31 wi_State_othersBeside wl_State_othersBeside qcls6 g5 rfl rfl rfl ⟨Nat.le_of_ble_eq_true rfl, Nat.le_of_ble_eq_true rfl⟩ ⟨Nat.le_refl 0, Nat.le_refl 0⟩ (Nat.le_of_ble_eq_true rfl) rfl d_Reck_lookAtHung_19 (fun r7 h8 hw => ?_)
    obtain ⟨g9, hw⟩ := hw
    refine qx_callVV (st := []) (As := [qr b x1, .int x2, .int (qI h3 (qR h3 x1 3) (x2).toNatClampNeg), .int r7]) X (t_Reck_lookAt (adK := adK) (adV := adV) l D cy b N x0 x1 x2 (qI h3 (qR h3 x1 3) (x2).toNatClampNeg) r7 h8 _ hw) qm_Reck_lookAt wm_Reck_35 wi_Reck_lookAt wl_Reck_lookAt qcls5 g9 rfl rfl rfl ⟨Nat.le_of_ble_eq_true rfl, Nat.le_of_ble_eq_true rfl⟩ ⟨Nat.le_refl 0, Nat.le_refl 0⟩ (Nat.le_of_ble_eq_true rfl) rfl d_Reck_lookAtHung_22 (fun h10 hw => ?_)
    exact qx_vret X hw (Nat.le_refl 0) (Nat.le_refl 0) rfl d_Reck_lookAtHung_25
set_option maxRecDepth 4000 in
theorem t_Reck_costOfAll_4 (X : qX p s m args meth c D cy b adK adV prog_7_method_5_code "CoatHangers$Reckoner" 4 (some .int) "costOfAll") (N k : Nat) (x0 : Nat) (x1 : Nat) (x2 : Int32) (x3 : Int32) (h : qH) (Q : Int32 → qH → Prop)  (hw : w_Reck_costOfAll_4 N k x0 x1 x2 x3 h Q ) : qW p l e (qrm 4 0 0 88) s m args below meth c D cy b 4 0 0 (MQ below (qQc D cy b qrI Q) args s 0 0 (qA b)) 4 [(0, .inr (.inr (.inl x0))), (1, .inr (.inr (.inl x1))), (2, .inl x2), (3, .inl x3)] [] h := by
  induction k generalizing x0 x1 x2 x3 h with
  | zero => exact hw.elim
  | succ k ih =>
    refine qx_iload_n (x := x3) X d_Reck_costOfAll_4 rfl 3 rfl ?_
    refine qx_aload_n (x := x0) X d_Reck_costOfAll_5 rfl 0 rfl ?_
    obtain ⟨g1, hw⟩ := hw
    refine qx_getR X qcls5 g1 0 (by decide) rfl wf_Reck_18 d_Reck_costOfAll_6 ?_
    obtain ⟨g2, hw⟩ := hw
    refine qx_getI X qcls8 g2 3 (by decide) rfl wf_Reck_71 d_Reck_costOfAll_9 ?_
    refine qx_icmp_ge X 43 d_Reck_costOfAll_12 (by decide) (fun q3 => ?_) (fun q3 => ?_)
    · have hw := hw.1 q3
      refine qx_iload_n (x := x2) X d_Reck_costOfAll_43 rfl 2 rfl ?_
      exact qx_iret X hw (Nat.le_refl 0) (Nat.le_refl 0) rfl d_Reck_costOfAll_44
    · have hw := hw.2 q3
      refine qx_aload_n (x := x1) X d_Reck_costOfAll_15 rfl 1 rfl ?_
      refine qx_iload_n (x := x3) X d_Reck_costOfAll_16 rfl 3 rfl ?_
      obtain ⟨g4, hw⟩ := hw
      refine qx_callVI (st := []) (As := [.int x3]) X (t_State_isHung (adK := adK) (adV := adV) l D cy b N x1 x3 h _ hw) qm_State_isHung wm_Reck_22 wi_State_isHung wl_State_isHung qcls6 g4 rfl rfl rfl ⟨Nat.le_of_ble_eq_true rfl, Nat.le_of_ble_eq_true rfl⟩ ⟨Nat.le_refl 0, Nat.le_refl 0⟩ (Nat.le_of_ble_eq_true rfl) rfl d_Reck_costOfAll_17 (fun r5 h6 hw => ?_)
      refine qx_if_eq X 37 d_Reck_costOfAll_20 (by decide) (fun q7 => ?_) (fun q7 => ?_)
      · have hw := hw.1 q7
        refine qx_iinc (v := (x3 + (1 : Int32))) (L' := [(3, .inl (x3 + (1 : Int32))), (0, .inr (.inr (.inl x0))), (1, .inr (.inr (.inl x1))), (2, .inl x2)]) X d_Reck_costOfAll_37 3 rfl rfl (by decide) rfl ?_
        refine qx_goto X 4 d_Reck_costOfAll_40 (by decide) ?_
        refine qx_sub [1, 2, 3, 0] rfl ?_
        exact ih x0 x1 x2 (x3 + (1 : Int32)) h6 hw
      · have hw := hw.2 q7
        refine qx_aload_n (x := x0) X d_Reck_costOfAll_23 rfl 0 rfl ?_
        refine qx_aload_n (x := x1) X d_Reck_costOfAll_24 rfl 1 rfl ?_
        refine qx_iload_n (x := x3) X d_Reck_costOfAll_25 rfl 3 rfl ?_
        obtain ⟨g8, hw⟩ := hw
        refine qx_callVV (st := []) (As := [qr b x1, .int x3]) X (t_Reck_lookAtHung (adK := adK) (adV := adV) l D cy b N x0 x1 x3 h6 _ hw) qm_Reck_lookAtHung wm_Reck_74 wi_Reck_lookAtHung wl_Reck_lookAtHung qcls5 g8 rfl rfl rfl ⟨Nat.le_of_ble_eq_true rfl, Nat.le_of_ble_eq_true rfl⟩ ⟨Nat.le_refl 0, Nat.le_refl 0⟩ (Nat.le_of_ble_eq_true rfl) rfl d_Reck_costOfAll_26 (fun h9 hw => ?_)
        refine qx_iload_n (x := x2) X d_Reck_costOfAll_29 rfl 2 rfl ?_
        refine qx_aload_n (x := x0) X d_Reck_costOfAll_30 rfl 0 rfl ?_
        refine qx_iconst (v := (3 : Int32)) X d_Reck_costOfAll_31 (by decide) ?_
        obtain ⟨g10, hw⟩ := hw
        refine qx_callVI (st := [.int x2]) (As := [.int (3 : Int32)]) X (t_Reck_lawTells (adK := adK) (adV := adV) l D cy b N x0 (3 : Int32) h9 _ hw) qm_Reck_lawTells wm_Reck_68 wi_Reck_lawTells wl_Reck_lawTells qcls5 g10 rfl rfl rfl ⟨Nat.le_of_ble_eq_true rfl, Nat.le_of_ble_eq_true rfl⟩ ⟨Nat.le_refl 0, Nat.le_refl 0⟩ (Nat.le_of_ble_eq_true rfl) rfl d_Reck_costOfAll_32 (fun r11 h12 hw => ?_)
        refine qx_iadd X d_Reck_costOfAll_35 ?_
        refine qx_topi (fun y13 ey13 => ?_)
        have hw := hw y13 ey13
        refine qx_istore_n (L' := [(2, .inl y13), (0, .inr (.inr (.inl x0))), (1, .inr (.inr (.inl x1))), (3, .inl x3)]) X d_Reck_costOfAll_36 rfl (by decide) rfl ?_
        refine qx_iinc (v := (x3 + (1 : Int32))) (L' := [(3, .inl (x3 + (1 : Int32))), (2, .inl y13), (0, .inr (.inr (.inl x0))), (1, .inr (.inr (.inl x1)))]) X d_Reck_costOfAll_37 3 rfl rfl (by decide) rfl ?_
        refine qx_goto X 4 d_Reck_costOfAll_40 (by decide) ?_
        refine qx_sub [2, 3, 1, 0] rfl ?_
        exact ih x0 x1 y13 (x3 + (1 : Int32)) h12 hw
set_option maxRecDepth 4000 in
theorem t_Reck_costOfAll {adK adV : Nat → Nat} (l : Launch) (D : va_G) (cy : Nat → ClassId) (b : Nat) (N : Nat) (x0 : Nat) (x1 : Nat) (h : qH) (Q : Int32 → qH → Prop) (hw : w_Reck_costOfAll N x0 x1 h Q) : Met l y_Reck_costOfAll (Cond.code y_Reck_costOfAll prog_7_method_5_code 4 (some .int) :: qT) (qrm 4 0 0 88) (qPc D cy b adK adV h [qr b x0, qr b x1]) (qQc D cy b qrI Q) 0 0 (qA b) := by
  refine qmet (L0 := [(0, .inr (.inr (.inl x0))), (1, .inr (.inr (.inl x1)))]) qm_Reck_costOfAll (plainFor_of_name (by decide)) [.inr (.inr (.inl x0)), .inr (.inr (.inl x1))] rfl (Nat.le_of_ble_eq_true rfl) rfl (fun p e s m args below meth c X => ?_)
  unfold w_Reck_costOfAll at hw
  refine qx_iconst (v := (0 : Int32)) X d_Reck_costOfAll_0 (by decide) ?_
  refine qx_istore_n (L' := [(2, .inl (0 : Int32)), (0, .inr (.inr (.inl x0))), (1, .inr (.inr (.inl x1)))]) X d_Reck_costOfAll_1 rfl (by decide) rfl ?_
  refine qx_iconst (v := (0 : Int32)) X d_Reck_costOfAll_2 (by decide) ?_
  refine qx_istore_n (L' := [(3, .inl (0 : Int32)), (2, .inl (0 : Int32)), (0, .inr (.inr (.inl x0))), (1, .inr (.inr (.inl x1)))]) X d_Reck_costOfAll_3 rfl (by decide) rfl ?_
  refine qx_sub [2, 3, 1, 0] rfl ?_
  exact t_Reck_costOfAll_4 X N N x0 x1 (0 : Int32) (0 : Int32) h Q  hw 
end QG
