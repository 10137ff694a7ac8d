/-! Told: written by wip/whole/emit.py out of the bytecode -/
def y_Told_hasRoom : MethodName := ⟨"CoatHangers$Told", "hasRoom", "()Z"⟩
theorem qm_Told_hasRoom : qMt y_Told_hasRoom prog_11_method_2_code 1 (some .boolean) 0 := ⟨qT_5 (i := 173) (by decide +kernel) rfl, qT_1 (i := 15) (by decide +kernel) rfl, by decide, by decide, by decide +kernel⟩
theorem wi_Told_hasRoom : Cond.instanceMethod y_Told_hasRoom ∈ qT := qT_5 (i := 171) (by decide +kernel) rfl
theorem wl_Told_hasRoom : Cond.selects y_Told_hasRoom.cls y_Told_hasRoom y_Told_hasRoom ∈ qT := qT_5 (i := 172) (by decide +kernel) rfl
def y_Told_add : MethodName := ⟨"CoatHangers$Told", "add", "(IIZ)I"⟩
theorem qm_Told_add : qMt y_Told_add prog_11_method_3_code 4 (some .int) 3 := ⟨qT_5 (i := 177) (by decide +kernel) rfl, qT_1 (i := 15) (by decide +kernel) rfl, by decide, by decide, by decide +kernel⟩
theorem wi_Told_add : Cond.instanceMethod y_Told_add ∈ qT := qT_5 (i := 175) (by decide +kernel) rfl
theorem wl_Told_add : Cond.selects y_Told_add.cls y_Told_add y_Told_add ∈ qT := qT_5 (i := 176) (by decide +kernel) rfl
def y_Told_canBe : MethodName := ⟨"CoatHangers$Told", "canBe", "(LCoatHangers$State;III)Z"⟩
theorem qm_Told_canBe : qMt y_Told_canBe prog_11_method_7_code 6 (some .boolean) 4 := ⟨qT_5 (i := 198) (by decide +kernel) rfl, qT_1 (i := 15) (by decide +kernel) rfl, by decide, by decide, by decide +kernel⟩
theorem wi_Told_canBe : Cond.instanceMethod y_Told_canBe ∈ qT := qT_5 (i := 197) (by decide +kernel) rfl
theorem wl_Told_canBe : Cond.selects y_Told_canBe.cls y_Told_canBe y_Told_canBe ∈ qT := qT_s (i := 49) (by decide +kernel) rfl
def y_Told_pairsLeft : MethodName := ⟨"CoatHangers$Told", "pairsLeft", "(LCoatHangers$State;I)I"⟩
theorem qm_Told_pairsLeft : qMt y_Told_pairsLeft prog_11_method_4_code 6 (some .int) 2 := ⟨qT_5 (i := 194) (by decide +kernel) rfl, qT_1 (i := 15) (by decide +kernel) rfl, by decide, by decide, by decide +kernel⟩
theorem wi_Told_pairsLeft : Cond.instanceMethod y_Told_pairsLeft ∈ qT := qT_5 (i := 192) (by decide +kernel) rfl
theorem wl_Told_pairsLeft : Cond.selects y_Told_pairsLeft.cls y_Told_pairsLeft y_Told_pairsLeft ∈ qT := qT_5 (i := 193) (by decide +kernel) rfl
def y_Told_pairLeft : MethodName := ⟨"CoatHangers$Told", "pairLeft", "(LCoatHangers$State;II)I"⟩
theorem qm_Told_pairLeft : qMt y_Told_pairLeft prog_11_method_5_code 7 (some .int) 3 := ⟨qT_5 (i := 206) (by decide +kernel) rfl, qT_1 (i := 15) (by decide +kernel) rfl, by decide, by decide, by decide +kernel⟩
theorem wi_Told_pairLeft : Cond.instanceMethod y_Told_pairLeft ∈ qT := qT_5 (i := 204) (by decide +kernel) rfl
theorem wl_Told_pairLeft : Cond.selects y_Told_pairLeft.cls y_Told_pairLeft y_Told_pairLeft ∈ qT := qT_5 (i := 205) (by decide +kernel) rfl
def y_Told_addToTally : MethodName := ⟨"CoatHangers$Told", "addToTally", "()V"⟩
theorem qm_Told_addToTally : qMt y_Told_addToTally prog_11_method_9_code 2 (none) 0 := ⟨qT_5 (i := 222) (by decide +kernel) rfl, qT_1 (i := 15) (by decide +kernel) rfl, by decide, by decide, by decide +kernel⟩
theorem wi_Told_addToTally : Cond.instanceMethod y_Told_addToTally ∈ qT := qT_5 (i := 221) (by decide +kernel) rfl
theorem wl_Told_addToTally : Cond.selects y_Told_addToTally.cls y_Told_addToTally y_Told_addToTally ∈ qT := qT_s (i := 51) (by decide +kernel) rfl
def y_Told_clearTally : MethodName := ⟨"CoatHangers$Told", "clearTally", "()V"⟩
theorem qm_Told_clearTally : qMt y_Told_clearTally prog_11_method_8_code 3 (none) 0 := ⟨qT_5 (i := 218) (by decide +kernel) rfl, qT_1 (i := 15) (by decide +kernel) rfl, by decide, by decide, by decide +kernel⟩
theorem wi_Told_clearTally : Cond.instanceMethod y_Told_clearTally ∈ qT := qT_5 (i := 217) (by decide +kernel) rfl
theorem wl_Told_clearTally : Cond.selects y_Told_clearTally.cls y_Told_clearTally y_Told_clearTally ∈ qT := qT_s (i := 50) (by decide +kernel) rfl
def y_Told_leastAtWorst : MethodName := ⟨"CoatHangers$Told", "leastAtWorst", "()I"⟩
theorem qm_Told_leastAtWorst : qMt y_Told_leastAtWorst prog_11_method_10_code 6 (some .int) 0 := ⟨qT_5 (i := 226) (by decide +kernel) rfl, qT_1 (i := 15) (by decide +kernel) rfl, by decide, by decide, by decide +kernel⟩
theorem wi_Told_leastAtWorst : Cond.instanceMethod y_Told_leastAtWorst ∈ qT := qT_5 (i := 225) (by decide +kernel) rfl
theorem wl_Told_leastAtWorst : Cond.selects y_Told_leastAtWorst.cls y_Told_leastAtWorst y_Told_leastAtWorst ∈ qT := qT_s (i := 52) (by decide +kernel) rfl
def y_Told_whomToAsk : MethodName := ⟨"CoatHangers$Told", "whomToAsk", "(LCoatHangers$State;I)I"⟩
theorem qm_Told_whomToAsk : qMt y_Told_whomToAsk prog_11_method_6_code 6 (some .int) 2 := ⟨qT_5 (i := 214) (by decide +kernel) rfl, qT_1 (i := 15) (by decide +kernel) rfl, by decide, by decide, by decide +kernel⟩
theorem wi_Told_whomToAsk : Cond.instanceMethod y_Told_whomToAsk ∈ qT := qT_5 (i := 212) (by decide +kernel) rfl
theorem wl_Told_whomToAsk : Cond.selects y_Told_whomToAsk.cls y_Told_whomToAsk y_Told_whomToAsk ∈ qT := qT_5 (i := 213) (by decide +kernel) rfl
theorem wf_Told_27 : Cond.fieldLink "CoatHangers$Told" 27 "CoatHangers$Told" "size" "I" ∈ qT := qT_2 (i := 177) (by decide +kernel) rfl
theorem wm_Told_48 : Cond.methodLink "CoatHangers$Told" 48 y_Told_hasRoom ∈ qT := qT_5 (i := 178) (by decide +kernel) rfl
theorem wf_Told_11 : Cond.fieldLink "CoatHangers$Told" 11 "CoatHangers$Told" "people" "[I" ∈ qT := qT_2 (i := 173) (by decide +kernel) rfl
theorem wf_Told_15 : Cond.fieldLink "CoatHangers$Told" 15 "CoatHangers$Told" "selves" "[I" ∈ qT := qT_2 (i := 174) (by decide +kernel) rfl
theorem wf_Told_18 : Cond.fieldLink "CoatHangers$Told" 18 "CoatHangers$Told" "so" "[Z" ∈ qT := qT_2 (i := 175) (by decide +kernel) rfl
theorem wm_Told_70 : Cond.methodLink "CoatHangers$Told" 70 y_State_isHung ∈ qT := qT_5 (i := 199) (by decide +kernel) rfl
theorem wf_Told_44 : Cond.fieldLink "CoatHangers$Told" 44 "CoatHangers$Told" "morning" "LCoatHangers$State;" ∈ qT := qT_2 (i := 172) (by decide +kernel) rfl
theorem wm_Told_74 : Cond.methodLink "CoatHangers$Told" 74 y_State_become ∈ qT := qT_5 (i := 200) (by decide +kernel) rfl
theorem wm_Told_78 : Cond.methodLink "CoatHangers$Told" 78 y_State_exchange ∈ qT := qT_5 (i := 201) (by decide +kernel) rfl
theorem wf_Told_35 : Cond.fieldLink "CoatHangers$Told" 35 "CoatHangers$Told" "night" "LCoatHangers$Night;" ∈ qT := qT_2 (i := 171) (by decide +kernel) rfl
theorem wm_Told_82 : Cond.methodLink "CoatHangers$Told" 82 y_Night_wakeAll ∈ qT := qT_5 (i := 202) (by decide +kernel) rfl
theorem wf_Told_87 : Cond.fieldLink "CoatHangers$Told" 87 "CoatHangers$State" "self" "[I" ∈ qT := qT_2 (i := 79) (by decide +kernel) rfl
theorem wf_Told_31 : Cond.fieldLink "CoatHangers$Told" 31 "CoatHangers$Told" "text" "LCoatHangers$Text;" ∈ qT := qT_2 (i := 170) (by decide +kernel) rfl
theorem wf_Told_52 : Cond.fieldLink "CoatHangers$Told" 52 "CoatHangers$Text" "people" "I" ∈ qT := qT_1 (i := 173) (by decide +kernel) rfl
theorem wm_Told_56 : Cond.methodLink "CoatHangers$Told" 56 y_Told_canBe ∈ qT := qT_5 (i := 195) (by decide +kernel) rfl
theorem wf_Told_24 : Cond.fieldLink "CoatHangers$Told" 24 "CoatHangers$Told" "tally" "[[I" ∈ qT := qT_2 (i := 176) (by decide +kernel) rfl
theorem wm_Told_90 : Cond.methodLink "CoatHangers$Told" 90 Lib.Math.max.name ∈ qT := qT_5 (i := 227) (by decide +kernel) rfl
theorem wm_Told_60 : Cond.methodLink "CoatHangers$Told" 60 y_Told_clearTally ∈ qT := qT_5 (i := 215) (by decide +kernel) rfl
theorem wm_Told_66 : Cond.methodLink "CoatHangers$Told" 66 y_Told_leastAtWorst ∈ qT := qT_5 (i := 223) (by decide +kernel) rfl
theorem wm_Told_63 : Cond.methodLink "CoatHangers$Told" 63 y_Told_addToTally ∈ qT := qT_5 (i := 219) (by decide +kernel) rfl
theorem d_Told_hasRoom_0 : decode prog_11_method_2_code 0 = .ok (.aload_n 0, 1) := by decide +kernel
theorem d_Told_hasRoom_1 : decode prog_11_method_2_code 1 = .ok (.getfield 27, 3) := by decide +kernel
theorem d_Told_hasRoom_4 : decode prog_11_method_2_code 4 = .ok (.bipush 20, 2) := by decide +kernel
theorem d_Told_hasRoom_6 : decode prog_11_method_2_code 6 = .ok (.if_icmp .ge 7, 3) := by decide +kernel
theorem d_Told_hasRoom_9 : decode prog_11_method_2_code 9 = .ok (.iconst 1, 1) := by decide +kernel
theorem d_Told_hasRoom_10 : decode prog_11_method_2_code 10 = .ok (.goto 4, 3) := by decide +kernel
theorem d_Told_hasRoom_13 : decode prog_11_method_2_code 13 = .ok (.iconst 0, 1) := by decide +kernel
theorem d_Told_hasRoom_14 : decode prog_11_method_2_code 14 = .ok (.ireturn, 1) := by decide +kernel
theorem d_Told_add_0 : decode prog_11_method_3_code 0 = .ok (.aload_n 0, 1) := by decide +kernel
theorem d_Told_add_1 : decode prog_11_method_3_code 1 = .ok (.invokevirtual 48, 3) := by decide +kernel
theorem d_Told_add_4 : decode prog_11_method_3_code 4 = .ok (.ifCond .ne 5, 3) := by decide +kernel
theorem d_Told_add_7 : decode prog_11_method_3_code 7 = .ok (.iconst (-1), 1) := by decide +kernel
theorem d_Told_add_8 : decode prog_11_method_3_code 8 = .ok (.ireturn, 1) := by decide +kernel
theorem d_Told_add_9 : decode prog_11_method_3_code 9 = .ok (.aload_n 0, 1) := by decide +kernel
theorem d_Told_add_10 : decode prog_11_method_3_code 10 = .ok (.getfield 11, 3) := by decide +kernel
theorem d_Told_add_13 : decode prog_11_method_3_code 13 = .ok (.aload_n 0, 1) := by decide +kernel
theorem d_Told_add_14 : decode prog_11_method_3_code 14 = .ok (.getfield 27, 3) := by decide +kernel
theorem d_Told_add_17 : decode prog_11_method_3_code 17 = .ok (.iload_n 1, 1) := by decide +kernel
theorem d_Told_add_18 : decode prog_11_method_3_code 18 = .ok (.iastore, 1) := by decide +kernel
theorem d_Told_add_19 : decode prog_11_method_3_code 19 = .ok (.aload_n 0, 1) := by decide +kernel
theorem d_Told_add_20 : decode prog_11_method_3_code 20 = .ok (.getfield 15, 3) := by decide +kernel
theorem d_Told_add_23 : decode prog_11_method_3_code 23 = .ok (.aload_n 0, 1) := by decide +kernel
theorem d_Told_add_24 : decode prog_11_method_3_code 24 = .ok (.getfield 27, 3) := by decide +kernel
theorem d_Told_add_27 : decode prog_11_method_3_code 27 = .ok (.iload_n 2, 1) := by decide +kernel
theorem d_Told_add_28 : decode prog_11_method_3_code 28 = .ok (.iastore, 1) := by decide +kernel
theorem d_Told_add_29 : decode prog_11_method_3_code 29 = .ok (.aload_n 0, 1) := by decide +kernel
theorem d_Told_add_30 : decode prog_11_method_3_code 30 = .ok (.getfield 18, 3) := by decide +kernel
theorem d_Told_add_33 : decode prog_11_method_3_code 33 = .ok (.aload_n 0, 1) := by decide +kernel
theorem d_Told_add_34 : decode prog_11_method_3_code 34 = .ok (.getfield 27, 3) := by decide +kernel
theorem d_Told_add_37 : decode prog_11_method_3_code 37 = .ok (.iload_n 3, 1) := by decide +kernel
theorem d_Told_add_38 : decode prog_11_method_3_code 38 = .ok (.bastore, 1) := by decide +kernel
theorem d_Told_add_39 : decode prog_11_method_3_code 39 = .ok (.aload_n 0, 1) := by decide +kernel
theorem d_Told_add_40 : decode prog_11_method_3_code 40 = .ok (.dup, 1) := by decide +kernel
theorem d_Told_add_41 : decode prog_11_method_3_code 41 = .ok (.getfield 27, 3) := by decide +kernel
theorem d_Told_add_44 : decode prog_11_method_3_code 44 = .ok (.iconst 1, 1) := by decide +kernel
theorem d_Told_add_45 : decode prog_11_method_3_code 45 = .ok (.iadd, 1) := by decide +kernel
theorem d_Told_add_46 : decode prog_11_method_3_code 46 = .ok (.putfield 27, 3) := by decide +kernel
theorem d_Told_add_49 : decode prog_11_method_3_code 49 = .ok (.aload_n 0, 1) := by decide +kernel
theorem d_Told_add_50 : decode prog_11_method_3_code 50 = .ok (.getfield 27, 3) := by decide +kernel
theorem d_Told_add_53 : decode prog_11_method_3_code 53 = .ok (.iconst 1, 1) := by decide +kernel
theorem d_Told_add_54 : decode prog_11_method_3_code 54 = .ok (.isub, 1) := by decide +kernel
theorem d_Told_add_55 : decode prog_11_method_3_code 55 = .ok (.ireturn, 1) := by decide +kernel
theorem d_Told_canBe_0 : decode prog_11_method_7_code 0 = .ok (.aload_n 1, 1) := by decide +kernel
theorem d_Told_canBe_1 : decode prog_11_method_7_code 1 = .ok (.iload_n 2, 1) := by decide +kernel
theorem d_Told_canBe_2 : decode prog_11_method_7_code 2 = .ok (.invokevirtual 70, 3) := by decide +kernel
theorem d_Told_canBe_5 : decode prog_11_method_7_code 5 = .ok (.ifCond .eq 11, 3) := by decide +kernel
theorem d_Told_canBe_8 : decode prog_11_method_7_code 8 = .ok (.aload_n 1, 1) := by decide +kernel
theorem d_Told_canBe_9 : decode prog_11_method_7_code 9 = .ok (.iload_n 3, 1) := by decide +kernel
theorem d_Told_canBe_10 : decode prog_11_method_7_code 10 = .ok (.invokevirtual 70, 3) := by decide +kernel
theorem d_Told_canBe_13 : decode prog_11_method_7_code 13 = .ok (.ifCond .ne 5, 3) := by decide +kernel
theorem d_Told_canBe_16 : decode prog_11_method_7_code 16 = .ok (.iconst 0, 1) := by decide +kernel
theorem d_Told_canBe_17 : decode prog_11_method_7_code 17 = .ok (.ireturn, 1) := by decide +kernel
theorem d_Told_canBe_18 : decode prog_11_method_7_code 18 = .ok (.aload_n 0, 1) := by decide +kernel
theorem d_Told_canBe_19 : decode prog_11_method_7_code 19 = .ok (.getfield 44, 3) := by decide +kernel
theorem d_Told_canBe_22 : decode prog_11_method_7_code 22 = .ok (.aload_n 1, 1) := by decide +kernel
theorem d_Told_canBe_23 : decode prog_11_method_7_code 23 = .ok (.invokevirtual 74, 3) := by decide +kernel
theorem d_Told_canBe_26 : decode prog_11_method_7_code 26 = .ok (.aload_n 0, 1) := by decide +kernel
theorem d_Told_canBe_27 : decode prog_11_method_7_code 27 = .ok (.getfield 44, 3) := by decide +kernel
theorem d_Told_canBe_30 : decode prog_11_method_7_code 30 = .ok (.iload_n 2, 1) := by decide +kernel
theorem d_Told_canBe_31 : decode prog_11_method_7_code 31 = .ok (.iload_n 3, 1) := by decide +kernel
theorem d_Told_canBe_32 : decode prog_11_method_7_code 32 = .ok (.invokevirtual 78, 3) := by decide +kernel
theorem d_Told_canBe_35 : decode prog_11_method_7_code 35 = .ok (.aload_n 0, 1) := by decide +kernel
theorem d_Told_canBe_36 : decode prog_11_method_7_code 36 = .ok (.getfield 35, 3) := by decide +kernel
theorem d_Told_canBe_39 : decode prog_11_method_7_code 39 = .ok (.aload_n 0, 1) := by decide +kernel
theorem d_Told_canBe_40 : decode prog_11_method_7_code 40 = .ok (.getfield 44, 3) := by decide +kernel
theorem d_Told_canBe_43 : decode prog_11_method_7_code 43 = .ok (.invokevirtual 82, 3) := by decide +kernel
theorem d_Told_canBe_46 : decode prog_11_method_7_code 46 = .ok (.iconst 0, 1) := by decide +kernel
theorem d_Told_canBe_47 : decode prog_11_method_7_code 47 = .ok (.istore 5, 2) := by decide +kernel
theorem d_Told_canBe_49 : decode prog_11_method_7_code 49 = .ok (.iload 5, 2) := by decide +kernel
theorem d_Told_canBe_51 : decode prog_11_method_7_code 51 = .ok (.iload 4, 2) := by decide +kernel
theorem d_Told_canBe_53 : decode prog_11_method_7_code 53 = .ok (.if_icmp .ge 60, 3) := by decide +kernel
theorem d_Told_canBe_56 : decode prog_11_method_7_code 56 = .ok (.iload 5, 2) := by decide +kernel
theorem d_Told_canBe_58 : decode prog_11_method_7_code 58 = .ok (.aload_n 0, 1) := by decide +kernel
theorem d_Told_canBe_59 : decode prog_11_method_7_code 59 = .ok (.getfield 27, 3) := by decide +kernel
theorem d_Told_canBe_62 : decode prog_11_method_7_code 62 = .ok (.if_icmp .ge 51, 3) := by decide +kernel
theorem d_Told_canBe_65 : decode prog_11_method_7_code 65 = .ok (.aload_n 0, 1) := by decide +kernel
theorem d_Told_canBe_66 : decode prog_11_method_7_code 66 = .ok (.getfield 44, 3) := by decide +kernel
theorem d_Told_canBe_69 : decode prog_11_method_7_code 69 = .ok (.getfield 87, 3) := by decide +kernel
theorem d_Told_canBe_72 : decode prog_11_method_7_code 72 = .ok (.aload_n 0, 1) := by decide +kernel
theorem d_Told_canBe_73 : decode prog_11_method_7_code 73 = .ok (.getfield 11, 3) := by decide +kernel
theorem d_Told_canBe_76 : decode prog_11_method_7_code 76 = .ok (.iload 5, 2) := by decide +kernel
theorem d_Told_canBe_78 : decode prog_11_method_7_code 78 = .ok (.iaload, 1) := by decide +kernel
theorem d_Told_canBe_79 : decode prog_11_method_7_code 79 = .ok (.iaload, 1) := by decide +kernel
theorem d_Told_canBe_80 : decode prog_11_method_7_code 80 = .ok (.aload_n 0, 1) := by decide +kernel
theorem d_Told_canBe_81 : decode prog_11_method_7_code 81 = .ok (.getfield 15, 3) := by decide +kernel
theorem d_Told_canBe_84 : decode prog_11_method_7_code 84 = .ok (.iload 5, 2) := by decide +kernel
theorem d_Told_canBe_86 : decode prog_11_method_7_code 86 = .ok (.iaload, 1) := by decide +kernel
theorem d_Told_canBe_87 : decode prog_11_method_7_code 87 = .ok (.if_icmp .ne 7, 3) := by decide +kernel
theorem d_Told_canBe_90 : decode prog_11_method_7_code 90 = .ok (.iconst 1, 1) := by decide +kernel
theorem d_Told_canBe_91 : decode prog_11_method_7_code 91 = .ok (.goto 4, 3) := by decide +kernel
theorem d_Told_canBe_94 : decode prog_11_method_7_code 94 = .ok (.iconst 0, 1) := by decide +kernel
theorem d_Told_canBe_95 : decode prog_11_method_7_code 95 = .ok (.aload_n 0, 1) := by decide +kernel
theorem d_Told_canBe_96 : decode prog_11_method_7_code 96 = .ok (.getfield 18, 3) := by decide +kernel
theorem d_Told_canBe_99 : decode prog_11_method_7_code 99 = .ok (.iload 5, 2) := by decide +kernel
theorem d_Told_canBe_101 : decode prog_11_method_7_code 101 = .ok (.baload, 1) := by decide +kernel
theorem d_Told_canBe_102 : decode prog_11_method_7_code 102 = .ok (.if_icmp .eq 5, 3) := by decide +kernel
theorem d_Told_canBe_105 : decode prog_11_method_7_code 105 = .ok (.iconst 0, 1) := by decide +kernel
theorem d_Told_canBe_106 : decode prog_11_method_7_code 106 = .ok (.ireturn, 1) := by decide +kernel
theorem d_Told_canBe_107 : decode prog_11_method_7_code 107 = .ok (.iinc 5 1, 3) := by decide +kernel
theorem d_Told_canBe_110 : decode prog_11_method_7_code 110 = .ok (.goto (-61), 3) := by decide +kernel
theorem d_Told_canBe_113 : decode prog_11_method_7_code 113 = .ok (.iconst 1, 1) := by decide +kernel
theorem d_Told_canBe_114 : decode prog_11_method_7_code 114 = .ok (.ireturn, 1) := by decide +kernel
theorem d_Told_pairsLeft_0 : decode prog_11_method_4_code 0 = .ok (.iconst 0, 1) := by decide +kernel
theorem d_Told_pairsLeft_1 : decode prog_11_method_4_code 1 = .ok (.istore_n 3, 1) := by decide +kernel
theorem d_Told_pairsLeft_2 : decode prog_11_method_4_code 2 = .ok (.iconst 0, 1) := by decide +kernel
theorem d_Told_pairsLeft_3 : decode prog_11_method_4_code 3 = .ok (.istore 4, 2) := by decide +kernel
theorem d_Told_pairsLeft_5 : decode prog_11_method_4_code 5 = .ok (.iload 4, 2) := by decide +kernel
theorem d_Told_pairsLeft_7 : decode prog_11_method_4_code 7 = .ok (.aload_n 0, 1) := by decide +kernel
theorem d_Told_pairsLeft_8 : decode prog_11_method_4_code 8 = .ok (.getfield 31, 3) := by decide +kernel
theorem d_Told_pairsLeft_11 : decode prog_11_method_4_code 11 = .ok (.getfield 52, 3) := by decide +kernel
theorem d_Told_pairsLeft_14 : decode prog_11_method_4_code 14 = .ok (.if_icmp .ge 54, 3) := by decide +kernel
theorem d_Told_pairsLeft_17 : decode prog_11_method_4_code 17 = .ok (.iload 4, 2) := by decide +kernel
theorem d_Told_pairsLeft_19 : decode prog_11_method_4_code 19 = .ok (.iconst 1, 1) := by decide +kernel
theorem d_Told_pairsLeft_20 : decode prog_11_method_4_code 20 = .ok (.iadd, 1) := by decide +kernel
theorem d_Told_pairsLeft_21 : decode prog_11_method_4_code 21 = .ok (.istore 5, 2) := by decide +kernel
theorem d_Told_pairsLeft_23 : decode prog_11_method_4_code 23 = .ok (.iload 5, 2) := by decide +kernel
theorem d_Told_pairsLeft_25 : decode prog_11_method_4_code 25 = .ok (.aload_n 0, 1) := by decide +kernel
theorem d_Told_pairsLeft_26 : decode prog_11_method_4_code 26 = .ok (.getfield 31, 3) := by decide +kernel
theorem d_Told_pairsLeft_29 : decode prog_11_method_4_code 29 = .ok (.getfield 52, 3) := by decide +kernel
theorem d_Told_pairsLeft_32 : decode prog_11_method_4_code 32 = .ok (.if_icmp .ge 30, 3) := by decide +kernel
theorem d_Told_pairsLeft_35 : decode prog_11_method_4_code 35 = .ok (.iload_n 3, 1) := by decide +kernel
theorem d_Told_pairsLeft_36 : decode prog_11_method_4_code 36 = .ok (.aload_n 0, 1) := by decide +kernel
theorem d_Told_pairsLeft_37 : decode prog_11_method_4_code 37 = .ok (.aload_n 1, 1) := by decide +kernel
theorem d_Told_pairsLeft_38 : decode prog_11_method_4_code 38 = .ok (.iload 4, 2) := by decide +kernel
theorem d_Told_pairsLeft_40 : decode prog_11_method_4_code 40 = .ok (.iload 5, 2) := by decide +kernel
theorem d_Told_pairsLeft_42 : decode prog_11_method_4_code 42 = .ok (.iload_n 2, 1) := by decide +kernel
theorem d_Told_pairsLeft_43 : decode prog_11_method_4_code 43 = .ok (.invokevirtual 56, 3) := by decide +kernel
theorem d_Told_pairsLeft_46 : decode prog_11_method_4_code 46 = .ok (.ifCond .eq 7, 3) := by decide +kernel
theorem d_Told_pairsLeft_49 : decode prog_11_method_4_code 49 = .ok (.iconst 1, 1) := by decide +kernel
theorem d_Told_pairsLeft_50 : decode prog_11_method_4_code 50 = .ok (.goto 4, 3) := by decide +kernel
theorem d_Told_pairsLeft_53 : decode prog_11_method_4_code 53 = .ok (.iconst 0, 1) := by decide +kernel
theorem d_Told_pairsLeft_54 : decode prog_11_method_4_code 54 = .ok (.iadd, 1) := by decide +kernel
theorem d_Told_pairsLeft_55 : decode prog_11_method_4_code 55 = .ok (.istore_n 3, 1) := by decide +kernel
theorem d_Told_pairsLeft_56 : decode prog_11_method_4_code 56 = .ok (.iinc 5 1, 3) := by decide +kernel
theorem d_Told_pairsLeft_59 : decode prog_11_method_4_code 59 = .ok (.goto (-36), 3) := by decide +kernel
theorem d_Told_pairsLeft_62 : decode prog_11_method_4_code 62 = .ok (.iinc 4 1, 3) := by decide +kernel
theorem d_Told_pairsLeft_65 : decode prog_11_method_4_code 65 = .ok (.goto (-60), 3) := by decide +kernel
theorem d_Told_pairsLeft_68 : decode prog_11_method_4_code 68 = .ok (.iload_n 3, 1) := by decide +kernel
theorem d_Told_pairsLeft_69 : decode prog_11_method_4_code 69 = .ok (.ireturn, 1) := by decide +kernel
theorem d_Told_pairLeft_0 : decode prog_11_method_5_code 0 = .ok (.iconst 0, 1) := by decide +kernel
theorem d_Told_pairLeft_1 : decode prog_11_method_5_code 1 = .ok (.istore 4, 2) := by decide +kernel
theorem d_Told_pairLeft_3 : decode prog_11_method_5_code 3 = .ok (.iconst 0, 1) := by decide +kernel
theorem d_Told_pairLeft_4 : decode prog_11_method_5_code 4 = .ok (.istore 5, 2) := by decide +kernel
theorem d_Told_pairLeft_6 : decode prog_11_method_5_code 6 = .ok (.iload 5, 2) := by decide +kernel
theorem d_Told_pairLeft_8 : decode prog_11_method_5_code 8 = .ok (.aload_n 0, 1) := by decide +kernel
theorem d_Told_pairLeft_9 : decode prog_11_method_5_code 9 = .ok (.getfield 31, 3) := by decide +kernel
theorem d_Told_pairLeft_12 : decode prog_11_method_5_code 12 = .ok (.getfield 52, 3) := by decide +kernel
theorem d_Told_pairLeft_15 : decode prog_11_method_5_code 15 = .ok (.if_icmp .ge 64, 3) := by decide +kernel
theorem d_Told_pairLeft_18 : decode prog_11_method_5_code 18 = .ok (.iload 5, 2) := by decide +kernel
theorem d_Told_pairLeft_20 : decode prog_11_method_5_code 20 = .ok (.iconst 1, 1) := by decide +kernel
theorem d_Told_pairLeft_21 : decode prog_11_method_5_code 21 = .ok (.iadd, 1) := by decide +kernel
theorem d_Told_pairLeft_22 : decode prog_11_method_5_code 22 = .ok (.istore 6, 2) := by decide +kernel
theorem d_Told_pairLeft_24 : decode prog_11_method_5_code 24 = .ok (.iload 6, 2) := by decide +kernel
theorem d_Told_pairLeft_26 : decode prog_11_method_5_code 26 = .ok (.aload_n 0, 1) := by decide +kernel
theorem d_Told_pairLeft_27 : decode prog_11_method_5_code 27 = .ok (.getfield 31, 3) := by decide +kernel
theorem d_Told_pairLeft_30 : decode prog_11_method_5_code 30 = .ok (.getfield 52, 3) := by decide +kernel
theorem d_Told_pairLeft_33 : decode prog_11_method_5_code 33 = .ok (.if_icmp .ge 40, 3) := by decide +kernel
theorem d_Told_pairLeft_36 : decode prog_11_method_5_code 36 = .ok (.aload_n 0, 1) := by decide +kernel
theorem d_Told_pairLeft_37 : decode prog_11_method_5_code 37 = .ok (.aload_n 1, 1) := by decide +kernel
theorem d_Told_pairLeft_38 : decode prog_11_method_5_code 38 = .ok (.iload 5, 2) := by decide +kernel
theorem d_Told_pairLeft_40 : decode prog_11_method_5_code 40 = .ok (.iload 6, 2) := by decide +kernel
theorem d_Told_pairLeft_42 : decode prog_11_method_5_code 42 = .ok (.iload_n 2, 1) := by decide +kernel
theorem d_Told_pairLeft_43 : decode prog_11_method_5_code 43 = .ok (.invokevirtual 56, 3) := by decide +kernel
theorem d_Told_pairLeft_46 : decode prog_11_method_5_code 46 = .ok (.ifCond .eq 21, 3) := by decide +kernel
theorem d_Told_pairLeft_49 : decode prog_11_method_5_code 49 = .ok (.iload 4, 2) := by decide +kernel
theorem d_Told_pairLeft_51 : decode prog_11_method_5_code 51 = .ok (.iload_n 3, 1) := by decide +kernel
theorem d_Told_pairLeft_52 : decode prog_11_method_5_code 52 = .ok (.if_icmp .ne 12, 3) := by decide +kernel
theorem d_Told_pairLeft_55 : decode prog_11_method_5_code 55 = .ok (.bipush 10, 2) := by decide +kernel
theorem d_Told_pairLeft_57 : decode prog_11_method_5_code 57 = .ok (.iload 5, 2) := by decide +kernel
theorem d_Told_pairLeft_59 : decode prog_11_method_5_code 59 = .ok (.imul, 1) := by decide +kernel
theorem d_Told_pairLeft_60 : decode prog_11_method_5_code 60 = .ok (.iload 6, 2) := by decide +kernel
theorem d_Told_pairLeft_62 : decode prog_11_method_5_code 62 = .ok (.iadd, 1) := by decide +kernel
theorem d_Told_pairLeft_63 : decode prog_11_method_5_code 63 = .ok (.ireturn, 1) := by decide +kernel
theorem d_Told_pairLeft_64 : decode prog_11_method_5_code 64 = .ok (.iinc 4 1, 3) := by decide +kernel
theorem d_Told_pairLeft_67 : decode prog_11_method_5_code 67 = .ok (.iinc 6 1, 3) := by decide +kernel
theorem d_Told_pairLeft_70 : decode prog_11_method_5_code 70 = .ok (.goto (-46), 3) := by decide +kernel
theorem d_Told_pairLeft_73 : decode prog_11_method_5_code 73 = .ok (.iinc 5 1, 3) := by decide +kernel
theorem d_Told_pairLeft_76 : decode prog_11_method_5_code 76 = .ok (.goto (-70), 3) := by decide +kernel
theorem d_Told_pairLeft_79 : decode prog_11_method_5_code 79 = .ok (.iconst (-1), 1) := by decide +kernel
theorem d_Told_pairLeft_80 : decode prog_11_method_5_code 80 = .ok (.ireturn, 1) := by decide +kernel
theorem d_Told_addToTally_0 : decode prog_11_method_9_code 0 = .ok (.iconst 0, 1) := by decide +kernel
theorem d_Told_addToTally_1 : decode prog_11_method_9_code 1 = .ok (.istore_n 1, 1) := by decide +kernel
theorem d_Told_addToTally_2 : decode prog_11_method_9_code 2 = .ok (.iload_n 1, 1) := by decide +kernel
theorem d_Told_addToTally_3 : decode prog_11_method_9_code 3 = .ok (.aload_n 0, 1) := by decide +kernel
theorem d_Told_addToTally_4 : decode prog_11_method_9_code 4 = .ok (.getfield 31, 3) := by decide +kernel
theorem d_Told_addToTally_7 : decode prog_11_method_9_code 7 = .ok (.getfield 52, 3) := by decide +kernel
theorem d_Told_addToTally_10 : decode prog_11_method_9_code 10 = .ok (.if_icmp .ge 29, 3) := by decide +kernel
theorem d_Told_addToTally_13 : decode prog_11_method_9_code 13 = .ok (.aload_n 0, 1) := by decide +kernel
theorem d_Told_addToTally_14 : decode prog_11_method_9_code 14 = .ok (.getfield 24, 3) := by decide +kernel
theorem d_Told_addToTally_17 : decode prog_11_method_9_code 17 = .ok (.iload_n 1, 1) := by decide +kernel
theorem d_Told_addToTally_18 : decode prog_11_method_9_code 18 = .ok (.aaload, 1) := by decide +kernel
theorem d_Told_addToTally_19 : decode prog_11_method_9_code 19 = .ok (.aload_n 0, 1) := by decide +kernel
theorem d_Told_addToTally_20 : decode prog_11_method_9_code 20 = .ok (.getfield 44, 3) := by decide +kernel
theorem d_Told_addToTally_23 : decode prog_11_method_9_code 23 = .ok (.getfield 87, 3) := by decide +kernel
theorem d_Told_addToTally_26 : decode prog_11_method_9_code 26 = .ok (.iload_n 1, 1) := by decide +kernel
theorem d_Told_addToTally_27 : decode prog_11_method_9_code 27 = .ok (.iaload, 1) := by decide +kernel
theorem d_Told_addToTally_28 : decode prog_11_method_9_code 28 = .ok (.dup2, 1) := by decide +kernel
theorem d_Told_addToTally_29 : decode prog_11_method_9_code 29 = .ok (.iaload, 1) := by decide +kernel
theorem d_Told_addToTally_30 : decode prog_11_method_9_code 30 = .ok (.iconst 1, 1) := by decide +kernel
theorem d_Told_addToTally_31 : decode prog_11_method_9_code 31 = .ok (.iadd, 1) := by decide +kernel
theorem d_Told_addToTally_32 : decode prog_11_method_9_code 32 = .ok (.iastore, 1) := by decide +kernel
theorem d_Told_addToTally_33 : decode prog_11_method_9_code 33 = .ok (.iinc 1 1, 3) := by decide +kernel
theorem d_Told_addToTally_36 : decode prog_11_method_9_code 36 = .ok (.goto (-34), 3) := by decide +kernel
theorem d_Told_addToTally_39 : decode prog_11_method_9_code 39 = .ok (.return_, 1) := by decide +kernel
theorem d_Told_clearTally_0 : decode prog_11_method_8_code 0 = .ok (.iconst 0, 1) := by decide +kernel
theorem d_Told_clearTally_1 : decode prog_11_method_8_code 1 = .ok (.istore_n 1, 1) := by decide +kernel
theorem d_Told_clearTally_2 : decode prog_11_method_8_code 2 = .ok (.iload_n 1, 1) := by decide +kernel
theorem d_Told_clearTally_3 : decode prog_11_method_8_code 3 = .ok (.bipush 6, 2) := by decide +kernel
theorem d_Told_clearTally_5 : decode prog_11_method_8_code 5 = .ok (.if_icmp .ge 32, 3) := by decide +kernel
theorem d_Told_clearTally_8 : decode prog_11_method_8_code 8 = .ok (.iconst 0, 1) := by decide +kernel
theorem d_Told_clearTally_9 : decode prog_11_method_8_code 9 = .ok (.istore_n 2, 1) := by decide +kernel
theorem d_Told_clearTally_10 : decode prog_11_method_8_code 10 = .ok (.iload_n 2, 1) := by decide +kernel
theorem d_Told_clearTally_11 : decode prog_11_method_8_code 11 = .ok (.bipush 6, 2) := by decide +kernel
theorem d_Told_clearTally_13 : decode prog_11_method_8_code 13 = .ok (.if_icmp .ge 18, 3) := by decide +kernel
theorem d_Told_clearTally_16 : decode prog_11_method_8_code 16 = .ok (.aload_n 0, 1) := by decide +kernel
theorem d_Told_clearTally_17 : decode prog_11_method_8_code 17 = .ok (.getfield 24, 3) := by decide +kernel
theorem d_Told_clearTally_20 : decode prog_11_method_8_code 20 = .ok (.iload_n 1, 1) := by decide +kernel
theorem d_Told_clearTally_21 : decode prog_11_method_8_code 21 = .ok (.aaload, 1) := by decide +kernel
theorem d_Told_clearTally_22 : decode prog_11_method_8_code 22 = .ok (.iload_n 2, 1) := by decide +kernel
theorem d_Told_clearTally_23 : decode prog_11_method_8_code 23 = .ok (.iconst 0, 1) := by decide +kernel
theorem d_Told_clearTally_24 : decode prog_11_method_8_code 24 = .ok (.iastore, 1) := by decide +kernel
theorem d_Told_clearTally_25 : decode prog_11_method_8_code 25 = .ok (.iinc 2 1, 3) := by decide +kernel
theorem d_Told_clearTally_28 : decode prog_11_method_8_code 28 = .ok (.goto (-18), 3) := by decide +kernel
theorem d_Told_clearTally_31 : decode prog_11_method_8_code 31 = .ok (.iinc 1 1, 3) := by decide +kernel
theorem d_Told_clearTally_34 : decode prog_11_method_8_code 34 = .ok (.goto (-32), 3) := by decide +kernel
theorem d_Told_clearTally_37 : decode prog_11_method_8_code 37 = .ok (.return_, 1) := by decide +kernel
theorem d_Told_leastAtWorst_0 : decode prog_11_method_10_code 0 = .ok (.bipush (-2), 2) := by decide +kernel
theorem d_Told_leastAtWorst_2 : decode prog_11_method_10_code 2 = .ok (.istore_n 1, 1) := by decide +kernel
theorem d_Told_leastAtWorst_3 : decode prog_11_method_10_code 3 = .ok (.iconst 0, 1) := by decide +kernel
theorem d_Told_leastAtWorst_4 : decode prog_11_method_10_code 4 = .ok (.istore_n 2, 1) := by decide +kernel
theorem d_Told_leastAtWorst_5 : decode prog_11_method_10_code 5 = .ok (.iconst 0, 1) := by decide +kernel
theorem d_Told_leastAtWorst_6 : decode prog_11_method_10_code 6 = .ok (.istore_n 3, 1) := by decide +kernel
theorem d_Told_leastAtWorst_7 : decode prog_11_method_10_code 7 = .ok (.iload_n 3, 1) := by decide +kernel
theorem d_Told_leastAtWorst_8 : decode prog_11_method_10_code 8 = .ok (.aload_n 0, 1) := by decide +kernel
theorem d_Told_leastAtWorst_9 : decode prog_11_method_10_code 9 = .ok (.getfield 31, 3) := by decide +kernel
theorem d_Told_leastAtWorst_12 : decode prog_11_method_10_code 12 = .ok (.getfield 52, 3) := by decide +kernel
theorem d_Told_leastAtWorst_15 : decode prog_11_method_10_code 15 = .ok (.if_icmp .ge 66, 3) := by decide +kernel
theorem d_Told_leastAtWorst_18 : decode prog_11_method_10_code 18 = .ok (.iconst 0, 1) := by decide +kernel
theorem d_Told_leastAtWorst_19 : decode prog_11_method_10_code 19 = .ok (.istore 4, 2) := by decide +kernel
theorem d_Told_leastAtWorst_21 : decode prog_11_method_10_code 21 = .ok (.iconst 0, 1) := by decide +kernel
theorem d_Told_leastAtWorst_22 : decode prog_11_method_10_code 22 = .ok (.istore 5, 2) := by decide +kernel
theorem d_Told_leastAtWorst_24 : decode prog_11_method_10_code 24 = .ok (.iload 5, 2) := by decide +kernel
theorem d_Told_leastAtWorst_26 : decode prog_11_method_10_code 26 = .ok (.aload_n 0, 1) := by decide +kernel
theorem d_Told_leastAtWorst_27 : decode prog_11_method_10_code 27 = .ok (.getfield 31, 3) := by decide +kernel
theorem d_Told_leastAtWorst_30 : decode prog_11_method_10_code 30 = .ok (.getfield 52, 3) := by decide +kernel
theorem d_Told_leastAtWorst_33 : decode prog_11_method_10_code 33 = .ok (.if_icmp .ge 25, 3) := by decide +kernel
theorem d_Told_leastAtWorst_36 : decode prog_11_method_10_code 36 = .ok (.iload 4, 2) := by decide +kernel
theorem d_Told_leastAtWorst_38 : decode prog_11_method_10_code 38 = .ok (.aload_n 0, 1) := by decide +kernel
theorem d_Told_leastAtWorst_39 : decode prog_11_method_10_code 39 = .ok (.getfield 24, 3) := by decide +kernel
theorem d_Told_leastAtWorst_42 : decode prog_11_method_10_code 42 = .ok (.iload_n 3, 1) := by decide +kernel
theorem d_Told_leastAtWorst_43 : decode prog_11_method_10_code 43 = .ok (.aaload, 1) := by decide +kernel
theorem d_Told_leastAtWorst_44 : decode prog_11_method_10_code 44 = .ok (.iload 5, 2) := by decide +kernel
theorem d_Told_leastAtWorst_46 : decode prog_11_method_10_code 46 = .ok (.iaload, 1) := by decide +kernel
theorem d_Told_leastAtWorst_47 : decode prog_11_method_10_code 47 = .ok (.invokestatic 90, 3) := by decide +kernel
theorem d_Told_leastAtWorst_50 : decode prog_11_method_10_code 50 = .ok (.istore 4, 2) := by decide +kernel
theorem d_Told_leastAtWorst_52 : decode prog_11_method_10_code 52 = .ok (.iinc 5 1, 3) := by decide +kernel
theorem d_Told_leastAtWorst_55 : decode prog_11_method_10_code 55 = .ok (.goto (-31), 3) := by decide +kernel
theorem d_Told_leastAtWorst_58 : decode prog_11_method_10_code 58 = .ok (.iload_n 1, 1) := by decide +kernel
theorem d_Told_leastAtWorst_59 : decode prog_11_method_10_code 59 = .ok (.bipush (-2), 2) := by decide +kernel
theorem d_Told_leastAtWorst_61 : decode prog_11_method_10_code 61 = .ok (.if_icmp .eq 9, 3) := by decide +kernel
theorem d_Told_leastAtWorst_64 : decode prog_11_method_10_code 64 = .ok (.iload 4, 2) := by decide +kernel
theorem d_Told_leastAtWorst_66 : decode prog_11_method_10_code 66 = .ok (.iload_n 2, 1) := by decide +kernel
theorem d_Told_leastAtWorst_67 : decode prog_11_method_10_code 67 = .ok (.if_icmp .ge 8, 3) := by decide +kernel
theorem d_Told_leastAtWorst_70 : decode prog_11_method_10_code 70 = .ok (.iload_n 3, 1) := by decide +kernel
theorem d_Told_leastAtWorst_71 : decode prog_11_method_10_code 71 = .ok (.istore_n 1, 1) := by decide +kernel
theorem d_Told_leastAtWorst_72 : decode prog_11_method_10_code 72 = .ok (.iload 4, 2) := by decide +kernel
theorem d_Told_leastAtWorst_74 : decode prog_11_method_10_code 74 = .ok (.istore_n 2, 1) := by decide +kernel
theorem d_Told_leastAtWorst_75 : decode prog_11_method_10_code 75 = .ok (.iinc 3 1, 3) := by decide +kernel
theorem d_Told_leastAtWorst_78 : decode prog_11_method_10_code 78 = .ok (.goto (-71), 3) := by decide +kernel
theorem d_Told_leastAtWorst_81 : decode prog_11_method_10_code 81 = .ok (.iload_n 1, 1) := by decide +kernel
theorem d_Told_leastAtWorst_82 : decode prog_11_method_10_code 82 = .ok (.ireturn, 1) := by decide +kernel
theorem d_Told_whomToAsk_0 : decode prog_11_method_6_code 0 = .ok (.aload_n 0, 1) := by decide +kernel
theorem d_Told_whomToAsk_1 : decode prog_11_method_6_code 1 = .ok (.invokevirtual 60, 3) := by decide +kernel
theorem d_Told_whomToAsk_4 : decode prog_11_method_6_code 4 = .ok (.iconst 0, 1) := by decide +kernel
theorem d_Told_whomToAsk_5 : decode prog_11_method_6_code 5 = .ok (.istore_n 3, 1) := by decide +kernel
theorem d_Told_whomToAsk_6 : decode prog_11_method_6_code 6 = .ok (.iconst 0, 1) := by decide +kernel
theorem d_Told_whomToAsk_7 : decode prog_11_method_6_code 7 = .ok (.istore 4, 2) := by decide +kernel
theorem d_Told_whomToAsk_9 : decode prog_11_method_6_code 9 = .ok (.iload 4, 2) := by decide +kernel
theorem d_Told_whomToAsk_11 : decode prog_11_method_6_code 11 = .ok (.aload_n 0, 1) := by decide +kernel
theorem d_Told_whomToAsk_12 : decode prog_11_method_6_code 12 = .ok (.getfield 31, 3) := by decide +kernel
theorem d_Told_whomToAsk_15 : decode prog_11_method_6_code 15 = .ok (.getfield 52, 3) := by decide +kernel
theorem d_Told_whomToAsk_18 : decode prog_11_method_6_code 18 = .ok (.if_icmp .ge 52, 3) := by decide +kernel
theorem d_Told_whomToAsk_21 : decode prog_11_method_6_code 21 = .ok (.iload 4, 2) := by decide +kernel
theorem d_Told_whomToAsk_23 : decode prog_11_method_6_code 23 = .ok (.iconst 1, 1) := by decide +kernel
theorem d_Told_whomToAsk_24 : decode prog_11_method_6_code 24 = .ok (.iadd, 1) := by decide +kernel
theorem d_Told_whomToAsk_25 : decode prog_11_method_6_code 25 = .ok (.istore 5, 2) := by decide +kernel
theorem d_Told_whomToAsk_27 : decode prog_11_method_6_code 27 = .ok (.iload 5, 2) := by decide +kernel
theorem d_Told_whomToAsk_29 : decode prog_11_method_6_code 29 = .ok (.aload_n 0, 1) := by decide +kernel
theorem d_Told_whomToAsk_30 : decode prog_11_method_6_code 30 = .ok (.getfield 31, 3) := by decide +kernel
theorem d_Told_whomToAsk_33 : decode prog_11_method_6_code 33 = .ok (.getfield 52, 3) := by decide +kernel
theorem d_Told_whomToAsk_36 : decode prog_11_method_6_code 36 = .ok (.if_icmp .ge 28, 3) := by decide +kernel
theorem d_Told_whomToAsk_39 : decode prog_11_method_6_code 39 = .ok (.aload_n 0, 1) := by decide +kernel
theorem d_Told_whomToAsk_40 : decode prog_11_method_6_code 40 = .ok (.aload_n 1, 1) := by decide +kernel
theorem d_Told_whomToAsk_41 : decode prog_11_method_6_code 41 = .ok (.iload 4, 2) := by decide +kernel
theorem d_Told_whomToAsk_43 : decode prog_11_method_6_code 43 = .ok (.iload 5, 2) := by decide +kernel
theorem d_Told_whomToAsk_45 : decode prog_11_method_6_code 45 = .ok (.iload_n 2, 1) := by decide +kernel
theorem d_Told_whomToAsk_46 : decode prog_11_method_6_code 46 = .ok (.invokevirtual 56, 3) := by decide +kernel
theorem d_Told_whomToAsk_49 : decode prog_11_method_6_code 49 = .ok (.ifCond .eq 9, 3) := by decide +kernel
theorem d_Told_whomToAsk_52 : decode prog_11_method_6_code 52 = .ok (.iconst 1, 1) := by decide +kernel
theorem d_Told_whomToAsk_53 : decode prog_11_method_6_code 53 = .ok (.istore_n 3, 1) := by decide +kernel
theorem d_Told_whomToAsk_54 : decode prog_11_method_6_code 54 = .ok (.aload_n 0, 1) := by decide +kernel
theorem d_Told_whomToAsk_55 : decode prog_11_method_6_code 55 = .ok (.invokevirtual 63, 3) := by decide +kernel
theorem d_Told_whomToAsk_58 : decode prog_11_method_6_code 58 = .ok (.iinc 5 1, 3) := by decide +kernel
theorem d_Told_whomToAsk_61 : decode prog_11_method_6_code 61 = .ok (.goto (-34), 3) := by decide +kernel
theorem d_Told_whomToAsk_64 : decode prog_11_method_6_code 64 = .ok (.iinc 4 1, 3) := by decide +kernel
theorem d_Told_whomToAsk_67 : decode prog_11_method_6_code 67 = .ok (.goto (-58), 3) := by decide +kernel
theorem d_Told_whomToAsk_70 : decode prog_11_method_6_code 70 = .ok (.iload_n 3, 1) := by decide +kernel
theorem d_Told_whomToAsk_71 : decode prog_11_method_6_code 71 = .ok (.ifCond .eq 10, 3) := by decide +kernel
theorem d_Told_whomToAsk_74 : decode prog_11_method_6_code 74 = .ok (.aload_n 0, 1) := by decide +kernel
theorem d_Told_whomToAsk_75 : decode prog_11_method_6_code 75 = .ok (.invokevirtual 66, 3) := by decide +kernel
theorem d_Told_whomToAsk_78 : decode prog_11_method_6_code 78 = .ok (.goto 5, 3) := by decide +kernel
theorem d_Told_whomToAsk_81 : decode prog_11_method_6_code 81 = .ok (.bipush (-2), 2) := by decide +kernel
theorem d_Told_whomToAsk_83 : decode prog_11_method_6_code 83 = .ok (.ireturn, 1) := by decide +kernel
def w_Told_hasRoom (N : Nat) (x0 : Nat) (h : qH) (Q : Int32 → qH → Prop) : Prop := (qS h x0 = .inl 9 ∧ (((20 : Int32) ≤ (qI h x0 7) → (qzb (0 : Int32) ∧ Q (0 : Int32) h)) ∧ (¬ (20 : Int32) ≤ (qI h x0 7) → (qzb (1 : Int32) ∧ Q (1 : Int32) h))))
def w_Told_add (N : Nat) (x0 : Nat) (x1 : Int32) (x2 : Int32) (x3 : Int32) (h : qH) (Q : Int32 → qH → Prop) : Prop := (qS h x0 = .inl 9 ∧ w_Told_hasRoom N x0 h (fun r2 h3 => ((¬ r2 = 0 → (qS h3 x0 = .inl 9 ∧ (qok h3 (qR h3 x0 3) 0 (qI h3 x0 7) ∧ ∀ h7 : qH, h7 = qsI h3 (qR h3 x0 3) ((qI h3 x0 7)).toNatClampNeg x1 → (qS h7 x0 = .inl 9 ∧ (qok h7 (qR h7 x0 4) 0 (qI h7 x0 7) ∧ ∀ h10 : qH, h10 = qsI h7 (qR h7 x0 4) ((qI h7 x0 7)).toNatClampNeg x2 → (qS h10 x0 = .inl 9 ∧ (qok h10 (qR h10 x0 5) 2 (qI h10 x0 7) ∧ ∀ h13 : qH, h13 = qsI h10 (qR h10 x0 5) ((qI h10 x0 7)).toNatClampNeg (vp_nar .boolean x3) → (qS h13 x0 = .inl 9 ∧ (∀ h15 : qH, h15 = qsI h13 x0 7 ((qI h13 x0 7) + (1 : Int32)) → (qS h15 x0 = .inl 9 ∧ Q ((qI h15 x0 7) - (1 : Int32)) h15)))))))))) ∧ (r2 = 0 → Q (-1 : Int32) h3))))
def w_Told_canBe_49 (N : Nat) : Nat → Nat → Int32 → Int32 → qH → (Int32 → qH → Prop) → Prop
  | 0 => fun _ _ _ _ _ => False
  | k + 1 => fun x0 x4 x5 h Q => ((x4 ≤ x5 → (qzb (1 : Int32) ∧ Q (1 : Int32) h)) ∧ (¬ x4 ≤ x5 → (qS h x0 = .inl 9 ∧ (((qI h x0 7) ≤ x5 → (qzb (1 : Int32) ∧ Q (1 : Int32) h)) ∧ (¬ (qI h x0 7) ≤ x5 → (qS h (qR h x0 2) = .inl 6 ∧ (qok h (qR h x0 3) 0 x5 ∧ (qok h (qR h (qR h x0 2) 4) 0 (qI h (qR h x0 3) (x5).toNatClampNeg) ∧ (qok h (qR h x0 4) 0 x5 ∧ ((¬ (qI h (qR h (qR h x0 2) 4) ((qI h (qR h x0 3) (x5).toNatClampNeg)).toNatClampNeg) = (qI h (qR h x0 4) (x5).toNatClampNeg) → (qok h (qR h x0 5) 2 x5 ∧ (((0 : Int32) = (qI h (qR h x0 5) (x5).toNatClampNeg) → (w_Told_canBe_49 N k x0 x4 (x5 + (1 : Int32)) h Q)) ∧ (¬ (0 : Int32) = (qI h (qR h x0 5) (x5).toNatClampNeg) → (qzb (0 : Int32) ∧ Q (0 : Int32) h))))) ∧ ((qI h (qR h (qR h x0 2) 4) ((qI h (qR h x0 3) (x5).toNatClampNeg)).toNatClampNeg) = (qI h (qR h x0 4) (x5).toNatClampNeg) → (qok h (qR h x0 5) 2 x5 ∧ (((1 : Int32) = (qI h (qR h x0 5) (x5).toNatClampNeg) → (w_Told_canBe_49 N k x0 x4 (x5 + (1 : Int32)) h Q)) ∧ (¬ (1 : Int32) = (qI h (qR h x0 5) (x5).toNatClampNeg) → (qzb (0 : Int32) ∧ Q (0 : Int32) h)))))))))))))))
def w_Told_canBe (N : Nat) (x0 : Nat) (x1 : Nat) (x2 : Int32) (x3 : Int32) (x4 : Int32) (h : qH) (Q : Int32 → qH → Prop) : Prop := (qS h x1 = .inl 6 ∧ w_State_isHung N x1 x2 h (fun r2 h3 => ((r2 = 0 → (qzb (0 : Int32) ∧ Q (0 : Int32) h3)) ∧ (¬ r2 = 0 → (qS h3 x1 = .inl 6 ∧ w_State_isHung N x1 x3 h3 (fun r6 h7 => ((¬ r6 = 0 → (qS h7 x0 = .inl 9 ∧ (qS h7 (qR h7 x0 2) = .inl 6 ∧ w_State_become N (qR h7 x0 2) x1 h7 (fun h11 => (qS h11 x0 = .inl 9 ∧ (qS h11 (qR h11 x0 2) = .inl 6 ∧ w_State_exchange N (qR h11 x0 2) x2 x3 h11 (fun h14 => (qS h14 x0 = .inl 9 ∧ (qS h14 (qR h14 x0 1) = .inl 1 ∧ w_Night_wakeAll N (qR h14 x0 1) (qR h14 x0 2) h14 (fun h17 => (w_Told_canBe_49 N N x0 x4 (0 : Int32) h17 Q ))))))))))) ∧ (r6 = 0 → (qzb (0 : Int32) ∧ Q (0 : Int32) h7)))))))))
def w_Told_pairsLeft_23 (N : Nat) : Nat → Nat → Nat → Int32 → Int32 → Int32 → Int32 → qH → (Int32 → qH → Prop) → (Nat → Nat → Int32 → Int32 → Int32 → qH → Prop) → Prop
  | 0 => fun _ _ _ _ _ _ _ _ _ => False
  | k + 1 => fun x0 x1 x2 x3 x4 x5 h Q K62 => (qS h x0 = .inl 9 ∧ (qS h (qR h x0 0) = .inl 8 ∧ (((qI h (qR h x0 0) 3) ≤ x5 → (K62 x0 x1 x2 x3 x4 h)) ∧ (¬ (qI h (qR h x0 0) 3) ≤ x5 → (w_Told_canBe N x0 x1 x4 x5 x2 h (fun r4 h5 => ((r4 = 0 → (∀ y7 : Int32, y7 = (x3 + (0 : Int32)) → (w_Told_pairsLeft_23 N k x0 x1 x2 y7 x4 (x5 + (1 : Int32)) h5 Q K62))) ∧ (¬ r4 = 0 → (∀ y8 : Int32, y8 = (x3 + (1 : Int32)) → (w_Told_pairsLeft_23 N k x0 x1 x2 y8 x4 (x5 + (1 : Int32)) h5 Q K62))))))))))
def w_Told_pairsLeft_5 (N : Nat) : Nat → Nat → Nat → Int32 → Int32 → Int32 → qH → (Int32 → qH → Prop) → Prop
  | 0 => fun _ _ _ _ _ _ _ => False
  | k + 1 => fun x0 x1 x2 x3 x4 h Q => (qS h x0 = .inl 9 ∧ (qS h (qR h x0 0) = .inl 8 ∧ (((qI h (qR h x0 0) 3) ≤ x4 → Q x3 h) ∧ (¬ (qI h (qR h x0 0) 3) ≤ x4 → (∀ y4 : Int32, y4 = (x4 + (1 : Int32)) → (w_Told_pairsLeft_23 N N x0 x1 x2 x3 x4 y4 h Q (fun x5 x6 x7 x8 x9 h10 => (w_Told_pairsLeft_5 N k x5 x6 x7 x8 (x9 + (1 : Int32)) h10 Q))))))))
def w_Told_pairsLeft (N : Nat) (x0 : Nat) (x1 : Nat) (x2 : Int32) (h : qH) (Q : Int32 → qH → Prop) : Prop := (w_Told_pairsLeft_5 N N x0 x1 x2 (0 : Int32) (0 : Int32) h Q )
def w_Told_pairLeft_24 (N : Nat) : Nat → Nat → Nat → Int32 → Int32 → Int32 → Int32 → Int32 → qH → (Int32 → qH → Prop) → (Nat → Nat → Int32 → Int32 → Int32 → Int32 → qH → Prop) → Prop
  | 0 => fun _ _ _ _ _ _ _ _ _ _ => False
  | k + 1 => fun x0 x1 x2 x3 x4 x5 x6 h Q K73 => (qS h x0 = .inl 9 ∧ (qS h (qR h x0 0) = .inl 8 ∧ (((qI h (qR h x0 0) 3) ≤ x6 → (K73 x0 x1 x2 x3 x4 x5 h)) ∧ (¬ (qI h (qR h x0 0) 3) ≤ x6 → (w_Told_canBe N x0 x1 x5 x6 x2 h (fun r4 h5 => ((r4 = 0 → (w_Told_pairLeft_24 N k x0 x1 x2 x3 x4 x5 (x6 + (1 : Int32)) h5 Q K73)) ∧ (¬ r4 = 0 → ((¬ x4 = x3 → (w_Told_pairLeft_24 N k x0 x1 x2 x3 (x4 + (1 : Int32)) x5 (x6 + (1 : Int32)) h5 Q K73)) ∧ (x4 = x3 → Q (((10 : Int32) * x5) + x6) h5))))))))))
def w_Told_pairLeft_6 (N : Nat) : Nat → Nat → Nat → Int32 → Int32 → Int32 → Int32 → qH → (Int32 → qH → Prop) → Prop
  | 0 => fun _ _ _ _ _ _ _ _ => False
  | k + 1 => fun x0 x1 x2 x3 x4 x5 h Q => (qS h x0 = .inl 9 ∧ (qS h (qR h x0 0) = .inl 8 ∧ (((qI h (qR h x0 0) 3) ≤ x5 → Q (-1 : Int32) h) ∧ (¬ (qI h (qR h x0 0) 3) ≤ x5 → (∀ y4 : Int32, y4 = (x5 + (1 : Int32)) → (w_Told_pairLeft_24 N N x0 x1 x2 x3 x4 x5 y4 h Q (fun x5 x6 x7 x8 x9 x10 h11 => (w_Told_pairLeft_6 N k x5 x6 x7 x8 x9 (x10 + (1 : Int32)) h11 Q))))))))
def w_Told_pairLeft (N : Nat) (x0 : Nat) (x1 : Nat) (x2 : Int32) (x3 : Int32) (h : qH) (Q : Int32 → qH → Prop) : Prop := (w_Told_pairLeft_6 N N x0 x1 x2 x3 (0 : Int32) (0 : Int32) h Q )
def w_Told_addToTally_2 (N : Nat) : Nat → Nat → Int32 → qH → (qH → Prop) → Prop
  | 0 => fun _ _ _ _ => False
  | k + 1 => fun x0 x1 h Q => (qS h x0 = .inl 9 ∧ (qS h (qR h x0 0) = .inl 8 ∧ (((qI h (qR h x0 0) 3) ≤ x1 → Q h) ∧ (¬ (qI h (qR h x0 0) 3) ≤ x1 → (qok h (qR h x0 6) 5 x1 ∧ (qS h (qR h x0 2) = .inl 6 ∧ (qok h (qR h (qR h x0 2) 4) 0 x1 ∧ (qok h (qR h (qR h x0 6) (x1).toNatClampNeg) 0 (qI h (qR h (qR h x0 2) 4) (x1).toNatClampNeg) ∧ (∀ h8 : qH, h8 = qsI h (qR h (qR h x0 6) (x1).toNatClampNeg) ((qI h (qR h (qR h x0 2) 4) (x1).toNatClampNeg)).toNatClampNeg ((qI h (qR h (qR h x0 6) (x1).toNatClampNeg) ((qI h (qR h (qR h x0 2) 4) (x1).toNatClampNeg)).toNatClampNeg) + (1 : Int32)) → (w_Told_addToTally_2 N k x0 (x1 + (1 : Int32)) h8 Q))))))))))
def w_Told_addToTally (N : Nat) (x0 : Nat) (h : qH) (Q : qH → Prop) : Prop := (w_Told_addToTally_2 N N x0 (0 : Int32) h Q )
def w_Told_clearTally_10 (N : Nat) : Nat → Nat → Int32 → Int32 → qH → (qH → Prop) → (Nat → Int32 → qH → Prop) → Prop
  | 0 => fun _ _ _ _ _ _ => False
  | k + 1 => fun x0 x1 x2 h Q K31 => (((6 : Int32) ≤ x2 → (K31 x0 x1 h)) ∧ (¬ (6 : Int32) ≤ x2 → (qS h x0 = .inl 9 ∧ (qok h (qR h x0 6) 5 x1 ∧ (qok h (qR h (qR h x0 6) (x1).toNatClampNeg) 0 x2 ∧ ∀ h5 : qH, h5 = qsI h (qR h (qR h x0 6) (x1).toNatClampNeg) (x2).toNatClampNeg (0 : Int32) → (w_Told_clearTally_10 N k x0 x1 (x2 + (1 : Int32)) h5 Q K31))))))
def w_Told_clearTally_2 (N : Nat) : Nat → Nat → Int32 → qH → (qH → Prop) → Prop
  | 0 => fun _ _ _ _ => False
  | k + 1 => fun x0 x1 h Q => (((6 : Int32) ≤ x1 → Q h) ∧ (¬ (6 : Int32) ≤ x1 → (w_Told_clearTally_10 N N x0 x1 (0 : Int32) h Q (fun x2 x3 h4 => (w_Told_clearTally_2 N k x2 (x3 + (1 : Int32)) h4 Q)))))
def w_Told_clearTally (N : Nat) (x0 : Nat) (h : qH) (Q : qH → Prop) : Prop := (w_Told_clearTally_2 N N x0 (0 : Int32) h Q )
def w_Told_leastAtWorst_24 (N : Nat) : Nat → Nat → Int32 → Int32 → Int32 → Int32 → Int32 → qH → (Int32 → qH → Prop) → (Nat → Int32 → Int32 → Int32 → Int32 → qH → Prop) → Prop
  | 0 => fun _ _ _ _ _ _ _ _ _ => False
  | k + 1 => fun x0 x1 x2 x3 x4 x5 h Q K58 => (qS h x0 = .inl 9 ∧ (qS h (qR h x0 0) = .inl 8 ∧ (((qI h (qR h x0 0) 3) ≤ x5 → (K58 x0 x1 x2 x3 x4 h)) ∧ (¬ (qI h (qR h x0 0) 3) ≤ x5 → (qok h (qR h x0 6) 5 x3 ∧ (qok h (qR h (qR h x0 6) (x3).toNatClampNeg) 0 x5 ∧ (∀ y6 : Int32, y6 = (if x4 < (qI h (qR h (qR h x0 6) (x3).toNatClampNeg) (x5).toNatClampNeg) then (qI h (qR h (qR h x0 6) (x3).toNatClampNeg) (x5).toNatClampNeg) else x4) → (w_Told_leastAtWorst_24 N k x0 x1 x2 x3 y6 (x5 + (1 : Int32)) h Q K58))))))))
def w_Told_leastAtWorst_7 (N : Nat) : Nat → Nat → Int32 → Int32 → Int32 → qH → (Int32 → qH → Prop) → Prop
  | 0 => fun _ _ _ _ _ _ => False
  | k + 1 => fun x0 x1 x2 x3 h Q => (qS h x0 = .inl 9 ∧ (qS h (qR h x0 0) = .inl 8 ∧ (((qI h (qR h x0 0) 3) ≤ x3 → Q x1 h) ∧ (¬ (qI h (qR h x0 0) 3) ≤ x3 → (w_Told_leastAtWorst_24 N N x0 x1 x2 x3 (0 : Int32) (0 : Int32) h Q (fun x4 x5 x6 x7 x8 h9 => ((x5 = (-2 : Int32) → (w_Told_leastAtWorst_7 N k x4 x7 x8 (x7 + (1 : Int32)) h9 Q)) ∧ (¬ x5 = (-2 : Int32) → ((x6 ≤ x8 → (w_Told_leastAtWorst_7 N k x4 x5 x6 (x7 + (1 : Int32)) h9 Q)) ∧ (¬ x6 ≤ x8 → (w_Told_leastAtWorst_7 N k x4 x7 x8 (x7 + (1 : Int32)) h9 Q)))))))))))
def w_Told_leastAtWorst (N : Nat) (x0 : Nat) (h : qH) (Q : Int32 → qH → Prop) : Prop := (w_Told_leastAtWorst_7 N N x0 (-2 : Int32) (0 : Int32) (0 : Int32) h Q )
def w_Told_whomToAsk_27 (N : Nat) : Nat → Nat → Nat → Int32 → Int32 → Int32 → Int32 → qH → (Int32 → qH → Prop) → (Nat → Nat → Int32 → Int32 → Int32 → qH → Prop) → Prop
  | 0 => fun _ _ _ _ _ _ _ _ _ => False
  | k + 1 => fun x0 x1 x2 x3 x4 x5 h Q K64 => (qS h x0 = .inl 9 ∧ (qS h (qR h x0 0) = .inl 8 ∧ (((qI h (qR h x0 0) 3) ≤ x5 → (K64 x0 x1 x2 x3 x4 h)) ∧ (¬ (qI h (qR h x0 0) 3) ≤ x5 → (w_Told_canBe N x0 x1 x4 x5 x2 h (fun r4 h5 => ((r4 = 0 → (w_Told_whomToAsk_27 N k x0 x1 x2 x3 x4 (x5 + (1 : Int32)) h5 Q K64)) ∧ (¬ r4 = 0 → (qS h5 x0 = .inl 9 ∧ w_Told_addToTally N x0 h5 (fun h8 => (w_Told_whomToAsk_27 N k x0 x1 x2 (1 : Int32) x4 (x5 + (1 : Int32)) h8 Q K64)))))))))))
def w_Told_whomToAsk_9 (N : Nat) : Nat → Nat → Nat → Int32 → Int32 → Int32 → qH → (Int32 → qH → Prop) → Prop
  | 0 => fun _ _ _ _ _ _ _ => False
  | k + 1 => fun x0 x1 x2 x3 x4 h Q => (qS h x0 = .inl 9 ∧ (qS h (qR h x0 0) = .inl 8 ∧ (((qI h (qR h x0 0) 3) ≤ x4 → ((x3 = 0 → Q (-2 : Int32) h) ∧ (¬ x3 = 0 → (w_Told_leastAtWorst N x0 h (fun r5 h6 => Q r5 h6))))) ∧ (¬ (qI h (qR h x0 0) 3) ≤ x4 → (∀ y7 : Int32, y7 = (x4 + (1 : Int32)) → (w_Told_whomToAsk_27 N N x0 x1 x2 x3 x4 y7 h Q (fun x8 x9 x10 x11 x12 h13 => (w_Told_whomToAsk_9 N k x8 x9 x10 x11 (x12 + (1 : Int32)) h13 Q))))))))
def w_Told_whomToAsk (N : Nat) (x0 : Nat) (x1 : Nat) (x2 : Int32) (h : qH) (Q : Int32 → qH → Prop) : Prop := (qS h x0 = .inl 9 ∧ w_Told_clearTally N x0 h (fun h2 => (w_Told_whomToAsk_9 N N x0 x1 x2 (0 : Int32) (0 : Int32) h2 Q )))
section QG
variable {p : Program} {l : Launch} {e : Env} {s : State} {m : MethodId} {args : Array Value} {below : List Frame} {meth : Method} {c : Code} {D : va_G} {cy : Nat → ClassId} {b : Nat} {adK adV : Nat → Nat}

set_option maxRecDepth 4000 in
theorem t_Told_hasRoom {adK adV : Nat → Nat} (l : Launch) (D : va_G) (cy : Nat → ClassId) (b : Nat) (N : Nat) (x0 : Nat) (h : qH) (Q : Int32 → qH → Prop) (hw : w_Told_hasRoom N x0 h Q) : Met l y_Told_hasRoom (Cond.code y_Told_hasRoom prog_11_method_2_code 1 (some .boolean) :: qT) (qrm 0 0 0 0) (qPc D cy b adK adV h [qr b x0]) (qQc D cy b qrI Q) 0 0 (qA b) := by
  refine qmet (L0 := [(0, .inr (.inr (.inl x0)))]) qm_Told_hasRoom (plainFor_of_name (by decide)) [.inr (.inr (.inl x0))] rfl (Nat.le_of_ble_eq_true rfl) rfl (fun p e s m args below meth c X => ?_)
  unfold w_Told_hasRoom at hw
  refine qx_aload_n (x := x0) X d_Told_hasRoom_0 rfl 0 rfl ?_
  obtain ⟨g1, hw⟩ := hw
  refine qx_getI X qcls9 g1 7 (by decide) rfl wf_Told_27 d_Told_hasRoom_1 ?_
  refine qx_bipush (v := (20 : Int32)) X d_Told_hasRoom_4 (by decide) ?_
  refine qx_icmp_ge X 13 d_Told_hasRoom_6 (by decide) (fun q2 => ?_) (fun q2 => ?_)
  · have hw := hw.1 q2
    refine qx_iconst (v := (0 : Int32)) X d_Told_hasRoom_13 (by decide) ?_
    exact qx_zret X hw (Nat.le_refl 0) (Nat.le_refl 0) rfl d_Told_hasRoom_14
  · have hw := hw.2 q2
    refine qx_iconst (v := (1 : Int32)) X d_Told_hasRoom_9 (by decide) ?_
    refine qx_goto X 14 d_Told_hasRoom_10 (by decide) ?_
    exact qx_zret X hw (Nat.le_refl 0) (Nat.le_refl 0) rfl d_Told_hasRoom_14
set_option maxRecDepth 4000 in
theorem t_Told_add {adK adV : Nat → Nat} (l : Launch) (D : va_G) (cy : Nat → ClassId) (b : Nat) (N : Nat) (x0 : Nat) (x1 : Int32) (x2 : Int32) (x3 : Int32) (h : qH) (Q : Int32 → qH → Prop) (hw : w_Told_add N x0 x1 x2 x3 h Q) : Met l y_Told_add (Cond.code y_Told_add prog_11_method_3_code 4 (some .int) :: qT) (qrm 1 0 0 20) (qPc D cy b adK adV h [qr b x0, .int x1, .int x2, .int x3]) (qQc D cy b qrI Q) 0 0 (qA b) := by
  refine qmet (L0 := [(0, .inr (.inr (.inl x0))), (1, .inl x1), (2, .inl x2), (3, .inl x3)]) qm_Told_add (plainFor_of_name (by decide)) [.inr (.inr (.inl x0)), .inl x1, .inl x2, .inl x3] rfl (Nat.le_of_ble_eq_true rfl) rfl (fun p e s m args below meth c X => ?_)
  unfold w_Told_add at hw
  refine qx_aload_n (x := x0) X d_Told_add_0 rfl 0 rfl ?_
  obtain ⟨g1, hw⟩ := hw
  refine qx_callVI (st := []) (As := []) X (t_Told_hasRoom (adK := adK) (adV := adV) l D cy b N x0 h _ hw) qm_Told_hasRoom wm_Told_48 wi_Told_hasRoom wl_Told_hasRoom qcls9 g1 rfl rfl rfl ⟨Nat.le_of_ble_eq_true rfl, Nat.le_of_ble_eq_true rfl⟩ ⟨Nat.le_refl 0, Nat.le_refl 0⟩ (Nat.le_of_ble_eq_true rfl) rfl d_Told_add_1 (fun r2 h3 hw => ?_)
  refine qx_if_ne X 9 d_Told_add_4 (by decide) (fun q4 => ?_) (fun q4 => ?_)
  · have hw := hw.1 q4
    refine qx_aload_n (x := x0) X d_Told_add_9 rfl 0 rfl ?_
    obtain ⟨g5, hw⟩ := hw
    refine qx_getR X qcls9 g5 3 (by decide) rfl wf_Told_11 d_Told_add_10 ?_
    refine qx_aload_n (x := x0) X d_Told_add_13 rfl 0 rfl ?_
    refine qx_getI X qcls9 g5 7 (by decide) rfl wf_Told_27 d_Told_add_14 ?_
    refine qx_iload_n (x := x1) X d_Told_add_17 rfl 1 rfl ?_
    obtain ⟨g6, hw⟩ := hw
    refine qx_ist X g6 d_Told_add_18 ?_
    refine qx_toph (fun h7 eh7 => ?_)
    have hw := hw h7 eh7
    refine qx_aload_n (x := x0) X d_Told_add_19 rfl 0 rfl ?_
    obtain ⟨g8, hw⟩ := hw
    refine qx_getR X qcls9 g8 4 (by decide) rfl wf_Told_15 d_Told_add_20 ?_
    refine qx_aload_n (x := x0) X d_Told_add_23 rfl 0 rfl ?_
    refine qx_getI X qcls9 g8 7 (by decide) rfl wf_Told_27 d_Told_add_24 ?_
    refine qx_iload_n (x := x2) X d_Told_add_27 rfl 2 rfl ?_
    obtain ⟨g9, hw⟩ := hw
    refine qx_ist X g9 d_Told_add_28 ?_
    refine qx_toph (fun h10 eh10 => ?_)
    have hw := hw h10 eh10
    refine qx_aload_n (x := x0) X d_Told_add_29 rfl 0 rfl ?_
    obtain ⟨g11, hw⟩ := hw
    refine qx_getR X qcls9 g11 5 (by decide) rfl wf_Told_18 d_Told_add_30 ?_
    refine qx_aload_n (x := x0) X d_Told_add_33 rfl 0 rfl ?_
    refine qx_getI X qcls9 g11 7 (by decide) rfl wf_Told_27 d_Told_add_34 ?_
    refine qx_iload_n (x := x3) X d_Told_add_37 rfl 3 rfl ?_
    obtain ⟨g12, hw⟩ := hw
    refine qx_zst X g12 d_Told_add_38 ?_
    refine qx_toph (fun h13 eh13 => ?_)
    have hw := hw h13 eh13
    refine qx_aload_n (x := x0) X d_Told_add_39 rfl 0 rfl ?_
    refine qx_dup X (qr_cat _ _) d_Told_add_40 ?_
    obtain ⟨g14, hw⟩ := hw
    refine qx_getI X qcls9 g14 7 (by decide) rfl wf_Told_27 d_Told_add_41 ?_
    refine qx_iconst (v := (1 : Int32)) X d_Told_add_44 (by decide) ?_
    refine qx_iadd X d_Told_add_45 ?_
    refine qx_putI X qcls9 g14 7 (by decide) rfl wf_Told_27 rfl rfl rfl d_Told_add_46 ?_
    refine qx_toph (fun h15 eh15 => ?_)
    have hw := hw h15 eh15
    refine qx_aload_n (x := x0) X d_Told_add_49 rfl 0 rfl ?_
    obtain ⟨g16, hw⟩ := hw
    refine qx_getI X qcls9 g16 7 (by decide) rfl wf_Told_27 d_Told_add_50 ?_
    refine qx_iconst (v := (1 : Int32)) X d_Told_add_53 (by decide) ?_
    refine qx_isub X d_Told_add_54 ?_
    exact qx_iret X hw (Nat.le_refl 0) (Nat.le_refl 0) rfl d_Told_add_55
  · have hw := hw.2 q4
    refine qx_iconst (v := (-1 : Int32)) X d_Told_add_7 (by decide) ?_
    exact qx_iret X hw (Nat.le_refl 0) (Nat.le_refl 0) rfl d_Told_add_8
set_option maxRecDepth 4000 in
theorem t_Told_canBe_49 (X : qX p s m args meth c D cy b adK adV prog_11_method_7_code "CoatHangers$Told" 6 (some .boolean) "canBe") (N k : Nat) (x0 : Nat) (x4 : Int32) (x5 : Int32) (h : qH) (Q : Int32 → qH → Prop)  (hw : w_Told_canBe_49 N k x0 x4 x5 h Q ) : qW p l e (qrm 3 0 0 69) s m args below meth c D cy b 6 0 0 (MQ below (qQc D cy b qrI Q) args s 0 0 (qA b)) 49 [(0, .inr (.inr (.inl x0))), (4, .inl x4), (5, .inl x5)] [] h := by
  induction k generalizing x0 x4 x5 h with
  | zero => exact hw.elim
  | succ k ih =>
    refine qx_iload (x := x5) X d_Told_canBe_49 2 rfl ?_
    refine qx_iload (x := x4) X d_Told_canBe_51 1 rfl ?_
    refine qx_icmp_ge X 113 d_Told_canBe_53 (by decide) (fun q1 => ?_) (fun q1 => ?_)
    · have hw := hw.1 q1
      refine qx_iconst (v := (1 : Int32)) X d_Told_canBe_113 (by decide) ?_
      exact qx_zret X hw (Nat.le_refl 0) (Nat.le_refl 0) rfl d_Told_canBe_114
    · have hw := hw.2 q1
      refine qx_iload (x := x5) X d_Told_canBe_56 2 rfl ?_
      refine qx_aload_n (x := x0) X d_Told_canBe_58 rfl 0 rfl ?_
      obtain ⟨g2, hw⟩ := hw
      refine qx_getI X qcls9 g2 7 (by decide) rfl wf_Told_27 d_Told_canBe_59 ?_
      refine qx_icmp_ge X 113 d_Told_canBe_62 (by decide) (fun q3 => ?_) (fun q3 => ?_)
      · have hw := hw.1 q3
        refine qx_iconst (v := (1 : Int32)) X d_Told_canBe_113 (by decide) ?_
        exact qx_zret X hw (Nat.le_refl 0) (Nat.le_refl 0) rfl d_Told_canBe_114
      · have hw := hw.2 q3
        refine qx_aload_n (x := x0) X d_Told_canBe_65 rfl 0 rfl ?_
        refine qx_getR X qcls9 g2 2 (by decide) rfl wf_Told_44 d_Told_canBe_66 ?_
        obtain ⟨g4, hw⟩ := hw
        refine qx_getR X qcls6 g4 4 (by decide) rfl wf_Told_87 d_Told_canBe_69 ?_
        refine qx_aload_n (x := x0) X d_Told_canBe_72 rfl 0 rfl ?_
        refine qx_getR X qcls9 g2 3 (by decide) rfl wf_Told_11 d_Told_canBe_73 ?_
        refine qx_iload (x := x5) X d_Told_canBe_76 2 rfl ?_
        obtain ⟨g5, hw⟩ := hw
        refine qx_ild X g5 d_Told_canBe_78 ?_
        obtain ⟨g6, hw⟩ := hw
        refine qx_ild X g6 d_Told_canBe_79 ?_
        refine qx_aload_n (x := x0) X d_Told_canBe_80 rfl 0 rfl ?_
        refine qx_getR X qcls9 g2 4 (by decide) rfl wf_Told_15 d_Told_canBe_81 ?_
        refine qx_iload (x := x5) X d_Told_canBe_84 2 rfl ?_
        obtain ⟨g7, hw⟩ := hw
        refine qx_ild X g7 d_Told_canBe_86 ?_
        refine qx_icmp_ne X 94 d_Told_canBe_87 (by decide) (fun q8 => ?_) (fun q8 => ?_)
        · have hw := hw.1 q8
          refine qx_iconst (v := (0 : Int32)) X d_Told_canBe_94 (by decide) ?_
          refine qx_aload_n (x := x0) X d_Told_canBe_95 rfl 0 rfl ?_
          refine qx_getR X qcls9 g2 5 (by decide) rfl wf_Told_18 d_Told_canBe_96 ?_
          refine qx_iload (x := x5) X d_Told_canBe_99 2 rfl ?_
          obtain ⟨g9, hw⟩ := hw
          refine qx_zld X g9 d_Told_canBe_101 ?_
          refine qx_icmp_eq X 107 d_Told_canBe_102 (by decide) (fun q10 => ?_) (fun q10 => ?_)
          · have hw := hw.1 q10
            refine qx_iinc (v := (x5 + (1 : Int32))) (L' := [(5, .inl (x5 + (1 : Int32))), (0, .inr (.inr (.inl x0))), (4, .inl x4)]) X d_Told_canBe_107 2 rfl rfl (by decide) rfl ?_
            refine qx_goto X 49 d_Told_canBe_110 (by decide) ?_
            refine qx_sub [1, 2, 0] rfl ?_
            exact ih x0 x4 (x5 + (1 : Int32)) h hw
          · have hw := hw.2 q10
            refine qx_iconst (v := (0 : Int32)) X d_Told_canBe_105 (by decide) ?_
            exact qx_zret X hw (Nat.le_refl 0) (Nat.le_refl 0) rfl d_Told_canBe_106
        · have hw := hw.2 q8
          refine qx_iconst (v := (1 : Int32)) X d_Told_canBe_90 (by decide) ?_
          refine qx_goto X 95 d_Told_canBe_91 (by decide) ?_
          refine qx_aload_n (x := x0) X d_Told_canBe_95 rfl 0 rfl ?_
          refine qx_getR X qcls9 g2 5 (by decide) rfl wf_Told_18 d_Told_canBe_96 ?_
          refine qx_iload (x := x5) X d_Told_canBe_99 2 rfl ?_
          obtain ⟨g11, hw⟩ := hw
          refine qx_zld X g11 d_Told_canBe_101 ?_
          refine qx_icmp_eq X 107 d_Told_canBe_102 (by decide) (fun q12 => ?_) (fun q12 => ?_)
          · have hw := hw.1 q12
            refine qx_iinc (v := (x5 + (1 : Int32))) (L' := [(5, .inl (x5 + (1 : Int32))), (0, .inr (.inr (.inl x0))), (4, .inl x4)]) X d_Told_canBe_107 2 rfl rfl (by decide) rfl ?_
            refine qx_goto X 49 d_Told_canBe_110 (by decide) ?_
            refine qx_sub [1, 2, 0] rfl ?_
            exact ih x0 x4 (x5 + (1 : Int32)) h hw
          · have hw := hw.2 q12
            refine qx_iconst (v := (0 : Int32)) X d_Told_canBe_105 (by decide) ?_
            exact qx_zret X hw (Nat.le_refl 0) (Nat.le_refl 0) rfl d_Told_canBe_106
set_option maxRecDepth 4000 in
theorem t_Told_canBe {adK adV : Nat → Nat} (l : Launch) (D : va_G) (cy : Nat → ClassId) (b : Nat) (N : Nat) (x0 : Nat) (x1 : Nat) (x2 : Int32) (x3 : Int32) (x4 : Int32) (h : qH) (Q : Int32 → qH → Prop) (hw : w_Told_canBe N x0 x1 x2 x3 x4 h Q) : Met l y_Told_canBe (Cond.code y_Told_canBe prog_11_method_7_code 6 (some .boolean) :: qT) (qrm 3 0 0 69) (qPc D cy b adK adV h [qr b x0, qr b x1, .int x2, .int x3, .int x4]) (qQc D cy b qrI Q) 0 0 (qA b) := by
  refine qmet (L0 := [(0, .inr (.inr (.inl x0))), (1, .inr (.inr (.inl x1))), (2, .inl x2), (3, .inl x3), (4, .inl x4)]) qm_Told_canBe (plainFor_of_name (by decide)) [.inr (.inr (.inl x0)), .inr (.inr (.inl x1)), .inl x2, .inl x3, .inl x4] rfl (Nat.le_of_ble_eq_true rfl) rfl (fun p e s m args below meth c X => ?_)
  unfold w_Told_canBe at hw
  refine qx_aload_n (x := x1) X d_Told_canBe_0 rfl 1 rfl ?_
  refine qx_iload_n (x := x2) X d_Told_canBe_1 rfl 2 rfl ?_
  obtain ⟨g1, hw⟩ := hw
  refine qx_callVI (st := []) (As := [.int x2]) X (t_State_isHung (adK := adK) (adV := adV) l D cy b N x1 x2 h _ hw) qm_State_isHung wm_Told_70 wi_State_isHung wl_State_isHung qcls6 g1 rfl rfl rfl ⟨Nat.le_of_ble_eq_true rfl, Nat.le_of_ble_eq_true rfl⟩ ⟨Nat.le_refl 0, Nat.le_refl 0⟩ (Nat.le_of_ble_eq_true rfl) rfl d_Told_canBe_2 (fun r2 h3 hw => ?_)
  refine qx_if_eq X 16 d_Told_canBe_5 (by decide) (fun q4 => ?_) (fun q4 => ?_)
  · have hw := hw.1 q4
    refine qx_iconst (v := (0 : Int32)) X d_Told_canBe_16 (by decide) ?_
    exact qx_zret X hw (Nat.le_refl 0) (Nat.le_refl 0) rfl d_Told_canBe_17
  · have hw := hw.2 q4
    refine qx_aload_n (x := x1) X d_Told_canBe_8 rfl 1 rfl ?_
    refine qx_iload_n (x := x3) X d_Told_canBe_9 rfl 3 rfl ?_
    obtain ⟨g5, hw⟩ := hw
    refine qx_callVI (st := []) (As := [.int x3]) X (t_State_isHung (adK := adK) (adV := adV) l D cy b N x1 x3 h3 _ hw) qm_State_isHung wm_Told_70 wi_State_isHung wl_State_isHung qcls6 g5 rfl rfl rfl ⟨Nat.le_of_ble_eq_true rfl, Nat.le_of_ble_eq_true rfl⟩ ⟨Nat.le_refl 0, Nat.le_refl 0⟩ (Nat.le_of_ble_eq_true rfl) rfl d_Told_canBe_10 (fun r6 h7 hw => ?_)
    refine qx_if_ne X 18 d_Told_canBe_13 (by decide) (fun q8 => ?_) (fun q8 => ?_)
    · have hw := hw.1 q8
      refine qx_aload_n (x := x0) X d_Told_canBe_18 rfl 0 rfl ?_
      obtain ⟨g9, hw⟩ := hw
      refine qx_getR X qcls9 g9 2 (by decide) rfl wf_Told_44 d_Told_canBe_19 ?_
      refine qx_aload_n (x := x1) X d_Told_canBe_22 rfl 1 rfl ?_
      obtain ⟨g10, hw⟩ := hw
      refine qx_callVV (st := []) (As := [qr b x1]) X (t_State_become (adK := adK) (adV := adV) l D cy b N (qR h7 x0 2) x1 h7 _ hw) qm_State_become wm_Told_74 wi_State_become wl_State_become qcls6 g10 rfl rfl rfl ⟨Nat.le_of_ble_eq_true rfl, Nat.le_of_ble_eq_true rfl⟩ ⟨Nat.le_refl 0, Nat.le_refl 0⟩ (Nat.le_of_ble_eq_true rfl) rfl d_Told_canBe_23 (fun h11 hw => ?_)
      refine qx_aload_n (x := x0) X d_Told_canBe_26 rfl 0 rfl ?_
      obtain ⟨g12, hw⟩ := hw
      refine qx_getR X qcls9 g12 2 (by decide) rfl wf_Told_44 d_Told_canBe_27 ?_
      refine qx_iload_n (x := x2) X d_Told_canBe_30 rfl 2 rfl ?_
      refine qx_iload_n (x := x3) X d_Told_canBe_31 rfl 3 rfl ?_
      obtain ⟨g13, hw⟩ := hw
      refine qx_callVV (st := []) (As := [.int x2, .int x3]) X (t_State_exchange (adK := adK) (adV := adV) l D cy b N (qR h11 x0 2) x2 x3 h11 _ hw) qm_State_exchange wm_Told_78 wi_State_exchange wl_State_exchange qcls6 g13 rfl rfl rfl ⟨Nat.le_of_ble_eq_true rfl, Nat.le_of_ble_eq_true rfl⟩ ⟨Nat.le_refl 0, Nat.le_refl 0⟩ (Nat.le_of_ble_eq_true rfl) rfl d_Told_canBe_32 (fun h14 hw => ?_)
      refine qx_aload_n (x := x0) X d_Told_canBe_35 rfl 0 rfl ?_
      obtain ⟨g15, hw⟩ := hw
      refine qx_getR X qcls9 g15 1 (by decide) rfl wf_Told_35 d_Told_canBe_36 ?_
      refine qx_aload_n (x := x0) X d_Told_canBe_39 rfl 0 rfl ?_
      refine qx_getR X qcls9 g15 2 (by decide) rfl wf_Told_44 d_Told_canBe_40 ?_
      obtain ⟨g16, hw⟩ := hw
      refine qx_callVV (st := []) (As := [qr b (qR h14 x0 2)]) X (t_Night_wakeAll (adK := adK) (adV := adV) l D cy b N (qR h14 x0 1) (qR h14 x0 2) h14 _ hw) qm_Night_wakeAll wm_Told_82 wi_Night_wakeAll wl_Night_wakeAll qcls1 g16 rfl rfl rfl ⟨Nat.le_of_ble_eq_true rfl, Nat.le_of_ble_eq_true rfl⟩ ⟨Nat.le_refl 0, Nat.le_refl 0⟩ (Nat.le_of_ble_eq_true rfl) rfl d_Told_canBe_43 (fun h17 hw => ?_)
      refine qx_iconst (v := (0 : Int32)) X d_Told_canBe_46 (by decide) ?_
      refine qx_istore (L' := [(5, .inl (0 : Int32)), (0, .inr (.inr (.inl x0))), (1, .inr (.inr (.inl x1))), (2, .inl x2), (3, .inl x3), (4, .inl x4)]) X d_Told_canBe_47 (by decide) rfl ?_
      refine qx_sub [1, 5, 0] rfl ?_
      exact t_Told_canBe_49 X N N x0 x4 (0 : Int32) h17 Q  hw 
    · have hw := hw.2 q8
      refine qx_iconst (v := (0 : Int32)) X d_Told_canBe_16 (by decide) ?_
      exact qx_zret X hw (Nat.le_refl 0) (Nat.le_refl 0) rfl d_Told_canBe_17
set_option maxRecDepth 4000 in
theorem t_Told_pairsLeft_23 (X : qX p s m args meth c D cy b adK adV prog_11_method_4_code "CoatHangers$Told" 6 (some .int) "pairsLeft") (N k : Nat) (x0 : Nat) (x1 : Nat) (x2 : Int32) (x3 : Int32) (x4 : Int32) (x5 : Int32) (h : qH) (Q : Int32 → qH → Prop) (K62 : Nat → Nat → Int32 → Int32 → Int32 → qH → Prop) (hw : w_Told_pairsLeft_23 N k x0 x1 x2 x3 x4 x5 h Q K62) (hK62 : ∀ (x0 : Nat) (x1 : Nat) (x2 : Int32) (x3 : Int32) (x4 : Int32) (h : qH), K62 x0 x1 x2 x3 x4 h → qW p l e (qrm 4 0 0 94) s m args below meth c D cy b 6 0 0 (MQ below (qQc D cy b qrI Q) args s 0 0 (qA b)) 62 [(0, .inr (.inr (.inl x0))), (1, .inr (.inr (.inl x1))), (2, .inl x2), (3, .inl x3), (4, .inl x4)] [] h) : qW p l e (qrm 4 0 0 94) s m args below meth c D cy b 6 0 0 (MQ below (qQc D cy b qrI Q) args s 0 0 (qA b)) 23 [(0, .inr (.inr (.inl x0))), (1, .inr (.inr (.inl x1))), (2, .inl x2), (3, .inl x3), (4, .inl x4), (5, .inl x5)] [] h := by
  induction k generalizing x0 x1 x2 x3 x4 x5 h with
  | zero => exact hw.elim
  | succ k ih =>
    refine qx_iload (x := x5) X d_Told_pairsLeft_23 5 rfl ?_
    refine qx_aload_n (x := x0) X d_Told_pairsLeft_25 rfl 0 rfl ?_
    obtain ⟨g1, hw⟩ := hw
    refine qx_getR X qcls9 g1 0 (by decide) rfl wf_Told_31 d_Told_pairsLeft_26 ?_
    obtain ⟨g2, hw⟩ := hw
    refine qx_getI X qcls8 g2 3 (by decide) rfl wf_Told_52 d_Told_pairsLeft_29 ?_
    refine qx_icmp_ge X 62 d_Told_pairsLeft_32 (by decide) (fun q3 => ?_) (fun q3 => ?_)
    · have hw := hw.1 q3
      refine qx_sub [0, 1, 2, 3, 4] rfl ?_
      exact hK62 x0 x1 x2 x3 x4 h hw
    · have hw := hw.2 q3
      refine qx_iload_n (x := x3) X d_Told_pairsLeft_35 rfl 3 rfl ?_
      refine qx_aload_n (x := x0) X d_Told_pairsLeft_36 rfl 0 rfl ?_
      refine qx_aload_n (x := x1) X d_Told_pairsLeft_37 rfl 1 rfl ?_
      refine qx_iload (x := x4) X d_Told_pairsLeft_38 4 rfl ?_
      refine qx_iload (x := x5) X d_Told_pairsLeft_40 5 rfl ?_
      refine qx_iload_n (x := x2) X d_Told_pairsLeft_42 rfl 2 rfl ?_
      refine qx_callVI (st := [.int x3]) (As := [qr b x1, .int x4, .int x5, .int x2]) X (t_Told_canBe (adK := adK) (adV := adV) l D cy b N x0 x1 x4 x5 x2 h _ hw) qm_Told_canBe wm_Told_56 wi_Told_canBe wl_Told_canBe qcls9 g1 rfl rfl rfl ⟨Nat.le_of_ble_eq_true rfl, Nat.le_of_ble_eq_true rfl⟩ ⟨Nat.le_refl 0, Nat.le_refl 0⟩ (Nat.le_of_ble_eq_true rfl) rfl d_Told_pairsLeft_43 (fun r4 h5 hw => ?_)
      refine qx_if_eq X 53 d_Told_pairsLeft_46 (by decide) (fun q6 => ?_) (fun q6 => ?_)
      · have hw := hw.1 q6
        refine qx_iconst (v := (0 : Int32)) X d_Told_pairsLeft_53 (by decide) ?_
        refine qx_iadd X d_Told_pairsLeft_54 ?_
        refine qx_topi (fun y7 ey7 => ?_)
        have hw := hw y7 ey7
        refine qx_istore_n (L' := [(3, .inl y7), (0, .inr (.inr (.inl x0))), (1, .inr (.inr (.inl x1))), (2, .inl x2), (4, .inl x4), (5, .inl x5)]) X d_Told_pairsLeft_55 rfl (by decide) rfl ?_
        refine qx_iinc (v := (x5 + (1 : Int32))) (L' := [(5, .inl (x5 + (1 : Int32))), (3, .inl y7), (0, .inr (.inr (.inl x0))), (1, .inr (.inr (.inl x1))), (2, .inl x2), (4, .inl x4)]) X d_Told_pairsLeft_56 5 rfl rfl (by decide) rfl ?_
        refine qx_goto X 23 d_Told_pairsLeft_59 (by decide) ?_
        refine qx_sub [2, 3, 4, 1, 5, 0] rfl ?_
        exact ih x0 x1 x2 y7 x4 (x5 + (1 : Int32)) h5 hw
      · have hw := hw.2 q6
        refine qx_iconst (v := (1 : Int32)) X d_Told_pairsLeft_49 (by decide) ?_
        refine qx_goto X 54 d_Told_pairsLeft_50 (by decide) ?_
        refine qx_iadd X d_Told_pairsLeft_54 ?_
        refine qx_topi (fun y8 ey8 => ?_)
        have hw := hw y8 ey8
        refine qx_istore_n (L' := [(3, .inl y8), (0, .inr (.inr (.inl x0))), (1, .inr (.inr (.inl x1))), (2, .inl x2), (4, .inl x4), (5, .inl x5)]) X d_Told_pairsLeft_55 rfl (by decide) rfl ?_
        refine qx_iinc (v := (x5 + (1 : Int32))) (L' := [(5, .inl (x5 + (1 : Int32))), (3, .inl y8), (0, .inr (.inr (.inl x0))), (1, .inr (.inr (.inl x1))), (2, .inl x2), (4, .inl x4)]) X d_Told_pairsLeft_56 5 rfl rfl (by decide) rfl ?_
        refine qx_goto X 23 d_Told_pairsLeft_59 (by decide) ?_
        refine qx_sub [2, 3, 4, 1, 5, 0] rfl ?_
        exact ih x0 x1 x2 y8 x4 (x5 + (1 : Int32)) h5 hw
set_option maxRecDepth 4000 in
theorem t_Told_pairsLeft_5 (X : qX p s m args meth c D cy b adK adV prog_11_method_4_code "CoatHangers$Told" 6 (some .int) "pairsLeft") (N k : Nat) (x0 : Nat) (x1 : Nat) (x2 : Int32) (x3 : Int32) (x4 : Int32) (h : qH) (Q : Int32 → qH → Prop)  (hw : w_Told_pairsLeft_5 N k x0 x1 x2 x3 x4 h Q ) : qW p l e (qrm 4 0 0 94) s m args below meth c D cy b 6 0 0 (MQ below (qQc D cy b qrI Q) args s 0 0 (qA b)) 5 [(0, .inr (.inr (.inl x0))), (1, .inr (.inr (.inl x1))), (2, .inl x2), (3, .inl x3), (4, .inl x4)] [] h := by
  induction k generalizing x0 x1 x2 x3 x4 h with
  | zero => exact hw.elim
  | succ k ih =>
    refine qx_iload (x := x4) X d_Told_pairsLeft_5 4 rfl ?_
    refine qx_aload_n (x := x0) X d_Told_pairsLeft_7 rfl 0 rfl ?_
    obtain ⟨g1, hw⟩ := hw
    refine qx_getR X qcls9 g1 0 (by decide) rfl wf_Told_31 d_Told_pairsLeft_8 ?_
    obtain ⟨g2, hw⟩ := hw
    refine qx_getI X qcls8 g2 3 (by decide) rfl wf_Told_52 d_Told_pairsLeft_11 ?_
    refine qx_icmp_ge X 68 d_Told_pairsLeft_14 (by decide) (fun q3 => ?_) (fun q3 => ?_)
    · have hw := hw.1 q3
      refine qx_iload_n (x := x3) X d_Told_pairsLeft_68 rfl 3 rfl ?_
      exact qx_iret X hw (Nat.le_refl 0) (Nat.le_refl 0) rfl d_Told_pairsLeft_69
    · have hw := hw.2 q3
      refine qx_iload (x := x4) X d_Told_pairsLeft_17 4 rfl ?_
      refine qx_iconst (v := (1 : Int32)) X d_Told_pairsLeft_19 (by decide) ?_
      refine qx_iadd X d_Told_pairsLeft_20 ?_
      refine qx_topi (fun y4 ey4 => ?_)
      have hw := hw y4 ey4
      refine qx_istore (L' := [(5, .inl y4), (0, .inr (.inr (.inl x0))), (1, .inr (.inr (.inl x1))), (2, .inl x2), (3, .inl x3), (4, .inl x4)]) X d_Told_pairsLeft_21 (by decide) rfl ?_
      refine qx_sub [1, 2, 3, 4, 5, 0] rfl ?_
      refine t_Told_pairsLeft_23 X N N x0 x1 x2 x3 x4 y4 h Q _ hw (fun x5 x6 x7 x8 x9 h10 hw => ?_)
      refine qx_iinc (v := (x9 + (1 : Int32))) (L' := [(4, .inl (x9 + (1 : Int32))), (0, .inr (.inr (.inl x5))), (1, .inr (.inr (.inl x6))), (2, .inl x7), (3, .inl x8)]) X d_Told_pairsLeft_62 4 rfl rfl (by decide) rfl ?_
      refine qx_goto X 5 d_Told_pairsLeft_65 (by decide) ?_
      refine qx_sub [1, 2, 3, 4, 0] rfl ?_
      exact ih x5 x6 x7 x8 (x9 + (1 : Int32)) h10 hw
set_option maxRecDepth 4000 in
theorem t_Told_pairsLeft {adK adV : Nat → Nat} (l : Launch) (D : va_G) (cy : Nat → ClassId) (b : Nat) (N : Nat) (x0 : Nat) (x1 : Nat) (x2 : Int32) (h : qH) (Q : Int32 → qH → Prop) (hw : w_Told_pairsLeft N x0 x1 x2 h Q) : Met l y_Told_pairsLeft (Cond.code y_Told_pairsLeft prog_11_method_4_code 6 (some .int) :: qT) (qrm 4 0 0 94) (qPc D cy b adK adV h [qr b x0, qr b x1, .int x2]) (qQc D cy b qrI Q) 0 0 (qA b) := by
  refine qmet (L0 := [(0, .inr (.inr (.inl x0))), (1, .inr (.inr (.inl x1))), (2, .inl x2)]) qm_Told_pairsLeft (plainFor_of_name (by decide)) [.inr (.inr (.inl x0)), .inr (.inr (.inl x1)), .inl x2] rfl (Nat.le_of_ble_eq_true rfl) rfl (fun p e s m args below meth c X => ?_)
  unfold w_Told_pairsLeft at hw
  refine qx_iconst (v := (0 : Int32)) X d_Told_pairsLeft_0 (by decide) ?_
  refine qx_istore_n (L' := [(3, .inl (0 : Int32)), (0, .inr (.inr (.inl x0))), (1, .inr (.inr (.inl x1))), (2, .inl x2)]) X d_Told_pairsLeft_1 rfl (by decide) rfl ?_
  refine qx_iconst (v := (0 : Int32)) X d_Told_pairsLeft_2 (by decide) ?_
  refine qx_istore (L' := [(4, .inl (0 : Int32)), (3, .inl (0 : Int32)), (0, .inr (.inr (.inl x0))), (1, .inr (.inr (.inl x1))), (2, .inl x2)]) X d_Told_pairsLeft_3 (by decide) rfl ?_
  refine qx_sub [2, 3, 4, 1, 0] rfl ?_
  exact t_Told_pairsLeft_5 X N N x0 x1 x2 (0 : Int32) (0 : Int32) h Q  hw 
set_option maxRecDepth 4000 in
theorem t_Told_pairLeft_24 (X : qX p s m args meth c D cy b adK adV prog_11_method_5_code "CoatHangers$Told" 7 (some .int) "pairLeft") (N k : Nat) (x0 : Nat) (x1 : Nat) (x2 : Int32) (x3 : Int32) (x4 : Int32) (x5 : Int32) (x6 : Int32) (h : qH) (Q : Int32 → qH → Prop) (K73 : Nat → Nat → Int32 → Int32 → Int32 → Int32 → qH → Prop) (hw : w_Told_pairLeft_24 N k x0 x1 x2 x3 x4 x5 x6 h Q K73) (hK73 : ∀ (x0 : Nat) (x1 : Nat) (x2 : Int32) (x3 : Int32) (x4 : Int32) (x5 : Int32) (h : qH), K73 x0 x1 x2 x3 x4 x5 h → qW p l e (qrm 4 0 0 94) s m args below meth c D cy b 7 0 0 (MQ below (qQc D cy b qrI Q) args s 0 0 (qA b)) 73 [(0, .inr (.inr (.inl x0))), (1, .inr (.inr (.inl x1))), (2, .inl x2), (3, .inl x3), (4, .inl x4), (5, .inl x5)] [] h) : qW p l e (qrm 4 0 0 94) s m args below meth c D cy b 7 0 0 (MQ below (qQc D cy b qrI Q) args s 0 0 (qA b)) 24 [(0, .inr (.inr (.inl x0))), (1, .inr (.inr (.inl x1))), (2, .inl x2), (3, .inl x3), (4, .inl x4), (5, .inl x5), (6, .inl x6)] [] h := by
  induction k generalizing x0 x1 x2 x3 x4 x5 x6 h with
  | zero => exact hw.elim
  | succ k ih =>
    refine qx_iload (x := x6) X d_Told_pairLeft_24 6 rfl ?_
    refine qx_aload_n (x := x0) X d_Told_pairLeft_26 rfl 0 rfl ?_
    obtain ⟨g1, hw⟩ := hw
    refine qx_getR X qcls9 g1 0 (by decide) rfl wf_Told_31 d_Told_pairLeft_27 ?_
    obtain ⟨g2, hw⟩ := hw
    refine qx_getI X qcls8 g2 3 (by decide) rfl wf_Told_52 d_Told_pairLeft_30 ?_
    refine qx_icmp_ge X 73 d_Told_pairLeft_33 (by decide) (fun q3 => ?_) (fun q3 => ?_)
    · have hw := hw.1 q3
      refine qx_sub [0, 1, 2, 3, 4, 5] rfl ?_
      exact hK73 x0 x1 x2 x3 x4 x5 h hw
    · have hw := hw.2 q3
      refine qx_aload_n (x := x0) X d_Told_pairLeft_36 rfl 0 rfl ?_
      refine qx_aload_n (x := x1) X d_Told_pairLeft_37 rfl 1 rfl ?_
      refine qx_iload (x := x5) X d_Told_pairLeft_38 5 rfl ?_
      refine qx_iload (x := x6) X d_Told_pairLeft_40 6 rfl ?_
      refine qx_iload_n (x := x2) X d_Told_pairLeft_42 rfl 2 rfl ?_
      refine qx_callVI (st := []) (As := [qr b x1, .int x5, .int x6, .int x2]) X (t_Told_canBe (adK := adK) (adV := adV) l D cy b N x0 x1 x5 x6 x2 h _ hw) qm_Told_canBe wm_Told_56 wi_Told_canBe wl_Told_canBe qcls9 g1 rfl rfl rfl ⟨Nat.le_of_ble_eq_true rfl, Nat.le_of_ble_eq_true rfl⟩ ⟨Nat.le_refl 0, Nat.le_refl 0⟩ (Nat.le_of_ble_eq_true rfl) rfl d_Told_pairLeft_43 (fun r4 h5 hw => ?_)
      refine qx_if_eq X 67 d_Told_pairLeft_46 (by decide) (fun q6 => ?_) (fun q6 => ?_)
      · have hw := hw.1 q6
        refine qx_iinc (v := (x6 + (1 : Int32))) (L' := [(6, .inl (x6 + (1 : Int32))), (0, .inr (.inr (.inl x0))), (1, .inr (.inr (.inl x1))), (2, .inl x2), (3, .inl x3), (4, .inl x4), (5, .inl x5)]) X d_Told_pairLeft_67 6 rfl rfl (by decide) rfl ?_
        refine qx_goto X 24 d_Told_pairLeft_70 (by decide) ?_
        refine qx_sub [1, 2, 3, 4, 5, 6, 0] rfl ?_
        exact ih x0 x1 x2 x3 x4 x5 (x6 + (1 : Int32)) h5 hw
      · have hw := hw.2 q6
        refine qx_iload (x := x4) X d_Told_pairLeft_49 4 rfl ?_
        refine qx_iload_n (x := x3) X d_Told_pairLeft_51 rfl 3 rfl ?_
        refine qx_icmp_ne X 64 d_Told_pairLeft_52 (by decide) (fun q7 => ?_) (fun q7 => ?_)
        · have hw := hw.1 q7
          refine qx_iinc (v := (x4 + (1 : Int32))) (L' := [(4, .inl (x4 + (1 : Int32))), (0, .inr (.inr (.inl x0))), (1, .inr (.inr (.inl x1))), (2, .inl x2), (3, .inl x3), (5, .inl x5), (6, .inl x6)]) X d_Told_pairLeft_64 4 rfl rfl (by decide) rfl ?_
          refine qx_iinc (v := (x6 + (1 : Int32))) (L' := [(6, .inl (x6 + (1 : Int32))), (4, .inl (x4 + (1 : Int32))), (0, .inr (.inr (.inl x0))), (1, .inr (.inr (.inl x1))), (2, .inl x2), (3, .inl x3), (5, .inl x5)]) X d_Told_pairLeft_67 6 rfl rfl (by decide) rfl ?_
          refine qx_goto X 24 d_Told_pairLeft_70 (by decide) ?_
          refine qx_sub [2, 3, 4, 5, 1, 6, 0] rfl ?_
          exact ih x0 x1 x2 x3 (x4 + (1 : Int32)) x5 (x6 + (1 : Int32)) h5 hw
        · have hw := hw.2 q7
          refine qx_bipush (v := (10 : Int32)) X d_Told_pairLeft_55 (by decide) ?_
          refine qx_iload (x := x5) X d_Told_pairLeft_57 5 rfl ?_
          refine qx_imul X d_Told_pairLeft_59 ?_
          refine qx_iload (x := x6) X d_Told_pairLeft_60 6 rfl ?_
          refine qx_iadd X d_Told_pairLeft_62 ?_
          exact qx_iret X hw (Nat.le_refl 0) (Nat.le_refl 0) rfl d_Told_pairLeft_63
set_option maxRecDepth 4000 in
theorem t_Told_pairLeft_6 (X : qX p s m args meth c D cy b adK adV prog_11_method_5_code "CoatHangers$Told" 7 (some .int) "pairLeft") (N k : Nat) (x0 : Nat) (x1 : Nat) (x2 : Int32) (x3 : Int32) (x4 : Int32) (x5 : Int32) (h : qH) (Q : Int32 → qH → Prop)  (hw : w_Told_pairLeft_6 N k x0 x1 x2 x3 x4 x5 h Q ) : qW p l e (qrm 4 0 0 94) s m args below meth c D cy b 7 0 0 (MQ below (qQc D cy b qrI Q) args s 0 0 (qA b)) 6 [(0, .inr (.inr (.inl x0))), (1, .inr (.inr (.inl x1))), (2, .inl x2), (3, .inl x3), (4, .inl x4), (5, .inl x5)] [] h := by
  induction k generalizing x0 x1 x2 x3 x4 x5 h with
  | zero => exact hw.elim
  | succ k ih =>
    refine qx_iload (x := x5) X d_Told_pairLeft_6 5 rfl ?_
    refine qx_aload_n (x := x0) X d_Told_pairLeft_8 rfl 0 rfl ?_
    obtain ⟨g1, hw⟩ := hw
    refine qx_getR X qcls9 g1 0 (by decide) rfl wf_Told_31 d_Told_pairLeft_9 ?_
    obtain ⟨g2, hw⟩ := hw
    refine qx_getI X qcls8 g2 3 (by decide) rfl wf_Told_52 d_Told_pairLeft_12 ?_
    refine qx_icmp_ge X 79 d_Told_pairLeft_15 (by decide) (fun q3 => ?_) (fun q3 => ?_)
    · have hw := hw.1 q3
      refine qx_iconst (v := (-1 : Int32)) X d_Told_pairLeft_79 (by decide) ?_
      exact qx_iret X hw (Nat.le_refl 0) (Nat.le_refl 0) rfl d_Told_pairLeft_80
    · have hw := hw.2 q3
      refine qx_iload (x := x5) X d_Told_pairLeft_18 5 rfl ?_
      refine qx_iconst (v := (1 : Int32)) X d_Told_pairLeft_20 (by decide) ?_
      refine qx_iadd X d_Told_pairLeft_21 ?_
      refine qx_topi (fun y4 ey4 => ?_)
      have hw := hw y4 ey4
      refine qx_istore (L' := [(6, .inl y4), (0, .inr (.inr (.inl x0))), (1, .inr (.inr (.inl x1))), (2, .inl x2), (3, .inl x3), (4, .inl x4), (5, .inl x5)]) X d_Told_pairLeft_22 (by decide) rfl ?_
      refine qx_sub [1, 2, 3, 4, 5, 6, 0] rfl ?_
      refine t_Told_pairLeft_24 X N N x0 x1 x2 x3 x4 x5 y4 h Q _ hw (fun x5 x6 x7 x8 x9 x10 h11 hw => ?_)
      refine qx_iinc (v := (x10 + (1 : Int32))) (L' := [(5, .inl (x10 + (1 : Int32))), (0, .inr (.inr (.inl x5))), (1, .inr (.inr (.inl x6))), (2, .inl x7), (3, .inl x8), (4, .inl x9)]) X d_Told_pairLeft_73 5 rfl rfl (by decide) rfl ?_
      refine qx_goto X 6 d_Told_pairLeft_76 (by decide) ?_
      refine qx_sub [1, 2, 3, 4, 5, 0] rfl ?_
      exact ih x5 x6 x7 x8 x9 (x10 + (1 : Int32)) h11 hw
set_option maxRecDepth 4000 in
theorem t_Told_pairLeft {adK adV : Nat → Nat} (l : Launch) (D : va_G) (cy : Nat → ClassId) (b : Nat) (N : Nat) (x0 : Nat) (x1 : Nat) (x2 : Int32) (x3 : Int32) (h : qH) (Q : Int32 → qH → Prop) (hw : w_Told_pairLeft N x0 x1 x2 x3 h Q) : Met l y_Told_pairLeft (Cond.code y_Told_pairLeft prog_11_method_5_code 7 (some .int) :: qT) (qrm 4 0 0 94) (qPc D cy b adK adV h [qr b x0, qr b x1, .int x2, .int x3]) (qQc D cy b qrI Q) 0 0 (qA b) := by
  refine qmet (L0 := [(0, .inr (.inr (.inl x0))), (1, .inr (.inr (.inl x1))), (2, .inl x2), (3, .inl x3)]) qm_Told_pairLeft (plainFor_of_name (by decide)) [.inr (.inr (.inl x0)), .inr (.inr (.inl x1)), .inl x2, .inl x3] rfl (Nat.le_of_ble_eq_true rfl) rfl (fun p e s m args below meth c X => ?_)
  unfold w_Told_pairLeft at hw
  refine qx_iconst (v := (0 : Int32)) X d_Told_pairLeft_0 (by decide) ?_
  refine qx_istore (L' := [(4, .inl (0 : Int32)), (0, .inr (.inr (.inl x0))), (1, .inr (.inr (.inl x1))), (2, .inl x2), (3, .inl x3)]) X d_Told_pairLeft_1 (by decide) rfl ?_
  refine qx_iconst (v := (0 : Int32)) X d_Told_pairLeft_3 (by decide) ?_
  refine qx_istore (L' := [(5, .inl (0 : Int32)), (4, .inl (0 : Int32)), (0, .inr (.inr (.inl x0))), (1, .inr (.inr (.inl x1))), (2, .inl x2), (3, .inl x3)]) X d_Told_pairLeft_4 (by decide) rfl ?_
  refine qx_sub [2, 3, 4, 5, 1, 0] rfl ?_
  exact t_Told_pairLeft_6 X N N x0 x1 x2 x3 (0 : Int32) (0 : Int32) h Q  hw 
set_option maxRecDepth 4000 in
theorem t_Told_addToTally_2 (X : qX p s m args meth c D cy b adK adV prog_11_method_9_code "CoatHangers$Told" 2 (none) "addToTally") (N k : Nat) (x0 : Nat) (x1 : Int32) (h : qH) (Q : qH → Prop)  (hw : w_Told_addToTally_2 N k x0 x1 h Q ) : qW p l e (qrm 0 0 0 0) s m args below meth c D cy b 2 0 0 (MQ below (qQc D cy b qrV (fun (_ : Unit) h => Q h)) args s 0 0 (qA b)) 2 [(0, .inr (.inr (.inl x0))), (1, .inl x1)] [] h := by
  induction k generalizing x0 x1 h with
  | zero => exact hw.elim
  | succ k ih =>
    refine qx_iload_n (x := x1) X d_Told_addToTally_2 rfl 1 rfl ?_
    refine qx_aload_n (x := x0) X d_Told_addToTally_3 rfl 0 rfl ?_
    obtain ⟨g1, hw⟩ := hw
    refine qx_getR X qcls9 g1 0 (by decide) rfl wf_Told_31 d_Told_addToTally_4 ?_
    obtain ⟨g2, hw⟩ := hw
    refine qx_getI X qcls8 g2 3 (by decide) rfl wf_Told_52 d_Told_addToTally_7 ?_
    refine qx_icmp_ge X 39 d_Told_addToTally_10 (by decide) (fun q3 => ?_) (fun q3 => ?_)
    · have hw := hw.1 q3
      exact qx_vret X hw (Nat.le_refl 0) (Nat.le_refl 0) rfl d_Told_addToTally_39
    · have hw := hw.2 q3
      refine qx_aload_n (x := x0) X d_Told_addToTally_13 rfl 0 rfl ?_
      refine qx_getR X qcls9 g1 6 (by decide) rfl wf_Told_24 d_Told_addToTally_14 ?_
      refine qx_iload_n (x := x1) X d_Told_addToTally_17 rfl 1 rfl ?_
      obtain ⟨g4, hw⟩ := hw
      refine qx_agld X g4 d_Told_addToTally_18 ?_
      refine qx_aload_n (x := x0) X d_Told_addToTally_19 rfl 0 rfl ?_
      refine qx_getR X qcls9 g1 2 (by decide) rfl wf_Told_44 d_Told_addToTally_20 ?_
      obtain ⟨g5, hw⟩ := hw
      refine qx_getR X qcls6 g5 4 (by decide) rfl wf_Told_87 d_Told_addToTally_23 ?_
      refine qx_iload_n (x := x1) X d_Told_addToTally_26 rfl 1 rfl ?_
      obtain ⟨g6, hw⟩ := hw
      refine qx_ild X g6 d_Told_addToTally_27 ?_
      refine qx_dup2 X rfl (qr_cat _ _) d_Told_addToTally_28 ?_
      obtain ⟨g7, hw⟩ := hw
      refine qx_ild X g7 d_Told_addToTally_29 ?_
      refine qx_iconst (v := (1 : Int32)) X d_Told_addToTally_30 (by decide) ?_
      refine qx_iadd X d_Told_addToTally_31 ?_
      refine qx_ist X g7 d_Told_addToTally_32 ?_
      refine qx_toph (fun h8 eh8 => ?_)
      have hw := hw h8 eh8
      refine qx_iinc (v := (x1 + (1 : Int32))) (L' := [(1, .inl (x1 + (1 : Int32))), (0, .inr (.inr (.inl x0)))]) X d_Told_addToTally_33 1 rfl rfl (by decide) rfl ?_
      refine qx_goto X 2 d_Told_addToTally_36 (by decide) ?_
      refine qx_sub [1, 0] rfl ?_
      exact ih x0 (x1 + (1 : Int32)) h8 hw
set_option maxRecDepth 4000 in
theorem t_Told_addToTally {adK adV : Nat → Nat} (l : Launch) (D : va_G) (cy : Nat → ClassId) (b : Nat) (N : Nat) (x0 : Nat) (h : qH) (Q : qH → Prop) (hw : w_Told_addToTally N x0 h Q) : Met l y_Told_addToTally (Cond.code y_Told_addToTally prog_11_method_9_code 2 (none) :: qT) (qrm 0 0 0 0) (qPc D cy b adK adV h [qr b x0]) (qQc D cy b qrV (fun (_ : Unit) h => Q h)) 0 0 (qA b) := by
  refine qmet (L0 := [(0, .inr (.inr (.inl x0)))]) qm_Told_addToTally (plainFor_of_name (by decide)) [.inr (.inr (.inl x0))] rfl (Nat.le_of_ble_eq_true rfl) rfl (fun p e s m args below meth c X => ?_)
  unfold w_Told_addToTally at hw
  refine qx_iconst (v := (0 : Int32)) X d_Told_addToTally_0 (by decide) ?_
  refine qx_istore_n (L' := [(1, .inl (0 : Int32)), (0, .inr (.inr (.inl x0)))]) X d_Told_addToTally_1 rfl (by decide) rfl ?_
  refine qx_sub [1, 0] rfl ?_
  exact t_Told_addToTally_2 X N N x0 (0 : Int32) h Q  hw 
set_option maxRecDepth 4000 in
theorem t_Told_clearTally_10 (X : qX p s m args meth c D cy b adK adV prog_11_method_8_code "CoatHangers$Told" 3 (none) "clearTally") (N k : Nat) (x0 : Nat) (x1 : Int32) (x2 : Int32) (h : qH) (Q : qH → Prop) (K31 : Nat → Int32 → qH → Prop) (hw : w_Told_clearTally_10 N k x0 x1 x2 h Q K31) (hK31 : ∀ (x0 : Nat) (x1 : Int32) (h : qH), K31 x0 x1 h → qW p l e (qrm 0 0 0 0) s m args below meth c D cy b 3 0 0 (MQ below (qQc D cy b qrV (fun (_ : Unit) h => Q h)) args s 0 0 (qA b)) 31 [(0, .inr (.inr (.inl x0))), (1, .inl x1)] [] h) : qW p l e (qrm 0 0 0 0) s m args below meth c D cy b 3 0 0 (MQ below (qQc D cy b qrV (fun (_ : Unit) h => Q h)) args s 0 0 (qA b)) 10 [(0, .inr (.inr (.inl x0))), (1, .inl x1), (2, .inl x2)] [] h := by
  induction k generalizing x0 x1 x2 h with
  | zero => exact hw.elim
  | succ k ih =>
    refine qx_iload_n (x := x2) X d_Told_clearTally_10 rfl 2 rfl ?_
    refine qx_bipush (v := (6 : Int32)) X d_Told_clearTally_11 (by decide) ?_
    refine qx_icmp_ge X 31 d_Told_clearTally_13 (by decide) (fun q1 => ?_) (fun q1 => ?_)
    · have hw := hw.1 q1
      refine qx_sub [0, 1] rfl ?_
      exact hK31 x0 x1 h hw
    · have hw := hw.2 q1
      refine qx_aload_n (x := x0) X d_Told_clearTally_16 rfl 0 rfl ?_
      obtain ⟨g2, hw⟩ := hw
      refine qx_getR X qcls9 g2 6 (by decide) rfl wf_Told_24 d_Told_clearTally_17 ?_
      refine qx_iload_n (x := x1) X d_Told_clearTally_20 rfl 1 rfl ?_
      obtain ⟨g3, hw⟩ := hw
      refine qx_agld X g3 d_Told_clearTally_21 ?_
      refine qx_iload_n (x := x2) X d_Told_clearTally_22 rfl 2 rfl ?_
      refine qx_iconst (v := (0 : Int32)) X d_Told_clearTally_23 (by decide) ?_
      obtain ⟨g4, hw⟩ := hw
      refine qx_ist X g4 d_Told_clearTally_24 ?_
      refine qx_toph (fun h5 eh5 => ?_)
      have hw := hw h5 eh5
      refine qx_iinc (v := (x2 + (1 : Int32))) (L' := [(2, .inl (x2 + (1 : Int32))), (0, .inr (.inr (.inl x0))), (1, .inl x1)]) X d_Told_clearTally_25 2 rfl rfl (by decide) rfl ?_
      refine qx_goto X 10 d_Told_clearTally_28 (by decide) ?_
      refine qx_sub [1, 2, 0] rfl ?_
      exact ih x0 x1 (x2 + (1 : Int32)) h5 hw
set_option maxRecDepth 4000 in
theorem t_Told_clearTally_2 (X : qX p s m args meth c D cy b adK adV prog_11_method_8_code "CoatHangers$Told" 3 (none) "clearTally") (N k : Nat) (x0 : Nat) (x1 : Int32) (h : qH) (Q : qH → Prop)  (hw : w_Told_clearTally_2 N k x0 x1 h Q ) : qW p l e (qrm 0 0 0 0) s m args below meth c D cy b 3 0 0 (MQ below (qQc D cy b qrV (fun (_ : Unit) h => Q h)) args s 0 0 (qA b)) 2 [(0, .inr (.inr (.inl x0))), (1, .inl x1)] [] h := by
  induction k generalizing x0 x1 h with
  | zero => exact hw.elim
  | succ k ih =>
    refine qx_iload_n (x := x1) X d_Told_clearTally_2 rfl 1 rfl ?_
    refine qx_bipush (v := (6 : Int32)) X d_Told_clearTally_3 (by decide) ?_
    refine qx_icmp_ge X 37 d_Told_clearTally_5 (by decide) (fun q1 => ?_) (fun q1 => ?_)
    · have hw := hw.1 q1
      exact qx_vret X hw (Nat.le_refl 0) (Nat.le_refl 0) rfl d_Told_clearTally_37
    · have hw := hw.2 q1
      refine qx_iconst (v := (0 : Int32)) X d_Told_clearTally_8 (by decide) ?_
      refine qx_istore_n (L' := [(2, .inl (0 : Int32)), (0, .inr (.inr (.inl x0))), (1, .inl x1)]) X d_Told_clearTally_9 rfl (by decide) rfl ?_
      refine qx_sub [1, 2, 0] rfl ?_
      refine t_Told_clearTally_10 X N N x0 x1 (0 : Int32) h Q _ hw (fun x2 x3 h4 hw => ?_)
      refine qx_iinc (v := (x3 + (1 : Int32))) (L' := [(1, .inl (x3 + (1 : Int32))), (0, .inr (.inr (.inl x2)))]) X d_Told_clearTally_31 1 rfl rfl (by decide) rfl ?_
      refine qx_goto X 2 d_Told_clearTally_34 (by decide) ?_
      refine qx_sub [1, 0] rfl ?_
      exact ih x2 (x3 + (1 : Int32)) h4 hw
set_option maxRecDepth 4000 in
theorem t_Told_clearTally {adK adV : Nat → Nat} (l : Launch) (D : va_G) (cy : Nat → ClassId) (b : Nat) (N : Nat) (x0 : Nat) (h : qH) (Q : qH → Prop) (hw : w_Told_clearTally N x0 h Q) : Met l y_Told_clearTally (Cond.code y_Told_clearTally prog_11_method_8_code 3 (none) :: qT) (qrm 0 0 0 0) (qPc D cy b adK adV h [qr b x0]) (qQc D cy b qrV (fun (_ : Unit) h => Q h)) 0 0 (qA b) := by
  refine qmet (L0 := [(0, .inr (.inr (.inl x0)))]) qm_Told_clearTally (plainFor_of_name (by decide)) [.inr (.inr (.inl x0))] rfl (Nat.le_of_ble_eq_true rfl) rfl (fun p e s m args below meth c X => ?_)
  unfold w_Told_clearTally at hw
  refine qx_iconst (v := (0 : Int32)) X d_Told_clearTally_0 (by decide) ?_
  refine qx_istore_n (L' := [(1, .inl (0 : Int32)), (0, .inr (.inr (.inl x0)))]) X d_Told_clearTally_1 rfl (by decide) rfl ?_
  refine qx_sub [1, 0] rfl ?_
  exact t_Told_clearTally_2 X N N x0 (0 : Int32) h Q  hw 
set_option maxRecDepth 4000 in
theorem t_Told_leastAtWorst_24 (X : qX p s m args meth c D cy b adK adV prog_11_method_10_code "CoatHangers$Told" 6 (some .int) "leastAtWorst") (N k : Nat) (x0 : Nat) (x1 : Int32) (x2 : Int32) (x3 : Int32) (x4 : Int32) (x5 : Int32) (h : qH) (Q : Int32 → qH → Prop) (K58 : Nat → Int32 → Int32 → Int32 → Int32 → qH → Prop) (hw : w_Told_leastAtWorst_24 N k x0 x1 x2 x3 x4 x5 h Q K58) (hK58 : ∀ (x0 : Nat) (x1 : Int32) (x2 : Int32) (x3 : Int32) (x4 : Int32) (h : qH), K58 x0 x1 x2 x3 x4 h → qW p l e (qrm 1 0 0 13) s m args below meth c D cy b 6 0 0 (MQ below (qQc D cy b qrI Q) args s 0 0 (qA b)) 58 [(0, .inr (.inr (.inl x0))), (1, .inl x1), (2, .inl x2), (3, .inl x3), (4, .inl x4)] [] h) : qW p l e (qrm 1 0 0 13) s m args below meth c D cy b 6 0 0 (MQ below (qQc D cy b qrI Q) args s 0 0 (qA b)) 24 [(0, .inr (.inr (.inl x0))), (1, .inl x1), (2, .inl x2), (3, .inl x3), (4, .inl x4), (5, .inl x5)] [] h := by
  induction k generalizing x0 x1 x2 x3 x4 x5 h with
  | zero => exact hw.elim
  | succ k ih =>
    refine qx_iload (x := x5) X d_Told_leastAtWorst_24 5 rfl ?_
    refine qx_aload_n (x := x0) X d_Told_leastAtWorst_26 rfl 0 rfl ?_
    obtain ⟨g1, hw⟩ := hw
    refine qx_getR X qcls9 g1 0 (by decide) rfl wf_Told_31 d_Told_leastAtWorst_27 ?_
    obtain ⟨g2, hw⟩ := hw
    refine qx_getI X qcls8 g2 3 (by decide) rfl wf_Told_52 d_Told_leastAtWorst_30 ?_
    refine qx_icmp_ge X 58 d_Told_leastAtWorst_33 (by decide) (fun q3 => ?_) (fun q3 => ?_)
    · have hw := hw.1 q3
      refine qx_sub [0, 1, 2, 3, 4] rfl ?_
      exact hK58 x0 x1 x2 x3 x4 h hw
    · have hw := hw.2 q3
      refine qx_iload (x := x4) X d_Told_leastAtWorst_36 4 rfl ?_
      refine qx_aload_n (x := x0) X d_Told_leastAtWorst_38 rfl 0 rfl ?_
      refine qx_getR X qcls9 g1 6 (by decide) rfl wf_Told_24 d_Told_leastAtWorst_39 ?_
      refine qx_iload_n (x := x3) X d_Told_leastAtWorst_42 rfl 3 rfl ?_
      obtain ⟨g4, hw⟩ := hw
      refine qx_agld X g4 d_Told_leastAtWorst_43 ?_
      refine qx_iload (x := x5) X d_Told_leastAtWorst_44 5 rfl ?_
      obtain ⟨g5, hw⟩ := hw
      refine qx_ild X g5 d_Told_leastAtWorst_46 ?_
      refine qx_mmax X wm_Told_90 ws_mmax wz_Math wk_mmax (Nat.le_of_ble_eq_true rfl) (Nat.le_of_ble_eq_true rfl) (Nat.le_of_ble_eq_true rfl) (Nat.le_of_ble_eq_true rfl) d_Told_leastAtWorst_47 ?_
      refine qx_topi (fun y6 ey6 => ?_)
      have hw := hw y6 ey6
      refine qx_istore (L' := [(4, .inl y6), (0, .inr (.inr (.inl x0))), (1, .inl x1), (2, .inl x2), (3, .inl x3), (5, .inl x5)]) X d_Told_leastAtWorst_50 (by decide) rfl ?_
      refine qx_iinc (v := (x5 + (1 : Int32))) (L' := [(5, .inl (x5 + (1 : Int32))), (4, .inl y6), (0, .inr (.inr (.inl x0))), (1, .inl x1), (2, .inl x2), (3, .inl x3)]) X d_Told_leastAtWorst_52 5 rfl rfl (by decide) rfl ?_
      refine qx_goto X 24 d_Told_leastAtWorst_55 (by decide) ?_
      refine qx_sub [2, 3, 4, 5, 1, 0] rfl ?_
      exact ih x0 x1 x2 x3 y6 (x5 + (1 : Int32)) h hw
set_option maxRecDepth 4000 in
theorem t_Told_leastAtWorst_7 (X : qX p s m args meth c D cy b adK adV prog_11_method_10_code "CoatHangers$Told" 6 (some .int) "leastAtWorst") (N k : Nat) (x0 : Nat) (x1 : Int32) (x2 : Int32) (x3 : Int32) (h : qH) (Q : Int32 → qH → Prop)  (hw : w_Told_leastAtWorst_7 N k x0 x1 x2 x3 h Q ) : qW p l e (qrm 1 0 0 13) s m args below meth c D cy b 6 0 0 (MQ below (qQc D cy b qrI Q) args s 0 0 (qA b)) 7 [(0, .inr (.inr (.inl x0))), (1, .inl x1), (2, .inl x2), (3, .inl x3)] [] h := by
  induction k generalizing x0 x1 x2 x3 h with
  | zero => exact hw.elim
  | succ k ih =>
    refine qx_iload_n (x := x3) X d_Told_leastAtWorst_7 rfl 3 rfl ?_
    refine qx_aload_n (x := x0) X d_Told_leastAtWorst_8 rfl 0 rfl ?_
    obtain ⟨g1, hw⟩ := hw
    refine qx_getR X qcls9 g1 0 (by decide) rfl wf_Told_31 d_Told_leastAtWorst_9 ?_
    obtain ⟨g2, hw⟩ := hw
    refine qx_getI X qcls8 g2 3 (by decide) rfl wf_Told_52 d_Told_leastAtWorst_12 ?_
    refine qx_icmp_ge X 81 d_Told_leastAtWorst_15 (by decide) (fun q3 => ?_) (fun q3 => ?_)
    · have hw := hw.1 q3
      refine qx_iload_n (x := x1) X d_Told_leastAtWorst_81 rfl 1 rfl ?_
      exact qx_iret X hw (Nat.le_refl 0) (Nat.le_refl 0) rfl d_Told_leastAtWorst_82
    · have hw := hw.2 q3
      refine qx_iconst (v := (0 : Int32)) X d_Told_leastAtWorst_18 (by decide) ?_
      refine qx_istore (L' := [(4, .inl (0 : Int32)), (0, .inr (.inr (.inl x0))), (1, .inl x1), (2, .inl x2), (3, .inl x3)]) X d_Told_leastAtWorst_19 (by decide) rfl ?_
      refine qx_iconst (v := (0 : Int32)) X d_Told_leastAtWorst_21 (by decide) ?_
      refine qx_istore (L' := [(5, .inl (0 : Int32)), (4, .inl (0 : Int32)), (0, .inr (.inr (.inl x0))), (1, .inl x1), (2, .inl x2), (3, .inl x3)]) X d_Told_leastAtWorst_22 (by decide) rfl ?_
      refine qx_sub [2, 3, 4, 5, 1, 0] rfl ?_
      refine t_Told_leastAtWorst_24 X N N x0 x1 x2 x3 (0 : Int32) (0 : Int32) h Q _ hw (fun x4 x5 x6 x7 x8 h9 hw => ?_)
      refine qx_iload_n (x := x5) X d_Told_leastAtWorst_58 rfl 1 rfl ?_
      refine qx_bipush (v := (-2 : Int32)) X d_Told_leastAtWorst_59 (by decide) ?_
      refine qx_icmp_eq X 70 d_Told_leastAtWorst_61 (by decide) (fun q10 => ?_) (fun q10 => ?_)
      · have hw := hw.1 q10
        refine qx_iload_n (x := x7) X d_Told_leastAtWorst_70 rfl 3 rfl ?_
        refine qx_istore_n (L' := [(1, .inl x7), (0, .inr (.inr (.inl x4))), (2, .inl x6), (3, .inl x7), (4, .inl x8)]) X d_Told_leastAtWorst_71 rfl (by decide) rfl ?_
        refine qx_iload (x := x8) X d_Told_leastAtWorst_72 4 rfl ?_
        refine qx_istore_n (L' := [(2, .inl x8), (1, .inl x7), (0, .inr (.inr (.inl x4))), (3, .inl x7), (4, .inl x8)]) X d_Told_leastAtWorst_74 rfl (by decide) rfl ?_
        refine qx_iinc (v := (x7 + (1 : Int32))) (L' := [(3, .inl (x7 + (1 : Int32))), (2, .inl x8), (1, .inl x7), (0, .inr (.inr (.inl x4))), (4, .inl x8)]) X d_Told_leastAtWorst_75 3 rfl rfl (by decide) rfl ?_
        refine qx_goto X 7 d_Told_leastAtWorst_78 (by decide) ?_
        refine qx_sub [3, 2, 1, 0] rfl ?_
        exact ih x4 x7 x8 (x7 + (1 : Int32)) h9 hw
      · have hw := hw.2 q10
        refine qx_iload (x := x8) X d_Told_leastAtWorst_64 4 rfl ?_
        refine qx_iload_n (x := x6) X d_Told_leastAtWorst_66 rfl 2 rfl ?_
        refine qx_icmp_ge X 75 d_Told_leastAtWorst_67 (by decide) (fun q11 => ?_) (fun q11 => ?_)
        · have hw := hw.1 q11
          refine qx_iinc (v := (x7 + (1 : Int32))) (L' := [(3, .inl (x7 + (1 : Int32))), (0, .inr (.inr (.inl x4))), (1, .inl x5), (2, .inl x6), (4, .inl x8)]) X d_Told_leastAtWorst_75 3 rfl rfl (by decide) rfl ?_
          refine qx_goto X 7 d_Told_leastAtWorst_78 (by decide) ?_
          refine qx_sub [1, 2, 3, 0] rfl ?_
          exact ih x4 x5 x6 (x7 + (1 : Int32)) h9 hw
        · have hw := hw.2 q11
          refine qx_iload_n (x := x7) X d_Told_leastAtWorst_70 rfl 3 rfl ?_
          refine qx_istore_n (L' := [(1, .inl x7), (0, .inr (.inr (.inl x4))), (2, .inl x6), (3, .inl x7), (4, .inl x8)]) X d_Told_leastAtWorst_71 rfl (by decide) rfl ?_
          refine qx_iload (x := x8) X d_Told_leastAtWorst_72 4 rfl ?_
          refine qx_istore_n (L' := [(2, .inl x8), (1, .inl x7), (0, .inr (.inr (.inl x4))), (3, .inl x7), (4, .inl x8)]) X d_Told_leastAtWorst_74 rfl (by decide) rfl ?_
          refine qx_iinc (v := (x7 + (1 : Int32))) (L' := [(3, .inl (x7 + (1 : Int32))), (2, .inl x8), (1, .inl x7), (0, .inr (.inr (.inl x4))), (4, .inl x8)]) X d_Told_leastAtWorst_75 3 rfl rfl (by decide) rfl ?_
          refine qx_goto X 7 d_Told_leastAtWorst_78 (by decide) ?_
          refine qx_sub [3, 2, 1, 0] rfl ?_
          exact ih x4 x7 x8 (x7 + (1 : Int32)) h9 hw
set_option maxRecDepth 4000 in
theorem t_Told_leastAtWorst {adK adV : Nat → Nat} (l : Launch) (D : va_G) (cy : Nat → ClassId) (b : Nat) (N : Nat) (x0 : Nat) (h : qH) (Q : Int32 → qH → Prop) (hw : w_Told_leastAtWorst N x0 h Q) : Met l y_Told_leastAtWorst (Cond.code y_Told_leastAtWorst prog_11_method_10_code 6 (some .int) :: qT) (qrm 1 0 0 13) (qPc D cy b adK adV h [qr b x0]) (qQc D cy b qrI Q) 0 0 (qA b) := by
  refine qmet (L0 := [(0, .inr (.inr (.inl x0)))]) qm_Told_leastAtWorst (plainFor_of_name (by decide)) [.inr (.inr (.inl x0))] rfl (Nat.le_of_ble_eq_true rfl) rfl (fun p e s m args below meth c X => ?_)
  unfold w_Told_leastAtWorst at hw
  refine qx_bipush (v := (-2 : Int32)) X d_Told_leastAtWorst_0 (by decide) ?_
  refine qx_istore_n (L' := [(1, .inl (-2 : Int32)), (0, .inr (.inr (.inl x0)))]) X d_Told_leastAtWorst_2 rfl (by decide) rfl ?_
  refine qx_iconst (v := (0 : Int32)) X d_Told_leastAtWorst_3 (by decide) ?_
  refine qx_istore_n (L' := [(2, .inl (0 : Int32)), (1, .inl (-2 : Int32)), (0, .inr (.inr (.inl x0)))]) X d_Told_leastAtWorst_4 rfl (by decide) rfl ?_
  refine qx_iconst (v := (0 : Int32)) X d_Told_leastAtWorst_5 (by decide) ?_
  refine qx_istore_n (L' := [(3, .inl (0 : Int32)), (2, .inl (0 : Int32)), (1, .inl (-2 : Int32)), (0, .inr (.inr (.inl x0)))]) X d_Told_leastAtWorst_6 rfl (by decide) rfl ?_
  refine qx_sub [3, 2, 1, 0] rfl ?_
  exact t_Told_leastAtWorst_7 X N N x0 (-2 : Int32) (0 : Int32) (0 : Int32) h Q  hw 
set_option maxRecDepth 4000 in
theorem t_Told_whomToAsk_27 (X : qX p s m args meth c D cy b adK adV prog_11_method_6_code "CoatHangers$Told" 6 (some .int) "whomToAsk") (N k : Nat) (x0 : Nat) (x1 : Nat) (x2 : Int32) (x3 : Int32) (x4 : Int32) (x5 : Int32) (h : qH) (Q : Int32 → qH → Prop) (K64 : Nat → Nat → Int32 → Int32 → Int32 → qH → Prop) (hw : w_Told_whomToAsk_27 N k x0 x1 x2 x3 x4 x5 h Q K64) (hK64 : ∀ (x0 : Nat) (x1 : Nat) (x2 : Int32) (x3 : Int32) (x4 : Int32) (h : qH), K64 x0 x1 x2 x3 x4 h → qW p l e (qrm 4 0 0 94) s m args below meth c D cy b 6 0 0 (MQ below (qQc D cy b qrI Q) args s 0 0 (qA b)) 64 [(0, .inr (.inr (.inl x0))), (1, .inr (.inr (.inl x1))), (2, .inl x2), (3, .inl x3), (4, .inl x4)] [] h) : qW p l e (qrm 4 0 0 94) s m args below meth c D cy b 6 0 0 (MQ below (qQc D cy b qrI Q) args s 0 0 (qA b)) 27 [(0, .inr (.inr (.inl x0))), (1, .inr (.inr (.inl x1))), (2, .inl x2), (3, .inl x3), (4, .inl x4), (5, .inl x5)] [] h := by
  induction k generalizing x0 x1 x2 x3 x4 x5 h with
  | zero => exact hw.elim
  | succ k ih =>
    refine qx_iload (x := x5) X d_Told_whomToAsk_27 5 rfl ?_
    refine qx_aload_n (x := x0) X d_Told_whomToAsk_29 rfl 0 rfl ?_
    obtain ⟨g1, hw⟩ := hw
    refine qx_getR X qcls9 g1 0 (by decide) rfl wf_Told_31 d_Told_whomToAsk_30 ?_
    obtain ⟨g2, hw⟩ := hw
    refine qx_getI X qcls8 g2 3 (by decide) rfl wf_Told_52 d_Told_whomToAsk_33 ?_
    refine qx_icmp_ge X 64 d_Told_whomToAsk_36 (by decide) (fun q3 => ?_) (fun q3 => ?_)
    · have hw := hw.1 q3
      refine qx_sub [0, 1, 2, 3, 4] rfl ?_
      exact hK64 x0 x1 x2 x3 x4 h hw
    · have hw := hw.2 q3
      refine qx_aload_n (x := x0) X d_Told_whomToAsk_39 rfl 0 rfl ?_
      refine qx_aload_n (x := x1) X d_Told_whomToAsk_40 rfl 1 rfl ?_
      refine qx_iload (x := x4) X d_Told_whomToAsk_41 4 rfl ?_
      refine qx_iload (x := x5) X d_Told_whomToAsk_43 5 rfl ?_
      refine qx_iload_n (x := x2) X d_Told_whomToAsk_45 rfl 2 rfl ?_
      refine qx_callVI (st := []) (As := [qr b x1, .int x4, .int x5, .int x2]) X (t_Told_canBe (adK := adK) (adV := adV) l D cy b N x0 x1 x4 x5 x2 h _ hw) qm_Told_canBe wm_Told_56 wi_Told_canBe wl_Told_canBe qcls9 g1 rfl rfl rfl ⟨Nat.le_of_ble_eq_true rfl, Nat.le_of_ble_eq_true rfl⟩ ⟨Nat.le_refl 0, Nat.le_refl 0⟩ (Nat.le_of_ble_eq_true rfl) rfl d_Told_whomToAsk_46 (fun r4 h5 hw => ?_)
      refine qx_if_eq X 58 d_Told_whomToAsk_49 (by decide) (fun q6 => ?_) (fun q6 => ?_)
      · have hw := hw.1 q6
        refine qx_iinc (v := (x5 + (1 : Int32))) (L' := [(5, .inl (x5 + (1 : Int32))), (0, .inr (.inr (.inl x0))), (1, .inr (.inr (.inl x1))), (2, .inl x2), (3, .inl x3), (4, .inl x4)]) X d_Told_whomToAsk_58 5 rfl rfl (by decide) rfl ?_
        refine qx_goto X 27 d_Told_whomToAsk_61 (by decide) ?_
        refine qx_sub [1, 2, 3, 4, 5, 0] rfl ?_
        exact ih x0 x1 x2 x3 x4 (x5 + (1 : Int32)) h5 hw
      · have hw := hw.2 q6
        refine qx_iconst (v := (1 : Int32)) X d_Told_whomToAsk_52 (by decide) ?_
        refine qx_istore_n (L' := [(3, .inl (1 : Int32)), (0, .inr (.inr (.inl x0))), (1, .inr (.inr (.inl x1))), (2, .inl x2), (4, .inl x4), (5, .inl x5)]) X d_Told_whomToAsk_53 rfl (by decide) rfl ?_
        refine qx_aload_n (x := x0) X d_Told_whomToAsk_54 rfl 1 rfl ?_
        obtain ⟨g7, hw⟩ := hw
        refine qx_callVV (st := []) (As := []) X (t_Told_addToTally (adK := adK) (adV := adV) l D cy b N x0 h5 _ hw) qm_Told_addToTally wm_Told_63 wi_Told_addToTally wl_Told_addToTally qcls9 g7 rfl rfl rfl ⟨Nat.le_of_ble_eq_true rfl, Nat.le_of_ble_eq_true rfl⟩ ⟨Nat.le_refl 0, Nat.le_refl 0⟩ (Nat.le_of_ble_eq_true rfl) rfl d_Told_whomToAsk_55 (fun h8 hw => ?_)
        refine qx_iinc (v := (x5 + (1 : Int32))) (L' := [(5, .inl (x5 + (1 : Int32))), (3, .inl (1 : Int32)), (0, .inr (.inr (.inl x0))), (1, .inr (.inr (.inl x1))), (2, .inl x2), (4, .inl x4)]) X d_Told_whomToAsk_58 5 rfl rfl (by decide) rfl ?_
        refine qx_goto X 27 d_Told_whomToAsk_61 (by decide) ?_
        refine qx_sub [2, 3, 4, 1, 5, 0] rfl ?_
        exact ih x0 x1 x2 (1 : Int32) x4 (x5 + (1 : Int32)) h8 hw
set_option maxRecDepth 4000 in
theorem t_Told_whomToAsk_9 (X : qX p s m args meth c D cy b adK adV prog_11_method_6_code "CoatHangers$Told" 6 (some .int) "whomToAsk") (N k : Nat) (x0 : Nat) (x1 : Nat) (x2 : Int32) (x3 : Int32) (x4 : Int32) (h : qH) (Q : Int32 → qH → Prop)  (hw : w_Told_whomToAsk_9 N k x0 x1 x2 x3 x4 h Q ) : qW p l e (qrm 4 0 0 94) s m args below meth c D cy b 6 0 0 (MQ below (qQc D cy b qrI Q) args s 0 0 (qA b)) 9 [(0, .inr (.inr (.inl x0))), (1, .inr (.inr (.inl x1))), (2, .inl x2), (3, .inl x3), (4, .inl x4)] [] h := by
  induction k generalizing x0 x1 x2 x3 x4 h with
  | zero => exact hw.elim
  | succ k ih =>
    refine qx_iload (x := x4) X d_Told_whomToAsk_9 4 rfl ?_
    refine qx_aload_n (x := x0) X d_Told_whomToAsk_11 rfl 0 rfl ?_
    obtain ⟨g1, hw⟩ := hw
    refine qx_getR X qcls9 g1 0 (by decide) rfl wf_Told_31 d_Told_whomToAsk_12 ?_
    obtain ⟨g2, hw⟩ := hw
    refine qx_getI X qcls8 g2 3 (by decide) rfl wf_Told_52 d_Told_whomToAsk_15 ?_
    refine qx_icmp_ge X 70 d_Told_whomToAsk_18 (by decide) (fun q3 => ?_) (fun q3 => ?_)
    · have hw := hw.1 q3
      refine qx_iload_n (x := x3) X d_Told_whomToAsk_70 rfl 3 rfl ?_
      refine qx_if_eq X 81 d_Told_whomToAsk_71 (by decide) (fun q4 => ?_) (fun q4 => ?_)
      · have hw := hw.1 q4
        refine qx_bipush (v := (-2 : Int32)) X d_Told_whomToAsk_81 (by decide) ?_
        exact qx_iret X hw (Nat.le_refl 0) (Nat.le_refl 0) rfl d_Told_whomToAsk_83
      · have hw := hw.2 q4
        refine qx_aload_n (x := x0) X d_Told_whomToAsk_74 rfl 0 rfl ?_
        refine qx_callVI (st := []) (As := []) X (t_Told_leastAtWorst (adK := adK) (adV := adV) l D cy b N x0 h _ hw) qm_Told_leastAtWorst wm_Told_66 wi_Told_leastAtWorst wl_Told_leastAtWorst qcls9 g1 rfl rfl rfl ⟨Nat.le_of_ble_eq_true rfl, Nat.le_of_ble_eq_true rfl⟩ ⟨Nat.le_refl 0, Nat.le_refl 0⟩ (Nat.le_of_ble_eq_true rfl) rfl d_Told_whomToAsk_75 (fun r5 h6 hw => ?_)
        refine qx_goto X 83 d_Told_whomToAsk_78 (by decide) ?_
        exact qx_iret X hw (Nat.le_refl 0) (Nat.le_refl 0) rfl d_Told_whomToAsk_83
    · have hw := hw.2 q3
      refine qx_iload (x := x4) X d_Told_whomToAsk_21 4 rfl ?_
      refine qx_iconst (v := (1 : Int32)) X d_Told_whomToAsk_23 (by decide) ?_
      refine qx_iadd X d_Told_whomToAsk_24 ?_
      refine qx_topi (fun y7 ey7 => ?_)
      have hw := hw y7 ey7
      refine qx_istore (L' := [(5, .inl y7), (0, .inr (.inr (.inl x0))), (1, .inr (.inr (.inl x1))), (2, .inl x2), (3, .inl x3), (4, .inl x4)]) X d_Told_whomToAsk_25 (by decide) rfl ?_
      refine qx_sub [1, 2, 3, 4, 5, 0] rfl ?_
      refine t_Told_whomToAsk_27 X N N x0 x1 x2 x3 x4 y7 h Q _ hw (fun x8 x9 x10 x11 x12 h13 hw => ?_)
      refine qx_iinc (v := (x12 + (1 : Int32))) (L' := [(4, .inl (x12 + (1 : Int32))), (0, .inr (.inr (.inl x8))), (1, .inr (.inr (.inl x9))), (2, .inl x10), (3, .inl x11)]) X d_Told_whomToAsk_64 4 rfl rfl (by decide) rfl ?_
      refine qx_goto X 9 d_Told_whomToAsk_67 (by decide) ?_
      refine qx_sub [1, 2, 3, 4, 0] rfl ?_
      exact ih x8 x9 x10 x11 (x12 + (1 : Int32)) h13 hw
set_option maxRecDepth 4000 in
theorem t_Told_whomToAsk {adK adV : Nat → Nat} (l : Launch) (D : va_G) (cy : Nat → ClassId) (b : Nat) (N : Nat) (x0 : Nat) (x1 : Nat) (x2 : Int32) (h : qH) (Q : Int32 → qH → Prop) (hw : w_Told_whomToAsk N x0 x1 x2 h Q) : Met l y_Told_whomToAsk (Cond.code y_Told_whomToAsk prog_11_method_6_code 6 (some .int) :: qT) (qrm 4 0 0 94) (qPc D cy b adK adV h [qr b x0, qr b x1, .int x2]) (qQc D cy b qrI Q) 0 0 (qA b) := by
  refine qmet (L0 := [(0, .inr (.inr (.inl x0))), (1, .inr (.inr (.inl x1))), (2, .inl x2)]) qm_Told_whomToAsk (plainFor_of_name (by decide)) [.inr (.inr (.inl x0)), .inr (.inr (.inl x1)), .inl x2] rfl (Nat.le_of_ble_eq_true rfl) rfl (fun p e s m args below meth c X => ?_)
  unfold w_Told_whomToAsk at hw
  refine qx_aload_n (x := x0) X d_Told_whomToAsk_0 rfl 0 rfl ?_
  obtain ⟨g1, hw⟩ := hw
  refine qx_callVV (st := []) (As := []) X (t_Told_clearTally (adK := adK) (adV := adV) l D cy b N x0 h _ hw) qm_Told_clearTally wm_Told_60 wi_Told_clearTally wl_Told_clearTally qcls9 g1 rfl rfl rfl ⟨Nat.le_of_ble_eq_true rfl, Nat.le_of_ble_eq_true rfl⟩ ⟨Nat.le_refl 0, Nat.le_refl 0⟩ (Nat.le_of_ble_eq_true rfl) rfl d_Told_whomToAsk_1 (fun h2 hw => ?_)
  refine qx_iconst (v := (0 : Int32)) X d_Told_whomToAsk_4 (by decide) ?_
  refine qx_istore_n (L' := [(3, .inl (0 : Int32)), (0, .inr (.inr (.inl x0))), (1, .inr (.inr (.inl x1))), (2, .inl x2)]) X d_Told_whomToAsk_5 rfl (by decide) rfl ?_
  refine qx_iconst (v := (0 : Int32)) X d_Told_whomToAsk_6 (by decide) ?_
  refine qx_istore (L' := [(4, .inl (0 : Int32)), (3, .inl (0 : Int32)), (0, .inr (.inr (.inl x0))), (1, .inr (.inr (.inl x1))), (2, .inl x2)]) X d_Told_whomToAsk_7 (by decide) rfl ?_
  refine qx_sub [2, 3, 4, 1, 0] rfl ?_
  exact t_Told_whomToAsk_9 X N N x0 x1 x2 (0 : Int32) (0 : Int32) h2 Q  hw 
end QG
