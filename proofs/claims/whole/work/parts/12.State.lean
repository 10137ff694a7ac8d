/-! State: written by wip/whole/emit.py out of the bytecode -/
def y_State_isHung : MethodName := ⟨"CoatHangers$State", "isHung", "(I)Z"⟩
theorem qm_State_isHung : qMt y_State_isHung prog_8_method_5_code 2 (some .boolean) 1 := ⟨qT_4 (i := 81) (by decide +kernel) rfl, qT_1 (i := 11) (by decide +kernel) rfl, by decide, by decide, by decide +kernel⟩
theorem wi_State_isHung : Cond.instanceMethod y_State_isHung ∈ qT := qT_4 (i := 79) (by decide +kernel) rfl
theorem wl_State_isHung : Cond.selects y_State_isHung.cls y_State_isHung y_State_isHung ∈ qT := qT_4 (i := 80) (by decide +kernel) rfl
def y_State_nailOf : MethodName := ⟨"CoatHangers$State", "nailOf", "(I)I"⟩
theorem qm_State_nailOf : qMt y_State_nailOf prog_8_method_8_code 3 (some .int) 1 := ⟨qT_4 (i := 85) (by decide +kernel) rfl, qT_1 (i := 11) (by decide +kernel) rfl, by decide, by decide, by decide +kernel⟩
theorem wi_State_nailOf : Cond.instanceMethod y_State_nailOf ∈ qT := qT_4 (i := 83) (by decide +kernel) rfl
theorem wl_State_nailOf : Cond.selects y_State_nailOf.cls y_State_nailOf y_State_nailOf ∈ qT := qT_4 (i := 84) (by decide +kernel) rfl
def y_State_peopleOnNail : MethodName := ⟨"CoatHangers$State", "peopleOnNail", "(I)I"⟩
theorem qm_State_peopleOnNail : qMt y_State_peopleOnNail prog_8_method_9_code 4 (some .int) 1 := ⟨qT_4 (i := 89) (by decide +kernel) rfl, qT_1 (i := 11) (by decide +kernel) rfl, by decide, by decide, by decide +kernel⟩
theorem wi_State_peopleOnNail : Cond.instanceMethod y_State_peopleOnNail ∈ qT := qT_4 (i := 87) (by decide +kernel) rfl
theorem wl_State_peopleOnNail : Cond.selects y_State_peopleOnNail.cls y_State_peopleOnNail y_State_peopleOnNail ∈ qT := qT_4 (i := 88) (by decide +kernel) rfl
def y_State_othersBeside : MethodName := ⟨"CoatHangers$State", "othersBeside", "(I)I"⟩
theorem qm_State_othersBeside : qMt y_State_othersBeside prog_8_method_10_code 2 (some .int) 1 := ⟨qT_4 (i := 77) (by decide +kernel) rfl, qT_1 (i := 11) (by decide +kernel) rfl, by decide, by decide, by decide +kernel⟩
theorem wi_State_othersBeside : Cond.instanceMethod y_State_othersBeside ∈ qT := qT_4 (i := 75) (by decide +kernel) rfl
theorem wl_State_othersBeside : Cond.selects y_State_othersBeside.cls y_State_othersBeside y_State_othersBeside ∈ qT := qT_4 (i := 76) (by decide +kernel) rfl
def y_State_begin : MethodName := ⟨"CoatHangers$State", "begin", "()V"⟩
theorem qm_State_begin : qMt y_State_begin prog_8_method_2_code 2 (none) 0 := ⟨qT_2 (i := 64) (by decide +kernel) rfl, qT_1 (i := 11) (by decide +kernel) rfl, by decide, by decide, by decide +kernel⟩
theorem wi_State_begin : Cond.instanceMethod y_State_begin ∈ qT := qT_2 (i := 62) (by decide +kernel) rfl
theorem wl_State_begin : Cond.selects y_State_begin.cls y_State_begin y_State_begin ∈ qT := qT_2 (i := 63) (by decide +kernel) rfl
def y_State_become : MethodName := ⟨"CoatHangers$State", "become", "(LCoatHangers$State;)V"⟩
theorem qm_State_become : qMt y_State_become prog_8_method_3_code 2 (none) 1 := ⟨qT_4 (i := 142) (by decide +kernel) rfl, qT_1 (i := 11) (by decide +kernel) rfl, by decide, by decide, by decide +kernel⟩
theorem wi_State_become : Cond.instanceMethod y_State_become ∈ qT := qT_4 (i := 140) (by decide +kernel) rfl
theorem wl_State_become : Cond.selects y_State_become.cls y_State_become y_State_become ∈ qT := qT_4 (i := 141) (by decide +kernel) rfl
def y_State_exchange : MethodName := ⟨"CoatHangers$State", "exchange", "(II)V"⟩
theorem qm_State_exchange : qMt y_State_exchange prog_8_method_4_code 4 (none) 2 := ⟨qT_4 (i := 156) (by decide +kernel) rfl, qT_1 (i := 11) (by decide +kernel) rfl, by decide, by decide, by decide +kernel⟩
theorem wi_State_exchange : Cond.instanceMethod y_State_exchange ∈ qT := qT_4 (i := 154) (by decide +kernel) rfl
theorem wl_State_exchange : Cond.selects y_State_exchange.cls y_State_exchange y_State_exchange ∈ qT := qT_4 (i := 155) (by decide +kernel) rfl
def y_State_whoIsOn : MethodName := ⟨"CoatHangers$State", "whoIsOn", "(I)I"⟩
theorem qm_State_whoIsOn : qMt y_State_whoIsOn prog_8_method_7_code 3 (some .int) 1 := ⟨qT_4 (i := 65) (by decide +kernel) rfl, qT_1 (i := 11) (by decide +kernel) rfl, by decide, by decide, by decide +kernel⟩
theorem wi_State_whoIsOn : Cond.instanceMethod y_State_whoIsOn ∈ qT := qT_4 (i := 63) (by decide +kernel) rfl
theorem wl_State_whoIsOn : Cond.selects y_State_whoIsOn.cls y_State_whoIsOn y_State_whoIsOn ∈ qT := qT_4 (i := 64) (by decide +kernel) rfl
def y_State_isTaken : MethodName := ⟨"CoatHangers$State", "isTaken", "(I)Z"⟩
theorem qm_State_isTaken : qMt y_State_isTaken prog_8_method_6_code 2 (some .boolean) 1 := ⟨qT_4 (i := 133) (by decide +kernel) rfl, qT_1 (i := 11) (by decide +kernel) rfl, by decide, by decide, by decide +kernel⟩
theorem wi_State_isTaken : Cond.instanceMethod y_State_isTaken ∈ qT := qT_4 (i := 131) (by decide +kernel) rfl
theorem wl_State_isTaken : Cond.selects y_State_isTaken.cls y_State_isTaken y_State_isTaken ∈ qT := qT_4 (i := 132) (by decide +kernel) rfl
def y_State_hasSelvesOf : MethodName := ⟨"CoatHangers$State", "hasSelvesOf", "(LCoatHangers$State;)Z"⟩
theorem qm_State_hasSelvesOf : qMt y_State_hasSelvesOf prog_8_method_11_code 3 (some .boolean) 1 := ⟨qT_5 (i := 133) (by decide +kernel) rfl, qT_1 (i := 11) (by decide +kernel) rfl, by decide, by decide, by decide +kernel⟩
theorem wi_State_hasSelvesOf : Cond.instanceMethod y_State_hasSelvesOf ∈ qT := qT_5 (i := 131) (by decide +kernel) rfl
theorem wl_State_hasSelvesOf : Cond.selects y_State_hasSelvesOf.cls y_State_hasSelvesOf y_State_hasSelvesOf ∈ qT := qT_5 (i := 132) (by decide +kernel) rfl
def y_State_bitsOfHung : MethodName := ⟨"CoatHangers$State", "bitsOfHung", "()I"⟩
theorem qm_State_bitsOfHung : qMt y_State_bitsOfHung prog_8_method_12_code 3 (some .int) 0 := ⟨qT_6 (i := 6) (by decide +kernel) rfl, qT_1 (i := 11) (by decide +kernel) rfl, by decide, by decide, by decide +kernel⟩
theorem wi_State_bitsOfHung : Cond.instanceMethod y_State_bitsOfHung ∈ qT := qT_6 (i := 4) (by decide +kernel) rfl
theorem wl_State_bitsOfHung : Cond.selects y_State_bitsOfHung.cls y_State_bitsOfHung y_State_bitsOfHung ∈ qT := qT_6 (i := 5) (by decide +kernel) rfl
def y_State_bitsOfTaken : MethodName := ⟨"CoatHangers$State", "bitsOfTaken", "()I"⟩
theorem qm_State_bitsOfTaken : qMt y_State_bitsOfTaken prog_8_method_13_code 3 (some .int) 0 := ⟨qT_6 (i := 10) (by decide +kernel) rfl, qT_1 (i := 11) (by decide +kernel) rfl, by decide, by decide, by decide +kernel⟩
theorem wi_State_bitsOfTaken : Cond.instanceMethod y_State_bitsOfTaken ∈ qT := qT_6 (i := 8) (by decide +kernel) rfl
theorem wl_State_bitsOfTaken : Cond.selects y_State_bitsOfTaken.cls y_State_bitsOfTaken y_State_bitsOfTaken ∈ qT := qT_6 (i := 9) (by decide +kernel) rfl
def y_State_bitsOfOwnSelves : MethodName := ⟨"CoatHangers$State", "bitsOfOwnSelves", "()I"⟩
theorem qm_State_bitsOfOwnSelves : qMt y_State_bitsOfOwnSelves prog_8_method_14_code 3 (some .int) 0 := ⟨qT_5 (i := 78) (by decide +kernel) rfl, qT_1 (i := 11) (by decide +kernel) rfl, by decide, by decide, by decide +kernel⟩
theorem wi_State_bitsOfOwnSelves : Cond.instanceMethod y_State_bitsOfOwnSelves ∈ qT := qT_5 (i := 76) (by decide +kernel) rfl
theorem wl_State_bitsOfOwnSelves : Cond.selects y_State_bitsOfOwnSelves.cls y_State_bitsOfOwnSelves y_State_bitsOfOwnSelves ∈ qT := qT_5 (i := 77) (by decide +kernel) rfl
def y_State_bitsOfSharedNails : MethodName := ⟨"CoatHangers$State", "bitsOfSharedNails", "()I"⟩
theorem qm_State_bitsOfSharedNails : qMt y_State_bitsOfSharedNails prog_8_method_15_code 3 (some .int) 0 := ⟨qT_6 (i := 19) (by decide +kernel) rfl, qT_1 (i := 11) (by decide +kernel) rfl, by decide, by decide, by decide +kernel⟩
theorem wi_State_bitsOfSharedNails : Cond.instanceMethod y_State_bitsOfSharedNails ∈ qT := qT_6 (i := 17) (by decide +kernel) rfl
theorem wl_State_bitsOfSharedNails : Cond.selects y_State_bitsOfSharedNails.cls y_State_bitsOfSharedNails y_State_bitsOfSharedNails ∈ qT := qT_6 (i := 18) (by decide +kernel) rfl
theorem wf_State_15 : Cond.fieldLink "CoatHangers$State" 15 "CoatHangers$State" "on" "[I" ∈ qT := qT_2 (i := 74) (by decide +kernel) rfl
theorem wf_State_27 : Cond.fieldLink "CoatHangers$State" 27 "CoatHangers$State" "text" "LCoatHangers$Text;" ∈ qT := qT_2 (i := 65) (by decide +kernel) rfl
theorem wf_State_59 : Cond.fieldLink "CoatHangers$State" 59 "CoatHangers$Text" "nail" "[I" ∈ qT := qT_1 (i := 164) (by decide +kernel) rfl
theorem wf_State_56 : Cond.fieldLink "CoatHangers$State" 56 "CoatHangers$Text" "people" "I" ∈ qT := qT_1 (i := 176) (by decide +kernel) rfl
theorem wm_State_62 : Cond.methodLink "CoatHangers$State" 62 y_State_nailOf ∈ qT := qT_4 (i := 82) (by decide +kernel) rfl
theorem wm_State_65 : Cond.methodLink "CoatHangers$State" 65 y_State_isHung ∈ qT := qT_4 (i := 78) (by decide +kernel) rfl
theorem wm_State_69 : Cond.methodLink "CoatHangers$State" 69 y_State_peopleOnNail ∈ qT := qT_4 (i := 86) (by decide +kernel) rfl
theorem wf_State_34 : Cond.fieldLink "CoatHangers$State" 34 "CoatHangers$State" "night" "I" ∈ qT := qT_2 (i := 66) (by decide +kernel) rfl
theorem wf_State_9 : Cond.fieldLink "CoatHangers$State" 9 "CoatHangers$State" "wide" "[I" ∈ qT := qT_2 (i := 70) (by decide +kernel) rfl
theorem wf_State_38 : Cond.fieldLink "CoatHangers$State" 38 "CoatHangers$Text" "shoulders" "[I" ∈ qT := qT_1 (i := 179) (by decide +kernel) rfl
theorem wf_State_43 : Cond.fieldLink "CoatHangers$State" 43 "CoatHangers$Text" "firstOn" "[I" ∈ qT := qT_1 (i := 186) (by decide +kernel) rfl
theorem wf_State_18 : Cond.fieldLink "CoatHangers$State" 18 "CoatHangers$State" "self" "[I" ∈ qT := qT_2 (i := 78) (by decide +kernel) rfl
theorem wf_State_21 : Cond.fieldLink "CoatHangers$State" 21 "CoatHangers$State" "crooked" "[I" ∈ qT := qT_2 (i := 82) (by decide +kernel) rfl
theorem wf_State_24 : Cond.fieldLink "CoatHangers$State" 24 "CoatHangers$State" "bent" "[I" ∈ qT := qT_2 (i := 86) (by decide +kernel) rfl
theorem wm_State_46 : Cond.methodLink "CoatHangers$State" 46 arraycopyName ∈ qT := qT_4 (i := 143) (by decide +kernel) rfl
theorem wm_State_52 : Cond.methodLink "CoatHangers$State" 52 y_State_whoIsOn ∈ qT := qT_4 (i := 134) (by decide +kernel) rfl
theorem d_State_isHung_0 : decode prog_8_method_5_code 0 = .ok (.aload_n 0, 1) := by decide +kernel
theorem d_State_isHung_1 : decode prog_8_method_5_code 1 = .ok (.getfield 15, 3) := by decide +kernel
theorem d_State_isHung_4 : decode prog_8_method_5_code 4 = .ok (.iload_n 1, 1) := by decide +kernel
theorem d_State_isHung_5 : decode prog_8_method_5_code 5 = .ok (.iaload, 1) := by decide +kernel
theorem d_State_isHung_6 : decode prog_8_method_5_code 6 = .ok (.ifCond .lt 7, 3) := by decide +kernel
theorem d_State_isHung_9 : decode prog_8_method_5_code 9 = .ok (.iconst 1, 1) := by decide +kernel
theorem d_State_isHung_10 : decode prog_8_method_5_code 10 = .ok (.goto 4, 3) := by decide +kernel
theorem d_State_isHung_13 : decode prog_8_method_5_code 13 = .ok (.iconst 0, 1) := by decide +kernel
theorem d_State_isHung_14 : decode prog_8_method_5_code 14 = .ok (.ireturn, 1) := by decide +kernel
theorem d_State_nailOf_0 : decode prog_8_method_8_code 0 = .ok (.aload_n 0, 1) := by decide +kernel
theorem d_State_nailOf_1 : decode prog_8_method_8_code 1 = .ok (.getfield 15, 3) := by decide +kernel
theorem d_State_nailOf_4 : decode prog_8_method_8_code 4 = .ok (.iload_n 1, 1) := by decide +kernel
theorem d_State_nailOf_5 : decode prog_8_method_8_code 5 = .ok (.iaload, 1) := by decide +kernel
theorem d_State_nailOf_6 : decode prog_8_method_8_code 6 = .ok (.istore_n 2, 1) := by decide +kernel
theorem d_State_nailOf_7 : decode prog_8_method_8_code 7 = .ok (.iload_n 2, 1) := by decide +kernel
theorem d_State_nailOf_8 : decode prog_8_method_8_code 8 = .ok (.ifCond .lt 15, 3) := by decide +kernel
theorem d_State_nailOf_11 : decode prog_8_method_8_code 11 = .ok (.aload_n 0, 1) := by decide +kernel
theorem d_State_nailOf_12 : decode prog_8_method_8_code 12 = .ok (.getfield 27, 3) := by decide +kernel
theorem d_State_nailOf_15 : decode prog_8_method_8_code 15 = .ok (.getfield 59, 3) := by decide +kernel
theorem d_State_nailOf_18 : decode prog_8_method_8_code 18 = .ok (.iload_n 2, 1) := by decide +kernel
theorem d_State_nailOf_19 : decode prog_8_method_8_code 19 = .ok (.iaload, 1) := by decide +kernel
theorem d_State_nailOf_20 : decode prog_8_method_8_code 20 = .ok (.goto 5, 3) := by decide +kernel
theorem d_State_nailOf_23 : decode prog_8_method_8_code 23 = .ok (.bipush (-2), 2) := by decide +kernel
theorem d_State_nailOf_25 : decode prog_8_method_8_code 25 = .ok (.ireturn, 1) := by decide +kernel
theorem d_State_peopleOnNail_0 : decode prog_8_method_9_code 0 = .ok (.iconst 0, 1) := by decide +kernel
theorem d_State_peopleOnNail_1 : decode prog_8_method_9_code 1 = .ok (.istore_n 2, 1) := by decide +kernel
theorem d_State_peopleOnNail_2 : decode prog_8_method_9_code 2 = .ok (.iconst 0, 1) := by decide +kernel
theorem d_State_peopleOnNail_3 : decode prog_8_method_9_code 3 = .ok (.istore_n 3, 1) := by decide +kernel
theorem d_State_peopleOnNail_4 : decode prog_8_method_9_code 4 = .ok (.iload_n 3, 1) := by decide +kernel
theorem d_State_peopleOnNail_5 : decode prog_8_method_9_code 5 = .ok (.aload_n 0, 1) := by decide +kernel
theorem d_State_peopleOnNail_6 : decode prog_8_method_9_code 6 = .ok (.getfield 27, 3) := by decide +kernel
theorem d_State_peopleOnNail_9 : decode prog_8_method_9_code 9 = .ok (.getfield 56, 3) := by decide +kernel
theorem d_State_peopleOnNail_12 : decode prog_8_method_9_code 12 = .ok (.if_icmp .ge 26, 3) := by decide +kernel
theorem d_State_peopleOnNail_15 : decode prog_8_method_9_code 15 = .ok (.iload_n 2, 1) := by decide +kernel
theorem d_State_peopleOnNail_16 : decode prog_8_method_9_code 16 = .ok (.aload_n 0, 1) := by decide +kernel
theorem d_State_peopleOnNail_17 : decode prog_8_method_9_code 17 = .ok (.iload_n 3, 1) := by decide +kernel
theorem d_State_peopleOnNail_18 : decode prog_8_method_9_code 18 = .ok (.invokevirtual 62, 3) := by decide +kernel
theorem d_State_peopleOnNail_21 : decode prog_8_method_9_code 21 = .ok (.iload_n 1, 1) := by decide +kernel
theorem d_State_peopleOnNail_22 : decode prog_8_method_9_code 22 = .ok (.if_icmp .ne 7, 3) := by decide +kernel
theorem d_State_peopleOnNail_25 : decode prog_8_method_9_code 25 = .ok (.iconst 1, 1) := by decide +kernel
theorem d_State_peopleOnNail_26 : decode prog_8_method_9_code 26 = .ok (.goto 4, 3) := by decide +kernel
theorem d_State_peopleOnNail_29 : decode prog_8_method_9_code 29 = .ok (.iconst 0, 1) := by decide +kernel
theorem d_State_peopleOnNail_30 : decode prog_8_method_9_code 30 = .ok (.iadd, 1) := by decide +kernel
theorem d_State_peopleOnNail_31 : decode prog_8_method_9_code 31 = .ok (.istore_n 2, 1) := by decide +kernel
theorem d_State_peopleOnNail_32 : decode prog_8_method_9_code 32 = .ok (.iinc 3 1, 3) := by decide +kernel
theorem d_State_peopleOnNail_35 : decode prog_8_method_9_code 35 = .ok (.goto (-31), 3) := by decide +kernel
theorem d_State_peopleOnNail_38 : decode prog_8_method_9_code 38 = .ok (.iload_n 2, 1) := by decide +kernel
theorem d_State_peopleOnNail_39 : decode prog_8_method_9_code 39 = .ok (.ireturn, 1) := by decide +kernel
theorem d_State_othersBeside_0 : decode prog_8_method_10_code 0 = .ok (.aload_n 0, 1) := by decide +kernel
theorem d_State_othersBeside_1 : decode prog_8_method_10_code 1 = .ok (.iload_n 1, 1) := by decide +kernel
theorem d_State_othersBeside_2 : decode prog_8_method_10_code 2 = .ok (.invokevirtual 65, 3) := by decide +kernel
theorem d_State_othersBeside_5 : decode prog_8_method_10_code 5 = .ok (.ifCond .eq 17, 3) := by decide +kernel
theorem d_State_othersBeside_8 : decode prog_8_method_10_code 8 = .ok (.aload_n 0, 1) := by decide +kernel
theorem d_State_othersBeside_9 : decode prog_8_method_10_code 9 = .ok (.aload_n 0, 1) := by decide +kernel
theorem d_State_othersBeside_10 : decode prog_8_method_10_code 10 = .ok (.iload_n 1, 1) := by decide +kernel
theorem d_State_othersBeside_11 : decode prog_8_method_10_code 11 = .ok (.invokevirtual 62, 3) := by decide +kernel
theorem d_State_othersBeside_14 : decode prog_8_method_10_code 14 = .ok (.invokevirtual 69, 3) := by decide +kernel
theorem d_State_othersBeside_17 : decode prog_8_method_10_code 17 = .ok (.iconst 1, 1) := by decide +kernel
theorem d_State_othersBeside_18 : decode prog_8_method_10_code 18 = .ok (.isub, 1) := by decide +kernel
theorem d_State_othersBeside_19 : decode prog_8_method_10_code 19 = .ok (.goto 4, 3) := by decide +kernel
theorem d_State_othersBeside_22 : decode prog_8_method_10_code 22 = .ok (.iconst 0, 1) := by decide +kernel
theorem d_State_othersBeside_23 : decode prog_8_method_10_code 23 = .ok (.ireturn, 1) := by decide +kernel
theorem d_State_begin_0 : decode prog_8_method_2_code 0 = .ok (.aload_n 0, 1) := by decide +kernel
theorem d_State_begin_1 : decode prog_8_method_2_code 1 = .ok (.iconst 0, 1) := by decide +kernel
theorem d_State_begin_2 : decode prog_8_method_2_code 2 = .ok (.putfield 34, 3) := by decide +kernel
theorem d_State_begin_5 : decode prog_8_method_2_code 5 = .ok (.iconst 0, 1) := by decide +kernel
theorem d_State_begin_6 : decode prog_8_method_2_code 6 = .ok (.istore_n 1, 1) := by decide +kernel
theorem d_State_begin_7 : decode prog_8_method_2_code 7 = .ok (.iload_n 1, 1) := by decide +kernel
theorem d_State_begin_8 : decode prog_8_method_2_code 8 = .ok (.bipush 6, 2) := by decide +kernel
theorem d_State_begin_10 : decode prog_8_method_2_code 10 = .ok (.if_icmp .ge 53, 3) := by decide +kernel
theorem d_State_begin_13 : decode prog_8_method_2_code 13 = .ok (.aload_n 0, 1) := by decide +kernel
theorem d_State_begin_14 : decode prog_8_method_2_code 14 = .ok (.getfield 9, 3) := by decide +kernel
theorem d_State_begin_17 : decode prog_8_method_2_code 17 = .ok (.iload_n 1, 1) := by decide +kernel
theorem d_State_begin_18 : decode prog_8_method_2_code 18 = .ok (.aload_n 0, 1) := by decide +kernel
theorem d_State_begin_19 : decode prog_8_method_2_code 19 = .ok (.getfield 27, 3) := by decide +kernel
theorem d_State_begin_22 : decode prog_8_method_2_code 22 = .ok (.getfield 38, 3) := by decide +kernel
theorem d_State_begin_25 : decode prog_8_method_2_code 25 = .ok (.iload_n 1, 1) := by decide +kernel
theorem d_State_begin_26 : decode prog_8_method_2_code 26 = .ok (.iaload, 1) := by decide +kernel
theorem d_State_begin_27 : decode prog_8_method_2_code 27 = .ok (.iastore, 1) := by decide +kernel
theorem d_State_begin_28 : decode prog_8_method_2_code 28 = .ok (.aload_n 0, 1) := by decide +kernel
theorem d_State_begin_29 : decode prog_8_method_2_code 29 = .ok (.getfield 15, 3) := by decide +kernel
theorem d_State_begin_32 : decode prog_8_method_2_code 32 = .ok (.iload_n 1, 1) := by decide +kernel
theorem d_State_begin_33 : decode prog_8_method_2_code 33 = .ok (.aload_n 0, 1) := by decide +kernel
theorem d_State_begin_34 : decode prog_8_method_2_code 34 = .ok (.getfield 27, 3) := by decide +kernel
theorem d_State_begin_37 : decode prog_8_method_2_code 37 = .ok (.getfield 43, 3) := by decide +kernel
theorem d_State_begin_40 : decode prog_8_method_2_code 40 = .ok (.iload_n 1, 1) := by decide +kernel
theorem d_State_begin_41 : decode prog_8_method_2_code 41 = .ok (.iaload, 1) := by decide +kernel
theorem d_State_begin_42 : decode prog_8_method_2_code 42 = .ok (.iastore, 1) := by decide +kernel
theorem d_State_begin_43 : decode prog_8_method_2_code 43 = .ok (.aload_n 0, 1) := by decide +kernel
theorem d_State_begin_44 : decode prog_8_method_2_code 44 = .ok (.getfield 18, 3) := by decide +kernel
theorem d_State_begin_47 : decode prog_8_method_2_code 47 = .ok (.iload_n 1, 1) := by decide +kernel
theorem d_State_begin_48 : decode prog_8_method_2_code 48 = .ok (.iload_n 1, 1) := by decide +kernel
theorem d_State_begin_49 : decode prog_8_method_2_code 49 = .ok (.iastore, 1) := by decide +kernel
theorem d_State_begin_50 : decode prog_8_method_2_code 50 = .ok (.aload_n 0, 1) := by decide +kernel
theorem d_State_begin_51 : decode prog_8_method_2_code 51 = .ok (.getfield 21, 3) := by decide +kernel
theorem d_State_begin_54 : decode prog_8_method_2_code 54 = .ok (.iload_n 1, 1) := by decide +kernel
theorem d_State_begin_55 : decode prog_8_method_2_code 55 = .ok (.iconst 0, 1) := by decide +kernel
theorem d_State_begin_56 : decode prog_8_method_2_code 56 = .ok (.iastore, 1) := by decide +kernel
theorem d_State_begin_57 : decode prog_8_method_2_code 57 = .ok (.iinc 1 1, 3) := by decide +kernel
theorem d_State_begin_60 : decode prog_8_method_2_code 60 = .ok (.goto (-53), 3) := by decide +kernel
theorem d_State_begin_63 : decode prog_8_method_2_code 63 = .ok (.iconst 0, 1) := by decide +kernel
theorem d_State_begin_64 : decode prog_8_method_2_code 64 = .ok (.istore_n 1, 1) := by decide +kernel
theorem d_State_begin_65 : decode prog_8_method_2_code 65 = .ok (.iload_n 1, 1) := by decide +kernel
theorem d_State_begin_66 : decode prog_8_method_2_code 66 = .ok (.bipush 7, 2) := by decide +kernel
theorem d_State_begin_68 : decode prog_8_method_2_code 68 = .ok (.if_icmp .ge 16, 3) := by decide +kernel
theorem d_State_begin_71 : decode prog_8_method_2_code 71 = .ok (.aload_n 0, 1) := by decide +kernel
theorem d_State_begin_72 : decode prog_8_method_2_code 72 = .ok (.getfield 24, 3) := by decide +kernel
theorem d_State_begin_75 : decode prog_8_method_2_code 75 = .ok (.iload_n 1, 1) := by decide +kernel
theorem d_State_begin_76 : decode prog_8_method_2_code 76 = .ok (.iconst 0, 1) := by decide +kernel
theorem d_State_begin_77 : decode prog_8_method_2_code 77 = .ok (.iastore, 1) := by decide +kernel
theorem d_State_begin_78 : decode prog_8_method_2_code 78 = .ok (.iinc 1 1, 3) := by decide +kernel
theorem d_State_begin_81 : decode prog_8_method_2_code 81 = .ok (.goto (-16), 3) := by decide +kernel
theorem d_State_begin_84 : decode prog_8_method_2_code 84 = .ok (.return_, 1) := by decide +kernel
theorem d_State_become_0 : decode prog_8_method_3_code 0 = .ok (.aload_n 0, 1) := by decide +kernel
theorem d_State_become_1 : decode prog_8_method_3_code 1 = .ok (.aload_n 1, 1) := by decide +kernel
theorem d_State_become_2 : decode prog_8_method_3_code 2 = .ok (.getfield 34, 3) := by decide +kernel
theorem d_State_become_5 : decode prog_8_method_3_code 5 = .ok (.putfield 34, 3) := by decide +kernel
theorem d_State_become_8 : decode prog_8_method_3_code 8 = .ok (.aload_n 1, 1) := by decide +kernel
theorem d_State_become_9 : decode prog_8_method_3_code 9 = .ok (.getfield 9, 3) := by decide +kernel
theorem d_State_become_12 : decode prog_8_method_3_code 12 = .ok (.iconst 0, 1) := by decide +kernel
theorem d_State_become_13 : decode prog_8_method_3_code 13 = .ok (.aload_n 0, 1) := by decide +kernel
theorem d_State_become_14 : decode prog_8_method_3_code 14 = .ok (.getfield 9, 3) := by decide +kernel
theorem d_State_become_17 : decode prog_8_method_3_code 17 = .ok (.iconst 0, 1) := by decide +kernel
theorem d_State_become_18 : decode prog_8_method_3_code 18 = .ok (.bipush 6, 2) := by decide +kernel
theorem d_State_become_20 : decode prog_8_method_3_code 20 = .ok (.invokestatic 46, 3) := by decide +kernel
theorem d_State_become_23 : decode prog_8_method_3_code 23 = .ok (.aload_n 1, 1) := by decide +kernel
theorem d_State_become_24 : decode prog_8_method_3_code 24 = .ok (.getfield 15, 3) := by decide +kernel
theorem d_State_become_27 : decode prog_8_method_3_code 27 = .ok (.iconst 0, 1) := by decide +kernel
theorem d_State_become_28 : decode prog_8_method_3_code 28 = .ok (.aload_n 0, 1) := by decide +kernel
theorem d_State_become_29 : decode prog_8_method_3_code 29 = .ok (.getfield 15, 3) := by decide +kernel
theorem d_State_become_32 : decode prog_8_method_3_code 32 = .ok (.iconst 0, 1) := by decide +kernel
theorem d_State_become_33 : decode prog_8_method_3_code 33 = .ok (.bipush 6, 2) := by decide +kernel
theorem d_State_become_35 : decode prog_8_method_3_code 35 = .ok (.invokestatic 46, 3) := by decide +kernel
theorem d_State_become_38 : decode prog_8_method_3_code 38 = .ok (.aload_n 1, 1) := by decide +kernel
theorem d_State_become_39 : decode prog_8_method_3_code 39 = .ok (.getfield 18, 3) := by decide +kernel
theorem d_State_become_42 : decode prog_8_method_3_code 42 = .ok (.iconst 0, 1) := by decide +kernel
theorem d_State_become_43 : decode prog_8_method_3_code 43 = .ok (.aload_n 0, 1) := by decide +kernel
theorem d_State_become_44 : decode prog_8_method_3_code 44 = .ok (.getfield 18, 3) := by decide +kernel
theorem d_State_become_47 : decode prog_8_method_3_code 47 = .ok (.iconst 0, 1) := by decide +kernel
theorem d_State_become_48 : decode prog_8_method_3_code 48 = .ok (.bipush 6, 2) := by decide +kernel
theorem d_State_become_50 : decode prog_8_method_3_code 50 = .ok (.invokestatic 46, 3) := by decide +kernel
theorem d_State_become_53 : decode prog_8_method_3_code 53 = .ok (.aload_n 1, 1) := by decide +kernel
theorem d_State_become_54 : decode prog_8_method_3_code 54 = .ok (.getfield 21, 3) := by decide +kernel
theorem d_State_become_57 : decode prog_8_method_3_code 57 = .ok (.iconst 0, 1) := by decide +kernel
theorem d_State_become_58 : decode prog_8_method_3_code 58 = .ok (.aload_n 0, 1) := by decide +kernel
theorem d_State_become_59 : decode prog_8_method_3_code 59 = .ok (.getfield 21, 3) := by decide +kernel
theorem d_State_become_62 : decode prog_8_method_3_code 62 = .ok (.iconst 0, 1) := by decide +kernel
theorem d_State_become_63 : decode prog_8_method_3_code 63 = .ok (.bipush 6, 2) := by decide +kernel
theorem d_State_become_65 : decode prog_8_method_3_code 65 = .ok (.invokestatic 46, 3) := by decide +kernel
theorem d_State_become_68 : decode prog_8_method_3_code 68 = .ok (.aload_n 1, 1) := by decide +kernel
theorem d_State_become_69 : decode prog_8_method_3_code 69 = .ok (.getfield 24, 3) := by decide +kernel
theorem d_State_become_72 : decode prog_8_method_3_code 72 = .ok (.iconst 0, 1) := by decide +kernel
theorem d_State_become_73 : decode prog_8_method_3_code 73 = .ok (.aload_n 0, 1) := by decide +kernel
theorem d_State_become_74 : decode prog_8_method_3_code 74 = .ok (.getfield 24, 3) := by decide +kernel
theorem d_State_become_77 : decode prog_8_method_3_code 77 = .ok (.iconst 0, 1) := by decide +kernel
theorem d_State_become_78 : decode prog_8_method_3_code 78 = .ok (.bipush 7, 2) := by decide +kernel
theorem d_State_become_80 : decode prog_8_method_3_code 80 = .ok (.invokestatic 46, 3) := by decide +kernel
theorem d_State_become_83 : decode prog_8_method_3_code 83 = .ok (.return_, 1) := by decide +kernel
theorem d_State_exchange_0 : decode prog_8_method_4_code 0 = .ok (.aload_n 0, 1) := by decide +kernel
theorem d_State_exchange_1 : decode prog_8_method_4_code 1 = .ok (.getfield 15, 3) := by decide +kernel
theorem d_State_exchange_4 : decode prog_8_method_4_code 4 = .ok (.iload_n 1, 1) := by decide +kernel
theorem d_State_exchange_5 : decode prog_8_method_4_code 5 = .ok (.iaload, 1) := by decide +kernel
theorem d_State_exchange_6 : decode prog_8_method_4_code 6 = .ok (.istore_n 3, 1) := by decide +kernel
theorem d_State_exchange_7 : decode prog_8_method_4_code 7 = .ok (.aload_n 0, 1) := by decide +kernel
theorem d_State_exchange_8 : decode prog_8_method_4_code 8 = .ok (.getfield 15, 3) := by decide +kernel
theorem d_State_exchange_11 : decode prog_8_method_4_code 11 = .ok (.iload_n 1, 1) := by decide +kernel
theorem d_State_exchange_12 : decode prog_8_method_4_code 12 = .ok (.aload_n 0, 1) := by decide +kernel
theorem d_State_exchange_13 : decode prog_8_method_4_code 13 = .ok (.getfield 15, 3) := by decide +kernel
theorem d_State_exchange_16 : decode prog_8_method_4_code 16 = .ok (.iload_n 2, 1) := by decide +kernel
theorem d_State_exchange_17 : decode prog_8_method_4_code 17 = .ok (.iaload, 1) := by decide +kernel
theorem d_State_exchange_18 : decode prog_8_method_4_code 18 = .ok (.iastore, 1) := by decide +kernel
theorem d_State_exchange_19 : decode prog_8_method_4_code 19 = .ok (.aload_n 0, 1) := by decide +kernel
theorem d_State_exchange_20 : decode prog_8_method_4_code 20 = .ok (.getfield 15, 3) := by decide +kernel
theorem d_State_exchange_23 : decode prog_8_method_4_code 23 = .ok (.iload_n 2, 1) := by decide +kernel
theorem d_State_exchange_24 : decode prog_8_method_4_code 24 = .ok (.iload_n 3, 1) := by decide +kernel
theorem d_State_exchange_25 : decode prog_8_method_4_code 25 = .ok (.iastore, 1) := by decide +kernel
theorem d_State_exchange_26 : decode prog_8_method_4_code 26 = .ok (.return_, 1) := by decide +kernel
theorem d_State_whoIsOn_0 : decode prog_8_method_7_code 0 = .ok (.iconst 0, 1) := by decide +kernel
theorem d_State_whoIsOn_1 : decode prog_8_method_7_code 1 = .ok (.istore_n 2, 1) := by decide +kernel
theorem d_State_whoIsOn_2 : decode prog_8_method_7_code 2 = .ok (.iload_n 2, 1) := by decide +kernel
theorem d_State_whoIsOn_3 : decode prog_8_method_7_code 3 = .ok (.aload_n 0, 1) := by decide +kernel
theorem d_State_whoIsOn_4 : decode prog_8_method_7_code 4 = .ok (.getfield 27, 3) := by decide +kernel
theorem d_State_whoIsOn_7 : decode prog_8_method_7_code 7 = .ok (.getfield 56, 3) := by decide +kernel
theorem d_State_whoIsOn_10 : decode prog_8_method_7_code 10 = .ok (.if_icmp .ge 21, 3) := by decide +kernel
theorem d_State_whoIsOn_13 : decode prog_8_method_7_code 13 = .ok (.aload_n 0, 1) := by decide +kernel
theorem d_State_whoIsOn_14 : decode prog_8_method_7_code 14 = .ok (.getfield 15, 3) := by decide +kernel
theorem d_State_whoIsOn_17 : decode prog_8_method_7_code 17 = .ok (.iload_n 2, 1) := by decide +kernel
theorem d_State_whoIsOn_18 : decode prog_8_method_7_code 18 = .ok (.iaload, 1) := by decide +kernel
theorem d_State_whoIsOn_19 : decode prog_8_method_7_code 19 = .ok (.iload_n 1, 1) := by decide +kernel
theorem d_State_whoIsOn_20 : decode prog_8_method_7_code 20 = .ok (.if_icmp .ne 5, 3) := by decide +kernel
theorem d_State_whoIsOn_23 : decode prog_8_method_7_code 23 = .ok (.iload_n 2, 1) := by decide +kernel
theorem d_State_whoIsOn_24 : decode prog_8_method_7_code 24 = .ok (.ireturn, 1) := by decide +kernel
theorem d_State_whoIsOn_25 : decode prog_8_method_7_code 25 = .ok (.iinc 2 1, 3) := by decide +kernel
theorem d_State_whoIsOn_28 : decode prog_8_method_7_code 28 = .ok (.goto (-26), 3) := by decide +kernel
theorem d_State_whoIsOn_31 : decode prog_8_method_7_code 31 = .ok (.bipush (-2), 2) := by decide +kernel
theorem d_State_whoIsOn_33 : decode prog_8_method_7_code 33 = .ok (.ireturn, 1) := by decide +kernel
theorem d_State_isTaken_0 : decode prog_8_method_6_code 0 = .ok (.aload_n 0, 1) := by decide +kernel
theorem d_State_isTaken_1 : decode prog_8_method_6_code 1 = .ok (.iload_n 1, 1) := by decide +kernel
theorem d_State_isTaken_2 : decode prog_8_method_6_code 2 = .ok (.invokevirtual 52, 3) := by decide +kernel
theorem d_State_isTaken_5 : decode prog_8_method_6_code 5 = .ok (.ifCond .lt 7, 3) := by decide +kernel
theorem d_State_isTaken_8 : decode prog_8_method_6_code 8 = .ok (.iconst 1, 1) := by decide +kernel
theorem d_State_isTaken_9 : decode prog_8_method_6_code 9 = .ok (.goto 4, 3) := by decide +kernel
theorem d_State_isTaken_12 : decode prog_8_method_6_code 12 = .ok (.iconst 0, 1) := by decide +kernel
theorem d_State_isTaken_13 : decode prog_8_method_6_code 13 = .ok (.ireturn, 1) := by decide +kernel
theorem d_State_hasSelvesOf_0 : decode prog_8_method_11_code 0 = .ok (.iconst 0, 1) := by decide +kernel
theorem d_State_hasSelvesOf_1 : decode prog_8_method_11_code 1 = .ok (.istore_n 2, 1) := by decide +kernel
theorem d_State_hasSelvesOf_2 : decode prog_8_method_11_code 2 = .ok (.iload_n 2, 1) := by decide +kernel
theorem d_State_hasSelvesOf_3 : decode prog_8_method_11_code 3 = .ok (.aload_n 0, 1) := by decide +kernel
theorem d_State_hasSelvesOf_4 : decode prog_8_method_11_code 4 = .ok (.getfield 27, 3) := by decide +kernel
theorem d_State_hasSelvesOf_7 : decode prog_8_method_11_code 7 = .ok (.getfield 56, 3) := by decide +kernel
theorem d_State_hasSelvesOf_10 : decode prog_8_method_11_code 10 = .ok (.if_icmp .ge 26, 3) := by decide +kernel
theorem d_State_hasSelvesOf_13 : decode prog_8_method_11_code 13 = .ok (.aload_n 0, 1) := by decide +kernel
theorem d_State_hasSelvesOf_14 : decode prog_8_method_11_code 14 = .ok (.getfield 18, 3) := by decide +kernel
theorem d_State_hasSelvesOf_17 : decode prog_8_method_11_code 17 = .ok (.iload_n 2, 1) := by decide +kernel
theorem d_State_hasSelvesOf_18 : decode prog_8_method_11_code 18 = .ok (.iaload, 1) := by decide +kernel
theorem d_State_hasSelvesOf_19 : decode prog_8_method_11_code 19 = .ok (.aload_n 1, 1) := by decide +kernel
theorem d_State_hasSelvesOf_20 : decode prog_8_method_11_code 20 = .ok (.getfield 18, 3) := by decide +kernel
theorem d_State_hasSelvesOf_23 : decode prog_8_method_11_code 23 = .ok (.iload_n 2, 1) := by decide +kernel
theorem d_State_hasSelvesOf_24 : decode prog_8_method_11_code 24 = .ok (.iaload, 1) := by decide +kernel
theorem d_State_hasSelvesOf_25 : decode prog_8_method_11_code 25 = .ok (.if_icmp .eq 5, 3) := by decide +kernel
theorem d_State_hasSelvesOf_28 : decode prog_8_method_11_code 28 = .ok (.iconst 0, 1) := by decide +kernel
theorem d_State_hasSelvesOf_29 : decode prog_8_method_11_code 29 = .ok (.ireturn, 1) := by decide +kernel
theorem d_State_hasSelvesOf_30 : decode prog_8_method_11_code 30 = .ok (.iinc 2 1, 3) := by decide +kernel
theorem d_State_hasSelvesOf_33 : decode prog_8_method_11_code 33 = .ok (.goto (-31), 3) := by decide +kernel
theorem d_State_hasSelvesOf_36 : decode prog_8_method_11_code 36 = .ok (.iconst 1, 1) := by decide +kernel
theorem d_State_hasSelvesOf_37 : decode prog_8_method_11_code 37 = .ok (.ireturn, 1) := by decide +kernel
theorem d_State_bitsOfHung_0 : decode prog_8_method_12_code 0 = .ok (.iconst 0, 1) := by decide +kernel
theorem d_State_bitsOfHung_1 : decode prog_8_method_12_code 1 = .ok (.istore_n 1, 1) := by decide +kernel
theorem d_State_bitsOfHung_2 : decode prog_8_method_12_code 2 = .ok (.iconst 0, 1) := by decide +kernel
theorem d_State_bitsOfHung_3 : decode prog_8_method_12_code 3 = .ok (.istore_n 2, 1) := by decide +kernel
theorem d_State_bitsOfHung_4 : decode prog_8_method_12_code 4 = .ok (.iload_n 2, 1) := by decide +kernel
theorem d_State_bitsOfHung_5 : decode prog_8_method_12_code 5 = .ok (.aload_n 0, 1) := by decide +kernel
theorem d_State_bitsOfHung_6 : decode prog_8_method_12_code 6 = .ok (.getfield 27, 3) := by decide +kernel
theorem d_State_bitsOfHung_9 : decode prog_8_method_12_code 9 = .ok (.getfield 56, 3) := by decide +kernel
theorem d_State_bitsOfHung_12 : decode prog_8_method_12_code 12 = .ok (.if_icmp .ge 27, 3) := by decide +kernel
theorem d_State_bitsOfHung_15 : decode prog_8_method_12_code 15 = .ok (.iload_n 1, 1) := by decide +kernel
theorem d_State_bitsOfHung_16 : decode prog_8_method_12_code 16 = .ok (.aload_n 0, 1) := by decide +kernel
theorem d_State_bitsOfHung_17 : decode prog_8_method_12_code 17 = .ok (.iload_n 2, 1) := by decide +kernel
theorem d_State_bitsOfHung_18 : decode prog_8_method_12_code 18 = .ok (.invokevirtual 65, 3) := by decide +kernel
theorem d_State_bitsOfHung_21 : decode prog_8_method_12_code 21 = .ok (.ifCond .eq 9, 3) := by decide +kernel
theorem d_State_bitsOfHung_24 : decode prog_8_method_12_code 24 = .ok (.iconst 1, 1) := by decide +kernel
theorem d_State_bitsOfHung_25 : decode prog_8_method_12_code 25 = .ok (.iload_n 2, 1) := by decide +kernel
theorem d_State_bitsOfHung_26 : decode prog_8_method_12_code 26 = .ok (.ishl, 1) := by decide +kernel
theorem d_State_bitsOfHung_27 : decode prog_8_method_12_code 27 = .ok (.goto 4, 3) := by decide +kernel
theorem d_State_bitsOfHung_30 : decode prog_8_method_12_code 30 = .ok (.iconst 0, 1) := by decide +kernel
theorem d_State_bitsOfHung_31 : decode prog_8_method_12_code 31 = .ok (.ior, 1) := by decide +kernel
theorem d_State_bitsOfHung_32 : decode prog_8_method_12_code 32 = .ok (.istore_n 1, 1) := by decide +kernel
theorem d_State_bitsOfHung_33 : decode prog_8_method_12_code 33 = .ok (.iinc 2 1, 3) := by decide +kernel
theorem d_State_bitsOfHung_36 : decode prog_8_method_12_code 36 = .ok (.goto (-32), 3) := by decide +kernel
theorem d_State_bitsOfHung_39 : decode prog_8_method_12_code 39 = .ok (.iload_n 1, 1) := by decide +kernel
theorem d_State_bitsOfHung_40 : decode prog_8_method_12_code 40 = .ok (.ireturn, 1) := by decide +kernel
theorem d_State_bitsOfTaken_0 : decode prog_8_method_13_code 0 = .ok (.iconst 0, 1) := by decide +kernel
theorem d_State_bitsOfTaken_1 : decode prog_8_method_13_code 1 = .ok (.istore_n 1, 1) := by decide +kernel
theorem d_State_bitsOfTaken_2 : decode prog_8_method_13_code 2 = .ok (.iconst 0, 1) := by decide +kernel
theorem d_State_bitsOfTaken_3 : decode prog_8_method_13_code 3 = .ok (.istore_n 2, 1) := by decide +kernel
theorem d_State_bitsOfTaken_4 : decode prog_8_method_13_code 4 = .ok (.iload_n 2, 1) := by decide +kernel
theorem d_State_bitsOfTaken_5 : decode prog_8_method_13_code 5 = .ok (.aload_n 0, 1) := by decide +kernel
theorem d_State_bitsOfTaken_6 : decode prog_8_method_13_code 6 = .ok (.getfield 27, 3) := by decide +kernel
theorem d_State_bitsOfTaken_9 : decode prog_8_method_13_code 9 = .ok (.getfield 56, 3) := by decide +kernel
theorem d_State_bitsOfTaken_12 : decode prog_8_method_13_code 12 = .ok (.if_icmp .ge 32, 3) := by decide +kernel
theorem d_State_bitsOfTaken_15 : decode prog_8_method_13_code 15 = .ok (.iload_n 1, 1) := by decide +kernel
theorem d_State_bitsOfTaken_16 : decode prog_8_method_13_code 16 = .ok (.aload_n 0, 1) := by decide +kernel
theorem d_State_bitsOfTaken_17 : decode prog_8_method_13_code 17 = .ok (.iload_n 2, 1) := by decide +kernel
theorem d_State_bitsOfTaken_18 : decode prog_8_method_13_code 18 = .ok (.invokevirtual 65, 3) := by decide +kernel
theorem d_State_bitsOfTaken_21 : decode prog_8_method_13_code 21 = .ok (.ifCond .eq 14, 3) := by decide +kernel
theorem d_State_bitsOfTaken_24 : decode prog_8_method_13_code 24 = .ok (.iconst 1, 1) := by decide +kernel
theorem d_State_bitsOfTaken_25 : decode prog_8_method_13_code 25 = .ok (.aload_n 0, 1) := by decide +kernel
theorem d_State_bitsOfTaken_26 : decode prog_8_method_13_code 26 = .ok (.getfield 15, 3) := by decide +kernel
theorem d_State_bitsOfTaken_29 : decode prog_8_method_13_code 29 = .ok (.iload_n 2, 1) := by decide +kernel
theorem d_State_bitsOfTaken_30 : decode prog_8_method_13_code 30 = .ok (.iaload, 1) := by decide +kernel
theorem d_State_bitsOfTaken_31 : decode prog_8_method_13_code 31 = .ok (.ishl, 1) := by decide +kernel
theorem d_State_bitsOfTaken_32 : decode prog_8_method_13_code 32 = .ok (.goto 4, 3) := by decide +kernel
theorem d_State_bitsOfTaken_35 : decode prog_8_method_13_code 35 = .ok (.iconst 0, 1) := by decide +kernel
theorem d_State_bitsOfTaken_36 : decode prog_8_method_13_code 36 = .ok (.ior, 1) := by decide +kernel
theorem d_State_bitsOfTaken_37 : decode prog_8_method_13_code 37 = .ok (.istore_n 1, 1) := by decide +kernel
theorem d_State_bitsOfTaken_38 : decode prog_8_method_13_code 38 = .ok (.iinc 2 1, 3) := by decide +kernel
theorem d_State_bitsOfTaken_41 : decode prog_8_method_13_code 41 = .ok (.goto (-37), 3) := by decide +kernel
theorem d_State_bitsOfTaken_44 : decode prog_8_method_13_code 44 = .ok (.iload_n 1, 1) := by decide +kernel
theorem d_State_bitsOfTaken_45 : decode prog_8_method_13_code 45 = .ok (.ireturn, 1) := by decide +kernel
theorem d_State_bitsOfOwnSelves_0 : decode prog_8_method_14_code 0 = .ok (.iconst 0, 1) := by decide +kernel
theorem d_State_bitsOfOwnSelves_1 : decode prog_8_method_14_code 1 = .ok (.istore_n 1, 1) := by decide +kernel
theorem d_State_bitsOfOwnSelves_2 : decode prog_8_method_14_code 2 = .ok (.iconst 0, 1) := by decide +kernel
theorem d_State_bitsOfOwnSelves_3 : decode prog_8_method_14_code 3 = .ok (.istore_n 2, 1) := by decide +kernel
theorem d_State_bitsOfOwnSelves_4 : decode prog_8_method_14_code 4 = .ok (.iload_n 2, 1) := by decide +kernel
theorem d_State_bitsOfOwnSelves_5 : decode prog_8_method_14_code 5 = .ok (.aload_n 0, 1) := by decide +kernel
theorem d_State_bitsOfOwnSelves_6 : decode prog_8_method_14_code 6 = .ok (.getfield 27, 3) := by decide +kernel
theorem d_State_bitsOfOwnSelves_9 : decode prog_8_method_14_code 9 = .ok (.getfield 56, 3) := by decide +kernel
theorem d_State_bitsOfOwnSelves_12 : decode prog_8_method_14_code 12 = .ok (.if_icmp .ge 29, 3) := by decide +kernel
theorem d_State_bitsOfOwnSelves_15 : decode prog_8_method_14_code 15 = .ok (.iload_n 1, 1) := by decide +kernel
theorem d_State_bitsOfOwnSelves_16 : decode prog_8_method_14_code 16 = .ok (.aload_n 0, 1) := by decide +kernel
theorem d_State_bitsOfOwnSelves_17 : decode prog_8_method_14_code 17 = .ok (.getfield 18, 3) := by decide +kernel
theorem d_State_bitsOfOwnSelves_20 : decode prog_8_method_14_code 20 = .ok (.iload_n 2, 1) := by decide +kernel
theorem d_State_bitsOfOwnSelves_21 : decode prog_8_method_14_code 21 = .ok (.iaload, 1) := by decide +kernel
theorem d_State_bitsOfOwnSelves_22 : decode prog_8_method_14_code 22 = .ok (.iload_n 2, 1) := by decide +kernel
theorem d_State_bitsOfOwnSelves_23 : decode prog_8_method_14_code 23 = .ok (.if_icmp .ne 9, 3) := by decide +kernel
theorem d_State_bitsOfOwnSelves_26 : decode prog_8_method_14_code 26 = .ok (.iconst 1, 1) := by decide +kernel
theorem d_State_bitsOfOwnSelves_27 : decode prog_8_method_14_code 27 = .ok (.iload_n 2, 1) := by decide +kernel
theorem d_State_bitsOfOwnSelves_28 : decode prog_8_method_14_code 28 = .ok (.ishl, 1) := by decide +kernel
theorem d_State_bitsOfOwnSelves_29 : decode prog_8_method_14_code 29 = .ok (.goto 4, 3) := by decide +kernel
theorem d_State_bitsOfOwnSelves_32 : decode prog_8_method_14_code 32 = .ok (.iconst 0, 1) := by decide +kernel
theorem d_State_bitsOfOwnSelves_33 : decode prog_8_method_14_code 33 = .ok (.ior, 1) := by decide +kernel
theorem d_State_bitsOfOwnSelves_34 : decode prog_8_method_14_code 34 = .ok (.istore_n 1, 1) := by decide +kernel
theorem d_State_bitsOfOwnSelves_35 : decode prog_8_method_14_code 35 = .ok (.iinc 2 1, 3) := by decide +kernel
theorem d_State_bitsOfOwnSelves_38 : decode prog_8_method_14_code 38 = .ok (.goto (-34), 3) := by decide +kernel
theorem d_State_bitsOfOwnSelves_41 : decode prog_8_method_14_code 41 = .ok (.iload_n 1, 1) := by decide +kernel
theorem d_State_bitsOfOwnSelves_42 : decode prog_8_method_14_code 42 = .ok (.ireturn, 1) := by decide +kernel
theorem d_State_bitsOfSharedNails_0 : decode prog_8_method_15_code 0 = .ok (.iconst 0, 1) := by decide +kernel
theorem d_State_bitsOfSharedNails_1 : decode prog_8_method_15_code 1 = .ok (.istore_n 1, 1) := by decide +kernel
theorem d_State_bitsOfSharedNails_2 : decode prog_8_method_15_code 2 = .ok (.iconst 0, 1) := by decide +kernel
theorem d_State_bitsOfSharedNails_3 : decode prog_8_method_15_code 3 = .ok (.istore_n 2, 1) := by decide +kernel
theorem d_State_bitsOfSharedNails_4 : decode prog_8_method_15_code 4 = .ok (.iload_n 2, 1) := by decide +kernel
theorem d_State_bitsOfSharedNails_5 : decode prog_8_method_15_code 5 = .ok (.iconst 5, 1) := by decide +kernel
theorem d_State_bitsOfSharedNails_6 : decode prog_8_method_15_code 6 = .ok (.if_icmp .ge 28, 3) := by decide +kernel
theorem d_State_bitsOfSharedNails_9 : decode prog_8_method_15_code 9 = .ok (.iload_n 1, 1) := by decide +kernel
theorem d_State_bitsOfSharedNails_10 : decode prog_8_method_15_code 10 = .ok (.aload_n 0, 1) := by decide +kernel
theorem d_State_bitsOfSharedNails_11 : decode prog_8_method_15_code 11 = .ok (.iload_n 2, 1) := by decide +kernel
theorem d_State_bitsOfSharedNails_12 : decode prog_8_method_15_code 12 = .ok (.invokevirtual 69, 3) := by decide +kernel
theorem d_State_bitsOfSharedNails_15 : decode prog_8_method_15_code 15 = .ok (.iconst 2, 1) := by decide +kernel
theorem d_State_bitsOfSharedNails_16 : decode prog_8_method_15_code 16 = .ok (.if_icmp .lt 9, 3) := by decide +kernel
theorem d_State_bitsOfSharedNails_19 : decode prog_8_method_15_code 19 = .ok (.iconst 1, 1) := by decide +kernel
theorem d_State_bitsOfSharedNails_20 : decode prog_8_method_15_code 20 = .ok (.iload_n 2, 1) := by decide +kernel
theorem d_State_bitsOfSharedNails_21 : decode prog_8_method_15_code 21 = .ok (.ishl, 1) := by decide +kernel
theorem d_State_bitsOfSharedNails_22 : decode prog_8_method_15_code 22 = .ok (.goto 4, 3) := by decide +kernel
theorem d_State_bitsOfSharedNails_25 : decode prog_8_method_15_code 25 = .ok (.iconst 0, 1) := by decide +kernel
theorem d_State_bitsOfSharedNails_26 : decode prog_8_method_15_code 26 = .ok (.ior, 1) := by decide +kernel
theorem d_State_bitsOfSharedNails_27 : decode prog_8_method_15_code 27 = .ok (.istore_n 1, 1) := by decide +kernel
theorem d_State_bitsOfSharedNails_28 : decode prog_8_method_15_code 28 = .ok (.iinc 2 1, 3) := by decide +kernel
theorem d_State_bitsOfSharedNails_31 : decode prog_8_method_15_code 31 = .ok (.goto (-27), 3) := by decide +kernel
theorem d_State_bitsOfSharedNails_34 : decode prog_8_method_15_code 34 = .ok (.iload_n 1, 1) := by decide +kernel
theorem d_State_bitsOfSharedNails_35 : decode prog_8_method_15_code 35 = .ok (.ireturn, 1) := by decide +kernel
def w_State_isHung (N : Nat) (x0 : Nat) (x1 : Int32) (h : qH) (Q : Int32 → qH → Prop) : Prop := (qS h x0 = .inl 6 ∧ (qok h (qR h x0 3) 0 x1 ∧ (((qI h (qR h x0 3) (x1).toNatClampNeg) < 0 → (qzb (0 : Int32) ∧ Q (0 : Int32) h)) ∧ (¬ (qI h (qR h x0 3) (x1).toNatClampNeg) < 0 → (qzb (1 : Int32) ∧ Q (1 : Int32) h)))))
def w_State_nailOf (N : Nat) (x0 : Nat) (x1 : Int32) (h : qH) (Q : Int32 → qH → Prop) : Prop := (qS h x0 = .inl 6 ∧ (qok h (qR h x0 3) 0 x1 ∧ (∀ y3 : Int32, y3 = (qI h (qR h x0 3) (x1).toNatClampNeg) → ((y3 < 0 → Q (-2 : Int32) h) ∧ (¬ y3 < 0 → (qS h (qR h x0 0) = .inl 8 ∧ (qok h (qR h (qR h x0 0) 1) 0 y3 ∧ Q (qI h (qR h (qR h x0 0) 1) (y3).toNatClampNeg) h)))))))
def w_State_peopleOnNail_4 (N : Nat) : Nat → Nat → Int32 → Int32 → Int32 → qH → (Int32 → qH → Prop) → Prop
  | 0 => fun _ _ _ _ _ _ => False
  | k + 1 => fun x0 x1 x2 x3 h Q => (qS h x0 = .inl 6 ∧ (qS h (qR h x0 0) = .inl 8 ∧ (((qI h (qR h x0 0) 3) ≤ x3 → Q x2 h) ∧ (¬ (qI h (qR h x0 0) 3) ≤ x3 → (w_State_nailOf N x0 x3 h (fun r4 h5 => ((¬ r4 = x1 → (∀ y7 : Int32, y7 = (x2 + (0 : Int32)) → (w_State_peopleOnNail_4 N k x0 x1 y7 (x3 + (1 : Int32)) h5 Q))) ∧ (r4 = x1 → (∀ y8 : Int32, y8 = (x2 + (1 : Int32)) → (w_State_peopleOnNail_4 N k x0 x1 y8 (x3 + (1 : Int32)) h5 Q))))))))))
def w_State_peopleOnNail (N : Nat) (x0 : Nat) (x1 : Int32) (h : qH) (Q : Int32 → qH → Prop) : Prop := (w_State_peopleOnNail_4 N N x0 x1 (0 : Int32) (0 : Int32) h Q )
def w_State_othersBeside (N : Nat) (x0 : Nat) (x1 : Int32) (h : qH) (Q : Int32 → qH → Prop) : Prop := (qS h x0 = .inl 6 ∧ w_State_isHung N x0 x1 h (fun r2 h3 => ((r2 = 0 → Q (0 : Int32) h3) ∧ (¬ r2 = 0 → (qS h3 x0 = .inl 6 ∧ w_State_nailOf N x0 x1 h3 (fun r6 h7 => (qS h7 x0 = .inl 6 ∧ w_State_peopleOnNail N x0 r6 h7 (fun r9 h10 => Q (r9 - (1 : Int32)) h10))))))))
def w_State_begin_7 (N : Nat) : Nat → Nat → Int32 → qH → (qH → Prop) → (Nat → qH → Prop) → Prop
  | 0 => fun _ _ _ _ _ => False
  | k + 1 => fun x0 x1 h Q K63 => (((6 : Int32) ≤ x1 → (K63 x0 h)) ∧ (¬ (6 : Int32) ≤ x1 → (qS h x0 = .inl 6 ∧ (qS h (qR h x0 0) = .inl 8 ∧ (qok h (qR h (qR h x0 0) 4) 0 x1 ∧ (qok h (qR h x0 2) 0 x1 ∧ ∀ h6 : qH, h6 = qsI h (qR h x0 2) (x1).toNatClampNeg (qI h (qR h (qR h x0 0) 4) (x1).toNatClampNeg) → (qS h6 x0 = .inl 6 ∧ (qS h6 (qR h6 x0 0) = .inl 8 ∧ (qok h6 (qR h6 (qR h6 x0 0) 6) 0 x1 ∧ (qok h6 (qR h6 x0 3) 0 x1 ∧ ∀ h11 : qH, h11 = qsI h6 (qR h6 x0 3) (x1).toNatClampNeg (qI h6 (qR h6 (qR h6 x0 0) 6) (x1).toNatClampNeg) → (qS h11 x0 = .inl 6 ∧ (qok h11 (qR h11 x0 4) 0 x1 ∧ ∀ h14 : qH, h14 = qsI h11 (qR h11 x0 4) (x1).toNatClampNeg x1 → (qS h14 x0 = .inl 6 ∧ (qok h14 (qR h14 x0 5) 0 x1 ∧ ∀ h17 : qH, h17 = qsI h14 (qR h14 x0 5) (x1).toNatClampNeg (0 : Int32) → (w_State_begin_7 N k x0 (x1 + (1 : Int32)) h17 Q K63)))))))))))))))
def w_State_begin_65 (N : Nat) : Nat → Nat → Int32 → qH → (qH → Prop) → Prop
  | 0 => fun _ _ _ _ => False
  | k + 1 => fun x0 x1 h Q => (((7 : Int32) ≤ x1 → Q h) ∧ (¬ (7 : Int32) ≤ x1 → (qS h x0 = .inl 6 ∧ (qok h (qR h x0 6) 0 x1 ∧ ∀ h4 : qH, h4 = qsI h (qR h x0 6) (x1).toNatClampNeg (0 : Int32) → (w_State_begin_65 N k x0 (x1 + (1 : Int32)) h4 Q)))))
def w_State_begin (N : Nat) (x0 : Nat) (h : qH) (Q : qH → Prop) : Prop := (qS h x0 = .inl 6 ∧ ∀ h2 : qH, h2 = qsI h x0 1 (0 : Int32) → (w_State_begin_7 N N x0 (0 : Int32) h2 Q (fun x3 h4 => (w_State_begin_65 N N x3 (0 : Int32) h4 Q ))))
def w_State_become (N : Nat) (x0 : Nat) (x1 : Nat) (h : qH) (Q : qH → Prop) : Prop := (qS h x1 = .inl 6 ∧ (qS h x0 = .inl 6 ∧ ∀ h3 : qH, h3 = qsI h x0 1 (qI h x1 1) → (qS h3 x1 = .inl 6 ∧ (qS h3 x0 = .inl 6 ∧ (qcpok h3 (qR h3 x1 2) (qR h3 x0 2) (0 : Int32) (0 : Int32) (6 : Int32) ∧ ∀ h7 : qH, h7 = qcp h3 (qR h3 x0 2) (va_cpy (qI h3 (qR h3 x1 2)) (qI h3 (qR h3 x0 2)) ((0 : Int32)).toNatClampNeg ((0 : Int32)).toNatClampNeg ((6 : Int32)).toNatClampNeg) → (qS h7 x1 = .inl 6 ∧ (qS h7 x0 = .inl 6 ∧ (qcpok h7 (qR h7 x1 3) (qR h7 x0 3) (0 : Int32) (0 : Int32) (6 : Int32) ∧ ∀ h11 : qH, h11 = qcp h7 (qR h7 x0 3) (va_cpy (qI h7 (qR h7 x1 3)) (qI h7 (qR h7 x0 3)) ((0 : Int32)).toNatClampNeg ((0 : Int32)).toNatClampNeg ((6 : Int32)).toNatClampNeg) → (qS h11 x1 = .inl 6 ∧ (qS h11 x0 = .inl 6 ∧ (qcpok h11 (qR h11 x1 4) (qR h11 x0 4) (0 : Int32) (0 : Int32) (6 : Int32) ∧ ∀ h15 : qH, h15 = qcp h11 (qR h11 x0 4) (va_cpy (qI h11 (qR h11 x1 4)) (qI h11 (qR h11 x0 4)) ((0 : Int32)).toNatClampNeg ((0 : Int32)).toNatClampNeg ((6 : Int32)).toNatClampNeg) → (qS h15 x1 = .inl 6 ∧ (qS h15 x0 = .inl 6 ∧ (qcpok h15 (qR h15 x1 5) (qR h15 x0 5) (0 : Int32) (0 : Int32) (6 : Int32) ∧ ∀ h19 : qH, h19 = qcp h15 (qR h15 x0 5) (va_cpy (qI h15 (qR h15 x1 5)) (qI h15 (qR h15 x0 5)) ((0 : Int32)).toNatClampNeg ((0 : Int32)).toNatClampNeg ((6 : Int32)).toNatClampNeg) → (qS h19 x1 = .inl 6 ∧ (qS h19 x0 = .inl 6 ∧ (qcpok h19 (qR h19 x1 6) (qR h19 x0 6) (0 : Int32) (0 : Int32) (7 : Int32) ∧ ∀ h23 : qH, h23 = qcp h19 (qR h19 x0 6) (va_cpy (qI h19 (qR h19 x1 6)) (qI h19 (qR h19 x0 6)) ((0 : Int32)).toNatClampNeg ((0 : Int32)).toNatClampNeg ((7 : Int32)).toNatClampNeg) → Q h23)))))))))))))))))
def w_State_exchange (N : Nat) (x0 : Nat) (x1 : Int32) (x2 : Int32) (h : qH) (Q : qH → Prop) : Prop := (qS h x0 = .inl 6 ∧ (qok h (qR h x0 3) 0 x1 ∧ (∀ y3 : Int32, y3 = (qI h (qR h x0 3) (x1).toNatClampNeg) → (qok h (qR h x0 3) 0 x2 ∧ (∀ h5 : qH, h5 = qsI h (qR h x0 3) (x1).toNatClampNeg (qI h (qR h x0 3) (x2).toNatClampNeg) → (qS h5 x0 = .inl 6 ∧ (qok h5 (qR h5 x0 3) 0 x2 ∧ ∀ h8 : qH, h8 = qsI h5 (qR h5 x0 3) (x2).toNatClampNeg y3 → Q h8)))))))
def w_State_whoIsOn_2 (N : Nat) : Nat → Nat → Int32 → Int32 → qH → (Int32 → qH → Prop) → Prop
  | 0 => fun _ _ _ _ _ => False
  | k + 1 => fun x0 x1 x2 h Q => (qS h x0 = .inl 6 ∧ (qS h (qR h x0 0) = .inl 8 ∧ (((qI h (qR h x0 0) 3) ≤ x2 → Q (-2 : Int32) h) ∧ (¬ (qI h (qR h x0 0) 3) ≤ x2 → (qok h (qR h x0 3) 0 x2 ∧ ((¬ (qI h (qR h x0 3) (x2).toNatClampNeg) = x1 → (w_State_whoIsOn_2 N k x0 x1 (x2 + (1 : Int32)) h Q)) ∧ ((qI h (qR h x0 3) (x2).toNatClampNeg) = x1 → Q x2 h)))))))
def w_State_whoIsOn (N : Nat) (x0 : Nat) (x1 : Int32) (h : qH) (Q : Int32 → qH → Prop) : Prop := (w_State_whoIsOn_2 N N x0 x1 (0 : Int32) h Q )
def w_State_isTaken (N : Nat) (x0 : Nat) (x1 : Int32) (h : qH) (Q : Int32 → qH → Prop) : Prop := (qS h x0 = .inl 6 ∧ w_State_whoIsOn N x0 x1 h (fun r2 h3 => ((r2 < 0 → (qzb (0 : Int32) ∧ Q (0 : Int32) h3)) ∧ (¬ r2 < 0 → (qzb (1 : Int32) ∧ Q (1 : Int32) h3)))))
def w_State_hasSelvesOf_2 (N : Nat) : Nat → Nat → Nat → Int32 → qH → (Int32 → qH → Prop) → Prop
  | 0 => fun _ _ _ _ _ => False
  | k + 1 => fun x0 x1 x2 h Q => (qS h x0 = .inl 6 ∧ (qS h (qR h x0 0) = .inl 8 ∧ (((qI h (qR h x0 0) 3) ≤ x2 → (qzb (1 : Int32) ∧ Q (1 : Int32) h)) ∧ (¬ (qI h (qR h x0 0) 3) ≤ x2 → (qok h (qR h x0 4) 0 x2 ∧ (qS h x1 = .inl 6 ∧ (qok h (qR h x1 4) 0 x2 ∧ (((qI h (qR h x0 4) (x2).toNatClampNeg) = (qI h (qR h x1 4) (x2).toNatClampNeg) → (w_State_hasSelvesOf_2 N k x0 x1 (x2 + (1 : Int32)) h Q)) ∧ (¬ (qI h (qR h x0 4) (x2).toNatClampNeg) = (qI h (qR h x1 4) (x2).toNatClampNeg) → (qzb (0 : Int32) ∧ Q (0 : Int32) h))))))))))
def w_State_hasSelvesOf (N : Nat) (x0 : Nat) (x1 : Nat) (h : qH) (Q : Int32 → qH → Prop) : Prop := (w_State_hasSelvesOf_2 N N x0 x1 (0 : Int32) h Q )
def w_State_bitsOfHung_4 (N : Nat) : Nat → Nat → Int32 → Int32 → qH → (Int32 → qH → Prop) → Prop
  | 0 => fun _ _ _ _ _ => False
  | k + 1 => fun x0 x1 x2 h Q => (qS h x0 = .inl 6 ∧ (qS h (qR h x0 0) = .inl 8 ∧ (((qI h (qR h x0 0) 3) ≤ x2 → Q x1 h) ∧ (¬ (qI h (qR h x0 0) 3) ≤ x2 → (w_State_isHung N x0 x2 h (fun r4 h5 => ((r4 = 0 → (∀ y7 : Int32, y7 = (x1 ||| (0 : Int32)) → (w_State_bitsOfHung_4 N k x0 y7 (x2 + (1 : Int32)) h5 Q))) ∧ (¬ r4 = 0 → (∀ y8 : Int32, y8 = (x1 ||| ((1 : Int32) <<< (x2 &&& 31))) → (w_State_bitsOfHung_4 N k x0 y8 (x2 + (1 : Int32)) h5 Q))))))))))
def w_State_bitsOfHung (N : Nat) (x0 : Nat) (h : qH) (Q : Int32 → qH → Prop) : Prop := (w_State_bitsOfHung_4 N N x0 (0 : Int32) (0 : Int32) h Q )
def w_State_bitsOfTaken_4 (N : Nat) : Nat → Nat → Int32 → Int32 → qH → (Int32 → qH → Prop) → Prop
  | 0 => fun _ _ _ _ _ => False
  | k + 1 => fun x0 x1 x2 h Q => (qS h x0 = .inl 6 ∧ (qS h (qR h x0 0) = .inl 8 ∧ (((qI h (qR h x0 0) 3) ≤ x2 → Q x1 h) ∧ (¬ (qI h (qR h x0 0) 3) ≤ x2 → (w_State_isHung N x0 x2 h (fun r4 h5 => ((r4 = 0 → (∀ y7 : Int32, y7 = (x1 ||| (0 : Int32)) → (w_State_bitsOfTaken_4 N k x0 y7 (x2 + (1 : Int32)) h5 Q))) ∧ (¬ r4 = 0 → (qS h5 x0 = .inl 6 ∧ (qok h5 (qR h5 x0 3) 0 x2 ∧ (∀ y10 : Int32, y10 = (x1 ||| ((1 : Int32) <<< ((qI h5 (qR h5 x0 3) (x2).toNatClampNeg) &&& 31))) → (w_State_bitsOfTaken_4 N k x0 y10 (x2 + (1 : Int32)) h5 Q))))))))))))
def w_State_bitsOfTaken (N : Nat) (x0 : Nat) (h : qH) (Q : Int32 → qH → Prop) : Prop := (w_State_bitsOfTaken_4 N N x0 (0 : Int32) (0 : Int32) h Q )
def w_State_bitsOfOwnSelves_4 (N : Nat) : Nat → Nat → Int32 → Int32 → qH → (Int32 → qH → Prop) → Prop
  | 0 => fun _ _ _ _ _ => False
  | k + 1 => fun x0 x1 x2 h Q => (qS h x0 = .inl 6 ∧ (qS h (qR h x0 0) = .inl 8 ∧ (((qI h (qR h x0 0) 3) ≤ x2 → Q x1 h) ∧ (¬ (qI h (qR h x0 0) 3) ≤ x2 → (qok h (qR h x0 4) 0 x2 ∧ ((¬ (qI h (qR h x0 4) (x2).toNatClampNeg) = x2 → (∀ y6 : Int32, y6 = (x1 ||| (0 : Int32)) → (w_State_bitsOfOwnSelves_4 N k x0 y6 (x2 + (1 : Int32)) h Q))) ∧ ((qI h (qR h x0 4) (x2).toNatClampNeg) = x2 → (∀ y7 : Int32, y7 = (x1 ||| ((1 : Int32) <<< (x2 &&& 31))) → (w_State_bitsOfOwnSelves_4 N k x0 y7 (x2 + (1 : Int32)) h Q)))))))))
def w_State_bitsOfOwnSelves (N : Nat) (x0 : Nat) (h : qH) (Q : Int32 → qH → Prop) : Prop := (w_State_bitsOfOwnSelves_4 N N x0 (0 : Int32) (0 : Int32) h Q )
def w_State_bitsOfSharedNails_4 (N : Nat) : Nat → Nat → Int32 → Int32 → qH → (Int32 → qH → Prop) → Prop
  | 0 => fun _ _ _ _ _ => False
  | k + 1 => fun x0 x1 x2 h Q => (((5 : Int32) ≤ x2 → Q x1 h) ∧ (¬ (5 : Int32) ≤ x2 → (qS h x0 = .inl 6 ∧ w_State_peopleOnNail N x0 x2 h (fun r3 h4 => ((r3 < (2 : Int32) → (∀ y6 : Int32, y6 = (x1 ||| (0 : Int32)) → (w_State_bitsOfSharedNails_4 N k x0 y6 (x2 + (1 : Int32)) h4 Q))) ∧ (¬ r3 < (2 : Int32) → (∀ y7 : Int32, y7 = (x1 ||| ((1 : Int32) <<< (x2 &&& 31))) → (w_State_bitsOfSharedNails_4 N k x0 y7 (x2 + (1 : Int32)) h4 Q))))))))
def w_State_bitsOfSharedNails (N : Nat) (x0 : Nat) (h : qH) (Q : Int32 → qH → Prop) : Prop := (w_State_bitsOfSharedNails_4 N N x0 (0 : Int32) (0 : Int32) h Q )
section QG
variable {p : Program} {l : Launch} {e : Env} {s : State} {m : MethodId} {args : Array Value} {below : List Frame} {meth : Method} {c : Code} {D : va_G} {cy : Nat → ClassId} {b : Nat} {adK adV : Nat → Nat}

set_option maxRecDepth 4000 in
theorem t_State_isHung {adK adV : Nat → Nat} (l : Launch) (D : va_G) (cy : Nat → ClassId) (b : Nat) (N : Nat) (x0 : Nat) (x1 : Int32) (h : qH) (Q : Int32 → qH → Prop) (hw : w_State_isHung N x0 x1 h Q) : Met l y_State_isHung (Cond.code y_State_isHung prog_8_method_5_code 2 (some .boolean) :: qT) (qrm 0 0 0 0) (qPc D cy b adK adV h [qr b x0, .int x1]) (qQc D cy b qrI Q) 0 0 (qA b) := by
  refine qmet (L0 := [(0, .inr (.inr (.inl x0))), (1, .inl x1)]) qm_State_isHung (plainFor_of_name (by decide)) [.inr (.inr (.inl x0)), .inl x1] rfl (Nat.le_of_ble_eq_true rfl) rfl (fun p e s m args below meth c X => ?_)
  unfold w_State_isHung at hw
  refine qx_aload_n (x := x0) X d_State_isHung_0 rfl 0 rfl ?_
  obtain ⟨g1, hw⟩ := hw
  refine qx_getR X qcls6 g1 3 (by decide) rfl wf_State_15 d_State_isHung_1 ?_
  refine qx_iload_n (x := x1) X d_State_isHung_4 rfl 1 rfl ?_
  obtain ⟨g2, hw⟩ := hw
  refine qx_ild X g2 d_State_isHung_5 ?_
  refine qx_if_lt X 13 d_State_isHung_6 (by decide) (fun q3 => ?_) (fun q3 => ?_)
  · have hw := hw.1 q3
    refine qx_iconst (v := (0 : Int32)) X d_State_isHung_13 (by decide) ?_
    exact qx_zret X hw (Nat.le_refl 0) (Nat.le_refl 0) rfl d_State_isHung_14
  · have hw := hw.2 q3
    refine qx_iconst (v := (1 : Int32)) X d_State_isHung_9 (by decide) ?_
    refine qx_goto X 14 d_State_isHung_10 (by decide) ?_
    exact qx_zret X hw (Nat.le_refl 0) (Nat.le_refl 0) rfl d_State_isHung_14
set_option maxRecDepth 4000 in
theorem t_State_nailOf {adK adV : Nat → Nat} (l : Launch) (D : va_G) (cy : Nat → ClassId) (b : Nat) (N : Nat) (x0 : Nat) (x1 : Int32) (h : qH) (Q : Int32 → qH → Prop) (hw : w_State_nailOf N x0 x1 h Q) : Met l y_State_nailOf (Cond.code y_State_nailOf prog_8_method_8_code 3 (some .int) :: qT) (qrm 0 0 0 0) (qPc D cy b adK adV h [qr b x0, .int x1]) (qQc D cy b qrI Q) 0 0 (qA b) := by
  refine qmet (L0 := [(0, .inr (.inr (.inl x0))), (1, .inl x1)]) qm_State_nailOf (plainFor_of_name (by decide)) [.inr (.inr (.inl x0)), .inl x1] rfl (Nat.le_of_ble_eq_true rfl) rfl (fun p e s m args below meth c X => ?_)
  unfold w_State_nailOf at hw
  refine qx_aload_n (x := x0) X d_State_nailOf_0 rfl 0 rfl ?_
  obtain ⟨g1, hw⟩ := hw
  refine qx_getR X qcls6 g1 3 (by decide) rfl wf_State_15 d_State_nailOf_1 ?_
  refine qx_iload_n (x := x1) X d_State_nailOf_4 rfl 1 rfl ?_
  obtain ⟨g2, hw⟩ := hw
  refine qx_ild X g2 d_State_nailOf_5 ?_
  refine qx_topi (fun y3 ey3 => ?_)
  have hw := hw y3 ey3
  refine qx_istore_n (L' := [(2, .inl y3), (0, .inr (.inr (.inl x0))), (1, .inl x1)]) X d_State_nailOf_6 rfl (by decide) rfl ?_
  refine qx_iload_n (x := y3) X d_State_nailOf_7 rfl 0 rfl ?_
  refine qx_if_lt X 23 d_State_nailOf_8 (by decide) (fun q4 => ?_) (fun q4 => ?_)
  · have hw := hw.1 q4
    refine qx_bipush (v := (-2 : Int32)) X d_State_nailOf_23 (by decide) ?_
    exact qx_iret X hw (Nat.le_refl 0) (Nat.le_refl 0) rfl d_State_nailOf_25
  · have hw := hw.2 q4
    refine qx_aload_n (x := x0) X d_State_nailOf_11 rfl 1 rfl ?_
    refine qx_getR X qcls6 g1 0 (by decide) rfl wf_State_27 d_State_nailOf_12 ?_
    obtain ⟨g5, hw⟩ := hw
    refine qx_getR X qcls8 g5 1 (by decide) rfl wf_State_59 d_State_nailOf_15 ?_
    refine qx_iload_n (x := y3) X d_State_nailOf_18 rfl 0 rfl ?_
    obtain ⟨g6, hw⟩ := hw
    refine qx_ild X g6 d_State_nailOf_19 ?_
    refine qx_goto X 25 d_State_nailOf_20 (by decide) ?_
    exact qx_iret X hw (Nat.le_refl 0) (Nat.le_refl 0) rfl d_State_nailOf_25
set_option maxRecDepth 4000 in
theorem t_State_peopleOnNail_4 (X : qX p s m args meth c D cy b adK adV prog_8_method_9_code "CoatHangers$State" 4 (some .int) "peopleOnNail") (N k : Nat) (x0 : Nat) (x1 : Int32) (x2 : Int32) (x3 : Int32) (h : qH) (Q : Int32 → qH → Prop)  (hw : w_State_peopleOnNail_4 N k x0 x1 x2 x3 h Q ) : qW p l e (qrm 1 0 0 22) s m args below meth c D cy b 4 0 0 (MQ below (qQc D cy b qrI Q) args s 0 0 (qA b)) 4 [(0, .inr (.inr (.inl x0))), (1, .inl x1), (2, .inl x2), (3, .inl x3)] [] h := by
  induction k generalizing x0 x1 x2 x3 h with
  | zero => exact hw.elim
  | succ k ih =>
    refine qx_iload_n (x := x3) X d_State_peopleOnNail_4 rfl 3 rfl ?_
    refine qx_aload_n (x := x0) X d_State_peopleOnNail_5 rfl 0 rfl ?_
    obtain ⟨g1, hw⟩ := hw
    refine qx_getR X qcls6 g1 0 (by decide) rfl wf_State_27 d_State_peopleOnNail_6 ?_
    obtain ⟨g2, hw⟩ := hw
    refine qx_getI X qcls8 g2 3 (by decide) rfl wf_State_56 d_State_peopleOnNail_9 ?_
    refine qx_icmp_ge X 38 d_State_peopleOnNail_12 (by decide) (fun q3 => ?_) (fun q3 => ?_)
    · have hw := hw.1 q3
      refine qx_iload_n (x := x2) X d_State_peopleOnNail_38 rfl 2 rfl ?_
      exact qx_iret X hw (Nat.le_refl 0) (Nat.le_refl 0) rfl d_State_peopleOnNail_39
    · have hw := hw.2 q3
      refine qx_iload_n (x := x2) X d_State_peopleOnNail_15 rfl 2 rfl ?_
      refine qx_aload_n (x := x0) X d_State_peopleOnNail_16 rfl 0 rfl ?_
      refine qx_iload_n (x := x3) X d_State_peopleOnNail_17 rfl 3 rfl ?_
      refine qx_callVI (st := [.int x2]) (As := [.int x3]) X (t_State_nailOf (adK := adK) (adV := adV) l D cy b N x0 x3 h _ hw) qm_State_nailOf wm_State_62 wi_State_nailOf wl_State_nailOf qcls6 g1 rfl rfl rfl ⟨Nat.le_of_ble_eq_true rfl, Nat.le_of_ble_eq_true rfl⟩ ⟨Nat.le_refl 0, Nat.le_refl 0⟩ (Nat.le_of_ble_eq_true rfl) rfl d_State_peopleOnNail_18 (fun r4 h5 hw => ?_)
      refine qx_iload_n (x := x1) X d_State_peopleOnNail_21 rfl 1 rfl ?_
      refine qx_icmp_ne X 29 d_State_peopleOnNail_22 (by decide) (fun q6 => ?_) (fun q6 => ?_)
      · have hw := hw.1 q6
        refine qx_iconst (v := (0 : Int32)) X d_State_peopleOnNail_29 (by decide) ?_
        refine qx_iadd X d_State_peopleOnNail_30 ?_
        refine qx_topi (fun y7 ey7 => ?_)
        have hw := hw y7 ey7
        refine qx_istore_n (L' := [(2, .inl y7), (0, .inr (.inr (.inl x0))), (1, .inl x1), (3, .inl x3)]) X d_State_peopleOnNail_31 rfl (by decide) rfl ?_
        refine qx_iinc (v := (x3 + (1 : Int32))) (L' := [(3, .inl (x3 + (1 : Int32))), (2, .inl y7), (0, .inr (.inr (.inl x0))), (1, .inl x1)]) X d_State_peopleOnNail_32 3 rfl rfl (by decide) rfl ?_
        refine qx_goto X 4 d_State_peopleOnNail_35 (by decide) ?_
        refine qx_sub [2, 3, 1, 0] rfl ?_
        exact ih x0 x1 y7 (x3 + (1 : Int32)) h5 hw
      · have hw := hw.2 q6
        refine qx_iconst (v := (1 : Int32)) X d_State_peopleOnNail_25 (by decide) ?_
        refine qx_goto X 30 d_State_peopleOnNail_26 (by decide) ?_
        refine qx_iadd X d_State_peopleOnNail_30 ?_
        refine qx_topi (fun y8 ey8 => ?_)
        have hw := hw y8 ey8
        refine qx_istore_n (L' := [(2, .inl y8), (0, .inr (.inr (.inl x0))), (1, .inl x1), (3, .inl x3)]) X d_State_peopleOnNail_31 rfl (by decide) rfl ?_
        refine qx_iinc (v := (x3 + (1 : Int32))) (L' := [(3, .inl (x3 + (1 : Int32))), (2, .inl y8), (0, .inr (.inr (.inl x0))), (1, .inl x1)]) X d_State_peopleOnNail_32 3 rfl rfl (by decide) rfl ?_
        refine qx_goto X 4 d_State_peopleOnNail_35 (by decide) ?_
        refine qx_sub [2, 3, 1, 0] rfl ?_
        exact ih x0 x1 y8 (x3 + (1 : Int32)) h5 hw
set_option maxRecDepth 4000 in
theorem t_State_peopleOnNail {adK adV : Nat → Nat} (l : Launch) (D : va_G) (cy : Nat → ClassId) (b : Nat) (N : Nat) (x0 : Nat) (x1 : Int32) (h : qH) (Q : Int32 → qH → Prop) (hw : w_State_peopleOnNail N x0 x1 h Q) : Met l y_State_peopleOnNail (Cond.code y_State_peopleOnNail prog_8_method_9_code 4 (some .int) :: qT) (qrm 1 0 0 22) (qPc D cy b adK adV h [qr b x0, .int x1]) (qQc D cy b qrI Q) 0 0 (qA b) := by
  refine qmet (L0 := [(0, .inr (.inr (.inl x0))), (1, .inl x1)]) qm_State_peopleOnNail (plainFor_of_name (by decide)) [.inr (.inr (.inl x0)), .inl x1] rfl (Nat.le_of_ble_eq_true rfl) rfl (fun p e s m args below meth c X => ?_)
  unfold w_State_peopleOnNail at hw
  refine qx_iconst (v := (0 : Int32)) X d_State_peopleOnNail_0 (by decide) ?_
  refine qx_istore_n (L' := [(2, .inl (0 : Int32)), (0, .inr (.inr (.inl x0))), (1, .inl x1)]) X d_State_peopleOnNail_1 rfl (by decide) rfl ?_
  refine qx_iconst (v := (0 : Int32)) X d_State_peopleOnNail_2 (by decide) ?_
  refine qx_istore_n (L' := [(3, .inl (0 : Int32)), (2, .inl (0 : Int32)), (0, .inr (.inr (.inl x0))), (1, .inl x1)]) X d_State_peopleOnNail_3 rfl (by decide) rfl ?_
  refine qx_sub [2, 3, 1, 0] rfl ?_
  exact t_State_peopleOnNail_4 X N N x0 x1 (0 : Int32) (0 : Int32) h Q  hw 
set_option maxRecDepth 4000 in
theorem t_State_othersBeside {adK adV : Nat → Nat} (l : Launch) (D : va_G) (cy : Nat → ClassId) (b : Nat) (N : Nat) (x0 : Nat) (x1 : Int32) (h : qH) (Q : Int32 → qH → Prop) (hw : w_State_othersBeside N x0 x1 h Q) : Met l y_State_othersBeside (Cond.code y_State_othersBeside prog_8_method_10_code 2 (some .int) :: qT) (qrm 2 0 0 45) (qPc D cy b adK adV h [qr b x0, .int x1]) (qQc D cy b qrI Q) 0 0 (qA b) := by
  refine qmet (L0 := [(0, .inr (.inr (.inl x0))), (1, .inl x1)]) qm_State_othersBeside (plainFor_of_name (by decide)) [.inr (.inr (.inl x0)), .inl x1] rfl (Nat.le_of_ble_eq_true rfl) rfl (fun p e s m args below meth c X => ?_)
  unfold w_State_othersBeside at hw
  refine qx_aload_n (x := x0) X d_State_othersBeside_0 rfl 0 rfl ?_
  refine qx_iload_n (x := x1) X d_State_othersBeside_1 rfl 1 rfl ?_
  obtain ⟨g1, hw⟩ := hw
  refine qx_callVI (st := []) (As := [.int x1]) X (t_State_isHung (adK := adK) (adV := adV) l D cy b N x0 x1 h _ hw) qm_State_isHung wm_State_65 wi_State_isHung wl_State_isHung qcls6 g1 rfl rfl rfl ⟨Nat.le_of_ble_eq_true rfl, Nat.le_of_ble_eq_true rfl⟩ ⟨Nat.le_refl 0, Nat.le_refl 0⟩ (Nat.le_of_ble_eq_true rfl) rfl d_State_othersBeside_2 (fun r2 h3 hw => ?_)
  refine qx_if_eq X 22 d_State_othersBeside_5 (by decide) (fun q4 => ?_) (fun q4 => ?_)
  · have hw := hw.1 q4
    refine qx_iconst (v := (0 : Int32)) X d_State_othersBeside_22 (by decide) ?_
    exact qx_iret X hw (Nat.le_refl 0) (Nat.le_refl 0) rfl d_State_othersBeside_23
  · have hw := hw.2 q4
    refine qx_aload_n (x := x0) X d_State_othersBeside_8 rfl 0 rfl ?_
    refine qx_aload_n (x := x0) X d_State_othersBeside_9 rfl 0 rfl ?_
    refine qx_iload_n (x := x1) X d_State_othersBeside_10 rfl 1 rfl ?_
    obtain ⟨g5, hw⟩ := hw
    refine qx_callVI (st := [qr b x0]) (As := [.int x1]) X (t_State_nailOf (adK := adK) (adV := adV) l D cy b N x0 x1 h3 _ hw) qm_State_nailOf wm_State_62 wi_State_nailOf wl_State_nailOf qcls6 g5 rfl rfl rfl ⟨Nat.le_of_ble_eq_true rfl, Nat.le_of_ble_eq_true rfl⟩ ⟨Nat.le_refl 0, Nat.le_refl 0⟩ (Nat.le_of_ble_eq_true rfl) rfl d_State_othersBeside_11 (fun r6 h7 hw => ?_)
    obtain ⟨g8, hw⟩ := hw
    refine qx_callVI (st := []) (As := [.int r6]) X (t_State_peopleOnNail (adK := adK) (adV := adV) l D cy b N x0 r6 h7 _ hw) qm_State_peopleOnNail wm_State_69 wi_State_peopleOnNail wl_State_peopleOnNail qcls6 g8 rfl rfl rfl ⟨Nat.le_of_ble_eq_true rfl, Nat.le_of_ble_eq_true rfl⟩ ⟨Nat.le_refl 0, Nat.le_refl 0⟩ (Nat.le_of_ble_eq_true rfl) rfl d_State_othersBeside_14 (fun r9 h10 hw => ?_)
    refine qx_iconst (v := (1 : Int32)) X d_State_othersBeside_17 (by decide) ?_
    refine qx_isub X d_State_othersBeside_18 ?_
    refine qx_goto X 23 d_State_othersBeside_19 (by decide) ?_
    exact qx_iret X hw (Nat.le_refl 0) (Nat.le_refl 0) rfl d_State_othersBeside_23
set_option maxRecDepth 4000 in
theorem t_State_begin_7 (X : qX p s m args meth c D cy b adK adV prog_8_method_2_code "CoatHangers$State" 2 (none) "begin") (N k : Nat) (x0 : Nat) (x1 : Int32) (h : qH) (Q : qH → Prop) (K63 : Nat → qH → Prop) (hw : w_State_begin_7 N k x0 x1 h Q K63) (hK63 : ∀ (x0 : Nat) (h : qH), K63 x0 h → qW p l e (qrm 0 0 0 0) s m args below meth c D cy b 2 0 0 (MQ below (qQc D cy b qrV (fun (_ : Unit) h => Q h)) args s 0 0 (qA b)) 63 [(0, .inr (.inr (.inl x0)))] [] h) : qW p l e (qrm 0 0 0 0) s m args below meth c D cy b 2 0 0 (MQ below (qQc D cy b qrV (fun (_ : Unit) h => Q h)) args s 0 0 (qA b)) 7 [(0, .inr (.inr (.inl x0))), (1, .inl x1)] [] h := by
  induction k generalizing x0 x1 h with
  | zero => exact hw.elim
  | succ k ih =>
    refine qx_iload_n (x := x1) X d_State_begin_7 rfl 1 rfl ?_
    refine qx_bipush (v := (6 : Int32)) X d_State_begin_8 (by decide) ?_
    refine qx_icmp_ge X 63 d_State_begin_10 (by decide) (fun q1 => ?_) (fun q1 => ?_)
    · have hw := hw.1 q1
      refine qx_sub [0] rfl ?_
      exact hK63 x0 h hw
    · have hw := hw.2 q1
      refine qx_aload_n (x := x0) X d_State_begin_13 rfl 0 rfl ?_
      obtain ⟨g2, hw⟩ := hw
      refine qx_getR X qcls6 g2 2 (by decide) rfl wf_State_9 d_State_begin_14 ?_
      refine qx_iload_n (x := x1) X d_State_begin_17 rfl 1 rfl ?_
      refine qx_aload_n (x := x0) X d_State_begin_18 rfl 0 rfl ?_
      refine qx_getR X qcls6 g2 0 (by decide) rfl wf_State_27 d_State_begin_19 ?_
      obtain ⟨g3, hw⟩ := hw
      refine qx_getR X qcls8 g3 4 (by decide) rfl wf_State_38 d_State_begin_22 ?_
      refine qx_iload_n (x := x1) X d_State_begin_25 rfl 1 rfl ?_
      obtain ⟨g4, hw⟩ := hw
      refine qx_ild X g4 d_State_begin_26 ?_
      obtain ⟨g5, hw⟩ := hw
      refine qx_ist X g5 d_State_begin_27 ?_
      refine qx_toph (fun h6 eh6 => ?_)
      have hw := hw h6 eh6
      refine qx_aload_n (x := x0) X d_State_begin_28 rfl 0 rfl ?_
      obtain ⟨g7, hw⟩ := hw
      refine qx_getR X qcls6 g7 3 (by decide) rfl wf_State_15 d_State_begin_29 ?_
      refine qx_iload_n (x := x1) X d_State_begin_32 rfl 1 rfl ?_
      refine qx_aload_n (x := x0) X d_State_begin_33 rfl 0 rfl ?_
      refine qx_getR X qcls6 g7 0 (by decide) rfl wf_State_27 d_State_begin_34 ?_
      obtain ⟨g8, hw⟩ := hw
      refine qx_getR X qcls8 g8 6 (by decide) rfl wf_State_43 d_State_begin_37 ?_
      refine qx_iload_n (x := x1) X d_State_begin_40 rfl 1 rfl ?_
      obtain ⟨g9, hw⟩ := hw
      refine qx_ild X g9 d_State_begin_41 ?_
      obtain ⟨g10, hw⟩ := hw
      refine qx_ist X g10 d_State_begin_42 ?_
      refine qx_toph (fun h11 eh11 => ?_)
      have hw := hw h11 eh11
      refine qx_aload_n (x := x0) X d_State_begin_43 rfl 0 rfl ?_
      obtain ⟨g12, hw⟩ := hw
      refine qx_getR X qcls6 g12 4 (by decide) rfl wf_State_18 d_State_begin_44 ?_
      refine qx_iload_n (x := x1) X d_State_begin_47 rfl 1 rfl ?_
      refine qx_iload_n (x := x1) X d_State_begin_48 rfl 1 rfl ?_
      obtain ⟨g13, hw⟩ := hw
      refine qx_ist X g13 d_State_begin_49 ?_
      refine qx_toph (fun h14 eh14 => ?_)
      have hw := hw h14 eh14
      refine qx_aload_n (x := x0) X d_State_begin_50 rfl 0 rfl ?_
      obtain ⟨g15, hw⟩ := hw
      refine qx_getR X qcls6 g15 5 (by decide) rfl wf_State_21 d_State_begin_51 ?_
      refine qx_iload_n (x := x1) X d_State_begin_54 rfl 1 rfl ?_
      refine qx_iconst (v := (0 : Int32)) X d_State_begin_55 (by decide) ?_
      obtain ⟨g16, hw⟩ := hw
      refine qx_ist X g16 d_State_begin_56 ?_
      refine qx_toph (fun h17 eh17 => ?_)
      have hw := hw h17 eh17
      refine qx_iinc (v := (x1 + (1 : Int32))) (L' := [(1, .inl (x1 + (1 : Int32))), (0, .inr (.inr (.inl x0)))]) X d_State_begin_57 1 rfl rfl (by decide) rfl ?_
      refine qx_goto X 7 d_State_begin_60 (by decide) ?_
      refine qx_sub [1, 0] rfl ?_
      exact ih x0 (x1 + (1 : Int32)) h17 hw
set_option maxRecDepth 4000 in
theorem t_State_begin_65 (X : qX p s m args meth c D cy b adK adV prog_8_method_2_code "CoatHangers$State" 2 (none) "begin") (N k : Nat) (x0 : Nat) (x1 : Int32) (h : qH) (Q : qH → Prop)  (hw : w_State_begin_65 N k x0 x1 h Q ) : qW p l e (qrm 0 0 0 0) s m args below meth c D cy b 2 0 0 (MQ below (qQc D cy b qrV (fun (_ : Unit) h => Q h)) args s 0 0 (qA b)) 65 [(0, .inr (.inr (.inl x0))), (1, .inl x1)] [] h := by
  induction k generalizing x0 x1 h with
  | zero => exact hw.elim
  | succ k ih =>
    refine qx_iload_n (x := x1) X d_State_begin_65 rfl 1 rfl ?_
    refine qx_bipush (v := (7 : Int32)) X d_State_begin_66 (by decide) ?_
    refine qx_icmp_ge X 84 d_State_begin_68 (by decide) (fun q1 => ?_) (fun q1 => ?_)
    · have hw := hw.1 q1
      exact qx_vret X hw (Nat.le_refl 0) (Nat.le_refl 0) rfl d_State_begin_84
    · have hw := hw.2 q1
      refine qx_aload_n (x := x0) X d_State_begin_71 rfl 0 rfl ?_
      obtain ⟨g2, hw⟩ := hw
      refine qx_getR X qcls6 g2 6 (by decide) rfl wf_State_24 d_State_begin_72 ?_
      refine qx_iload_n (x := x1) X d_State_begin_75 rfl 1 rfl ?_
      refine qx_iconst (v := (0 : Int32)) X d_State_begin_76 (by decide) ?_
      obtain ⟨g3, hw⟩ := hw
      refine qx_ist X g3 d_State_begin_77 ?_
      refine qx_toph (fun h4 eh4 => ?_)
      have hw := hw h4 eh4
      refine qx_iinc (v := (x1 + (1 : Int32))) (L' := [(1, .inl (x1 + (1 : Int32))), (0, .inr (.inr (.inl x0)))]) X d_State_begin_78 1 rfl rfl (by decide) rfl ?_
      refine qx_goto X 65 d_State_begin_81 (by decide) ?_
      refine qx_sub [1, 0] rfl ?_
      exact ih x0 (x1 + (1 : Int32)) h4 hw
set_option maxRecDepth 4000 in
theorem t_State_begin {adK adV : Nat → Nat} (l : Launch) (D : va_G) (cy : Nat → ClassId) (b : Nat) (N : Nat) (x0 : Nat) (h : qH) (Q : qH → Prop) (hw : w_State_begin N x0 h Q) : Met l y_State_begin (Cond.code y_State_begin prog_8_method_2_code 2 (none) :: qT) (qrm 0 0 0 0) (qPc D cy b adK adV h [qr b x0]) (qQc D cy b qrV (fun (_ : Unit) h => Q h)) 0 0 (qA b) := by
  refine qmet (L0 := [(0, .inr (.inr (.inl x0)))]) qm_State_begin (plainFor_of_name (by decide)) [.inr (.inr (.inl x0))] rfl (Nat.le_of_ble_eq_true rfl) rfl (fun p e s m args below meth c X => ?_)
  unfold w_State_begin at hw
  refine qx_aload_n (x := x0) X d_State_begin_0 rfl 0 rfl ?_
  refine qx_iconst (v := (0 : Int32)) X d_State_begin_1 (by decide) ?_
  obtain ⟨g1, hw⟩ := hw
  refine qx_putI X qcls6 g1 1 (by decide) rfl wf_State_34 rfl rfl rfl d_State_begin_2 ?_
  refine qx_toph (fun h2 eh2 => ?_)
  have hw := hw h2 eh2
  refine qx_iconst (v := (0 : Int32)) X d_State_begin_5 (by decide) ?_
  refine qx_istore_n (L' := [(1, .inl (0 : Int32)), (0, .inr (.inr (.inl x0)))]) X d_State_begin_6 rfl (by decide) rfl ?_
  refine qx_sub [1, 0] rfl ?_
  refine t_State_begin_7 X N N x0 (0 : Int32) h2 Q _ hw (fun x3 h4 hw => ?_)
  refine qx_iconst (v := (0 : Int32)) X d_State_begin_63 (by decide) ?_
  refine qx_istore_n (L' := [(1, .inl (0 : Int32)), (0, .inr (.inr (.inl x3)))]) X d_State_begin_64 rfl (by decide) rfl ?_
  refine qx_sub [1, 0] rfl ?_
  exact t_State_begin_65 X N N x3 (0 : Int32) h4 Q  hw 
set_option maxRecDepth 4000 in
theorem t_State_become {adK adV : Nat → Nat} (l : Launch) (D : va_G) (cy : Nat → ClassId) (b : Nat) (N : Nat) (x0 : Nat) (x1 : Nat) (h : qH) (Q : qH → Prop) (hw : w_State_become N x0 x1 h Q) : Met l y_State_become (Cond.code y_State_become prog_8_method_3_code 2 (none) :: qT) (qrm 1 0 0 18) (qPc D cy b adK adV h [qr b x0, qr b x1]) (qQc D cy b qrV (fun (_ : Unit) h => Q h)) 0 0 (qA b) := by
  refine qmet (L0 := [(0, .inr (.inr (.inl x0))), (1, .inr (.inr (.inl x1)))]) qm_State_become (plainFor_of_name (by decide)) [.inr (.inr (.inl x0)), .inr (.inr (.inl x1))] rfl (Nat.le_of_ble_eq_true rfl) rfl (fun p e s m args below meth c X => ?_)
  unfold w_State_become at hw
  refine qx_aload_n (x := x0) X d_State_become_0 rfl 0 rfl ?_
  refine qx_aload_n (x := x1) X d_State_become_1 rfl 1 rfl ?_
  obtain ⟨g1, hw⟩ := hw
  refine qx_getI X qcls6 g1 1 (by decide) rfl wf_State_34 d_State_become_2 ?_
  obtain ⟨g2, hw⟩ := hw
  refine qx_putI X qcls6 g2 1 (by decide) rfl wf_State_34 rfl rfl rfl d_State_become_5 ?_
  refine qx_toph (fun h3 eh3 => ?_)
  have hw := hw h3 eh3
  refine qx_aload_n (x := x1) X d_State_become_8 rfl 1 rfl ?_
  obtain ⟨g4, hw⟩ := hw
  refine qx_getR X qcls6 g4 2 (by decide) rfl wf_State_9 d_State_become_9 ?_
  refine qx_iconst (v := (0 : Int32)) X d_State_become_12 (by decide) ?_
  refine qx_aload_n (x := x0) X d_State_become_13 rfl 0 rfl ?_
  obtain ⟨g5, hw⟩ := hw
  refine qx_getR X qcls6 g5 2 (by decide) rfl wf_State_9 d_State_become_14 ?_
  refine qx_iconst (v := (0 : Int32)) X d_State_become_17 (by decide) ?_
  refine qx_bipush (v := (6 : Int32)) X d_State_become_18 (by decide) ?_
  obtain ⟨g6, hw⟩ := hw
  refine qx_copyi X g6 wm_State_46 (Nat.le_of_ble_eq_true rfl) (Nat.le_of_ble_eq_true rfl) d_State_become_20 ?_
  refine qx_toph (fun h7 eh7 => ?_)
  have hw := hw h7 eh7
  refine qx_aload_n (x := x1) X d_State_become_23 rfl 1 rfl ?_
  obtain ⟨g8, hw⟩ := hw
  refine qx_getR X qcls6 g8 3 (by decide) rfl wf_State_15 d_State_become_24 ?_
  refine qx_iconst (v := (0 : Int32)) X d_State_become_27 (by decide) ?_
  refine qx_aload_n (x := x0) X d_State_become_28 rfl 0 rfl ?_
  obtain ⟨g9, hw⟩ := hw
  refine qx_getR X qcls6 g9 3 (by decide) rfl wf_State_15 d_State_become_29 ?_
  refine qx_iconst (v := (0 : Int32)) X d_State_become_32 (by decide) ?_
  refine qx_bipush (v := (6 : Int32)) X d_State_become_33 (by decide) ?_
  obtain ⟨g10, hw⟩ := hw
  refine qx_copyi X g10 wm_State_46 (Nat.le_of_ble_eq_true rfl) (Nat.le_of_ble_eq_true rfl) d_State_become_35 ?_
  refine qx_toph (fun h11 eh11 => ?_)
  have hw := hw h11 eh11
  refine qx_aload_n (x := x1) X d_State_become_38 rfl 1 rfl ?_
  obtain ⟨g12, hw⟩ := hw
  refine qx_getR X qcls6 g12 4 (by decide) rfl wf_State_18 d_State_become_39 ?_
  refine qx_iconst (v := (0 : Int32)) X d_State_become_42 (by decide) ?_
  refine qx_aload_n (x := x0) X d_State_become_43 rfl 0 rfl ?_
  obtain ⟨g13, hw⟩ := hw
  refine qx_getR X qcls6 g13 4 (by decide) rfl wf_State_18 d_State_become_44 ?_
  refine qx_iconst (v := (0 : Int32)) X d_State_become_47 (by decide) ?_
  refine qx_bipush (v := (6 : Int32)) X d_State_become_48 (by decide) ?_
  obtain ⟨g14, hw⟩ := hw
  refine qx_copyi X g14 wm_State_46 (Nat.le_of_ble_eq_true rfl) (Nat.le_of_ble_eq_true rfl) d_State_become_50 ?_
  refine qx_toph (fun h15 eh15 => ?_)
  have hw := hw h15 eh15
  refine qx_aload_n (x := x1) X d_State_become_53 rfl 1 rfl ?_
  obtain ⟨g16, hw⟩ := hw
  refine qx_getR X qcls6 g16 5 (by decide) rfl wf_State_21 d_State_become_54 ?_
  refine qx_iconst (v := (0 : Int32)) X d_State_become_57 (by decide) ?_
  refine qx_aload_n (x := x0) X d_State_become_58 rfl 0 rfl ?_
  obtain ⟨g17, hw⟩ := hw
  refine qx_getR X qcls6 g17 5 (by decide) rfl wf_State_21 d_State_become_59 ?_
  refine qx_iconst (v := (0 : Int32)) X d_State_become_62 (by decide) ?_
  refine qx_bipush (v := (6 : Int32)) X d_State_become_63 (by decide) ?_
  obtain ⟨g18, hw⟩ := hw
  refine qx_copyi X g18 wm_State_46 (Nat.le_of_ble_eq_true rfl) (Nat.le_of_ble_eq_true rfl) d_State_become_65 ?_
  refine qx_toph (fun h19 eh19 => ?_)
  have hw := hw h19 eh19
  refine qx_aload_n (x := x1) X d_State_become_68 rfl 1 rfl ?_
  obtain ⟨g20, hw⟩ := hw
  refine qx_getR X qcls6 g20 6 (by decide) rfl wf_State_24 d_State_become_69 ?_
  refine qx_iconst (v := (0 : Int32)) X d_State_become_72 (by decide) ?_
  refine qx_aload_n (x := x0) X d_State_become_73 rfl 0 rfl ?_
  obtain ⟨g21, hw⟩ := hw
  refine qx_getR X qcls6 g21 6 (by decide) rfl wf_State_24 d_State_become_74 ?_
  refine qx_iconst (v := (0 : Int32)) X d_State_become_77 (by decide) ?_
  refine qx_bipush (v := (7 : Int32)) X d_State_become_78 (by decide) ?_
  obtain ⟨g22, hw⟩ := hw
  refine qx_copyi X g22 wm_State_46 (Nat.le_of_ble_eq_true rfl) (Nat.le_of_ble_eq_true rfl) d_State_become_80 ?_
  refine qx_toph (fun h23 eh23 => ?_)
  have hw := hw h23 eh23
  exact qx_vret X hw (Nat.le_refl 0) (Nat.le_refl 0) rfl d_State_become_83
set_option maxRecDepth 4000 in
theorem t_State_exchange {adK adV : Nat → Nat} (l : Launch) (D : va_G) (cy : Nat → ClassId) (b : Nat) (N : Nat) (x0 : Nat) (x1 : Int32) (x2 : Int32) (h : qH) (Q : qH → Prop) (hw : w_State_exchange N x0 x1 x2 h Q) : Met l y_State_exchange (Cond.code y_State_exchange prog_8_method_4_code 4 (none) :: qT) (qrm 0 0 0 0) (qPc D cy b adK adV h [qr b x0, .int x1, .int x2]) (qQc D cy b qrV (fun (_ : Unit) h => Q h)) 0 0 (qA b) := by
  refine qmet (L0 := [(0, .inr (.inr (.inl x0))), (1, .inl x1), (2, .inl x2)]) qm_State_exchange (plainFor_of_name (by decide)) [.inr (.inr (.inl x0)), .inl x1, .inl x2] rfl (Nat.le_of_ble_eq_true rfl) rfl (fun p e s m args below meth c X => ?_)
  unfold w_State_exchange at hw
  refine qx_aload_n (x := x0) X d_State_exchange_0 rfl 0 rfl ?_
  obtain ⟨g1, hw⟩ := hw
  refine qx_getR X qcls6 g1 3 (by decide) rfl wf_State_15 d_State_exchange_1 ?_
  refine qx_iload_n (x := x1) X d_State_exchange_4 rfl 1 rfl ?_
  obtain ⟨g2, hw⟩ := hw
  refine qx_ild X g2 d_State_exchange_5 ?_
  refine qx_topi (fun y3 ey3 => ?_)
  have hw := hw y3 ey3
  refine qx_istore_n (L' := [(3, .inl y3), (0, .inr (.inr (.inl x0))), (1, .inl x1), (2, .inl x2)]) X d_State_exchange_6 rfl (by decide) rfl ?_
  refine qx_aload_n (x := x0) X d_State_exchange_7 rfl 1 rfl ?_
  refine qx_getR X qcls6 g1 3 (by decide) rfl wf_State_15 d_State_exchange_8 ?_
  refine qx_iload_n (x := x1) X d_State_exchange_11 rfl 2 rfl ?_
  refine qx_aload_n (x := x0) X d_State_exchange_12 rfl 1 rfl ?_
  refine qx_getR X qcls6 g1 3 (by decide) rfl wf_State_15 d_State_exchange_13 ?_
  refine qx_iload_n (x := x2) X d_State_exchange_16 rfl 3 rfl ?_
  obtain ⟨g4, hw⟩ := hw
  refine qx_ild X g4 d_State_exchange_17 ?_
  refine qx_ist X g2 d_State_exchange_18 ?_
  refine qx_toph (fun h5 eh5 => ?_)
  have hw := hw h5 eh5
  refine qx_aload_n (x := x0) X d_State_exchange_19 rfl 1 rfl ?_
  obtain ⟨g6, hw⟩ := hw
  refine qx_getR X qcls6 g6 3 (by decide) rfl wf_State_15 d_State_exchange_20 ?_
  refine qx_iload_n (x := x2) X d_State_exchange_23 rfl 3 rfl ?_
  refine qx_iload_n (x := y3) X d_State_exchange_24 rfl 0 rfl ?_
  obtain ⟨g7, hw⟩ := hw
  refine qx_ist X g7 d_State_exchange_25 ?_
  refine qx_toph (fun h8 eh8 => ?_)
  have hw := hw h8 eh8
  exact qx_vret X hw (Nat.le_refl 0) (Nat.le_refl 0) rfl d_State_exchange_26
set_option maxRecDepth 4000 in
theorem t_State_whoIsOn_2 (X : qX p s m args meth c D cy b adK adV prog_8_method_7_code "CoatHangers$State" 3 (some .int) "whoIsOn") (N k : Nat) (x0 : Nat) (x1 : Int32) (x2 : Int32) (h : qH) (Q : Int32 → qH → Prop)  (hw : w_State_whoIsOn_2 N k x0 x1 x2 h Q ) : qW p l e (qrm 0 0 0 0) s m args below meth c D cy b 3 0 0 (MQ below (qQc D cy b qrI Q) args s 0 0 (qA b)) 2 [(0, .inr (.inr (.inl x0))), (1, .inl x1), (2, .inl x2)] [] h := by
  induction k generalizing x0 x1 x2 h with
  | zero => exact hw.elim
  | succ k ih =>
    refine qx_iload_n (x := x2) X d_State_whoIsOn_2 rfl 2 rfl ?_
    refine qx_aload_n (x := x0) X d_State_whoIsOn_3 rfl 0 rfl ?_
    obtain ⟨g1, hw⟩ := hw
    refine qx_getR X qcls6 g1 0 (by decide) rfl wf_State_27 d_State_whoIsOn_4 ?_
    obtain ⟨g2, hw⟩ := hw
    refine qx_getI X qcls8 g2 3 (by decide) rfl wf_State_56 d_State_whoIsOn_7 ?_
    refine qx_icmp_ge X 31 d_State_whoIsOn_10 (by decide) (fun q3 => ?_) (fun q3 => ?_)
    · have hw := hw.1 q3
      refine qx_bipush (v := (-2 : Int32)) X d_State_whoIsOn_31 (by decide) ?_
      exact qx_iret X hw (Nat.le_refl 0) (Nat.le_refl 0) rfl d_State_whoIsOn_33
    · have hw := hw.2 q3
      refine qx_aload_n (x := x0) X d_State_whoIsOn_13 rfl 0 rfl ?_
      refine qx_getR X qcls6 g1 3 (by decide) rfl wf_State_15 d_State_whoIsOn_14 ?_
      refine qx_iload_n (x := x2) X d_State_whoIsOn_17 rfl 2 rfl ?_
      obtain ⟨g4, hw⟩ := hw
      refine qx_ild X g4 d_State_whoIsOn_18 ?_
      refine qx_iload_n (x := x1) X d_State_whoIsOn_19 rfl 1 rfl ?_
      refine qx_icmp_ne X 25 d_State_whoIsOn_20 (by decide) (fun q5 => ?_) (fun q5 => ?_)
      · have hw := hw.1 q5
        refine qx_iinc (v := (x2 + (1 : Int32))) (L' := [(2, .inl (x2 + (1 : Int32))), (0, .inr (.inr (.inl x0))), (1, .inl x1)]) X d_State_whoIsOn_25 2 rfl rfl (by decide) rfl ?_
        refine qx_goto X 2 d_State_whoIsOn_28 (by decide) ?_
        refine qx_sub [1, 2, 0] rfl ?_
        exact ih x0 x1 (x2 + (1 : Int32)) h hw
      · have hw := hw.2 q5
        refine qx_iload_n (x := x2) X d_State_whoIsOn_23 rfl 2 rfl ?_
        exact qx_iret X hw (Nat.le_refl 0) (Nat.le_refl 0) rfl d_State_whoIsOn_24
set_option maxRecDepth 4000 in
theorem t_State_whoIsOn {adK adV : Nat → Nat} (l : Launch) (D : va_G) (cy : Nat → ClassId) (b : Nat) (N : Nat) (x0 : Nat) (x1 : Int32) (h : qH) (Q : Int32 → qH → Prop) (hw : w_State_whoIsOn N x0 x1 h Q) : Met l y_State_whoIsOn (Cond.code y_State_whoIsOn prog_8_method_7_code 3 (some .int) :: qT) (qrm 0 0 0 0) (qPc D cy b adK adV h [qr b x0, .int x1]) (qQc D cy b qrI Q) 0 0 (qA b) := by
  refine qmet (L0 := [(0, .inr (.inr (.inl x0))), (1, .inl x1)]) qm_State_whoIsOn (plainFor_of_name (by decide)) [.inr (.inr (.inl x0)), .inl x1] rfl (Nat.le_of_ble_eq_true rfl) rfl (fun p e s m args below meth c X => ?_)
  unfold w_State_whoIsOn at hw
  refine qx_iconst (v := (0 : Int32)) X d_State_whoIsOn_0 (by decide) ?_
  refine qx_istore_n (L' := [(2, .inl (0 : Int32)), (0, .inr (.inr (.inl x0))), (1, .inl x1)]) X d_State_whoIsOn_1 rfl (by decide) rfl ?_
  refine qx_sub [1, 2, 0] rfl ?_
  exact t_State_whoIsOn_2 X N N x0 x1 (0 : Int32) h Q  hw 
set_option maxRecDepth 4000 in
theorem t_State_isTaken {adK adV : Nat → Nat} (l : Launch) (D : va_G) (cy : Nat → ClassId) (b : Nat) (N : Nat) (x0 : Nat) (x1 : Int32) (h : qH) (Q : Int32 → qH → Prop) (hw : w_State_isTaken N x0 x1 h Q) : Met l y_State_isTaken (Cond.code y_State_isTaken prog_8_method_6_code 2 (some .boolean) :: qT) (qrm 1 0 0 22) (qPc D cy b adK adV h [qr b x0, .int x1]) (qQc D cy b qrI Q) 0 0 (qA b) := by
  refine qmet (L0 := [(0, .inr (.inr (.inl x0))), (1, .inl x1)]) qm_State_isTaken (plainFor_of_name (by decide)) [.inr (.inr (.inl x0)), .inl x1] rfl (Nat.le_of_ble_eq_true rfl) rfl (fun p e s m args below meth c X => ?_)
  unfold w_State_isTaken at hw
  refine qx_aload_n (x := x0) X d_State_isTaken_0 rfl 0 rfl ?_
  refine qx_iload_n (x := x1) X d_State_isTaken_1 rfl 1 rfl ?_
  obtain ⟨g1, hw⟩ := hw
  refine qx_callVI (st := []) (As := [.int x1]) X (t_State_whoIsOn (adK := adK) (adV := adV) l D cy b N x0 x1 h _ hw) qm_State_whoIsOn wm_State_52 wi_State_whoIsOn wl_State_whoIsOn qcls6 g1 rfl rfl rfl ⟨Nat.le_of_ble_eq_true rfl, Nat.le_of_ble_eq_true rfl⟩ ⟨Nat.le_refl 0, Nat.le_refl 0⟩ (Nat.le_of_ble_eq_true rfl) rfl d_State_isTaken_2 (fun r2 h3 hw => ?_)
  refine qx_if_lt X 12 d_State_isTaken_5 (by decide) (fun q4 => ?_) (fun q4 => ?_)
  · have hw := hw.1 q4
    refine qx_iconst (v := (0 : Int32)) X d_State_isTaken_12 (by decide) ?_
    exact qx_zret X hw (Nat.le_refl 0) (Nat.le_refl 0) rfl d_State_isTaken_13
  · have hw := hw.2 q4
    refine qx_iconst (v := (1 : Int32)) X d_State_isTaken_8 (by decide) ?_
    refine qx_goto X 13 d_State_isTaken_9 (by decide) ?_
    exact qx_zret X hw (Nat.le_refl 0) (Nat.le_refl 0) rfl d_State_isTaken_13
set_option maxRecDepth 4000 in
theorem t_State_hasSelvesOf_2 (X : qX p s m args meth c D cy b adK adV prog_8_method_11_code "CoatHangers$State" 3 (some .boolean) "hasSelvesOf") (N k : Nat) (x0 : Nat) (x1 : Nat) (x2 : Int32) (h : qH) (Q : Int32 → qH → Prop)  (hw : w_State_hasSelvesOf_2 N k x0 x1 x2 h Q ) : qW p l e (qrm 0 0 0 0) s m args below meth c D cy b 3 0 0 (MQ below (qQc D cy b qrI Q) args s 0 0 (qA b)) 2 [(0, .inr (.inr (.inl x0))), (1, .inr (.inr (.inl x1))), (2, .inl x2)] [] h := by
  induction k generalizing x0 x1 x2 h with
  | zero => exact hw.elim
  | succ k ih =>
    refine qx_iload_n (x := x2) X d_State_hasSelvesOf_2 rfl 2 rfl ?_
    refine qx_aload_n (x := x0) X d_State_hasSelvesOf_3 rfl 0 rfl ?_
    obtain ⟨g1, hw⟩ := hw
    refine qx_getR X qcls6 g1 0 (by decide) rfl wf_State_27 d_State_hasSelvesOf_4 ?_
    obtain ⟨g2, hw⟩ := hw
    refine qx_getI X qcls8 g2 3 (by decide) rfl wf_State_56 d_State_hasSelvesOf_7 ?_
    refine qx_icmp_ge X 36 d_State_hasSelvesOf_10 (by decide) (fun q3 => ?_) (fun q3 => ?_)
    · have hw := hw.1 q3
      refine qx_iconst (v := (1 : Int32)) X d_State_hasSelvesOf_36 (by decide) ?_
      exact qx_zret X hw (Nat.le_refl 0) (Nat.le_refl 0) rfl d_State_hasSelvesOf_37
    · have hw := hw.2 q3
      refine qx_aload_n (x := x0) X d_State_hasSelvesOf_13 rfl 0 rfl ?_
      refine qx_getR X qcls6 g1 4 (by decide) rfl wf_State_18 d_State_hasSelvesOf_14 ?_
      refine qx_iload_n (x := x2) X d_State_hasSelvesOf_17 rfl 2 rfl ?_
      obtain ⟨g4, hw⟩ := hw
      refine qx_ild X g4 d_State_hasSelvesOf_18 ?_
      refine qx_aload_n (x := x1) X d_State_hasSelvesOf_19 rfl 1 rfl ?_
      obtain ⟨g5, hw⟩ := hw
      refine qx_getR X qcls6 g5 4 (by decide) rfl wf_State_18 d_State_hasSelvesOf_20 ?_
      refine qx_iload_n (x := x2) X d_State_hasSelvesOf_23 rfl 2 rfl ?_
      obtain ⟨g6, hw⟩ := hw
      refine qx_ild X g6 d_State_hasSelvesOf_24 ?_
      refine qx_icmp_eq X 30 d_State_hasSelvesOf_25 (by decide) (fun q7 => ?_) (fun q7 => ?_)
      · have hw := hw.1 q7
        refine qx_iinc (v := (x2 + (1 : Int32))) (L' := [(2, .inl (x2 + (1 : Int32))), (0, .inr (.inr (.inl x0))), (1, .inr (.inr (.inl x1)))]) X d_State_hasSelvesOf_30 2 rfl rfl (by decide) rfl ?_
        refine qx_goto X 2 d_State_hasSelvesOf_33 (by decide) ?_
        refine qx_sub [1, 2, 0] rfl ?_
        exact ih x0 x1 (x2 + (1 : Int32)) h hw
      · have hw := hw.2 q7
        refine qx_iconst (v := (0 : Int32)) X d_State_hasSelvesOf_28 (by decide) ?_
        exact qx_zret X hw (Nat.le_refl 0) (Nat.le_refl 0) rfl d_State_hasSelvesOf_29
set_option maxRecDepth 4000 in
theorem t_State_hasSelvesOf {adK adV : Nat → Nat} (l : Launch) (D : va_G) (cy : Nat → ClassId) (b : Nat) (N : Nat) (x0 : Nat) (x1 : Nat) (h : qH) (Q : Int32 → qH → Prop) (hw : w_State_hasSelvesOf N x0 x1 h Q) : Met l y_State_hasSelvesOf (Cond.code y_State_hasSelvesOf prog_8_method_11_code 3 (some .boolean) :: qT) (qrm 0 0 0 0) (qPc D cy b adK adV h [qr b x0, qr b x1]) (qQc D cy b qrI Q) 0 0 (qA b) := by
  refine qmet (L0 := [(0, .inr (.inr (.inl x0))), (1, .inr (.inr (.inl x1)))]) qm_State_hasSelvesOf (plainFor_of_name (by decide)) [.inr (.inr (.inl x0)), .inr (.inr (.inl x1))] rfl (Nat.le_of_ble_eq_true rfl) rfl (fun p e s m args below meth c X => ?_)
  unfold w_State_hasSelvesOf at hw
  refine qx_iconst (v := (0 : Int32)) X d_State_hasSelvesOf_0 (by decide) ?_
  refine qx_istore_n (L' := [(2, .inl (0 : Int32)), (0, .inr (.inr (.inl x0))), (1, .inr (.inr (.inl x1)))]) X d_State_hasSelvesOf_1 rfl (by decide) rfl ?_
  refine qx_sub [1, 2, 0] rfl ?_
  exact t_State_hasSelvesOf_2 X N N x0 x1 (0 : Int32) h Q  hw 
set_option maxRecDepth 4000 in
theorem t_State_bitsOfHung_4 (X : qX p s m args meth c D cy b adK adV prog_8_method_12_code "CoatHangers$State" 3 (some .int) "bitsOfHung") (N k : Nat) (x0 : Nat) (x1 : Int32) (x2 : Int32) (h : qH) (Q : Int32 → qH → Prop)  (hw : w_State_bitsOfHung_4 N k x0 x1 x2 h Q ) : qW p l e (qrm 1 0 0 21) s m args below meth c D cy b 3 0 0 (MQ below (qQc D cy b qrI Q) args s 0 0 (qA b)) 4 [(0, .inr (.inr (.inl x0))), (1, .inl x1), (2, .inl x2)] [] h := by
  induction k generalizing x0 x1 x2 h with
  | zero => exact hw.elim
  | succ k ih =>
    refine qx_iload_n (x := x2) X d_State_bitsOfHung_4 rfl 2 rfl ?_
    refine qx_aload_n (x := x0) X d_State_bitsOfHung_5 rfl 0 rfl ?_
    obtain ⟨g1, hw⟩ := hw
    refine qx_getR X qcls6 g1 0 (by decide) rfl wf_State_27 d_State_bitsOfHung_6 ?_
    obtain ⟨g2, hw⟩ := hw
    refine qx_getI X qcls8 g2 3 (by decide) rfl wf_State_56 d_State_bitsOfHung_9 ?_
    refine qx_icmp_ge X 39 d_State_bitsOfHung_12 (by decide) (fun q3 => ?_) (fun q3 => ?_)
    · have hw := hw.1 q3
      refine qx_iload_n (x := x1) X d_State_bitsOfHung_39 rfl 1 rfl ?_
      exact qx_iret X hw (Nat.le_refl 0) (Nat.le_refl 0) rfl d_State_bitsOfHung_40
    · have hw := hw.2 q3
      refine qx_iload_n (x := x1) X d_State_bitsOfHung_15 rfl 1 rfl ?_
      refine qx_aload_n (x := x0) X d_State_bitsOfHung_16 rfl 0 rfl ?_
      refine qx_iload_n (x := x2) X d_State_bitsOfHung_17 rfl 2 rfl ?_
      refine qx_callVI (st := [.int x1]) (As := [.int x2]) X (t_State_isHung (adK := adK) (adV := adV) l D cy b N x0 x2 h _ hw) qm_State_isHung wm_State_65 wi_State_isHung wl_State_isHung qcls6 g1 rfl rfl rfl ⟨Nat.le_of_ble_eq_true rfl, Nat.le_of_ble_eq_true rfl⟩ ⟨Nat.le_refl 0, Nat.le_refl 0⟩ (Nat.le_of_ble_eq_true rfl) rfl d_State_bitsOfHung_18 (fun r4 h5 hw => ?_)
      refine qx_if_eq X 30 d_State_bitsOfHung_21 (by decide) (fun q6 => ?_) (fun q6 => ?_)
      · have hw := hw.1 q6
        refine qx_iconst (v := (0 : Int32)) X d_State_bitsOfHung_30 (by decide) ?_
        refine qx_ior X d_State_bitsOfHung_31 ?_
        refine qx_topi (fun y7 ey7 => ?_)
        have hw := hw y7 ey7
        refine qx_istore_n (L' := [(1, .inl y7), (0, .inr (.inr (.inl x0))), (2, .inl x2)]) X d_State_bitsOfHung_32 rfl (by decide) rfl ?_
        refine qx_iinc (v := (x2 + (1 : Int32))) (L' := [(2, .inl (x2 + (1 : Int32))), (1, .inl y7), (0, .inr (.inr (.inl x0)))]) X d_State_bitsOfHung_33 2 rfl rfl (by decide) rfl ?_
        refine qx_goto X 4 d_State_bitsOfHung_36 (by decide) ?_
        refine qx_sub [2, 1, 0] rfl ?_
        exact ih x0 y7 (x2 + (1 : Int32)) h5 hw
      · have hw := hw.2 q6
        refine qx_iconst (v := (1 : Int32)) X d_State_bitsOfHung_24 (by decide) ?_
        refine qx_iload_n (x := x2) X d_State_bitsOfHung_25 rfl 2 rfl ?_
        refine qx_ishl X d_State_bitsOfHung_26 ?_
        refine qx_goto X 31 d_State_bitsOfHung_27 (by decide) ?_
        refine qx_ior X d_State_bitsOfHung_31 ?_
        refine qx_topi (fun y8 ey8 => ?_)
        have hw := hw y8 ey8
        refine qx_istore_n (L' := [(1, .inl y8), (0, .inr (.inr (.inl x0))), (2, .inl x2)]) X d_State_bitsOfHung_32 rfl (by decide) rfl ?_
        refine qx_iinc (v := (x2 + (1 : Int32))) (L' := [(2, .inl (x2 + (1 : Int32))), (1, .inl y8), (0, .inr (.inr (.inl x0)))]) X d_State_bitsOfHung_33 2 rfl rfl (by decide) rfl ?_
        refine qx_goto X 4 d_State_bitsOfHung_36 (by decide) ?_
        refine qx_sub [2, 1, 0] rfl ?_
        exact ih x0 y8 (x2 + (1 : Int32)) h5 hw
set_option maxRecDepth 4000 in
theorem t_State_bitsOfHung {adK adV : Nat → Nat} (l : Launch) (D : va_G) (cy : Nat → ClassId) (b : Nat) (N : Nat) (x0 : Nat) (h : qH) (Q : Int32 → qH → Prop) (hw : w_State_bitsOfHung N x0 h Q) : Met l y_State_bitsOfHung (Cond.code y_State_bitsOfHung prog_8_method_12_code 3 (some .int) :: qT) (qrm 1 0 0 21) (qPc D cy b adK adV h [qr b x0]) (qQc D cy b qrI Q) 0 0 (qA b) := by
  refine qmet (L0 := [(0, .inr (.inr (.inl x0)))]) qm_State_bitsOfHung (plainFor_of_name (by decide)) [.inr (.inr (.inl x0))] rfl (Nat.le_of_ble_eq_true rfl) rfl (fun p e s m args below meth c X => ?_)
  unfold w_State_bitsOfHung at hw
  refine qx_iconst (v := (0 : Int32)) X d_State_bitsOfHung_0 (by decide) ?_
  refine qx_istore_n (L' := [(1, .inl (0 : Int32)), (0, .inr (.inr (.inl x0)))]) X d_State_bitsOfHung_1 rfl (by decide) rfl ?_
  refine qx_iconst (v := (0 : Int32)) X d_State_bitsOfHung_2 (by decide) ?_
  refine qx_istore_n (L' := [(2, .inl (0 : Int32)), (1, .inl (0 : Int32)), (0, .inr (.inr (.inl x0)))]) X d_State_bitsOfHung_3 rfl (by decide) rfl ?_
  refine qx_sub [2, 1, 0] rfl ?_
  exact t_State_bitsOfHung_4 X N N x0 (0 : Int32) (0 : Int32) h Q  hw 
set_option maxRecDepth 4000 in
theorem t_State_bitsOfTaken_4 (X : qX p s m args meth c D cy b adK adV prog_8_method_13_code "CoatHangers$State" 3 (some .int) "bitsOfTaken") (N k : Nat) (x0 : Nat) (x1 : Int32) (x2 : Int32) (h : qH) (Q : Int32 → qH → Prop)  (hw : w_State_bitsOfTaken_4 N k x0 x1 x2 h Q ) : qW p l e (qrm 1 0 0 21) s m args below meth c D cy b 3 0 0 (MQ below (qQc D cy b qrI Q) args s 0 0 (qA b)) 4 [(0, .inr (.inr (.inl x0))), (1, .inl x1), (2, .inl x2)] [] h := by
  induction k generalizing x0 x1 x2 h with
  | zero => exact hw.elim
  | succ k ih =>
    refine qx_iload_n (x := x2) X d_State_bitsOfTaken_4 rfl 2 rfl ?_
    refine qx_aload_n (x := x0) X d_State_bitsOfTaken_5 rfl 0 rfl ?_
    obtain ⟨g1, hw⟩ := hw
    refine qx_getR X qcls6 g1 0 (by decide) rfl wf_State_27 d_State_bitsOfTaken_6 ?_
    obtain ⟨g2, hw⟩ := hw
    refine qx_getI X qcls8 g2 3 (by decide) rfl wf_State_56 d_State_bitsOfTaken_9 ?_
    refine qx_icmp_ge X 44 d_State_bitsOfTaken_12 (by decide) (fun q3 => ?_) (fun q3 => ?_)
    · have hw := hw.1 q3
      refine qx_iload_n (x := x1) X d_State_bitsOfTaken_44 rfl 1 rfl ?_
      exact qx_iret X hw (Nat.le_refl 0) (Nat.le_refl 0) rfl d_State_bitsOfTaken_45
    · have hw := hw.2 q3
      refine qx_iload_n (x := x1) X d_State_bitsOfTaken_15 rfl 1 rfl ?_
      refine qx_aload_n (x := x0) X d_State_bitsOfTaken_16 rfl 0 rfl ?_
      refine qx_iload_n (x := x2) X d_State_bitsOfTaken_17 rfl 2 rfl ?_
      refine qx_callVI (st := [.int x1]) (As := [.int x2]) X (t_State_isHung (adK := adK) (adV := adV) l D cy b N x0 x2 h _ hw) qm_State_isHung wm_State_65 wi_State_isHung wl_State_isHung qcls6 g1 rfl rfl rfl ⟨Nat.le_of_ble_eq_true rfl, Nat.le_of_ble_eq_true rfl⟩ ⟨Nat.le_refl 0, Nat.le_refl 0⟩ (Nat.le_of_ble_eq_true rfl) rfl d_State_bitsOfTaken_18 (fun r4 h5 hw => ?_)
      refine qx_if_eq X 35 d_State_bitsOfTaken_21 (by decide) (fun q6 => ?_) (fun q6 => ?_)
      · have hw := hw.1 q6
        refine qx_iconst (v := (0 : Int32)) X d_State_bitsOfTaken_35 (by decide) ?_
        refine qx_ior X d_State_bitsOfTaken_36 ?_
        refine qx_topi (fun y7 ey7 => ?_)
        have hw := hw y7 ey7
        refine qx_istore_n (L' := [(1, .inl y7), (0, .inr (.inr (.inl x0))), (2, .inl x2)]) X d_State_bitsOfTaken_37 rfl (by decide) rfl ?_
        refine qx_iinc (v := (x2 + (1 : Int32))) (L' := [(2, .inl (x2 + (1 : Int32))), (1, .inl y7), (0, .inr (.inr (.inl x0)))]) X d_State_bitsOfTaken_38 2 rfl rfl (by decide) rfl ?_
        refine qx_goto X 4 d_State_bitsOfTaken_41 (by decide) ?_
        refine qx_sub [2, 1, 0] rfl ?_
        exact ih x0 y7 (x2 + (1 : Int32)) h5 hw
      · have hw := hw.2 q6
        refine qx_iconst (v := (1 : Int32)) X d_State_bitsOfTaken_24 (by decide) ?_
        refine qx_aload_n (x := x0) X d_State_bitsOfTaken_25 rfl 0 rfl ?_
        obtain ⟨g8, hw⟩ := hw
        refine qx_getR X qcls6 g8 3 (by decide) rfl wf_State_15 d_State_bitsOfTaken_26 ?_
        refine qx_iload_n (x := x2) X d_State_bitsOfTaken_29 rfl 2 rfl ?_
        obtain ⟨g9, hw⟩ := hw
        refine qx_ild X g9 d_State_bitsOfTaken_30 ?_
        refine qx_ishl X d_State_bitsOfTaken_31 ?_
        refine qx_goto X 36 d_State_bitsOfTaken_32 (by decide) ?_
        refine qx_ior X d_State_bitsOfTaken_36 ?_
        refine qx_topi (fun y10 ey10 => ?_)
        have hw := hw y10 ey10
        refine qx_istore_n (L' := [(1, .inl y10), (0, .inr (.inr (.inl x0))), (2, .inl x2)]) X d_State_bitsOfTaken_37 rfl (by decide) rfl ?_
        refine qx_iinc (v := (x2 + (1 : Int32))) (L' := [(2, .inl (x2 + (1 : Int32))), (1, .inl y10), (0, .inr (.inr (.inl x0)))]) X d_State_bitsOfTaken_38 2 rfl rfl (by decide) rfl ?_
        refine qx_goto X 4 d_State_bitsOfTaken_41 (by decide) ?_
        refine qx_sub [2, 1, 0] rfl ?_
        exact ih x0 y10 (x2 + (1 : Int32)) h5 hw
set_option maxRecDepth 4000 in
theorem t_State_bitsOfTaken {adK adV : Nat → Nat} (l : Launch) (D : va_G) (cy : Nat → ClassId) (b : Nat) (N : Nat) (x0 : Nat) (h : qH) (Q : Int32 → qH → Prop) (hw : w_State_bitsOfTaken N x0 h Q) : Met l y_State_bitsOfTaken (Cond.code y_State_bitsOfTaken prog_8_method_13_code 3 (some .int) :: qT) (qrm 1 0 0 21) (qPc D cy b adK adV h [qr b x0]) (qQc D cy b qrI Q) 0 0 (qA b) := by
  refine qmet (L0 := [(0, .inr (.inr (.inl x0)))]) qm_State_bitsOfTaken (plainFor_of_name (by decide)) [.inr (.inr (.inl x0))] rfl (Nat.le_of_ble_eq_true rfl) rfl (fun p e s m args below meth c X => ?_)
  unfold w_State_bitsOfTaken at hw
  refine qx_iconst (v := (0 : Int32)) X d_State_bitsOfTaken_0 (by decide) ?_
  refine qx_istore_n (L' := [(1, .inl (0 : Int32)), (0, .inr (.inr (.inl x0)))]) X d_State_bitsOfTaken_1 rfl (by decide) rfl ?_
  refine qx_iconst (v := (0 : Int32)) X d_State_bitsOfTaken_2 (by decide) ?_
  refine qx_istore_n (L' := [(2, .inl (0 : Int32)), (1, .inl (0 : Int32)), (0, .inr (.inr (.inl x0)))]) X d_State_bitsOfTaken_3 rfl (by decide) rfl ?_
  refine qx_sub [2, 1, 0] rfl ?_
  exact t_State_bitsOfTaken_4 X N N x0 (0 : Int32) (0 : Int32) h Q  hw 
set_option maxRecDepth 4000 in
theorem t_State_bitsOfOwnSelves_4 (X : qX p s m args meth c D cy b adK adV prog_8_method_14_code "CoatHangers$State" 3 (some .int) "bitsOfOwnSelves") (N k : Nat) (x0 : Nat) (x1 : Int32) (x2 : Int32) (h : qH) (Q : Int32 → qH → Prop)  (hw : w_State_bitsOfOwnSelves_4 N k x0 x1 x2 h Q ) : qW p l e (qrm 0 0 0 0) s m args below meth c D cy b 3 0 0 (MQ below (qQc D cy b qrI Q) args s 0 0 (qA b)) 4 [(0, .inr (.inr (.inl x0))), (1, .inl x1), (2, .inl x2)] [] h := by
  induction k generalizing x0 x1 x2 h with
  | zero => exact hw.elim
  | succ k ih =>
    refine qx_iload_n (x := x2) X d_State_bitsOfOwnSelves_4 rfl 2 rfl ?_
    refine qx_aload_n (x := x0) X d_State_bitsOfOwnSelves_5 rfl 0 rfl ?_
    obtain ⟨g1, hw⟩ := hw
    refine qx_getR X qcls6 g1 0 (by decide) rfl wf_State_27 d_State_bitsOfOwnSelves_6 ?_
    obtain ⟨g2, hw⟩ := hw
    refine qx_getI X qcls8 g2 3 (by decide) rfl wf_State_56 d_State_bitsOfOwnSelves_9 ?_
    refine qx_icmp_ge X 41 d_State_bitsOfOwnSelves_12 (by decide) (fun q3 => ?_) (fun q3 => ?_)
    · have hw := hw.1 q3
      refine qx_iload_n (x := x1) X d_State_bitsOfOwnSelves_41 rfl 1 rfl ?_
      exact qx_iret X hw (Nat.le_refl 0) (Nat.le_refl 0) rfl d_State_bitsOfOwnSelves_42
    · have hw := hw.2 q3
      refine qx_iload_n (x := x1) X d_State_bitsOfOwnSelves_15 rfl 1 rfl ?_
      refine qx_aload_n (x := x0) X d_State_bitsOfOwnSelves_16 rfl 0 rfl ?_
      refine qx_getR X qcls6 g1 4 (by decide) rfl wf_State_18 d_State_bitsOfOwnSelves_17 ?_
      refine qx_iload_n (x := x2) X d_State_bitsOfOwnSelves_20 rfl 2 rfl ?_
      obtain ⟨g4, hw⟩ := hw
      refine qx_ild X g4 d_State_bitsOfOwnSelves_21 ?_
      refine qx_iload_n (x := x2) X d_State_bitsOfOwnSelves_22 rfl 2 rfl ?_
      refine qx_icmp_ne X 32 d_State_bitsOfOwnSelves_23 (by decide) (fun q5 => ?_) (fun q5 => ?_)
      · have hw := hw.1 q5
        refine qx_iconst (v := (0 : Int32)) X d_State_bitsOfOwnSelves_32 (by decide) ?_
        refine qx_ior X d_State_bitsOfOwnSelves_33 ?_
        refine qx_topi (fun y6 ey6 => ?_)
        have hw := hw y6 ey6
        refine qx_istore_n (L' := [(1, .inl y6), (0, .inr (.inr (.inl x0))), (2, .inl x2)]) X d_State_bitsOfOwnSelves_34 rfl (by decide) rfl ?_
        refine qx_iinc (v := (x2 + (1 : Int32))) (L' := [(2, .inl (x2 + (1 : Int32))), (1, .inl y6), (0, .inr (.inr (.inl x0)))]) X d_State_bitsOfOwnSelves_35 2 rfl rfl (by decide) rfl ?_
        refine qx_goto X 4 d_State_bitsOfOwnSelves_38 (by decide) ?_
        refine qx_sub [2, 1, 0] rfl ?_
        exact ih x0 y6 (x2 + (1 : Int32)) h hw
      · have hw := hw.2 q5
        refine qx_iconst (v := (1 : Int32)) X d_State_bitsOfOwnSelves_26 (by decide) ?_
        refine qx_iload_n (x := x2) X d_State_bitsOfOwnSelves_27 rfl 2 rfl ?_
        refine qx_ishl X d_State_bitsOfOwnSelves_28 ?_
        refine qx_goto X 33 d_State_bitsOfOwnSelves_29 (by decide) ?_
        refine qx_ior X d_State_bitsOfOwnSelves_33 ?_
        refine qx_topi (fun y7 ey7 => ?_)
        have hw := hw y7 ey7
        refine qx_istore_n (L' := [(1, .inl y7), (0, .inr (.inr (.inl x0))), (2, .inl x2)]) X d_State_bitsOfOwnSelves_34 rfl (by decide) rfl ?_
        refine qx_iinc (v := (x2 + (1 : Int32))) (L' := [(2, .inl (x2 + (1 : Int32))), (1, .inl y7), (0, .inr (.inr (.inl x0)))]) X d_State_bitsOfOwnSelves_35 2 rfl rfl (by decide) rfl ?_
        refine qx_goto X 4 d_State_bitsOfOwnSelves_38 (by decide) ?_
        refine qx_sub [2, 1, 0] rfl ?_
        exact ih x0 y7 (x2 + (1 : Int32)) h hw
set_option maxRecDepth 4000 in
theorem t_State_bitsOfOwnSelves {adK adV : Nat → Nat} (l : Launch) (D : va_G) (cy : Nat → ClassId) (b : Nat) (N : Nat) (x0 : Nat) (h : qH) (Q : Int32 → qH → Prop) (hw : w_State_bitsOfOwnSelves N x0 h Q) : Met l y_State_bitsOfOwnSelves (Cond.code y_State_bitsOfOwnSelves prog_8_method_14_code 3 (some .int) :: qT) (qrm 0 0 0 0) (qPc D cy b adK adV h [qr b x0]) (qQc D cy b qrI Q) 0 0 (qA b) := by
  refine qmet (L0 := [(0, .inr (.inr (.inl x0)))]) qm_State_bitsOfOwnSelves (plainFor_of_name (by decide)) [.inr (.inr (.inl x0))] rfl (Nat.le_of_ble_eq_true rfl) rfl (fun p e s m args below meth c X => ?_)
  unfold w_State_bitsOfOwnSelves at hw
  refine qx_iconst (v := (0 : Int32)) X d_State_bitsOfOwnSelves_0 (by decide) ?_
  refine qx_istore_n (L' := [(1, .inl (0 : Int32)), (0, .inr (.inr (.inl x0)))]) X d_State_bitsOfOwnSelves_1 rfl (by decide) rfl ?_
  refine qx_iconst (v := (0 : Int32)) X d_State_bitsOfOwnSelves_2 (by decide) ?_
  refine qx_istore_n (L' := [(2, .inl (0 : Int32)), (1, .inl (0 : Int32)), (0, .inr (.inr (.inl x0)))]) X d_State_bitsOfOwnSelves_3 rfl (by decide) rfl ?_
  refine qx_sub [2, 1, 0] rfl ?_
  exact t_State_bitsOfOwnSelves_4 X N N x0 (0 : Int32) (0 : Int32) h Q  hw 
set_option maxRecDepth 4000 in
theorem t_State_bitsOfSharedNails_4 (X : qX p s m args meth c D cy b adK adV prog_8_method_15_code "CoatHangers$State" 3 (some .int) "bitsOfSharedNails") (N k : Nat) (x0 : Nat) (x1 : Int32) (x2 : Int32) (h : qH) (Q : Int32 → qH → Prop)  (hw : w_State_bitsOfSharedNails_4 N k x0 x1 x2 h Q ) : qW p l e (qrm 2 0 0 45) s m args below meth c D cy b 3 0 0 (MQ below (qQc D cy b qrI Q) args s 0 0 (qA b)) 4 [(0, .inr (.inr (.inl x0))), (1, .inl x1), (2, .inl x2)] [] h := by
  induction k generalizing x0 x1 x2 h with
  | zero => exact hw.elim
  | succ k ih =>
    refine qx_iload_n (x := x2) X d_State_bitsOfSharedNails_4 rfl 2 rfl ?_
    refine qx_iconst (v := (5 : Int32)) X d_State_bitsOfSharedNails_5 (by decide) ?_
    refine qx_icmp_ge X 34 d_State_bitsOfSharedNails_6 (by decide) (fun q1 => ?_) (fun q1 => ?_)
    · have hw := hw.1 q1
      refine qx_iload_n (x := x1) X d_State_bitsOfSharedNails_34 rfl 1 rfl ?_
      exact qx_iret X hw (Nat.le_refl 0) (Nat.le_refl 0) rfl d_State_bitsOfSharedNails_35
    · have hw := hw.2 q1
      refine qx_iload_n (x := x1) X d_State_bitsOfSharedNails_9 rfl 1 rfl ?_
      refine qx_aload_n (x := x0) X d_State_bitsOfSharedNails_10 rfl 0 rfl ?_
      refine qx_iload_n (x := x2) X d_State_bitsOfSharedNails_11 rfl 2 rfl ?_
      obtain ⟨g2, hw⟩ := hw
      refine qx_callVI (st := [.int x1]) (As := [.int x2]) X (t_State_peopleOnNail (adK := adK) (adV := adV) l D cy b N x0 x2 h _ hw) qm_State_peopleOnNail wm_State_69 wi_State_peopleOnNail wl_State_peopleOnNail qcls6 g2 rfl rfl rfl ⟨Nat.le_of_ble_eq_true rfl, Nat.le_of_ble_eq_true rfl⟩ ⟨Nat.le_refl 0, Nat.le_refl 0⟩ (Nat.le_of_ble_eq_true rfl) rfl d_State_bitsOfSharedNails_12 (fun r3 h4 hw => ?_)
      refine qx_iconst (v := (2 : Int32)) X d_State_bitsOfSharedNails_15 (by decide) ?_
      refine qx_icmp_lt X 25 d_State_bitsOfSharedNails_16 (by decide) (fun q5 => ?_) (fun q5 => ?_)
      · have hw := hw.1 q5
        refine qx_iconst (v := (0 : Int32)) X d_State_bitsOfSharedNails_25 (by decide) ?_
        refine qx_ior X d_State_bitsOfSharedNails_26 ?_
        refine qx_topi (fun y6 ey6 => ?_)
        have hw := hw y6 ey6
        refine qx_istore_n (L' := [(1, .inl y6), (0, .inr (.inr (.inl x0))), (2, .inl x2)]) X d_State_bitsOfSharedNails_27 rfl (by decide) rfl ?_
        refine qx_iinc (v := (x2 + (1 : Int32))) (L' := [(2, .inl (x2 + (1 : Int32))), (1, .inl y6), (0, .inr (.inr (.inl x0)))]) X d_State_bitsOfSharedNails_28 2 rfl rfl (by decide) rfl ?_
        refine qx_goto X 4 d_State_bitsOfSharedNails_31 (by decide) ?_
        refine qx_sub [2, 1, 0] rfl ?_
        exact ih x0 y6 (x2 + (1 : Int32)) h4 hw
      · have hw := hw.2 q5
        refine qx_iconst (v := (1 : Int32)) X d_State_bitsOfSharedNails_19 (by decide) ?_
        refine qx_iload_n (x := x2) X d_State_bitsOfSharedNails_20 rfl 2 rfl ?_
        refine qx_ishl X d_State_bitsOfSharedNails_21 ?_
        refine qx_goto X 26 d_State_bitsOfSharedNails_22 (by decide) ?_
        refine qx_ior X d_State_bitsOfSharedNails_26 ?_
        refine qx_topi (fun y7 ey7 => ?_)
        have hw := hw y7 ey7
        refine qx_istore_n (L' := [(1, .inl y7), (0, .inr (.inr (.inl x0))), (2, .inl x2)]) X d_State_bitsOfSharedNails_27 rfl (by decide) rfl ?_
        refine qx_iinc (v := (x2 + (1 : Int32))) (L' := [(2, .inl (x2 + (1 : Int32))), (1, .inl y7), (0, .inr (.inr (.inl x0)))]) X d_State_bitsOfSharedNails_28 2 rfl rfl (by decide) rfl ?_
        refine qx_goto X 4 d_State_bitsOfSharedNails_31 (by decide) ?_
        refine qx_sub [2, 1, 0] rfl ?_
        exact ih x0 y7 (x2 + (1 : Int32)) h4 hw
set_option maxRecDepth 4000 in
theorem t_State_bitsOfSharedNails {adK adV : Nat → Nat} (l : Launch) (D : va_G) (cy : Nat → ClassId) (b : Nat) (N : Nat) (x0 : Nat) (h : qH) (Q : Int32 → qH → Prop) (hw : w_State_bitsOfSharedNails N x0 h Q) : Met l y_State_bitsOfSharedNails (Cond.code y_State_bitsOfSharedNails prog_8_method_15_code 3 (some .int) :: qT) (qrm 2 0 0 45) (qPc D cy b adK adV h [qr b x0]) (qQc D cy b qrI Q) 0 0 (qA b) := by
  refine qmet (L0 := [(0, .inr (.inr (.inl x0)))]) qm_State_bitsOfSharedNails (plainFor_of_name (by decide)) [.inr (.inr (.inl x0))] rfl (Nat.le_of_ble_eq_true rfl) rfl (fun p e s m args below meth c X => ?_)
  unfold w_State_bitsOfSharedNails at hw
  refine qx_iconst (v := (0 : Int32)) X d_State_bitsOfSharedNails_0 (by decide) ?_
  refine qx_istore_n (L' := [(1, .inl (0 : Int32)), (0, .inr (.inr (.inl x0)))]) X d_State_bitsOfSharedNails_1 rfl (by decide) rfl ?_
  refine qx_iconst (v := (0 : Int32)) X d_State_bitsOfSharedNails_2 (by decide) ?_
  refine qx_istore_n (L' := [(2, .inl (0 : Int32)), (1, .inl (0 : Int32)), (0, .inr (.inr (.inl x0)))]) X d_State_bitsOfSharedNails_3 rfl (by decide) rfl ?_
  refine qx_sub [2, 1, 0] rfl ?_
  exact t_State_bitsOfSharedNails_4 X N N x0 (0 : Int32) (0 : Int32) h Q  hw 
end QG
