/-! the reference, part 5: written by wip/whole/emit.py out of the bytecode -/
def y_M_crowded : MethodName := ⟨"CoatHangersModel", "crowded", "(I)I"⟩
theorem qm_M_crowded : qMt y_M_crowded prog_14_method_97_code 4 (some .int) 1 := ⟨qT_8 (i := 127) (by decide +kernel) rfl, qT_1 (i := 17) (by decide +kernel) rfl, by decide, by decide, by decide +kernel⟩
theorem wi_M_crowded : Cond.instanceMethod y_M_crowded ∈ qT := qT_8 (i := 125) (by decide +kernel) rfl
theorem wl_M_crowded : Cond.selects y_M_crowded.cls y_M_crowded y_M_crowded ∈ qT := qT_8 (i := 126) (by decide +kernel) rfl
def y_M_straight : MethodName := ⟨"CoatHangersModel", "straight", "()I"⟩
theorem qm_M_straight : qMt y_M_straight prog_14_method_98_code 3 (some .int) 0 := ⟨qT_8 (i := 131) (by decide +kernel) rfl, qT_1 (i := 17) (by decide +kernel) rfl, by decide, by decide, by decide +kernel⟩
theorem wi_M_straight : Cond.instanceMethod y_M_straight ∈ qT := qT_8 (i := 129) (by decide +kernel) rfl
theorem wl_M_straight : Cond.selects y_M_straight.cls y_M_straight y_M_straight ∈ qT := qT_8 (i := 130) (by decide +kernel) rfl
def y_M_bill : MethodName := ⟨"CoatHangersModel", "bill", "(I)I"⟩
theorem qm_M_bill : qMt y_M_bill prog_14_method_99_code 4 (some .int) 1 := ⟨qT_8 (i := 135) (by decide +kernel) rfl, qT_1 (i := 17) (by decide +kernel) rfl, by decide, by decide, by decide +kernel⟩
theorem wi_M_bill : Cond.instanceMethod y_M_bill ∈ qT := qT_8 (i := 133) (by decide +kernel) rfl
theorem wl_M_bill : Cond.selects y_M_bill.cls y_M_bill y_M_bill ∈ qT := qT_8 (i := 134) (by decide +kernel) rfl
def y_M_swap : MethodName := ⟨"CoatHangersModel", "swap", "(I)I"⟩
theorem qm_M_swap : qMt y_M_swap prog_14_method_100_code 8 (some .int) 1 := ⟨qT_8 (i := 143) (by decide +kernel) rfl, qT_1 (i := 17) (by decide +kernel) rfl, by decide, by decide, by decide +kernel⟩
theorem wi_M_swap : Cond.instanceMethod y_M_swap ∈ qT := qT_8 (i := 141) (by decide +kernel) rfl
theorem wl_M_swap : Cond.selects y_M_swap.cls y_M_swap y_M_swap ∈ qT := qT_8 (i := 142) (by decide +kernel) rfl
def y_M_upright : MethodName := ⟨"CoatHangersModel", "upright", "(II)I"⟩
theorem qm_M_upright : qMt y_M_upright prog_14_method_101_code 5 (some .int) 2 := ⟨qT_8 (i := 147) (by decide +kernel) rfl, qT_1 (i := 17) (by decide +kernel) rfl, by decide, by decide, by decide +kernel⟩
theorem wi_M_upright : Cond.instanceMethod y_M_upright ∈ qT := qT_8 (i := 145) (by decide +kernel) rfl
theorem wl_M_upright : Cond.selects y_M_upright.cls y_M_upright y_M_upright ∈ qT := qT_8 (i := 146) (by decide +kernel) rfl
def y_M_free : MethodName := ⟨"CoatHangersModel", "free", "(I)I"⟩
theorem qm_M_free : qMt y_M_free prog_14_method_102_code 4 (some .int) 1 := ⟨qT_8 (i := 151) (by decide +kernel) rfl, qT_1 (i := 17) (by decide +kernel) rfl, by decide, by decide, by decide +kernel⟩
theorem wi_M_free : Cond.instanceMethod y_M_free ∈ qT := qT_8 (i := 149) (by decide +kernel) rfl
theorem wl_M_free : Cond.selects y_M_free.cls y_M_free y_M_free ∈ qT := qT_8 (i := 150) (by decide +kernel) rfl
def y_M_then : MethodName := ⟨"CoatHangersModel", "then", "(III)I"⟩
theorem qm_M_then : qMt y_M_then prog_14_method_103_code 4 (some .int) 3 := ⟨qT_8 (i := 155) (by decide +kernel) rfl, qT_1 (i := 17) (by decide +kernel) rfl, by decide, by decide, by decide +kernel⟩
theorem wi_M_then : Cond.instanceMethod y_M_then ∈ qT := qT_8 (i := 153) (by decide +kernel) rfl
theorem wl_M_then : Cond.selects y_M_then.cls y_M_then y_M_then ∈ qT := qT_8 (i := 154) (by decide +kernel) rfl
def y_M_bentIn : MethodName := ⟨"CoatHangersModel", "bentIn", "(II)I"⟩
theorem qm_M_bentIn : qMt y_M_bentIn prog_14_method_104_code 3 (some .int) 2 := ⟨qT_8 (i := 159) (by decide +kernel) rfl, qT_1 (i := 17) (by decide +kernel) rfl, by decide, by decide, by decide +kernel⟩
theorem wi_M_bentIn : Cond.instanceMethod y_M_bentIn ∈ qT := qT_8 (i := 157) (by decide +kernel) rfl
theorem wl_M_bentIn : Cond.selects y_M_bentIn.cls y_M_bentIn y_M_bentIn ∈ qT := qT_8 (i := 158) (by decide +kernel) rfl
def y_M_year : MethodName := ⟨"CoatHangersModel", "year", "(III)I"⟩
theorem qm_M_year : qMt y_M_year prog_14_method_105_code 6 (some .int) 3 := ⟨qT_8 (i := 163) (by decide +kernel) rfl, qT_1 (i := 17) (by decide +kernel) rfl, by decide, by decide, by decide +kernel⟩
theorem wi_M_year : Cond.instanceMethod y_M_year ∈ qT := qT_8 (i := 161) (by decide +kernel) rfl
theorem wl_M_year : Cond.selects y_M_year.cls y_M_year y_M_year ∈ qT := qT_8 (i := 162) (by decide +kernel) rfl
def y_M_tell : MethodName := ⟨"CoatHangersModel", "tell", "(IIZ)I"⟩
theorem qm_M_tell : qMt y_M_tell prog_14_method_106_code 4 (some .int) 3 := ⟨qT_8 (i := 167) (by decide +kernel) rfl, qT_1 (i := 17) (by decide +kernel) rfl, by decide, by decide, by decide +kernel⟩
theorem wi_M_tell : Cond.instanceMethod y_M_tell ∈ qT := qT_8 (i := 165) (by decide +kernel) rfl
theorem wl_M_tell : Cond.selects y_M_tell.cls y_M_tell y_M_tell ∈ qT := qT_8 (i := 166) (by decide +kernel) rfl
def y_M_forget : MethodName := ⟨"CoatHangersModel", "forget", "()I"⟩
theorem qm_M_forget : qMt y_M_forget prog_14_method_107_code 2 (some .int) 0 := ⟨qT_8 (i := 171) (by decide +kernel) rfl, qT_1 (i := 17) (by decide +kernel) rfl, by decide, by decide, by decide +kernel⟩
theorem wi_M_forget : Cond.instanceMethod y_M_forget ∈ qT := qT_8 (i := 169) (by decide +kernel) rfl
theorem wl_M_forget : Cond.selects y_M_forget.cls y_M_forget y_M_forget ∈ qT := qT_8 (i := 170) (by decide +kernel) rfl
def y_M_fillsPairs : MethodName := ⟨"CoatHangersModel", "fillsPairs", "(I)I"⟩
theorem qm_M_fillsPairs : qMt y_M_fillsPairs prog_14_method_108_code 7 (some .int) 1 := ⟨qT_8 (i := 179) (by decide +kernel) rfl, qT_1 (i := 17) (by decide +kernel) rfl, by decide, by decide, by decide +kernel⟩
theorem wi_M_fillsPairs : Cond.instanceMethod y_M_fillsPairs ∈ qT := qT_8 (i := 178) (by decide +kernel) rfl
theorem wl_M_fillsPairs : Cond.selects y_M_fillsPairs.cls y_M_fillsPairs y_M_fillsPairs ∈ qT := qT_s (i := 112) (by decide +kernel) rfl
def y_M_two : MethodName := ⟨"CoatHangersModel", "two", "(II)I"⟩
theorem qm_M_two : qMt y_M_two prog_14_method_109_code 6 (some .int) 2 := ⟨qT_8 (i := 175) (by decide +kernel) rfl, qT_1 (i := 17) (by decide +kernel) rfl, by decide, by decide, by decide +kernel⟩
theorem wi_M_two : Cond.instanceMethod y_M_two ∈ qT := qT_8 (i := 173) (by decide +kernel) rfl
theorem wl_M_two : Cond.selects y_M_two.cls y_M_two y_M_two ∈ qT := qT_8 (i := 174) (by decide +kernel) rfl
def y_M_worstOf : MethodName := ⟨"CoatHangersModel", "worstOf", "(I)I"⟩
theorem qm_M_worstOf : qMt y_M_worstOf prog_14_method_110_code 6 (some .int) 1 := ⟨qT_8 (i := 187) (by decide +kernel) rfl, qT_1 (i := 17) (by decide +kernel) rfl, by decide, by decide, by decide +kernel⟩
theorem wi_M_worstOf : Cond.instanceMethod y_M_worstOf ∈ qT := qT_8 (i := 186) (by decide +kernel) rfl
theorem wl_M_worstOf : Cond.selects y_M_worstOf.cls y_M_worstOf y_M_worstOf ∈ qT := qT_s (i := 113) (by decide +kernel) rfl
def y_M_ask : MethodName := ⟨"CoatHangersModel", "ask", "(I)I"⟩
theorem qm_M_ask : qMt y_M_ask prog_14_method_111_code 5 (some .int) 1 := ⟨qT_8 (i := 183) (by decide +kernel) rfl, qT_1 (i := 17) (by decide +kernel) rfl, by decide, by decide, by decide +kernel⟩
theorem wi_M_ask : Cond.instanceMethod y_M_ask ∈ qT := qT_8 (i := 181) (by decide +kernel) rfl
theorem wl_M_ask : Cond.selects y_M_ask.cls y_M_ask y_M_ask ∈ qT := qT_8 (i := 182) (by decide +kernel) rfl
def y_M_hold : MethodName := ⟨"CoatHangersModel", "hold", "(I)Z"⟩
theorem qm_M_hold : qMt y_M_hold prog_14_method_112_code 3 (some .boolean) 1 := ⟨qT_8 (i := 191) (by decide +kernel) rfl, qT_1 (i := 17) (by decide +kernel) rfl, by decide, by decide, by decide +kernel⟩
theorem wi_M_hold : Cond.instanceMethod y_M_hold ∈ qT := qT_8 (i := 189) (by decide +kernel) rfl
theorem wl_M_hold : Cond.selects y_M_hold.cls y_M_hold y_M_hold ∈ qT := qT_8 (i := 190) (by decide +kernel) rfl
theorem wm_M_454 : Cond.methodLink "CoatHangersModel" 454 y_M_costsAll ∈ qT := qT_8 (i := 136) (by decide +kernel) rfl
theorem wf_M_143 : Cond.fieldLink "CoatHangersModel" 143 "CoatHangersModel" "toldWho" "[I" ∈ qT := qT_6 (i := 108) (by decide +kernel) rfl
theorem wf_M_146 : Cond.fieldLink "CoatHangersModel" 146 "CoatHangersModel" "toldSelf" "[I" ∈ qT := qT_6 (i := 109) (by decide +kernel) rfl
theorem wf_M_149 : Cond.fieldLink "CoatHangersModel" 149 "CoatHangersModel" "toldSo" "[Z" ∈ qT := qT_6 (i := 110) (by decide +kernel) rfl
theorem wf_M_152 : Cond.fieldLink "CoatHangersModel" 152 "CoatHangersModel" "isPair" "[Z" ∈ qT := qT_6 (i := 111) (by decide +kernel) rfl
theorem wf_M_155 : Cond.fieldLink "CoatHangersModel" 155 "CoatHangersModel" "selfOf" "[I" ∈ qT := qT_6 (i := 112) (by decide +kernel) rfl
theorem wm_M_457 : Cond.methodLink "CoatHangersModel" 457 y_M_fillsPairs ∈ qT := qT_8 (i := 176) (by decide +kernel) rfl
theorem wm_M_460 : Cond.methodLink "CoatHangersModel" 460 y_M_worstOf ∈ qT := qT_8 (i := 184) (by decide +kernel) rfl
theorem wf_M_161 : Cond.fieldLink "CoatHangersModel" 161 "CoatHangersModel" "heldRows" "[I" ∈ qT := qT_6 (i := 114) (by decide +kernel) rfl
theorem d_M_crowded_0 : decode prog_14_method_97_code 0 = .ok (.iload_n 1, 1) := by decide +kernel
theorem d_M_crowded_1 : decode prog_14_method_97_code 1 = .ok (.iconst 0, 1) := by decide +kernel
theorem d_M_crowded_2 : decode prog_14_method_97_code 2 = .ok (.iconst 1, 1) := by decide +kernel
theorem d_M_crowded_3 : decode prog_14_method_97_code 3 = .ok (.invokestatic 322, 3) := by decide +kernel
theorem d_M_crowded_6 : decode prog_14_method_97_code 6 = .ok (.ifCond .ne 5, 3) := by decide +kernel
theorem d_M_crowded_9 : decode prog_14_method_97_code 9 = .ok (.iconst (-1), 1) := by decide +kernel
theorem d_M_crowded_10 : decode prog_14_method_97_code 10 = .ok (.ireturn, 1) := by decide +kernel
theorem d_M_crowded_11 : decode prog_14_method_97_code 11 = .ok (.aload_n 0, 1) := by decide +kernel
theorem d_M_crowded_12 : decode prog_14_method_97_code 12 = .ok (.invokevirtual 332, 3) := by decide +kernel
theorem d_M_crowded_15 : decode prog_14_method_97_code 15 = .ok (.iconst 0, 1) := by decide +kernel
theorem d_M_crowded_16 : decode prog_14_method_97_code 16 = .ok (.istore_n 2, 1) := by decide +kernel
theorem d_M_crowded_17 : decode prog_14_method_97_code 17 = .ok (.iconst 1, 1) := by decide +kernel
theorem d_M_crowded_18 : decode prog_14_method_97_code 18 = .ok (.istore_n 3, 1) := by decide +kernel
theorem d_M_crowded_19 : decode prog_14_method_97_code 19 = .ok (.iload_n 3, 1) := by decide +kernel
theorem d_M_crowded_20 : decode prog_14_method_97_code 20 = .ok (.iconst 5, 1) := by decide +kernel
theorem d_M_crowded_21 : decode prog_14_method_97_code 21 = .ok (.if_icmp .ge 24, 3) := by decide +kernel
theorem d_M_crowded_24 : decode prog_14_method_97_code 24 = .ok (.aload_n 0, 1) := by decide +kernel
theorem d_M_crowded_25 : decode prog_14_method_97_code 25 = .ok (.iload_n 3, 1) := by decide +kernel
theorem d_M_crowded_26 : decode prog_14_method_97_code 26 = .ok (.invokevirtual 354, 3) := by decide +kernel
theorem d_M_crowded_29 : decode prog_14_method_97_code 29 = .ok (.aload_n 0, 1) := by decide +kernel
theorem d_M_crowded_30 : decode prog_14_method_97_code 30 = .ok (.iload_n 2, 1) := by decide +kernel
theorem d_M_crowded_31 : decode prog_14_method_97_code 31 = .ok (.invokevirtual 354, 3) := by decide +kernel
theorem d_M_crowded_34 : decode prog_14_method_97_code 34 = .ok (.if_icmp .le 5, 3) := by decide +kernel
theorem d_M_crowded_37 : decode prog_14_method_97_code 37 = .ok (.iload_n 3, 1) := by decide +kernel
theorem d_M_crowded_38 : decode prog_14_method_97_code 38 = .ok (.istore_n 2, 1) := by decide +kernel
theorem d_M_crowded_39 : decode prog_14_method_97_code 39 = .ok (.iinc 3 1, 3) := by decide +kernel
theorem d_M_crowded_42 : decode prog_14_method_97_code 42 = .ok (.goto (-23), 3) := by decide +kernel
theorem d_M_crowded_45 : decode prog_14_method_97_code 45 = .ok (.iload_n 1, 1) := by decide +kernel
theorem d_M_crowded_46 : decode prog_14_method_97_code 46 = .ok (.ifCond .ne 7, 3) := by decide +kernel
theorem d_M_crowded_49 : decode prog_14_method_97_code 49 = .ok (.iload_n 2, 1) := by decide +kernel
theorem d_M_crowded_50 : decode prog_14_method_97_code 50 = .ok (.goto 8, 3) := by decide +kernel
theorem d_M_crowded_53 : decode prog_14_method_97_code 53 = .ok (.aload_n 0, 1) := by decide +kernel
theorem d_M_crowded_54 : decode prog_14_method_97_code 54 = .ok (.iload_n 2, 1) := by decide +kernel
theorem d_M_crowded_55 : decode prog_14_method_97_code 55 = .ok (.invokevirtual 354, 3) := by decide +kernel
theorem d_M_crowded_58 : decode prog_14_method_97_code 58 = .ok (.ireturn, 1) := by decide +kernel
theorem d_M_straight_0 : decode prog_14_method_98_code 0 = .ok (.bipush (-2), 2) := by decide +kernel
theorem d_M_straight_2 : decode prog_14_method_98_code 2 = .ok (.istore_n 1, 1) := by decide +kernel
theorem d_M_straight_3 : decode prog_14_method_98_code 3 = .ok (.iconst 0, 1) := by decide +kernel
theorem d_M_straight_4 : decode prog_14_method_98_code 4 = .ok (.istore_n 2, 1) := by decide +kernel
theorem d_M_straight_5 : decode prog_14_method_98_code 5 = .ok (.iload_n 2, 1) := by decide +kernel
theorem d_M_straight_6 : decode prog_14_method_98_code 6 = .ok (.aload_n 0, 1) := by decide +kernel
theorem d_M_straight_7 : decode prog_14_method_98_code 7 = .ok (.getfield 55, 3) := by decide +kernel
theorem d_M_straight_10 : decode prog_14_method_98_code 10 = .ok (.aload_n 0, 1) := by decide +kernel
theorem d_M_straight_11 : decode prog_14_method_98_code 11 = .ok (.getfield 245, 3) := by decide +kernel
theorem d_M_straight_14 : decode prog_14_method_98_code 14 = .ok (.iaload, 1) := by decide +kernel
theorem d_M_straight_15 : decode prog_14_method_98_code 15 = .ok (.if_icmp .ge 48, 3) := by decide +kernel
theorem d_M_straight_18 : decode prog_14_method_98_code 18 = .ok (.aload_n 0, 1) := by decide +kernel
theorem d_M_straight_19 : decode prog_14_method_98_code 19 = .ok (.getfield 113, 3) := by decide +kernel
theorem d_M_straight_22 : decode prog_14_method_98_code 22 = .ok (.bipush 6, 2) := by decide +kernel
theorem d_M_straight_24 : decode prog_14_method_98_code 24 = .ok (.iload_n 2, 1) := by decide +kernel
theorem d_M_straight_25 : decode prog_14_method_98_code 25 = .ok (.iadd, 1) := by decide +kernel
theorem d_M_straight_26 : decode prog_14_method_98_code 26 = .ok (.iaload, 1) := by decide +kernel
theorem d_M_straight_27 : decode prog_14_method_98_code 27 = .ok (.ifCond .lt 30, 3) := by decide +kernel
theorem d_M_straight_30 : decode prog_14_method_98_code 30 = .ok (.iload_n 1, 1) := by decide +kernel
theorem d_M_straight_31 : decode prog_14_method_98_code 31 = .ok (.ifCond .lt 24, 3) := by decide +kernel
theorem d_M_straight_34 : decode prog_14_method_98_code 34 = .ok (.aload_n 0, 1) := by decide +kernel
theorem d_M_straight_35 : decode prog_14_method_98_code 35 = .ok (.getfield 113, 3) := by decide +kernel
theorem d_M_straight_38 : decode prog_14_method_98_code 38 = .ok (.bipush 18, 2) := by decide +kernel
theorem d_M_straight_40 : decode prog_14_method_98_code 40 = .ok (.iload_n 2, 1) := by decide +kernel
theorem d_M_straight_41 : decode prog_14_method_98_code 41 = .ok (.iadd, 1) := by decide +kernel
theorem d_M_straight_42 : decode prog_14_method_98_code 42 = .ok (.iaload, 1) := by decide +kernel
theorem d_M_straight_43 : decode prog_14_method_98_code 43 = .ok (.aload_n 0, 1) := by decide +kernel
theorem d_M_straight_44 : decode prog_14_method_98_code 44 = .ok (.getfield 113, 3) := by decide +kernel
theorem d_M_straight_47 : decode prog_14_method_98_code 47 = .ok (.bipush 18, 2) := by decide +kernel
theorem d_M_straight_49 : decode prog_14_method_98_code 49 = .ok (.iload_n 1, 1) := by decide +kernel
theorem d_M_straight_50 : decode prog_14_method_98_code 50 = .ok (.iadd, 1) := by decide +kernel
theorem d_M_straight_51 : decode prog_14_method_98_code 51 = .ok (.iaload, 1) := by decide +kernel
theorem d_M_straight_52 : decode prog_14_method_98_code 52 = .ok (.if_icmp .ge 5, 3) := by decide +kernel
theorem d_M_straight_55 : decode prog_14_method_98_code 55 = .ok (.iload_n 2, 1) := by decide +kernel
theorem d_M_straight_56 : decode prog_14_method_98_code 56 = .ok (.istore_n 1, 1) := by decide +kernel
theorem d_M_straight_57 : decode prog_14_method_98_code 57 = .ok (.iinc 2 1, 3) := by decide +kernel
theorem d_M_straight_60 : decode prog_14_method_98_code 60 = .ok (.goto (-55), 3) := by decide +kernel
theorem d_M_straight_63 : decode prog_14_method_98_code 63 = .ok (.iload_n 1, 1) := by decide +kernel
theorem d_M_straight_64 : decode prog_14_method_98_code 64 = .ok (.ireturn, 1) := by decide +kernel
theorem d_M_bill_0 : decode prog_14_method_99_code 0 = .ok (.iload_n 1, 1) := by decide +kernel
theorem d_M_bill_1 : decode prog_14_method_99_code 1 = .ok (.invokestatic 411, 3) := by decide +kernel
theorem d_M_bill_4 : decode prog_14_method_99_code 4 = .ok (.ifCond .ne 5, 3) := by decide +kernel
theorem d_M_bill_7 : decode prog_14_method_99_code 7 = .ok (.iconst (-1), 1) := by decide +kernel
theorem d_M_bill_8 : decode prog_14_method_99_code 8 = .ok (.ireturn, 1) := by decide +kernel
theorem d_M_bill_9 : decode prog_14_method_99_code 9 = .ok (.aload_n 0, 1) := by decide +kernel
theorem d_M_bill_10 : decode prog_14_method_99_code 10 = .ok (.invokevirtual 401, 3) := by decide +kernel
theorem d_M_bill_13 : decode prog_14_method_99_code 13 = .ok (.iconst 0, 1) := by decide +kernel
theorem d_M_bill_14 : decode prog_14_method_99_code 14 = .ok (.istore_n 2, 1) := by decide +kernel
theorem d_M_bill_15 : decode prog_14_method_99_code 15 = .ok (.iconst 0, 1) := by decide +kernel
theorem d_M_bill_16 : decode prog_14_method_99_code 16 = .ok (.istore_n 3, 1) := by decide +kernel
theorem d_M_bill_17 : decode prog_14_method_99_code 17 = .ok (.iload_n 3, 1) := by decide +kernel
theorem d_M_bill_18 : decode prog_14_method_99_code 18 = .ok (.iload_n 1, 1) := by decide +kernel
theorem d_M_bill_19 : decode prog_14_method_99_code 19 = .ok (.if_icmp .ge 20, 3) := by decide +kernel
theorem d_M_bill_22 : decode prog_14_method_99_code 22 = .ok (.iload_n 2, 1) := by decide +kernel
theorem d_M_bill_23 : decode prog_14_method_99_code 23 = .ok (.aload_n 0, 1) := by decide +kernel
theorem d_M_bill_24 : decode prog_14_method_99_code 24 = .ok (.invokevirtual 454, 3) := by decide +kernel
theorem d_M_bill_27 : decode prog_14_method_99_code 27 = .ok (.iadd, 1) := by decide +kernel
theorem d_M_bill_28 : decode prog_14_method_99_code 28 = .ok (.istore_n 2, 1) := by decide +kernel
theorem d_M_bill_29 : decode prog_14_method_99_code 29 = .ok (.aload_n 0, 1) := by decide +kernel
theorem d_M_bill_30 : decode prog_14_method_99_code 30 = .ok (.invokevirtual 383, 3) := by decide +kernel
theorem d_M_bill_33 : decode prog_14_method_99_code 33 = .ok (.iinc 3 1, 3) := by decide +kernel
theorem d_M_bill_36 : decode prog_14_method_99_code 36 = .ok (.goto (-19), 3) := by decide +kernel
theorem d_M_bill_39 : decode prog_14_method_99_code 39 = .ok (.iload_n 2, 1) := by decide +kernel
theorem d_M_bill_40 : decode prog_14_method_99_code 40 = .ok (.ireturn, 1) := by decide +kernel
theorem d_M_swap_0 : decode prog_14_method_100_code 0 = .ok (.iload_n 1, 1) := by decide +kernel
theorem d_M_swap_1 : decode prog_14_method_100_code 1 = .ok (.iconst 0, 1) := by decide +kernel
theorem d_M_swap_2 : decode prog_14_method_100_code 2 = .ok (.iconst 1, 1) := by decide +kernel
theorem d_M_swap_3 : decode prog_14_method_100_code 3 = .ok (.invokestatic 322, 3) := by decide +kernel
theorem d_M_swap_6 : decode prog_14_method_100_code 6 = .ok (.ifCond .ne 5, 3) := by decide +kernel
theorem d_M_swap_9 : decode prog_14_method_100_code 9 = .ok (.iconst (-1), 1) := by decide +kernel
theorem d_M_swap_10 : decode prog_14_method_100_code 10 = .ok (.ireturn, 1) := by decide +kernel
theorem d_M_swap_11 : decode prog_14_method_100_code 11 = .ok (.aload_n 0, 1) := by decide +kernel
theorem d_M_swap_12 : decode prog_14_method_100_code 12 = .ok (.invokevirtual 332, 3) := by decide +kernel
theorem d_M_swap_15 : decode prog_14_method_100_code 15 = .ok (.aload_n 0, 1) := by decide +kernel
theorem d_M_swap_16 : decode prog_14_method_100_code 16 = .ok (.invokevirtual 454, 3) := by decide +kernel
theorem d_M_swap_19 : decode prog_14_method_100_code 19 = .ok (.istore_n 2, 1) := by decide +kernel
theorem d_M_swap_20 : decode prog_14_method_100_code 20 = .ok (.bipush (-2), 2) := by decide +kernel
theorem d_M_swap_22 : decode prog_14_method_100_code 22 = .ok (.istore_n 3, 1) := by decide +kernel
theorem d_M_swap_23 : decode prog_14_method_100_code 23 = .ok (.iconst 0, 1) := by decide +kernel
theorem d_M_swap_24 : decode prog_14_method_100_code 24 = .ok (.istore 4, 2) := by decide +kernel
theorem d_M_swap_26 : decode prog_14_method_100_code 26 = .ok (.iconst 0, 1) := by decide +kernel
theorem d_M_swap_27 : decode prog_14_method_100_code 27 = .ok (.istore 5, 2) := by decide +kernel
theorem d_M_swap_29 : decode prog_14_method_100_code 29 = .ok (.iload 5, 2) := by decide +kernel
theorem d_M_swap_31 : decode prog_14_method_100_code 31 = .ok (.aload_n 0, 1) := by decide +kernel
theorem d_M_swap_32 : decode prog_14_method_100_code 32 = .ok (.getfield 55, 3) := by decide +kernel
theorem d_M_swap_35 : decode prog_14_method_100_code 35 = .ok (.aload_n 0, 1) := by decide +kernel
theorem d_M_swap_36 : decode prog_14_method_100_code 36 = .ok (.getfield 245, 3) := by decide +kernel
theorem d_M_swap_39 : decode prog_14_method_100_code 39 = .ok (.iaload, 1) := by decide +kernel
theorem d_M_swap_40 : decode prog_14_method_100_code 40 = .ok (.if_icmp .ge 88, 3) := by decide +kernel
theorem d_M_swap_43 : decode prog_14_method_100_code 43 = .ok (.iload 5, 2) := by decide +kernel
theorem d_M_swap_45 : decode prog_14_method_100_code 45 = .ok (.iconst 1, 1) := by decide +kernel
theorem d_M_swap_46 : decode prog_14_method_100_code 46 = .ok (.iadd, 1) := by decide +kernel
theorem d_M_swap_47 : decode prog_14_method_100_code 47 = .ok (.istore 6, 2) := by decide +kernel
theorem d_M_swap_49 : decode prog_14_method_100_code 49 = .ok (.iload 6, 2) := by decide +kernel
theorem d_M_swap_51 : decode prog_14_method_100_code 51 = .ok (.aload_n 0, 1) := by decide +kernel
theorem d_M_swap_52 : decode prog_14_method_100_code 52 = .ok (.getfield 55, 3) := by decide +kernel
theorem d_M_swap_55 : decode prog_14_method_100_code 55 = .ok (.aload_n 0, 1) := by decide +kernel
theorem d_M_swap_56 : decode prog_14_method_100_code 56 = .ok (.getfield 245, 3) := by decide +kernel
theorem d_M_swap_59 : decode prog_14_method_100_code 59 = .ok (.iaload, 1) := by decide +kernel
theorem d_M_swap_60 : decode prog_14_method_100_code 60 = .ok (.if_icmp .ge 62, 3) := by decide +kernel
theorem d_M_swap_63 : decode prog_14_method_100_code 63 = .ok (.aload_n 0, 1) := by decide +kernel
theorem d_M_swap_64 : decode prog_14_method_100_code 64 = .ok (.iload 5, 2) := by decide +kernel
theorem d_M_swap_66 : decode prog_14_method_100_code 66 = .ok (.iload 6, 2) := by decide +kernel
theorem d_M_swap_68 : decode prog_14_method_100_code 68 = .ok (.invokevirtual 404, 3) := by decide +kernel
theorem d_M_swap_71 : decode prog_14_method_100_code 71 = .ok (.ifCond .ne 6, 3) := by decide +kernel
theorem d_M_swap_74 : decode prog_14_method_100_code 74 = .ok (.goto 42, 3) := by decide +kernel
theorem d_M_swap_77 : decode prog_14_method_100_code 77 = .ok (.aload_n 0, 1) := by decide +kernel
theorem d_M_swap_78 : decode prog_14_method_100_code 78 = .ok (.iload 5, 2) := by decide +kernel
theorem d_M_swap_80 : decode prog_14_method_100_code 80 = .ok (.iload 6, 2) := by decide +kernel
theorem d_M_swap_82 : decode prog_14_method_100_code 82 = .ok (.invokevirtual 408, 3) := by decide +kernel
theorem d_M_swap_85 : decode prog_14_method_100_code 85 = .ok (.iload_n 2, 1) := by decide +kernel
theorem d_M_swap_86 : decode prog_14_method_100_code 86 = .ok (.aload_n 0, 1) := by decide +kernel
theorem d_M_swap_87 : decode prog_14_method_100_code 87 = .ok (.invokevirtual 454, 3) := by decide +kernel
theorem d_M_swap_90 : decode prog_14_method_100_code 90 = .ok (.isub, 1) := by decide +kernel
theorem d_M_swap_91 : decode prog_14_method_100_code 91 = .ok (.istore 7, 2) := by decide +kernel
theorem d_M_swap_93 : decode prog_14_method_100_code 93 = .ok (.iload 7, 2) := by decide +kernel
theorem d_M_swap_95 : decode prog_14_method_100_code 95 = .ok (.iload 4, 2) := by decide +kernel
theorem d_M_swap_97 : decode prog_14_method_100_code 97 = .ok (.if_icmp .gt 6, 3) := by decide +kernel
theorem d_M_swap_100 : decode prog_14_method_100_code 100 = .ok (.goto 16, 3) := by decide +kernel
theorem d_M_swap_103 : decode prog_14_method_100_code 103 = .ok (.bipush 10, 2) := by decide +kernel
theorem d_M_swap_105 : decode prog_14_method_100_code 105 = .ok (.iload 5, 2) := by decide +kernel
theorem d_M_swap_107 : decode prog_14_method_100_code 107 = .ok (.imul, 1) := by decide +kernel
theorem d_M_swap_108 : decode prog_14_method_100_code 108 = .ok (.iload 6, 2) := by decide +kernel
theorem d_M_swap_110 : decode prog_14_method_100_code 110 = .ok (.iadd, 1) := by decide +kernel
theorem d_M_swap_111 : decode prog_14_method_100_code 111 = .ok (.istore_n 3, 1) := by decide +kernel
theorem d_M_swap_112 : decode prog_14_method_100_code 112 = .ok (.iload 7, 2) := by decide +kernel
theorem d_M_swap_114 : decode prog_14_method_100_code 114 = .ok (.istore 4, 2) := by decide +kernel
theorem d_M_swap_116 : decode prog_14_method_100_code 116 = .ok (.iinc 6 1, 3) := by decide +kernel
theorem d_M_swap_119 : decode prog_14_method_100_code 119 = .ok (.goto (-70), 3) := by decide +kernel
theorem d_M_swap_122 : decode prog_14_method_100_code 122 = .ok (.iinc 5 1, 3) := by decide +kernel
theorem d_M_swap_125 : decode prog_14_method_100_code 125 = .ok (.goto (-96), 3) := by decide +kernel
theorem d_M_swap_128 : decode prog_14_method_100_code 128 = .ok (.iload_n 3, 1) := by decide +kernel
theorem d_M_swap_129 : decode prog_14_method_100_code 129 = .ok (.ifCond .lt 7, 3) := by decide +kernel
theorem d_M_swap_132 : decode prog_14_method_100_code 132 = .ok (.iload_n 1, 1) := by decide +kernel
theorem d_M_swap_133 : decode prog_14_method_100_code 133 = .ok (.ifCond .ne 7, 3) := by decide +kernel
theorem d_M_swap_136 : decode prog_14_method_100_code 136 = .ok (.iload_n 3, 1) := by decide +kernel
theorem d_M_swap_137 : decode prog_14_method_100_code 137 = .ok (.goto 5, 3) := by decide +kernel
theorem d_M_swap_140 : decode prog_14_method_100_code 140 = .ok (.iload 4, 2) := by decide +kernel
theorem d_M_swap_142 : decode prog_14_method_100_code 142 = .ok (.ireturn, 1) := by decide +kernel
theorem d_M_upright_0 : decode prog_14_method_101_code 0 = .ok (.iload_n 1, 1) := by decide +kernel
theorem d_M_upright_1 : decode prog_14_method_101_code 1 = .ok (.invokestatic 411, 3) := by decide +kernel
theorem d_M_upright_4 : decode prog_14_method_101_code 4 = .ok (.ifCond .eq 14, 3) := by decide +kernel
theorem d_M_upright_7 : decode prog_14_method_101_code 7 = .ok (.iload_n 2, 1) := by decide +kernel
theorem d_M_upright_8 : decode prog_14_method_101_code 8 = .ok (.iconst 1, 1) := by decide +kernel
theorem d_M_upright_9 : decode prog_14_method_101_code 9 = .ok (.sipush 999, 3) := by decide +kernel
theorem d_M_upright_12 : decode prog_14_method_101_code 12 = .ok (.invokestatic 322, 3) := by decide +kernel
theorem d_M_upright_15 : decode prog_14_method_101_code 15 = .ok (.ifCond .ne 5, 3) := by decide +kernel
theorem d_M_upright_18 : decode prog_14_method_101_code 18 = .ok (.iconst (-1), 1) := by decide +kernel
theorem d_M_upright_19 : decode prog_14_method_101_code 19 = .ok (.ireturn, 1) := by decide +kernel
theorem d_M_upright_20 : decode prog_14_method_101_code 20 = .ok (.aload_n 0, 1) := by decide +kernel
theorem d_M_upright_21 : decode prog_14_method_101_code 21 = .ok (.invokevirtual 401, 3) := by decide +kernel
theorem d_M_upright_24 : decode prog_14_method_101_code 24 = .ok (.aload_n 0, 1) := by decide +kernel
theorem d_M_upright_25 : decode prog_14_method_101_code 25 = .ok (.iload_n 1, 1) := by decide +kernel
theorem d_M_upright_26 : decode prog_14_method_101_code 26 = .ok (.invokevirtual 414, 3) := by decide +kernel
theorem d_M_upright_29 : decode prog_14_method_101_code 29 = .ok (.iconst 0, 1) := by decide +kernel
theorem d_M_upright_30 : decode prog_14_method_101_code 30 = .ok (.istore_n 3, 1) := by decide +kernel
theorem d_M_upright_31 : decode prog_14_method_101_code 31 = .ok (.iconst 0, 1) := by decide +kernel
theorem d_M_upright_32 : decode prog_14_method_101_code 32 = .ok (.istore 4, 2) := by decide +kernel
theorem d_M_upright_34 : decode prog_14_method_101_code 34 = .ok (.iload 4, 2) := by decide +kernel
theorem d_M_upright_36 : decode prog_14_method_101_code 36 = .ok (.aload_n 0, 1) := by decide +kernel
theorem d_M_upright_37 : decode prog_14_method_101_code 37 = .ok (.getfield 55, 3) := by decide +kernel
theorem d_M_upright_40 : decode prog_14_method_101_code 40 = .ok (.aload_n 0, 1) := by decide +kernel
theorem d_M_upright_41 : decode prog_14_method_101_code 41 = .ok (.getfield 245, 3) := by decide +kernel
theorem d_M_upright_44 : decode prog_14_method_101_code 44 = .ok (.iaload, 1) := by decide +kernel
theorem d_M_upright_45 : decode prog_14_method_101_code 45 = .ok (.if_icmp .ge 30, 3) := by decide +kernel
theorem d_M_upright_48 : decode prog_14_method_101_code 48 = .ok (.aload_n 0, 1) := by decide +kernel
theorem d_M_upright_49 : decode prog_14_method_101_code 49 = .ok (.getfield 116, 3) := by decide +kernel
theorem d_M_upright_52 : decode prog_14_method_101_code 52 = .ok (.bipush 18, 2) := by decide +kernel
theorem d_M_upright_54 : decode prog_14_method_101_code 54 = .ok (.iload 4, 2) := by decide +kernel
theorem d_M_upright_56 : decode prog_14_method_101_code 56 = .ok (.iadd, 1) := by decide +kernel
theorem d_M_upright_57 : decode prog_14_method_101_code 57 = .ok (.iaload, 1) := by decide +kernel
theorem d_M_upright_58 : decode prog_14_method_101_code 58 = .ok (.iload_n 2, 1) := by decide +kernel
theorem d_M_upright_59 : decode prog_14_method_101_code 59 = .ok (.if_icmp .ge 10, 3) := by decide +kernel
theorem d_M_upright_62 : decode prog_14_method_101_code 62 = .ok (.iload_n 3, 1) := by decide +kernel
theorem d_M_upright_63 : decode prog_14_method_101_code 63 = .ok (.iconst 1, 1) := by decide +kernel
theorem d_M_upright_64 : decode prog_14_method_101_code 64 = .ok (.iload 4, 2) := by decide +kernel
theorem d_M_upright_66 : decode prog_14_method_101_code 66 = .ok (.ishl, 1) := by decide +kernel
theorem d_M_upright_67 : decode prog_14_method_101_code 67 = .ok (.ior, 1) := by decide +kernel
theorem d_M_upright_68 : decode prog_14_method_101_code 68 = .ok (.istore_n 3, 1) := by decide +kernel
theorem d_M_upright_69 : decode prog_14_method_101_code 69 = .ok (.iinc 4 1, 3) := by decide +kernel
theorem d_M_upright_72 : decode prog_14_method_101_code 72 = .ok (.goto (-38), 3) := by decide +kernel
theorem d_M_upright_75 : decode prog_14_method_101_code 75 = .ok (.iload_n 3, 1) := by decide +kernel
theorem d_M_upright_76 : decode prog_14_method_101_code 76 = .ok (.ireturn, 1) := by decide +kernel
theorem d_M_free_0 : decode prog_14_method_102_code 0 = .ok (.iload_n 1, 1) := by decide +kernel
theorem d_M_free_1 : decode prog_14_method_102_code 1 = .ok (.iconst 0, 1) := by decide +kernel
theorem d_M_free_2 : decode prog_14_method_102_code 2 = .ok (.iconst 1, 1) := by decide +kernel
theorem d_M_free_3 : decode prog_14_method_102_code 3 = .ok (.invokestatic 322, 3) := by decide +kernel
theorem d_M_free_6 : decode prog_14_method_102_code 6 = .ok (.ifCond .ne 5, 3) := by decide +kernel
theorem d_M_free_9 : decode prog_14_method_102_code 9 = .ok (.iconst (-1), 1) := by decide +kernel
theorem d_M_free_10 : decode prog_14_method_102_code 10 = .ok (.ireturn, 1) := by decide +kernel
theorem d_M_free_11 : decode prog_14_method_102_code 11 = .ok (.aload_n 0, 1) := by decide +kernel
theorem d_M_free_12 : decode prog_14_method_102_code 12 = .ok (.invokevirtual 332, 3) := by decide +kernel
theorem d_M_free_15 : decode prog_14_method_102_code 15 = .ok (.bipush (-2), 2) := by decide +kernel
theorem d_M_free_17 : decode prog_14_method_102_code 17 = .ok (.istore_n 2, 1) := by decide +kernel
theorem d_M_free_18 : decode prog_14_method_102_code 18 = .ok (.iconst 0, 1) := by decide +kernel
theorem d_M_free_19 : decode prog_14_method_102_code 19 = .ok (.istore_n 3, 1) := by decide +kernel
theorem d_M_free_20 : decode prog_14_method_102_code 20 = .ok (.iload_n 3, 1) := by decide +kernel
theorem d_M_free_21 : decode prog_14_method_102_code 21 = .ok (.aload_n 0, 1) := by decide +kernel
theorem d_M_free_22 : decode prog_14_method_102_code 22 = .ok (.getfield 46, 3) := by decide +kernel
theorem d_M_free_25 : decode prog_14_method_102_code 25 = .ok (.aload_n 0, 1) := by decide +kernel
theorem d_M_free_26 : decode prog_14_method_102_code 26 = .ok (.getfield 245, 3) := by decide +kernel
theorem d_M_free_29 : decode prog_14_method_102_code 29 = .ok (.iaload, 1) := by decide +kernel
theorem d_M_free_30 : decode prog_14_method_102_code 30 = .ok (.if_icmp .ge 54, 3) := by decide +kernel
theorem d_M_free_33 : decode prog_14_method_102_code 33 = .ok (.aload_n 0, 1) := by decide +kernel
theorem d_M_free_34 : decode prog_14_method_102_code 34 = .ok (.iload_n 3, 1) := by decide +kernel
theorem d_M_free_35 : decode prog_14_method_102_code 35 = .ok (.invokevirtual 389, 3) := by decide +kernel
theorem d_M_free_38 : decode prog_14_method_102_code 38 = .ok (.ifCond .ge 40, 3) := by decide +kernel
theorem d_M_free_41 : decode prog_14_method_102_code 41 = .ok (.iload_n 2, 1) := by decide +kernel
theorem d_M_free_42 : decode prog_14_method_102_code 42 = .ok (.ifCond .lt 34, 3) := by decide +kernel
theorem d_M_free_45 : decode prog_14_method_102_code 45 = .ok (.aload_n 0, 1) := by decide +kernel
theorem d_M_free_46 : decode prog_14_method_102_code 46 = .ok (.getfield 52, 3) := by decide +kernel
theorem d_M_free_49 : decode prog_14_method_102_code 49 = .ok (.bipush 7, 2) := by decide +kernel
theorem d_M_free_51 : decode prog_14_method_102_code 51 = .ok (.aload_n 0, 1) := by decide +kernel
theorem d_M_free_52 : decode prog_14_method_102_code 52 = .ok (.getfield 245, 3) := by decide +kernel
theorem d_M_free_55 : decode prog_14_method_102_code 55 = .ok (.imul, 1) := by decide +kernel
theorem d_M_free_56 : decode prog_14_method_102_code 56 = .ok (.iload_n 3, 1) := by decide +kernel
theorem d_M_free_57 : decode prog_14_method_102_code 57 = .ok (.iadd, 1) := by decide +kernel
theorem d_M_free_58 : decode prog_14_method_102_code 58 = .ok (.iaload, 1) := by decide +kernel
theorem d_M_free_59 : decode prog_14_method_102_code 59 = .ok (.aload_n 0, 1) := by decide +kernel
theorem d_M_free_60 : decode prog_14_method_102_code 60 = .ok (.getfield 52, 3) := by decide +kernel
theorem d_M_free_63 : decode prog_14_method_102_code 63 = .ok (.bipush 7, 2) := by decide +kernel
theorem d_M_free_65 : decode prog_14_method_102_code 65 = .ok (.aload_n 0, 1) := by decide +kernel
theorem d_M_free_66 : decode prog_14_method_102_code 66 = .ok (.getfield 245, 3) := by decide +kernel
theorem d_M_free_69 : decode prog_14_method_102_code 69 = .ok (.imul, 1) := by decide +kernel
theorem d_M_free_70 : decode prog_14_method_102_code 70 = .ok (.iload_n 2, 1) := by decide +kernel
theorem d_M_free_71 : decode prog_14_method_102_code 71 = .ok (.iadd, 1) := by decide +kernel
theorem d_M_free_72 : decode prog_14_method_102_code 72 = .ok (.iaload, 1) := by decide +kernel
theorem d_M_free_73 : decode prog_14_method_102_code 73 = .ok (.if_icmp .le 5, 3) := by decide +kernel
theorem d_M_free_76 : decode prog_14_method_102_code 76 = .ok (.iload_n 3, 1) := by decide +kernel
theorem d_M_free_77 : decode prog_14_method_102_code 77 = .ok (.istore_n 2, 1) := by decide +kernel
theorem d_M_free_78 : decode prog_14_method_102_code 78 = .ok (.iinc 3 1, 3) := by decide +kernel
theorem d_M_free_81 : decode prog_14_method_102_code 81 = .ok (.goto (-61), 3) := by decide +kernel
theorem d_M_free_84 : decode prog_14_method_102_code 84 = .ok (.iload_n 2, 1) := by decide +kernel
theorem d_M_free_85 : decode prog_14_method_102_code 85 = .ok (.ifCond .lt 7, 3) := by decide +kernel
theorem d_M_free_88 : decode prog_14_method_102_code 88 = .ok (.iload_n 1, 1) := by decide +kernel
theorem d_M_free_89 : decode prog_14_method_102_code 89 = .ok (.ifCond .ne 7, 3) := by decide +kernel
theorem d_M_free_92 : decode prog_14_method_102_code 92 = .ok (.iload_n 2, 1) := by decide +kernel
theorem d_M_free_93 : decode prog_14_method_102_code 93 = .ok (.goto 17, 3) := by decide +kernel
theorem d_M_free_96 : decode prog_14_method_102_code 96 = .ok (.aload_n 0, 1) := by decide +kernel
theorem d_M_free_97 : decode prog_14_method_102_code 97 = .ok (.getfield 52, 3) := by decide +kernel
theorem d_M_free_100 : decode prog_14_method_102_code 100 = .ok (.bipush 7, 2) := by decide +kernel
theorem d_M_free_102 : decode prog_14_method_102_code 102 = .ok (.aload_n 0, 1) := by decide +kernel
theorem d_M_free_103 : decode prog_14_method_102_code 103 = .ok (.getfield 245, 3) := by decide +kernel
theorem d_M_free_106 : decode prog_14_method_102_code 106 = .ok (.imul, 1) := by decide +kernel
theorem d_M_free_107 : decode prog_14_method_102_code 107 = .ok (.iload_n 2, 1) := by decide +kernel
theorem d_M_free_108 : decode prog_14_method_102_code 108 = .ok (.iadd, 1) := by decide +kernel
theorem d_M_free_109 : decode prog_14_method_102_code 109 = .ok (.iaload, 1) := by decide +kernel
theorem d_M_free_110 : decode prog_14_method_102_code 110 = .ok (.ireturn, 1) := by decide +kernel
theorem d_M_then_0 : decode prog_14_method_103_code 0 = .ok (.aload_n 0, 1) := by decide +kernel
theorem d_M_then_1 : decode prog_14_method_103_code 1 = .ok (.iload_n 1, 1) := by decide +kernel
theorem d_M_then_2 : decode prog_14_method_103_code 2 = .ok (.invokevirtual 392, 3) := by decide +kernel
theorem d_M_then_5 : decode prog_14_method_103_code 5 = .ok (.ifCond .eq 19, 3) := by decide +kernel
theorem d_M_then_8 : decode prog_14_method_103_code 8 = .ok (.iload_n 2, 1) := by decide +kernel
theorem d_M_then_9 : decode prog_14_method_103_code 9 = .ok (.invokestatic 411, 3) := by decide +kernel
theorem d_M_then_12 : decode prog_14_method_103_code 12 = .ok (.ifCond .eq 12, 3) := by decide +kernel
theorem d_M_then_15 : decode prog_14_method_103_code 15 = .ok (.iload_n 3, 1) := by decide +kernel
theorem d_M_then_16 : decode prog_14_method_103_code 16 = .ok (.iconst 0, 1) := by decide +kernel
theorem d_M_then_17 : decode prog_14_method_103_code 17 = .ok (.iconst 2, 1) := by decide +kernel
theorem d_M_then_18 : decode prog_14_method_103_code 18 = .ok (.invokestatic 322, 3) := by decide +kernel
theorem d_M_then_21 : decode prog_14_method_103_code 21 = .ok (.ifCond .ne 5, 3) := by decide +kernel
theorem d_M_then_24 : decode prog_14_method_103_code 24 = .ok (.iconst (-1), 1) := by decide +kernel
theorem d_M_then_25 : decode prog_14_method_103_code 25 = .ok (.ireturn, 1) := by decide +kernel
theorem d_M_then_26 : decode prog_14_method_103_code 26 = .ok (.aload_n 0, 1) := by decide +kernel
theorem d_M_then_27 : decode prog_14_method_103_code 27 = .ok (.invokevirtual 332, 3) := by decide +kernel
theorem d_M_then_30 : decode prog_14_method_103_code 30 = .ok (.aload_n 0, 1) := by decide +kernel
theorem d_M_then_31 : decode prog_14_method_103_code 31 = .ok (.iload_n 2, 1) := by decide +kernel
theorem d_M_then_32 : decode prog_14_method_103_code 32 = .ok (.invokevirtual 414, 3) := by decide +kernel
theorem d_M_then_35 : decode prog_14_method_103_code 35 = .ok (.iload_n 3, 1) := by decide +kernel
theorem d_M_then_36 : decode prog_14_method_103_code 36 = .ok (.ifCond .ne 15, 3) := by decide +kernel
theorem d_M_then_39 : decode prog_14_method_103_code 39 = .ok (.aload_n 0, 1) := by decide +kernel
theorem d_M_then_40 : decode prog_14_method_103_code 40 = .ok (.getfield 116, 3) := by decide +kernel
theorem d_M_then_43 : decode prog_14_method_103_code 43 = .ok (.bipush 12, 2) := by decide +kernel
theorem d_M_then_45 : decode prog_14_method_103_code 45 = .ok (.iload_n 1, 1) := by decide +kernel
theorem d_M_then_46 : decode prog_14_method_103_code 46 = .ok (.iadd, 1) := by decide +kernel
theorem d_M_then_47 : decode prog_14_method_103_code 47 = .ok (.iaload, 1) := by decide +kernel
theorem d_M_then_48 : decode prog_14_method_103_code 48 = .ok (.goto 29, 3) := by decide +kernel
theorem d_M_then_51 : decode prog_14_method_103_code 51 = .ok (.iload_n 3, 1) := by decide +kernel
theorem d_M_then_52 : decode prog_14_method_103_code 52 = .ok (.iconst 1, 1) := by decide +kernel
theorem d_M_then_53 : decode prog_14_method_103_code 53 = .ok (.if_icmp .ne 15, 3) := by decide +kernel
theorem d_M_then_56 : decode prog_14_method_103_code 56 = .ok (.aload_n 0, 1) := by decide +kernel
theorem d_M_then_57 : decode prog_14_method_103_code 57 = .ok (.getfield 116, 3) := by decide +kernel
theorem d_M_then_60 : decode prog_14_method_103_code 60 = .ok (.bipush 18, 2) := by decide +kernel
theorem d_M_then_62 : decode prog_14_method_103_code 62 = .ok (.iload_n 1, 1) := by decide +kernel
theorem d_M_then_63 : decode prog_14_method_103_code 63 = .ok (.iadd, 1) := by decide +kernel
theorem d_M_then_64 : decode prog_14_method_103_code 64 = .ok (.iaload, 1) := by decide +kernel
theorem d_M_then_65 : decode prog_14_method_103_code 65 = .ok (.goto 12, 3) := by decide +kernel
theorem d_M_then_68 : decode prog_14_method_103_code 68 = .ok (.aload_n 0, 1) := by decide +kernel
theorem d_M_then_69 : decode prog_14_method_103_code 69 = .ok (.getfield 116, 3) := by decide +kernel
theorem d_M_then_72 : decode prog_14_method_103_code 72 = .ok (.bipush 6, 2) := by decide +kernel
theorem d_M_then_74 : decode prog_14_method_103_code 74 = .ok (.iload_n 1, 1) := by decide +kernel
theorem d_M_then_75 : decode prog_14_method_103_code 75 = .ok (.iadd, 1) := by decide +kernel
theorem d_M_then_76 : decode prog_14_method_103_code 76 = .ok (.iaload, 1) := by decide +kernel
theorem d_M_then_77 : decode prog_14_method_103_code 77 = .ok (.ireturn, 1) := by decide +kernel
theorem d_M_bentIn_0 : decode prog_14_method_104_code 0 = .ok (.aload_n 0, 1) := by decide +kernel
theorem d_M_bentIn_1 : decode prog_14_method_104_code 1 = .ok (.iload_n 1, 1) := by decide +kernel
theorem d_M_bentIn_2 : decode prog_14_method_104_code 2 = .ok (.invokevirtual 386, 3) := by decide +kernel
theorem d_M_bentIn_5 : decode prog_14_method_104_code 5 = .ok (.ifCond .eq 10, 3) := by decide +kernel
theorem d_M_bentIn_8 : decode prog_14_method_104_code 8 = .ok (.iload_n 2, 1) := by decide +kernel
theorem d_M_bentIn_9 : decode prog_14_method_104_code 9 = .ok (.invokestatic 411, 3) := by decide +kernel
theorem d_M_bentIn_12 : decode prog_14_method_104_code 12 = .ok (.ifCond .ne 5, 3) := by decide +kernel
theorem d_M_bentIn_15 : decode prog_14_method_104_code 15 = .ok (.iconst (-1), 1) := by decide +kernel
theorem d_M_bentIn_16 : decode prog_14_method_104_code 16 = .ok (.ireturn, 1) := by decide +kernel
theorem d_M_bentIn_17 : decode prog_14_method_104_code 17 = .ok (.aload_n 0, 1) := by decide +kernel
theorem d_M_bentIn_18 : decode prog_14_method_104_code 18 = .ok (.invokevirtual 332, 3) := by decide +kernel
theorem d_M_bentIn_21 : decode prog_14_method_104_code 21 = .ok (.aload_n 0, 1) := by decide +kernel
theorem d_M_bentIn_22 : decode prog_14_method_104_code 22 = .ok (.iload_n 2, 1) := by decide +kernel
theorem d_M_bentIn_23 : decode prog_14_method_104_code 23 = .ok (.invokevirtual 414, 3) := by decide +kernel
theorem d_M_bentIn_26 : decode prog_14_method_104_code 26 = .ok (.aload_n 0, 1) := by decide +kernel
theorem d_M_bentIn_27 : decode prog_14_method_104_code 27 = .ok (.getfield 116, 3) := by decide +kernel
theorem d_M_bentIn_30 : decode prog_14_method_104_code 30 = .ok (.bipush 24, 2) := by decide +kernel
theorem d_M_bentIn_32 : decode prog_14_method_104_code 32 = .ok (.iload_n 1, 1) := by decide +kernel
theorem d_M_bentIn_33 : decode prog_14_method_104_code 33 = .ok (.iadd, 1) := by decide +kernel
theorem d_M_bentIn_34 : decode prog_14_method_104_code 34 = .ok (.iaload, 1) := by decide +kernel
theorem d_M_bentIn_35 : decode prog_14_method_104_code 35 = .ok (.ireturn, 1) := by decide +kernel
theorem d_M_year_0 : decode prog_14_method_105_code 0 = .ok (.aload_n 0, 1) := by decide +kernel
theorem d_M_year_1 : decode prog_14_method_105_code 1 = .ok (.iload_n 1, 1) := by decide +kernel
theorem d_M_year_2 : decode prog_14_method_105_code 2 = .ok (.invokevirtual 392, 3) := by decide +kernel
theorem d_M_year_5 : decode prog_14_method_105_code 5 = .ok (.ifCond .eq 20, 3) := by decide +kernel
theorem d_M_year_8 : decode prog_14_method_105_code 8 = .ok (.iload_n 2, 1) := by decide +kernel
theorem d_M_year_9 : decode prog_14_method_105_code 9 = .ok (.invokestatic 411, 3) := by decide +kernel
theorem d_M_year_12 : decode prog_14_method_105_code 12 = .ok (.ifCond .eq 13, 3) := by decide +kernel
theorem d_M_year_15 : decode prog_14_method_105_code 15 = .ok (.iload_n 3, 1) := by decide +kernel
theorem d_M_year_16 : decode prog_14_method_105_code 16 = .ok (.iconst 1, 1) := by decide +kernel
theorem d_M_year_17 : decode prog_14_method_105_code 17 = .ok (.bipush 20, 2) := by decide +kernel
theorem d_M_year_19 : decode prog_14_method_105_code 19 = .ok (.invokestatic 322, 3) := by decide +kernel
theorem d_M_year_22 : decode prog_14_method_105_code 22 = .ok (.ifCond .ne 5, 3) := by decide +kernel
theorem d_M_year_25 : decode prog_14_method_105_code 25 = .ok (.iconst (-1), 1) := by decide +kernel
theorem d_M_year_26 : decode prog_14_method_105_code 26 = .ok (.ireturn, 1) := by decide +kernel
theorem d_M_year_27 : decode prog_14_method_105_code 27 = .ok (.iconst 0, 1) := by decide +kernel
theorem d_M_year_28 : decode prog_14_method_105_code 28 = .ok (.istore 4, 2) := by decide +kernel
theorem d_M_year_30 : decode prog_14_method_105_code 30 = .ok (.iconst 0, 1) := by decide +kernel
theorem d_M_year_31 : decode prog_14_method_105_code 31 = .ok (.istore 5, 2) := by decide +kernel
theorem d_M_year_33 : decode prog_14_method_105_code 33 = .ok (.iload 5, 2) := by decide +kernel
theorem d_M_year_35 : decode prog_14_method_105_code 35 = .ok (.iload_n 3, 1) := by decide +kernel
theorem d_M_year_36 : decode prog_14_method_105_code 36 = .ok (.if_icmp .ge 40, 3) := by decide +kernel
theorem d_M_year_39 : decode prog_14_method_105_code 39 = .ok (.aload_n 0, 1) := by decide +kernel
theorem d_M_year_40 : decode prog_14_method_105_code 40 = .ok (.invokevirtual 332, 3) := by decide +kernel
theorem d_M_year_43 : decode prog_14_method_105_code 43 = .ok (.aload_n 0, 1) := by decide +kernel
theorem d_M_year_44 : decode prog_14_method_105_code 44 = .ok (.dup, 1) := by decide +kernel
theorem d_M_year_45 : decode prog_14_method_105_code 45 = .ok (.getfield 326, 3) := by decide +kernel
theorem d_M_year_48 : decode prog_14_method_105_code 48 = .ok (.iload 5, 2) := by decide +kernel
theorem d_M_year_50 : decode prog_14_method_105_code 50 = .ok (.iadd, 1) := by decide +kernel
theorem d_M_year_51 : decode prog_14_method_105_code 51 = .ok (.putfield 326, 3) := by decide +kernel
theorem d_M_year_54 : decode prog_14_method_105_code 54 = .ok (.aload_n 0, 1) := by decide +kernel
theorem d_M_year_55 : decode prog_14_method_105_code 55 = .ok (.iload_n 2, 1) := by decide +kernel
theorem d_M_year_56 : decode prog_14_method_105_code 56 = .ok (.invokevirtual 414, 3) := by decide +kernel
theorem d_M_year_59 : decode prog_14_method_105_code 59 = .ok (.aload_n 0, 1) := by decide +kernel
theorem d_M_year_60 : decode prog_14_method_105_code 60 = .ok (.iload_n 1, 1) := by decide +kernel
theorem d_M_year_61 : decode prog_14_method_105_code 61 = .ok (.invokevirtual 342, 3) := by decide +kernel
theorem d_M_year_64 : decode prog_14_method_105_code 64 = .ok (.ifCond .eq 6, 3) := by decide +kernel
theorem d_M_year_67 : decode prog_14_method_105_code 67 = .ok (.iinc 4 1, 3) := by decide +kernel
theorem d_M_year_70 : decode prog_14_method_105_code 70 = .ok (.iinc 5 1, 3) := by decide +kernel
theorem d_M_year_73 : decode prog_14_method_105_code 73 = .ok (.goto (-40), 3) := by decide +kernel
theorem d_M_year_76 : decode prog_14_method_105_code 76 = .ok (.iload 4, 2) := by decide +kernel
theorem d_M_year_78 : decode prog_14_method_105_code 78 = .ok (.ireturn, 1) := by decide +kernel
theorem d_M_tell_0 : decode prog_14_method_106_code 0 = .ok (.aload_n 0, 1) := by decide +kernel
theorem d_M_tell_1 : decode prog_14_method_106_code 1 = .ok (.getfield 266, 3) := by decide +kernel
theorem d_M_tell_4 : decode prog_14_method_106_code 4 = .ok (.bipush 20, 2) := by decide +kernel
theorem d_M_tell_6 : decode prog_14_method_106_code 6 = .ok (.if_icmp .eq 19, 3) := by decide +kernel
theorem d_M_tell_9 : decode prog_14_method_106_code 9 = .ok (.aload_n 0, 1) := by decide +kernel
theorem d_M_tell_10 : decode prog_14_method_106_code 10 = .ok (.iload_n 1, 1) := by decide +kernel
theorem d_M_tell_11 : decode prog_14_method_106_code 11 = .ok (.invokevirtual 392, 3) := by decide +kernel
theorem d_M_tell_14 : decode prog_14_method_106_code 14 = .ok (.ifCond .eq 11, 3) := by decide +kernel
theorem d_M_tell_17 : decode prog_14_method_106_code 17 = .ok (.aload_n 0, 1) := by decide +kernel
theorem d_M_tell_18 : decode prog_14_method_106_code 18 = .ok (.iload_n 2, 1) := by decide +kernel
theorem d_M_tell_19 : decode prog_14_method_106_code 19 = .ok (.invokevirtual 392, 3) := by decide +kernel
theorem d_M_tell_22 : decode prog_14_method_106_code 22 = .ok (.ifCond .ne 5, 3) := by decide +kernel
theorem d_M_tell_25 : decode prog_14_method_106_code 25 = .ok (.iconst (-1), 1) := by decide +kernel
theorem d_M_tell_26 : decode prog_14_method_106_code 26 = .ok (.ireturn, 1) := by decide +kernel
theorem d_M_tell_27 : decode prog_14_method_106_code 27 = .ok (.aload_n 0, 1) := by decide +kernel
theorem d_M_tell_28 : decode prog_14_method_106_code 28 = .ok (.getfield 143, 3) := by decide +kernel
theorem d_M_tell_31 : decode prog_14_method_106_code 31 = .ok (.aload_n 0, 1) := by decide +kernel
theorem d_M_tell_32 : decode prog_14_method_106_code 32 = .ok (.getfield 266, 3) := by decide +kernel
theorem d_M_tell_35 : decode prog_14_method_106_code 35 = .ok (.iload_n 1, 1) := by decide +kernel
theorem d_M_tell_36 : decode prog_14_method_106_code 36 = .ok (.iastore, 1) := by decide +kernel
theorem d_M_tell_37 : decode prog_14_method_106_code 37 = .ok (.aload_n 0, 1) := by decide +kernel
theorem d_M_tell_38 : decode prog_14_method_106_code 38 = .ok (.getfield 146, 3) := by decide +kernel
theorem d_M_tell_41 : decode prog_14_method_106_code 41 = .ok (.aload_n 0, 1) := by decide +kernel
theorem d_M_tell_42 : decode prog_14_method_106_code 42 = .ok (.getfield 266, 3) := by decide +kernel
theorem d_M_tell_45 : decode prog_14_method_106_code 45 = .ok (.iload_n 2, 1) := by decide +kernel
theorem d_M_tell_46 : decode prog_14_method_106_code 46 = .ok (.iastore, 1) := by decide +kernel
theorem d_M_tell_47 : decode prog_14_method_106_code 47 = .ok (.aload_n 0, 1) := by decide +kernel
theorem d_M_tell_48 : decode prog_14_method_106_code 48 = .ok (.getfield 149, 3) := by decide +kernel
theorem d_M_tell_51 : decode prog_14_method_106_code 51 = .ok (.aload_n 0, 1) := by decide +kernel
theorem d_M_tell_52 : decode prog_14_method_106_code 52 = .ok (.getfield 266, 3) := by decide +kernel
theorem d_M_tell_55 : decode prog_14_method_106_code 55 = .ok (.iload_n 3, 1) := by decide +kernel
theorem d_M_tell_56 : decode prog_14_method_106_code 56 = .ok (.bastore, 1) := by decide +kernel
theorem d_M_tell_57 : decode prog_14_method_106_code 57 = .ok (.aload_n 0, 1) := by decide +kernel
theorem d_M_tell_58 : decode prog_14_method_106_code 58 = .ok (.dup, 1) := by decide +kernel
theorem d_M_tell_59 : decode prog_14_method_106_code 59 = .ok (.getfield 266, 3) := by decide +kernel
theorem d_M_tell_62 : decode prog_14_method_106_code 62 = .ok (.iconst 1, 1) := by decide +kernel
theorem d_M_tell_63 : decode prog_14_method_106_code 63 = .ok (.iadd, 1) := by decide +kernel
theorem d_M_tell_64 : decode prog_14_method_106_code 64 = .ok (.putfield 266, 3) := by decide +kernel
theorem d_M_tell_67 : decode prog_14_method_106_code 67 = .ok (.aload_n 0, 1) := by decide +kernel
theorem d_M_tell_68 : decode prog_14_method_106_code 68 = .ok (.getfield 266, 3) := by decide +kernel
theorem d_M_tell_71 : decode prog_14_method_106_code 71 = .ok (.iconst 1, 1) := by decide +kernel
theorem d_M_tell_72 : decode prog_14_method_106_code 72 = .ok (.isub, 1) := by decide +kernel
theorem d_M_tell_73 : decode prog_14_method_106_code 73 = .ok (.ireturn, 1) := by decide +kernel
theorem d_M_forget_0 : decode prog_14_method_107_code 0 = .ok (.aload_n 0, 1) := by decide +kernel
theorem d_M_forget_1 : decode prog_14_method_107_code 1 = .ok (.getfield 266, 3) := by decide +kernel
theorem d_M_forget_4 : decode prog_14_method_107_code 4 = .ok (.istore_n 1, 1) := by decide +kernel
theorem d_M_forget_5 : decode prog_14_method_107_code 5 = .ok (.aload_n 0, 1) := by decide +kernel
theorem d_M_forget_6 : decode prog_14_method_107_code 6 = .ok (.iconst 0, 1) := by decide +kernel
theorem d_M_forget_7 : decode prog_14_method_107_code 7 = .ok (.putfield 266, 3) := by decide +kernel
theorem d_M_forget_10 : decode prog_14_method_107_code 10 = .ok (.iload_n 1, 1) := by decide +kernel
theorem d_M_forget_11 : decode prog_14_method_107_code 11 = .ok (.ireturn, 1) := by decide +kernel
theorem d_M_fillsPairs_0 : decode prog_14_method_108_code 0 = .ok (.iconst 0, 1) := by decide +kernel
theorem d_M_fillsPairs_1 : decode prog_14_method_108_code 1 = .ok (.istore_n 2, 1) := by decide +kernel
theorem d_M_fillsPairs_2 : decode prog_14_method_108_code 2 = .ok (.iconst 0, 1) := by decide +kernel
theorem d_M_fillsPairs_3 : decode prog_14_method_108_code 3 = .ok (.istore_n 3, 1) := by decide +kernel
theorem d_M_fillsPairs_4 : decode prog_14_method_108_code 4 = .ok (.iload_n 3, 1) := by decide +kernel
theorem d_M_fillsPairs_5 : decode prog_14_method_108_code 5 = .ok (.bipush 36, 2) := by decide +kernel
theorem d_M_fillsPairs_7 : decode prog_14_method_108_code 7 = .ok (.if_icmp .ge 186, 3) := by decide +kernel
theorem d_M_fillsPairs_10 : decode prog_14_method_108_code 10 = .ok (.iload_n 3, 1) := by decide +kernel
theorem d_M_fillsPairs_11 : decode prog_14_method_108_code 11 = .ok (.bipush 6, 2) := by decide +kernel
theorem d_M_fillsPairs_13 : decode prog_14_method_108_code 13 = .ok (.idiv, 1) := by decide +kernel
theorem d_M_fillsPairs_14 : decode prog_14_method_108_code 14 = .ok (.istore 4, 2) := by decide +kernel
theorem d_M_fillsPairs_16 : decode prog_14_method_108_code 16 = .ok (.iload_n 3, 1) := by decide +kernel
theorem d_M_fillsPairs_17 : decode prog_14_method_108_code 17 = .ok (.bipush 6, 2) := by decide +kernel
theorem d_M_fillsPairs_19 : decode prog_14_method_108_code 19 = .ok (.irem, 1) := by decide +kernel
theorem d_M_fillsPairs_20 : decode prog_14_method_108_code 20 = .ok (.istore 5, 2) := by decide +kernel
theorem d_M_fillsPairs_22 : decode prog_14_method_108_code 22 = .ok (.aload_n 0, 1) := by decide +kernel
theorem d_M_fillsPairs_23 : decode prog_14_method_108_code 23 = .ok (.getfield 152, 3) := by decide +kernel
theorem d_M_fillsPairs_26 : decode prog_14_method_108_code 26 = .ok (.iload_n 3, 1) := by decide +kernel
theorem d_M_fillsPairs_27 : decode prog_14_method_108_code 27 = .ok (.iload 4, 2) := by decide +kernel
theorem d_M_fillsPairs_29 : decode prog_14_method_108_code 29 = .ok (.iload 5, 2) := by decide +kernel
theorem d_M_fillsPairs_31 : decode prog_14_method_108_code 31 = .ok (.if_icmp .ge 18, 3) := by decide +kernel
theorem d_M_fillsPairs_34 : decode prog_14_method_108_code 34 = .ok (.aload_n 0, 1) := by decide +kernel
theorem d_M_fillsPairs_35 : decode prog_14_method_108_code 35 = .ok (.iload 4, 2) := by decide +kernel
theorem d_M_fillsPairs_37 : decode prog_14_method_108_code 37 = .ok (.iload 5, 2) := by decide +kernel
theorem d_M_fillsPairs_39 : decode prog_14_method_108_code 39 = .ok (.invokevirtual 404, 3) := by decide +kernel
theorem d_M_fillsPairs_42 : decode prog_14_method_108_code 42 = .ok (.ifCond .eq 7, 3) := by decide +kernel
theorem d_M_fillsPairs_45 : decode prog_14_method_108_code 45 = .ok (.iconst 1, 1) := by decide +kernel
theorem d_M_fillsPairs_46 : decode prog_14_method_108_code 46 = .ok (.goto 4, 3) := by decide +kernel
theorem d_M_fillsPairs_49 : decode prog_14_method_108_code 49 = .ok (.iconst 0, 1) := by decide +kernel
theorem d_M_fillsPairs_50 : decode prog_14_method_108_code 50 = .ok (.bastore, 1) := by decide +kernel
theorem d_M_fillsPairs_51 : decode prog_14_method_108_code 51 = .ok (.aload_n 0, 1) := by decide +kernel
theorem d_M_fillsPairs_52 : decode prog_14_method_108_code 52 = .ok (.getfield 152, 3) := by decide +kernel
theorem d_M_fillsPairs_55 : decode prog_14_method_108_code 55 = .ok (.iload_n 3, 1) := by decide +kernel
theorem d_M_fillsPairs_56 : decode prog_14_method_108_code 56 = .ok (.baload, 1) := by decide +kernel
theorem d_M_fillsPairs_57 : decode prog_14_method_108_code 57 = .ok (.ifCond .ne 6, 3) := by decide +kernel
theorem d_M_fillsPairs_60 : decode prog_14_method_108_code 60 = .ok (.goto 127, 3) := by decide +kernel
theorem d_M_fillsPairs_63 : decode prog_14_method_108_code 63 = .ok (.aload_n 0, 1) := by decide +kernel
theorem d_M_fillsPairs_64 : decode prog_14_method_108_code 64 = .ok (.iload 4, 2) := by decide +kernel
theorem d_M_fillsPairs_66 : decode prog_14_method_108_code 66 = .ok (.iload 5, 2) := by decide +kernel
theorem d_M_fillsPairs_68 : decode prog_14_method_108_code 68 = .ok (.invokevirtual 408, 3) := by decide +kernel
theorem d_M_fillsPairs_71 : decode prog_14_method_108_code 71 = .ok (.aload_n 0, 1) := by decide +kernel
theorem d_M_fillsPairs_72 : decode prog_14_method_108_code 72 = .ok (.invokevirtual 383, 3) := by decide +kernel
theorem d_M_fillsPairs_75 : decode prog_14_method_108_code 75 = .ok (.iconst 0, 1) := by decide +kernel
theorem d_M_fillsPairs_76 : decode prog_14_method_108_code 76 = .ok (.istore 6, 2) := by decide +kernel
theorem d_M_fillsPairs_78 : decode prog_14_method_108_code 78 = .ok (.iload 6, 2) := by decide +kernel
theorem d_M_fillsPairs_80 : decode prog_14_method_108_code 80 = .ok (.bipush 6, 2) := by decide +kernel
theorem d_M_fillsPairs_82 : decode prog_14_method_108_code 82 = .ok (.if_icmp .ge 31, 3) := by decide +kernel
theorem d_M_fillsPairs_85 : decode prog_14_method_108_code 85 = .ok (.aload_n 0, 1) := by decide +kernel
theorem d_M_fillsPairs_86 : decode prog_14_method_108_code 86 = .ok (.getfield 155, 3) := by decide +kernel
theorem d_M_fillsPairs_89 : decode prog_14_method_108_code 89 = .ok (.bipush 6, 2) := by decide +kernel
theorem d_M_fillsPairs_91 : decode prog_14_method_108_code 91 = .ok (.iload_n 3, 1) := by decide +kernel
theorem d_M_fillsPairs_92 : decode prog_14_method_108_code 92 = .ok (.imul, 1) := by decide +kernel
theorem d_M_fillsPairs_93 : decode prog_14_method_108_code 93 = .ok (.iload 6, 2) := by decide +kernel
theorem d_M_fillsPairs_95 : decode prog_14_method_108_code 95 = .ok (.iadd, 1) := by decide +kernel
theorem d_M_fillsPairs_96 : decode prog_14_method_108_code 96 = .ok (.aload_n 0, 1) := by decide +kernel
theorem d_M_fillsPairs_97 : decode prog_14_method_108_code 97 = .ok (.getfield 116, 3) := by decide +kernel
theorem d_M_fillsPairs_100 : decode prog_14_method_108_code 100 = .ok (.bipush 12, 2) := by decide +kernel
theorem d_M_fillsPairs_102 : decode prog_14_method_108_code 102 = .ok (.iload 6, 2) := by decide +kernel
theorem d_M_fillsPairs_104 : decode prog_14_method_108_code 104 = .ok (.iadd, 1) := by decide +kernel
theorem d_M_fillsPairs_105 : decode prog_14_method_108_code 105 = .ok (.iaload, 1) := by decide +kernel
theorem d_M_fillsPairs_106 : decode prog_14_method_108_code 106 = .ok (.iastore, 1) := by decide +kernel
theorem d_M_fillsPairs_107 : decode prog_14_method_108_code 107 = .ok (.iinc 6 1, 3) := by decide +kernel
theorem d_M_fillsPairs_110 : decode prog_14_method_108_code 110 = .ok (.goto (-32), 3) := by decide +kernel
theorem d_M_fillsPairs_113 : decode prog_14_method_108_code 113 = .ok (.iconst 0, 1) := by decide +kernel
theorem d_M_fillsPairs_114 : decode prog_14_method_108_code 114 = .ok (.istore 6, 2) := by decide +kernel
theorem d_M_fillsPairs_116 : decode prog_14_method_108_code 116 = .ok (.iload 6, 2) := by decide +kernel
theorem d_M_fillsPairs_118 : decode prog_14_method_108_code 118 = .ok (.iload_n 1, 1) := by decide +kernel
theorem d_M_fillsPairs_119 : decode prog_14_method_108_code 119 = .ok (.if_icmp .ge 56, 3) := by decide +kernel
theorem d_M_fillsPairs_122 : decode prog_14_method_108_code 122 = .ok (.aload_n 0, 1) := by decide +kernel
theorem d_M_fillsPairs_123 : decode prog_14_method_108_code 123 = .ok (.getfield 116, 3) := by decide +kernel
theorem d_M_fillsPairs_126 : decode prog_14_method_108_code 126 = .ok (.bipush 12, 2) := by decide +kernel
theorem d_M_fillsPairs_128 : decode prog_14_method_108_code 128 = .ok (.aload_n 0, 1) := by decide +kernel
theorem d_M_fillsPairs_129 : decode prog_14_method_108_code 129 = .ok (.getfield 143, 3) := by decide +kernel
theorem d_M_fillsPairs_132 : decode prog_14_method_108_code 132 = .ok (.iload 6, 2) := by decide +kernel
theorem d_M_fillsPairs_134 : decode prog_14_method_108_code 134 = .ok (.iaload, 1) := by decide +kernel
theorem d_M_fillsPairs_135 : decode prog_14_method_108_code 135 = .ok (.iadd, 1) := by decide +kernel
theorem d_M_fillsPairs_136 : decode prog_14_method_108_code 136 = .ok (.iaload, 1) := by decide +kernel
theorem d_M_fillsPairs_137 : decode prog_14_method_108_code 137 = .ok (.aload_n 0, 1) := by decide +kernel
theorem d_M_fillsPairs_138 : decode prog_14_method_108_code 138 = .ok (.getfield 146, 3) := by decide +kernel
theorem d_M_fillsPairs_141 : decode prog_14_method_108_code 141 = .ok (.iload 6, 2) := by decide +kernel
theorem d_M_fillsPairs_143 : decode prog_14_method_108_code 143 = .ok (.iaload, 1) := by decide +kernel
theorem d_M_fillsPairs_144 : decode prog_14_method_108_code 144 = .ok (.if_icmp .ne 7, 3) := by decide +kernel
theorem d_M_fillsPairs_147 : decode prog_14_method_108_code 147 = .ok (.iconst 1, 1) := by decide +kernel
theorem d_M_fillsPairs_148 : decode prog_14_method_108_code 148 = .ok (.goto 4, 3) := by decide +kernel
theorem d_M_fillsPairs_151 : decode prog_14_method_108_code 151 = .ok (.iconst 0, 1) := by decide +kernel
theorem d_M_fillsPairs_152 : decode prog_14_method_108_code 152 = .ok (.aload_n 0, 1) := by decide +kernel
theorem d_M_fillsPairs_153 : decode prog_14_method_108_code 153 = .ok (.getfield 149, 3) := by decide +kernel
theorem d_M_fillsPairs_156 : decode prog_14_method_108_code 156 = .ok (.iload 6, 2) := by decide +kernel
theorem d_M_fillsPairs_158 : decode prog_14_method_108_code 158 = .ok (.baload, 1) := by decide +kernel
theorem d_M_fillsPairs_159 : decode prog_14_method_108_code 159 = .ok (.if_icmp .eq 10, 3) := by decide +kernel
theorem d_M_fillsPairs_162 : decode prog_14_method_108_code 162 = .ok (.aload_n 0, 1) := by decide +kernel
theorem d_M_fillsPairs_163 : decode prog_14_method_108_code 163 = .ok (.getfield 152, 3) := by decide +kernel
theorem d_M_fillsPairs_166 : decode prog_14_method_108_code 166 = .ok (.iload_n 3, 1) := by decide +kernel
theorem d_M_fillsPairs_167 : decode prog_14_method_108_code 167 = .ok (.iconst 0, 1) := by decide +kernel
theorem d_M_fillsPairs_168 : decode prog_14_method_108_code 168 = .ok (.bastore, 1) := by decide +kernel
theorem d_M_fillsPairs_169 : decode prog_14_method_108_code 169 = .ok (.iinc 6 1, 3) := by decide +kernel
theorem d_M_fillsPairs_172 : decode prog_14_method_108_code 172 = .ok (.goto (-56), 3) := by decide +kernel
theorem d_M_fillsPairs_175 : decode prog_14_method_108_code 175 = .ok (.aload_n 0, 1) := by decide +kernel
theorem d_M_fillsPairs_176 : decode prog_14_method_108_code 176 = .ok (.getfield 152, 3) := by decide +kernel
theorem d_M_fillsPairs_179 : decode prog_14_method_108_code 179 = .ok (.iload_n 3, 1) := by decide +kernel
theorem d_M_fillsPairs_180 : decode prog_14_method_108_code 180 = .ok (.baload, 1) := by decide +kernel
theorem d_M_fillsPairs_181 : decode prog_14_method_108_code 181 = .ok (.ifCond .eq 6, 3) := by decide +kernel
theorem d_M_fillsPairs_184 : decode prog_14_method_108_code 184 = .ok (.iinc 2 1, 3) := by decide +kernel
theorem d_M_fillsPairs_187 : decode prog_14_method_108_code 187 = .ok (.iinc 3 1, 3) := by decide +kernel
theorem d_M_fillsPairs_190 : decode prog_14_method_108_code 190 = .ok (.goto (-186), 3) := by decide +kernel
theorem d_M_fillsPairs_193 : decode prog_14_method_108_code 193 = .ok (.iload_n 2, 1) := by decide +kernel
theorem d_M_fillsPairs_194 : decode prog_14_method_108_code 194 = .ok (.ireturn, 1) := by decide +kernel
theorem d_M_two_0 : decode prog_14_method_109_code 0 = .ok (.iload_n 1, 1) := by decide +kernel
theorem d_M_two_1 : decode prog_14_method_109_code 1 = .ok (.iconst 0, 1) := by decide +kernel
theorem d_M_two_2 : decode prog_14_method_109_code 2 = .ok (.aload_n 0, 1) := by decide +kernel
theorem d_M_two_3 : decode prog_14_method_109_code 3 = .ok (.getfield 266, 3) := by decide +kernel
theorem d_M_two_6 : decode prog_14_method_109_code 6 = .ok (.invokestatic 322, 3) := by decide +kernel
theorem d_M_two_9 : decode prog_14_method_109_code 9 = .ok (.ifCond .eq 8, 3) := by decide +kernel
theorem d_M_two_12 : decode prog_14_method_109_code 12 = .ok (.iload_n 2, 1) := by decide +kernel
theorem d_M_two_13 : decode prog_14_method_109_code 13 = .ok (.iconst (-1), 1) := by decide +kernel
theorem d_M_two_14 : decode prog_14_method_109_code 14 = .ok (.if_icmp .ge 5, 3) := by decide +kernel
theorem d_M_two_17 : decode prog_14_method_109_code 17 = .ok (.iconst (-1), 1) := by decide +kernel
theorem d_M_two_18 : decode prog_14_method_109_code 18 = .ok (.ireturn, 1) := by decide +kernel
theorem d_M_two_19 : decode prog_14_method_109_code 19 = .ok (.aload_n 0, 1) := by decide +kernel
theorem d_M_two_20 : decode prog_14_method_109_code 20 = .ok (.iload_n 1, 1) := by decide +kernel
theorem d_M_two_21 : decode prog_14_method_109_code 21 = .ok (.invokevirtual 457, 3) := by decide +kernel
theorem d_M_two_24 : decode prog_14_method_109_code 24 = .ok (.istore_n 3, 1) := by decide +kernel
theorem d_M_two_25 : decode prog_14_method_109_code 25 = .ok (.iload_n 2, 1) := by decide +kernel
theorem d_M_two_26 : decode prog_14_method_109_code 26 = .ok (.iconst (-1), 1) := by decide +kernel
theorem d_M_two_27 : decode prog_14_method_109_code 27 = .ok (.if_icmp .ne 5, 3) := by decide +kernel
theorem d_M_two_30 : decode prog_14_method_109_code 30 = .ok (.iload_n 3, 1) := by decide +kernel
theorem d_M_two_31 : decode prog_14_method_109_code 31 = .ok (.ireturn, 1) := by decide +kernel
theorem d_M_two_32 : decode prog_14_method_109_code 32 = .ok (.iload_n 2, 1) := by decide +kernel
theorem d_M_two_33 : decode prog_14_method_109_code 33 = .ok (.iload_n 3, 1) := by decide +kernel
theorem d_M_two_34 : decode prog_14_method_109_code 34 = .ok (.if_icmp .lt 5, 3) := by decide +kernel
theorem d_M_two_37 : decode prog_14_method_109_code 37 = .ok (.iconst (-1), 1) := by decide +kernel
theorem d_M_two_38 : decode prog_14_method_109_code 38 = .ok (.ireturn, 1) := by decide +kernel
theorem d_M_two_39 : decode prog_14_method_109_code 39 = .ok (.iconst (-1), 1) := by decide +kernel
theorem d_M_two_40 : decode prog_14_method_109_code 40 = .ok (.istore 4, 2) := by decide +kernel
theorem d_M_two_42 : decode prog_14_method_109_code 42 = .ok (.iconst (-1), 1) := by decide +kernel
theorem d_M_two_43 : decode prog_14_method_109_code 43 = .ok (.istore 5, 2) := by decide +kernel
theorem d_M_two_45 : decode prog_14_method_109_code 45 = .ok (.iload 4, 2) := by decide +kernel
theorem d_M_two_47 : decode prog_14_method_109_code 47 = .ok (.iload_n 2, 1) := by decide +kernel
theorem d_M_two_48 : decode prog_14_method_109_code 48 = .ok (.if_icmp .ge 22, 3) := by decide +kernel
theorem d_M_two_51 : decode prog_14_method_109_code 51 = .ok (.iinc 5 1, 3) := by decide +kernel
theorem d_M_two_54 : decode prog_14_method_109_code 54 = .ok (.aload_n 0, 1) := by decide +kernel
theorem d_M_two_55 : decode prog_14_method_109_code 55 = .ok (.getfield 152, 3) := by decide +kernel
theorem d_M_two_58 : decode prog_14_method_109_code 58 = .ok (.iload 5, 2) := by decide +kernel
theorem d_M_two_60 : decode prog_14_method_109_code 60 = .ok (.baload, 1) := by decide +kernel
theorem d_M_two_61 : decode prog_14_method_109_code 61 = .ok (.ifCond .eq (-16), 3) := by decide +kernel
theorem d_M_two_64 : decode prog_14_method_109_code 64 = .ok (.iinc 4 1, 3) := by decide +kernel
theorem d_M_two_67 : decode prog_14_method_109_code 67 = .ok (.goto (-22), 3) := by decide +kernel
theorem d_M_two_70 : decode prog_14_method_109_code 70 = .ok (.bipush 10, 2) := by decide +kernel
theorem d_M_two_72 : decode prog_14_method_109_code 72 = .ok (.iload 5, 2) := by decide +kernel
theorem d_M_two_74 : decode prog_14_method_109_code 74 = .ok (.bipush 6, 2) := by decide +kernel
theorem d_M_two_76 : decode prog_14_method_109_code 76 = .ok (.idiv, 1) := by decide +kernel
theorem d_M_two_77 : decode prog_14_method_109_code 77 = .ok (.imul, 1) := by decide +kernel
theorem d_M_two_78 : decode prog_14_method_109_code 78 = .ok (.iload 5, 2) := by decide +kernel
theorem d_M_two_80 : decode prog_14_method_109_code 80 = .ok (.bipush 6, 2) := by decide +kernel
theorem d_M_two_82 : decode prog_14_method_109_code 82 = .ok (.irem, 1) := by decide +kernel
theorem d_M_two_83 : decode prog_14_method_109_code 83 = .ok (.iadd, 1) := by decide +kernel
theorem d_M_two_84 : decode prog_14_method_109_code 84 = .ok (.ireturn, 1) := by decide +kernel
theorem d_M_worstOf_0 : decode prog_14_method_110_code 0 = .ok (.iconst 0, 1) := by decide +kernel
theorem d_M_worstOf_1 : decode prog_14_method_110_code 1 = .ok (.istore_n 2, 1) := by decide +kernel
theorem d_M_worstOf_2 : decode prog_14_method_110_code 2 = .ok (.iconst 0, 1) := by decide +kernel
theorem d_M_worstOf_3 : decode prog_14_method_110_code 3 = .ok (.istore_n 3, 1) := by decide +kernel
theorem d_M_worstOf_4 : decode prog_14_method_110_code 4 = .ok (.iload_n 3, 1) := by decide +kernel
theorem d_M_worstOf_5 : decode prog_14_method_110_code 5 = .ok (.bipush 6, 2) := by decide +kernel
theorem d_M_worstOf_7 : decode prog_14_method_110_code 7 = .ok (.if_icmp .ge 66, 3) := by decide +kernel
theorem d_M_worstOf_10 : decode prog_14_method_110_code 10 = .ok (.iconst 0, 1) := by decide +kernel
theorem d_M_worstOf_11 : decode prog_14_method_110_code 11 = .ok (.istore 4, 2) := by decide +kernel
theorem d_M_worstOf_13 : decode prog_14_method_110_code 13 = .ok (.iconst 0, 1) := by decide +kernel
theorem d_M_worstOf_14 : decode prog_14_method_110_code 14 = .ok (.istore 5, 2) := by decide +kernel
theorem d_M_worstOf_16 : decode prog_14_method_110_code 16 = .ok (.iload 5, 2) := by decide +kernel
theorem d_M_worstOf_18 : decode prog_14_method_110_code 18 = .ok (.bipush 36, 2) := by decide +kernel
theorem d_M_worstOf_20 : decode prog_14_method_110_code 20 = .ok (.if_icmp .ge 38, 3) := by decide +kernel
theorem d_M_worstOf_23 : decode prog_14_method_110_code 23 = .ok (.aload_n 0, 1) := by decide +kernel
theorem d_M_worstOf_24 : decode prog_14_method_110_code 24 = .ok (.getfield 152, 3) := by decide +kernel
theorem d_M_worstOf_27 : decode prog_14_method_110_code 27 = .ok (.iload 5, 2) := by decide +kernel
theorem d_M_worstOf_29 : decode prog_14_method_110_code 29 = .ok (.baload, 1) := by decide +kernel
theorem d_M_worstOf_30 : decode prog_14_method_110_code 30 = .ok (.ifCond .eq 22, 3) := by decide +kernel
theorem d_M_worstOf_33 : decode prog_14_method_110_code 33 = .ok (.aload_n 0, 1) := by decide +kernel
theorem d_M_worstOf_34 : decode prog_14_method_110_code 34 = .ok (.getfield 155, 3) := by decide +kernel
theorem d_M_worstOf_37 : decode prog_14_method_110_code 37 = .ok (.bipush 6, 2) := by decide +kernel
theorem d_M_worstOf_39 : decode prog_14_method_110_code 39 = .ok (.iload 5, 2) := by decide +kernel
theorem d_M_worstOf_41 : decode prog_14_method_110_code 41 = .ok (.imul, 1) := by decide +kernel
theorem d_M_worstOf_42 : decode prog_14_method_110_code 42 = .ok (.iload_n 1, 1) := by decide +kernel
theorem d_M_worstOf_43 : decode prog_14_method_110_code 43 = .ok (.iadd, 1) := by decide +kernel
theorem d_M_worstOf_44 : decode prog_14_method_110_code 44 = .ok (.iaload, 1) := by decide +kernel
theorem d_M_worstOf_45 : decode prog_14_method_110_code 45 = .ok (.iload_n 3, 1) := by decide +kernel
theorem d_M_worstOf_46 : decode prog_14_method_110_code 46 = .ok (.if_icmp .ne 6, 3) := by decide +kernel
theorem d_M_worstOf_49 : decode prog_14_method_110_code 49 = .ok (.iinc 4 1, 3) := by decide +kernel
theorem d_M_worstOf_52 : decode prog_14_method_110_code 52 = .ok (.iinc 5 1, 3) := by decide +kernel
theorem d_M_worstOf_55 : decode prog_14_method_110_code 55 = .ok (.goto (-39), 3) := by decide +kernel
theorem d_M_worstOf_58 : decode prog_14_method_110_code 58 = .ok (.iload 4, 2) := by decide +kernel
theorem d_M_worstOf_60 : decode prog_14_method_110_code 60 = .ok (.iload_n 2, 1) := by decide +kernel
theorem d_M_worstOf_61 : decode prog_14_method_110_code 61 = .ok (.if_icmp .le 6, 3) := by decide +kernel
theorem d_M_worstOf_64 : decode prog_14_method_110_code 64 = .ok (.iload 4, 2) := by decide +kernel
theorem d_M_worstOf_66 : decode prog_14_method_110_code 66 = .ok (.istore_n 2, 1) := by decide +kernel
theorem d_M_worstOf_67 : decode prog_14_method_110_code 67 = .ok (.iinc 3 1, 3) := by decide +kernel
theorem d_M_worstOf_70 : decode prog_14_method_110_code 70 = .ok (.goto (-66), 3) := by decide +kernel
theorem d_M_worstOf_73 : decode prog_14_method_110_code 73 = .ok (.iload_n 2, 1) := by decide +kernel
theorem d_M_worstOf_74 : decode prog_14_method_110_code 74 = .ok (.ireturn, 1) := by decide +kernel
theorem d_M_ask_0 : decode prog_14_method_111_code 0 = .ok (.iload_n 1, 1) := by decide +kernel
theorem d_M_ask_1 : decode prog_14_method_111_code 1 = .ok (.iconst 0, 1) := by decide +kernel
theorem d_M_ask_2 : decode prog_14_method_111_code 2 = .ok (.aload_n 0, 1) := by decide +kernel
theorem d_M_ask_3 : decode prog_14_method_111_code 3 = .ok (.getfield 266, 3) := by decide +kernel
theorem d_M_ask_6 : decode prog_14_method_111_code 6 = .ok (.invokestatic 322, 3) := by decide +kernel
theorem d_M_ask_9 : decode prog_14_method_111_code 9 = .ok (.ifCond .ne 5, 3) := by decide +kernel
theorem d_M_ask_12 : decode prog_14_method_111_code 12 = .ok (.iconst (-1), 1) := by decide +kernel
theorem d_M_ask_13 : decode prog_14_method_111_code 13 = .ok (.ireturn, 1) := by decide +kernel
theorem d_M_ask_14 : decode prog_14_method_111_code 14 = .ok (.aload_n 0, 1) := by decide +kernel
theorem d_M_ask_15 : decode prog_14_method_111_code 15 = .ok (.iload_n 1, 1) := by decide +kernel
theorem d_M_ask_16 : decode prog_14_method_111_code 16 = .ok (.invokevirtual 457, 3) := by decide +kernel
theorem d_M_ask_19 : decode prog_14_method_111_code 19 = .ok (.istore_n 2, 1) := by decide +kernel
theorem d_M_ask_20 : decode prog_14_method_111_code 20 = .ok (.bipush (-2), 2) := by decide +kernel
theorem d_M_ask_22 : decode prog_14_method_111_code 22 = .ok (.istore_n 3, 1) := by decide +kernel
theorem d_M_ask_23 : decode prog_14_method_111_code 23 = .ok (.iconst 0, 1) := by decide +kernel
theorem d_M_ask_24 : decode prog_14_method_111_code 24 = .ok (.istore 4, 2) := by decide +kernel
theorem d_M_ask_26 : decode prog_14_method_111_code 26 = .ok (.iload 4, 2) := by decide +kernel
theorem d_M_ask_28 : decode prog_14_method_111_code 28 = .ok (.aload_n 0, 1) := by decide +kernel
theorem d_M_ask_29 : decode prog_14_method_111_code 29 = .ok (.getfield 55, 3) := by decide +kernel
theorem d_M_ask_32 : decode prog_14_method_111_code 32 = .ok (.aload_n 0, 1) := by decide +kernel
theorem d_M_ask_33 : decode prog_14_method_111_code 33 = .ok (.getfield 245, 3) := by decide +kernel
theorem d_M_ask_36 : decode prog_14_method_111_code 36 = .ok (.iaload, 1) := by decide +kernel
theorem d_M_ask_37 : decode prog_14_method_111_code 37 = .ok (.if_icmp .ge 34, 3) := by decide +kernel
theorem d_M_ask_40 : decode prog_14_method_111_code 40 = .ok (.iload_n 2, 1) := by decide +kernel
theorem d_M_ask_41 : decode prog_14_method_111_code 41 = .ok (.ifCond .le 30, 3) := by decide +kernel
theorem d_M_ask_44 : decode prog_14_method_111_code 44 = .ok (.iload_n 3, 1) := by decide +kernel
theorem d_M_ask_45 : decode prog_14_method_111_code 45 = .ok (.ifCond .lt 17, 3) := by decide +kernel
theorem d_M_ask_48 : decode prog_14_method_111_code 48 = .ok (.aload_n 0, 1) := by decide +kernel
theorem d_M_ask_49 : decode prog_14_method_111_code 49 = .ok (.iload 4, 2) := by decide +kernel
theorem d_M_ask_51 : decode prog_14_method_111_code 51 = .ok (.invokevirtual 460, 3) := by decide +kernel
theorem d_M_ask_54 : decode prog_14_method_111_code 54 = .ok (.aload_n 0, 1) := by decide +kernel
theorem d_M_ask_55 : decode prog_14_method_111_code 55 = .ok (.iload_n 3, 1) := by decide +kernel
theorem d_M_ask_56 : decode prog_14_method_111_code 56 = .ok (.invokevirtual 460, 3) := by decide +kernel
theorem d_M_ask_59 : decode prog_14_method_111_code 59 = .ok (.if_icmp .ge 6, 3) := by decide +kernel
theorem d_M_ask_62 : decode prog_14_method_111_code 62 = .ok (.iload 4, 2) := by decide +kernel
theorem d_M_ask_64 : decode prog_14_method_111_code 64 = .ok (.istore_n 3, 1) := by decide +kernel
theorem d_M_ask_65 : decode prog_14_method_111_code 65 = .ok (.iinc 4 1, 3) := by decide +kernel
theorem d_M_ask_68 : decode prog_14_method_111_code 68 = .ok (.goto (-42), 3) := by decide +kernel
theorem d_M_ask_71 : decode prog_14_method_111_code 71 = .ok (.iload_n 3, 1) := by decide +kernel
theorem d_M_ask_72 : decode prog_14_method_111_code 72 = .ok (.ireturn, 1) := by decide +kernel
theorem d_M_hold_0 : decode prog_14_method_112_code 0 = .ok (.iload_n 1, 1) := by decide +kernel
theorem d_M_hold_1 : decode prog_14_method_112_code 1 = .ok (.iconst 0, 1) := by decide +kernel
theorem d_M_hold_2 : decode prog_14_method_112_code 2 = .ok (.iconst 2, 1) := by decide +kernel
theorem d_M_hold_3 : decode prog_14_method_112_code 3 = .ok (.invokestatic 322, 3) := by decide +kernel
theorem d_M_hold_6 : decode prog_14_method_112_code 6 = .ok (.ifCond .ne 5, 3) := by decide +kernel
theorem d_M_hold_9 : decode prog_14_method_112_code 9 = .ok (.iconst 0, 1) := by decide +kernel
theorem d_M_hold_10 : decode prog_14_method_112_code 10 = .ok (.ireturn, 1) := by decide +kernel
theorem d_M_hold_11 : decode prog_14_method_112_code 11 = .ok (.aload_n 0, 1) := by decide +kernel
theorem d_M_hold_12 : decode prog_14_method_112_code 12 = .ok (.getfield 158, 3) := by decide +kernel
theorem d_M_hold_15 : decode prog_14_method_112_code 15 = .ok (.iload_n 1, 1) := by decide +kernel
theorem d_M_hold_16 : decode prog_14_method_112_code 16 = .ok (.iconst 1, 1) := by decide +kernel
theorem d_M_hold_17 : decode prog_14_method_112_code 17 = .ok (.bastore, 1) := by decide +kernel
theorem d_M_hold_18 : decode prog_14_method_112_code 18 = .ok (.iconst 0, 1) := by decide +kernel
theorem d_M_hold_19 : decode prog_14_method_112_code 19 = .ok (.istore_n 2, 1) := by decide +kernel
theorem d_M_hold_20 : decode prog_14_method_112_code 20 = .ok (.iload_n 2, 1) := by decide +kernel
theorem d_M_hold_21 : decode prog_14_method_112_code 21 = .ok (.bipush 32, 2) := by decide +kernel
theorem d_M_hold_23 : decode prog_14_method_112_code 23 = .ok (.if_icmp .ge 26, 3) := by decide +kernel
theorem d_M_hold_26 : decode prog_14_method_112_code 26 = .ok (.aload_n 0, 1) := by decide +kernel
theorem d_M_hold_27 : decode prog_14_method_112_code 27 = .ok (.getfield 161, 3) := by decide +kernel
theorem d_M_hold_30 : decode prog_14_method_112_code 30 = .ok (.bipush 32, 2) := by decide +kernel
theorem d_M_hold_32 : decode prog_14_method_112_code 32 = .ok (.iload_n 1, 1) := by decide +kernel
theorem d_M_hold_33 : decode prog_14_method_112_code 33 = .ok (.imul, 1) := by decide +kernel
theorem d_M_hold_34 : decode prog_14_method_112_code 34 = .ok (.iload_n 2, 1) := by decide +kernel
theorem d_M_hold_35 : decode prog_14_method_112_code 35 = .ok (.iadd, 1) := by decide +kernel
theorem d_M_hold_36 : decode prog_14_method_112_code 36 = .ok (.aload_n 0, 1) := by decide +kernel
theorem d_M_hold_37 : decode prog_14_method_112_code 37 = .ok (.getfield 113, 3) := by decide +kernel
theorem d_M_hold_40 : decode prog_14_method_112_code 40 = .ok (.iload_n 2, 1) := by decide +kernel
theorem d_M_hold_41 : decode prog_14_method_112_code 41 = .ok (.iaload, 1) := by decide +kernel
theorem d_M_hold_42 : decode prog_14_method_112_code 42 = .ok (.iastore, 1) := by decide +kernel
theorem d_M_hold_43 : decode prog_14_method_112_code 43 = .ok (.iinc 2 1, 3) := by decide +kernel
theorem d_M_hold_46 : decode prog_14_method_112_code 46 = .ok (.goto (-26), 3) := by decide +kernel
theorem d_M_hold_49 : decode prog_14_method_112_code 49 = .ok (.iconst 1, 1) := by decide +kernel
theorem d_M_hold_50 : decode prog_14_method_112_code 50 = .ok (.ireturn, 1) := by decide +kernel
def w_M_crowded_19 (N : Nat) : Nat → Nat → Int32 → Int32 → Int32 → qH → (Int32 → qH → Prop) → Prop
  | 0 => fun _ _ _ _ _ _ => False
  | k + 1 => fun x0 x1 x2 x3 h Q => (((5 : Int32) ≤ x3 → ((¬ x1 = 0 → (qS h x0 = .inl 12 ∧ w_M_manyOn N x0 x2 h (fun r4 h5 => Q r4 h5))) ∧ (x1 = 0 → Q x2 h))) ∧ (¬ (5 : Int32) ≤ x3 → (qS h x0 = .inl 12 ∧ w_M_manyOn N x0 x3 h (fun r7 h8 => (qS h8 x0 = .inl 12 ∧ w_M_manyOn N x0 x2 h8 (fun r10 h11 => ((r7 ≤ r10 → (w_M_crowded_19 N k x0 x1 x2 (x3 + (1 : Int32)) h11 Q)) ∧ (¬ r7 ≤ r10 → (w_M_crowded_19 N k x0 x1 x3 (x3 + (1 : Int32)) h11 Q)))))))))
def w_M_crowded (N : Nat) (x0 : Nat) (x1 : Int32) (h : qH) (Q : Int32 → qH → Prop) : Prop := (w_M_in N x1 (0 : Int32) (1 : Int32) h (fun r1 h2 => ((¬ r1 = 0 → (qS h2 x0 = .inl 12 ∧ w_M_copies N x0 h2 (fun h5 => (w_M_crowded_19 N N x0 x1 (0 : Int32) (1 : Int32) h5 Q )))) ∧ (r1 = 0 → Q (-1 : Int32) h2))))
def w_M_straight_5 (N : Nat) : Nat → Nat → Int32 → Int32 → qH → (Int32 → qH → Prop) → Prop
  | 0 => fun _ _ _ _ _ => False
  | k + 1 => fun x0 x1 x2 h Q => (qS h x0 = .inl 12 ∧ (qok h (qR h x0 26) 0 (qI h x0 18) ∧ (((qI h (qR h x0 26) ((qI h x0 18)).toNatClampNeg) ≤ x2 → Q x1 h) ∧ (¬ (qI h (qR h x0 26) ((qI h x0 18)).toNatClampNeg) ≤ x2 → (qok h (qR h x0 49) 0 ((6 : Int32) + x2) ∧ (((qI h (qR h x0 49) (((6 : Int32) + x2)).toNatClampNeg) < 0 → (w_M_straight_5 N k x0 x1 (x2 + (1 : Int32)) h Q)) ∧ (¬ (qI h (qR h x0 49) (((6 : Int32) + x2)).toNatClampNeg) < 0 → ((x1 < 0 → (w_M_straight_5 N k x0 x2 (x2 + (1 : Int32)) h Q)) ∧ (¬ x1 < 0 → (qok h (qR h x0 49) 0 ((18 : Int32) + x2) ∧ (qok h (qR h x0 49) 0 ((18 : Int32) + x1) ∧ (((qI h (qR h x0 49) (((18 : Int32) + x1)).toNatClampNeg) ≤ (qI h (qR h x0 49) (((18 : Int32) + x2)).toNatClampNeg) → (w_M_straight_5 N k x0 x1 (x2 + (1 : Int32)) h Q)) ∧ (¬ (qI h (qR h x0 49) (((18 : Int32) + x1)).toNatClampNeg) ≤ (qI h (qR h x0 49) (((18 : Int32) + x2)).toNatClampNeg) → (w_M_straight_5 N k x0 x2 (x2 + (1 : Int32)) h Q))))))))))))))
def w_M_straight (N : Nat) (x0 : Nat) (h : qH) (Q : Int32 → qH → Prop) : Prop := (w_M_straight_5 N N x0 (-2 : Int32) (0 : Int32) h Q )
def w_M_bill_17 (N : Nat) : Nat → Nat → Int32 → Int32 → Int32 → qH → (Int32 → qH → Prop) → Prop
  | 0 => fun _ _ _ _ _ _ => False
  | k + 1 => fun x0 x1 x2 x3 h Q => ((x1 ≤ x3 → Q x2 h) ∧ (¬ x1 ≤ x3 → (qS h x0 = .inl 12 ∧ w_M_costsAll N x0 h (fun r3 h4 => (∀ y5 : Int32, y5 = (x2 + r3) → (qS h4 x0 = .inl 12 ∧ w_M_nightGoes N x0 h4 (fun h7 => (w_M_bill_17 N k x0 x1 y5 (x3 + (1 : Int32)) h7 Q))))))))
def w_M_bill (N : Nat) (x0 : Nat) (x1 : Int32) (h : qH) (Q : Int32 → qH → Prop) : Prop := (w_M_isLong N x1 h (fun r1 h2 => ((¬ r1 = 0 → (qS h2 x0 = .inl 12 ∧ w_M_copiesStill N x0 h2 (fun h5 => (w_M_bill_17 N N x0 x1 (0 : Int32) (0 : Int32) h5 Q )))) ∧ (r1 = 0 → Q (-1 : Int32) h2))))
def w_M_swap_49 (N : Nat) : Nat → Nat → Int32 → Int32 → Int32 → Int32 → Int32 → Int32 → qH → (Int32 → qH → Prop) → (Nat → Int32 → Int32 → Int32 → Int32 → Int32 → qH → Prop) → Prop
  | 0 => fun _ _ _ _ _ _ _ _ _ _ => False
  | k + 1 => fun x0 x1 x2 x3 x4 x5 x6 h Q K122 => (qS h x0 = .inl 12 ∧ (qok h (qR h x0 26) 0 (qI h x0 18) ∧ (((qI h (qR h x0 26) ((qI h x0 18)).toNatClampNeg) ≤ x6 → (K122 x0 x1 x2 x3 x4 x5 h)) ∧ (¬ (qI h (qR h x0 26) ((qI h x0 18)).toNatClampNeg) ≤ x6 → (w_M_areUp N x0 x5 x6 h (fun r4 h5 => ((¬ r4 = 0 → (qS h5 x0 = .inl 12 ∧ w_M_changesFor N x0 x5 x6 h5 (fun h8 => (qS h8 x0 = .inl 12 ∧ w_M_costsAll N x0 h8 (fun r10 h11 => (∀ y12 : Int32, y12 = (x2 - r10) → ((x4 < y12 → (∀ y14 : Int32, y14 = (((10 : Int32) * x5) + x6) → (w_M_swap_49 N k x0 x1 x2 y14 y12 x5 (x6 + (1 : Int32)) h11 Q K122))) ∧ (¬ x4 < y12 → (w_M_swap_49 N k x0 x1 x2 x3 x4 x5 (x6 + (1 : Int32)) h11 Q K122))))))))) ∧ (r4 = 0 → (w_M_swap_49 N k x0 x1 x2 x3 x4 x5 (x6 + (1 : Int32)) h5 Q K122)))))))))
def w_M_swap_29 (N : Nat) : Nat → Nat → Int32 → Int32 → Int32 → Int32 → Int32 → qH → (Int32 → qH → Prop) → Prop
  | 0 => fun _ _ _ _ _ _ _ _ => False
  | k + 1 => fun x0 x1 x2 x3 x4 x5 h Q => (qS h x0 = .inl 12 ∧ (qok h (qR h x0 26) 0 (qI h x0 18) ∧ (((qI h (qR h x0 26) ((qI h x0 18)).toNatClampNeg) ≤ x5 → ((x3 < 0 → Q x3 h) ∧ (¬ x3 < 0 → ((¬ x1 = 0 → Q x4 h) ∧ (x1 = 0 → Q x3 h))))) ∧ (¬ (qI h (qR h x0 26) ((qI h x0 18)).toNatClampNeg) ≤ x5 → (∀ y6 : Int32, y6 = (x5 + (1 : Int32)) → (w_M_swap_49 N N x0 x1 x2 x3 x4 x5 y6 h Q (fun x7 x8 x9 x10 x11 x12 h13 => (w_M_swap_29 N k x7 x8 x9 x10 x11 (x12 + (1 : Int32)) h13 Q))))))))
def w_M_swap (N : Nat) (x0 : Nat) (x1 : Int32) (h : qH) (Q : Int32 → qH → Prop) : Prop := (w_M_in N x1 (0 : Int32) (1 : Int32) h (fun r1 h2 => ((¬ r1 = 0 → (qS h2 x0 = .inl 12 ∧ w_M_copies N x0 h2 (fun h5 => (qS h5 x0 = .inl 12 ∧ w_M_costsAll N x0 h5 (fun r7 h8 => (w_M_swap_29 N N x0 x1 r7 (-2 : Int32) (0 : Int32) (0 : Int32) h8 Q )))))) ∧ (r1 = 0 → Q (-1 : Int32) h2))))
def w_M_upright_34 (N : Nat) : Nat → Nat → Int32 → Int32 → Int32 → qH → (Int32 → qH → Prop) → Prop
  | 0 => fun _ _ _ _ _ _ => False
  | k + 1 => fun x0 x2 x3 x4 h Q => (qS h x0 = .inl 12 ∧ (qok h (qR h x0 26) 0 (qI h x0 18) ∧ (((qI h (qR h x0 26) ((qI h x0 18)).toNatClampNeg) ≤ x4 → Q x3 h) ∧ (¬ (qI h (qR h x0 26) ((qI h x0 18)).toNatClampNeg) ≤ x4 → (qok h (qR h x0 50) 0 ((18 : Int32) + x4) ∧ ((x2 ≤ (qI h (qR h x0 50) (((18 : Int32) + x4)).toNatClampNeg) → (w_M_upright_34 N k x0 x2 x3 (x4 + (1 : Int32)) h Q)) ∧ (¬ x2 ≤ (qI h (qR h x0 50) (((18 : Int32) + x4)).toNatClampNeg) → (∀ y6 : Int32, y6 = (x3 ||| ((1 : Int32) <<< (x4 &&& 31))) → (w_M_upright_34 N k x0 x2 y6 (x4 + (1 : Int32)) h Q)))))))))
def w_M_upright (N : Nat) (x0 : Nat) (x1 : Int32) (x2 : Int32) (h : qH) (Q : Int32 → qH → Prop) : Prop := (w_M_isLong N x1 h (fun r1 h2 => ((r1 = 0 → Q (-1 : Int32) h2) ∧ (¬ r1 = 0 → (w_M_in N x2 (1 : Int32) (999 : Int32) h2 (fun r4 h5 => ((¬ r4 = 0 → (qS h5 x0 = .inl 12 ∧ w_M_copiesStill N x0 h5 (fun h8 => (qS h8 x0 = .inl 12 ∧ w_M_goes N x0 x1 h8 (fun h10 => (w_M_upright_34 N N x0 x2 (0 : Int32) (0 : Int32) h10 Q )))))) ∧ (r4 = 0 → Q (-1 : Int32) h5))))))))
def w_M_free_20 (N : Nat) : Nat → Nat → Int32 → Int32 → Int32 → qH → (Int32 → qH → Prop) → (Nat → Int32 → Int32 → qH → Prop) → Prop
  | 0 => fun _ _ _ _ _ _ _ => False
  | k + 1 => fun x0 x1 x2 x3 h Q K84 => (qS h x0 = .inl 12 ∧ (qok h (qR h x0 23) 0 (qI h x0 18) ∧ (((qI h (qR h x0 23) ((qI h x0 18)).toNatClampNeg) ≤ x3 → (K84 x0 x1 x2 h)) ∧ (¬ (qI h (qR h x0 23) ((qI h x0 18)).toNatClampNeg) ≤ x3 → (w_M_whoIsOn N x0 x3 h (fun r4 h5 => ((0 ≤ r4 → (w_M_free_20 N k x0 x1 x2 (x3 + (1 : Int32)) h5 Q K84)) ∧ (¬ 0 ≤ r4 → ((x2 < 0 → (w_M_free_20 N k x0 x1 x3 (x3 + (1 : Int32)) h5 Q K84)) ∧ (¬ x2 < 0 → (qS h5 x0 = .inl 12 ∧ (qok h5 (qR h5 x0 25) 0 (((7 : Int32) * (qI h5 x0 18)) + x3) ∧ (qok h5 (qR h5 x0 25) 0 (((7 : Int32) * (qI h5 x0 18)) + x2) ∧ (((qI h5 (qR h5 x0 25) ((((7 : Int32) * (qI h5 x0 18)) + x3)).toNatClampNeg) ≤ (qI h5 (qR h5 x0 25) ((((7 : Int32) * (qI h5 x0 18)) + x2)).toNatClampNeg) → (w_M_free_20 N k x0 x1 x2 (x3 + (1 : Int32)) h5 Q K84)) ∧ (¬ (qI h5 (qR h5 x0 25) ((((7 : Int32) * (qI h5 x0 18)) + x3)).toNatClampNeg) ≤ (qI h5 (qR h5 x0 25) ((((7 : Int32) * (qI h5 x0 18)) + x2)).toNatClampNeg) → (w_M_free_20 N k x0 x1 x3 (x3 + (1 : Int32)) h5 Q K84))))))))))))))))
def w_M_free (N : Nat) (x0 : Nat) (x1 : Int32) (h : qH) (Q : Int32 → qH → Prop) : Prop := (w_M_in N x1 (0 : Int32) (1 : Int32) h (fun r1 h2 => ((¬ r1 = 0 → (qS h2 x0 = .inl 12 ∧ w_M_copies N x0 h2 (fun h5 => (w_M_free_20 N N x0 x1 (-2 : Int32) (0 : Int32) h5 Q (fun x6 x7 x8 h9 => ((x8 < 0 → Q x8 h9) ∧ (¬ x8 < 0 → ((¬ x7 = 0 → (qS h9 x6 = .inl 12 ∧ (qok h9 (qR h9 x6 25) 0 (((7 : Int32) * (qI h9 x6 18)) + x8) ∧ Q (qI h9 (qR h9 x6 25) ((((7 : Int32) * (qI h9 x6 18)) + x8)).toNatClampNeg) h9))) ∧ (x7 = 0 → Q x8 h9))))))))) ∧ (r1 = 0 → Q (-1 : Int32) h2))))
def w_M_then (N : Nat) (x0 : Nat) (x1 : Int32) (x2 : Int32) (x3 : Int32) (h : qH) (Q : Int32 → qH → Prop) : Prop := (qS h x0 = .inl 12 ∧ w_M_isPerson N x0 x1 h (fun r2 h3 => ((r2 = 0 → Q (-1 : Int32) h3) ∧ (¬ r2 = 0 → (w_M_isLong N x2 h3 (fun r5 h6 => ((r5 = 0 → Q (-1 : Int32) h6) ∧ (¬ r5 = 0 → (w_M_in N x3 (0 : Int32) (2 : Int32) h6 (fun r8 h9 => ((¬ r8 = 0 → (qS h9 x0 = .inl 12 ∧ w_M_copies N x0 h9 (fun h12 => (qS h12 x0 = .inl 12 ∧ w_M_goes N x0 x2 h12 (fun h14 => ((¬ x3 = 0 → ((¬ x3 = (1 : Int32) → (qS h14 x0 = .inl 12 ∧ (qok h14 (qR h14 x0 50) 0 ((6 : Int32) + x1) ∧ Q (qI h14 (qR h14 x0 50) (((6 : Int32) + x1)).toNatClampNeg) h14))) ∧ (x3 = (1 : Int32) → (qS h14 x0 = .inl 12 ∧ (qok h14 (qR h14 x0 50) 0 ((18 : Int32) + x1) ∧ Q (qI h14 (qR h14 x0 50) (((18 : Int32) + x1)).toNatClampNeg) h14))))) ∧ (x3 = 0 → (qS h14 x0 = .inl 12 ∧ (qok h14 (qR h14 x0 50) 0 ((12 : Int32) + x1) ∧ Q (qI h14 (qR h14 x0 50) (((12 : Int32) + x1)).toNatClampNeg) h14))))))))) ∧ (r8 = 0 → Q (-1 : Int32) h9))))))))))))
def w_M_bentIn (N : Nat) (x0 : Nat) (x1 : Int32) (x2 : Int32) (h : qH) (Q : Int32 → qH → Prop) : Prop := (qS h x0 = .inl 12 ∧ w_M_isHanger N x0 x1 h (fun r2 h3 => ((r2 = 0 → Q (-1 : Int32) h3) ∧ (¬ r2 = 0 → (w_M_isLong N x2 h3 (fun r5 h6 => ((¬ r5 = 0 → (qS h6 x0 = .inl 12 ∧ w_M_copies N x0 h6 (fun h9 => (qS h9 x0 = .inl 12 ∧ w_M_goes N x0 x2 h9 (fun h11 => (qS h11 x0 = .inl 12 ∧ (qok h11 (qR h11 x0 50) 0 ((24 : Int32) + x1) ∧ Q (qI h11 (qR h11 x0 50) (((24 : Int32) + x1)).toNatClampNeg) h11))))))) ∧ (r5 = 0 → Q (-1 : Int32) h6))))))))
def w_M_year_33 (N : Nat) : Nat → Nat → Int32 → Int32 → Int32 → Int32 → Int32 → qH → (Int32 → qH → Prop) → Prop
  | 0 => fun _ _ _ _ _ _ _ _ => False
  | k + 1 => fun x0 x1 x2 x3 x4 x5 h Q => ((x3 ≤ x5 → Q x4 h) ∧ (¬ x3 ≤ x5 → (qS h x0 = .inl 12 ∧ w_M_copies N x0 h (fun h3 => (qS h3 x0 = .inl 12 ∧ (∀ h5 : qH, h5 = qsI h3 x0 51 ((qI h3 x0 51) + x5) → (qS h5 x0 = .inl 12 ∧ w_M_goes N x0 x2 h5 (fun h7 => (qS h7 x0 = .inl 12 ∧ w_M_isUp N x0 x1 h7 (fun r9 h10 => ((r9 = 0 → (w_M_year_33 N k x0 x1 x2 x3 x4 (x5 + (1 : Int32)) h10 Q)) ∧ (¬ r9 = 0 → (w_M_year_33 N k x0 x1 x2 x3 (x4 + (1 : Int32)) (x5 + (1 : Int32)) h10 Q)))))))))))))
def w_M_year (N : Nat) (x0 : Nat) (x1 : Int32) (x2 : Int32) (x3 : Int32) (h : qH) (Q : Int32 → qH → Prop) : Prop := (qS h x0 = .inl 12 ∧ w_M_isPerson N x0 x1 h (fun r2 h3 => ((r2 = 0 → Q (-1 : Int32) h3) ∧ (¬ r2 = 0 → (w_M_isLong N x2 h3 (fun r5 h6 => ((r5 = 0 → Q (-1 : Int32) h6) ∧ (¬ r5 = 0 → (w_M_in N x3 (1 : Int32) (20 : Int32) h6 (fun r8 h9 => ((¬ r8 = 0 → (w_M_year_33 N N x0 x1 x2 x3 (0 : Int32) (0 : Int32) h9 Q )) ∧ (r8 = 0 → Q (-1 : Int32) h9))))))))))))
def w_M_tell (N : Nat) (x0 : Nat) (x1 : Int32) (x2 : Int32) (x3 : Int32) (h : qH) (Q : Int32 → qH → Prop) : Prop := (qS h x0 = .inl 12 ∧ (((qI h x0 63) = (20 : Int32) → Q (-1 : Int32) h) ∧ (¬ (qI h x0 63) = (20 : Int32) → (w_M_isPerson N x0 x1 h (fun r3 h4 => ((r3 = 0 → Q (-1 : Int32) h4) ∧ (¬ r3 = 0 → (qS h4 x0 = .inl 12 ∧ w_M_isPerson N x0 x2 h4 (fun r7 h8 => ((¬ r7 = 0 → (qS h8 x0 = .inl 12 ∧ (qok h8 (qR h8 x0 64) 0 (qI h8 x0 63) ∧ ∀ h12 : qH, h12 = qsI h8 (qR h8 x0 64) ((qI h8 x0 63)).toNatClampNeg x1 → (qS h12 x0 = .inl 12 ∧ (qok h12 (qR h12 x0 65) 0 (qI h12 x0 63) ∧ ∀ h15 : qH, h15 = qsI h12 (qR h12 x0 65) ((qI h12 x0 63)).toNatClampNeg x2 → (qS h15 x0 = .inl 12 ∧ (qok h15 (qR h15 x0 66) 2 (qI h15 x0 63) ∧ ∀ h18 : qH, h18 = qsI h15 (qR h15 x0 66) ((qI h15 x0 63)).toNatClampNeg (vp_nar .boolean x3) → (qS h18 x0 = .inl 12 ∧ (∀ h20 : qH, h20 = qsI h18 x0 63 ((qI h18 x0 63) + (1 : Int32)) → (qS h20 x0 = .inl 12 ∧ Q ((qI h20 x0 63) - (1 : Int32)) h20)))))))))) ∧ (r7 = 0 → Q (-1 : Int32) h8)))))))))))
def w_M_forget (N : Nat) (x0 : Nat) (h : qH) (Q : Int32 → qH → Prop) : Prop := (qS h x0 = .inl 12 ∧ (∀ y2 : Int32, y2 = (qI h x0 63) → (∀ h3 : qH, h3 = qsI h x0 63 (0 : Int32) → Q y2 h3)))
def w_M_fillsPairs_78 (N : Nat) : Nat → Nat → Int32 → Int32 → Int32 → Int32 → qH → (Int32 → qH → Prop) → (Nat → Int32 → Int32 → Int32 → qH → Prop) → Prop
  | 0 => fun _ _ _ _ _ _ _ _ => False
  | k + 1 => fun x0 x1 x2 x3 x6 h Q K113 => (((6 : Int32) ≤ x6 → (K113 x0 x1 x2 x3 h)) ∧ (¬ (6 : Int32) ≤ x6 → (qS h x0 = .inl 12 ∧ (qok h (qR h x0 50) 0 ((12 : Int32) + x6) ∧ (qok h (qR h x0 68) 0 (((6 : Int32) * x3) + x6) ∧ ∀ h5 : qH, h5 = qsI h (qR h x0 68) ((((6 : Int32) * x3) + x6)).toNatClampNeg (qI h (qR h x0 50) (((12 : Int32) + x6)).toNatClampNeg) → (w_M_fillsPairs_78 N k x0 x1 x2 x3 (x6 + (1 : Int32)) h5 Q K113))))))
def w_M_fillsPairs_152 (N : Nat) (x0 : Nat) (x1 : Int32) (x2 : Int32) (x3 : Int32) (x6 : Int32) (z0 : Int32) (h : qH) (Q : Int32 → qH → Prop) (K116 : Nat → Int32 → Int32 → Int32 → Int32 → qH → Prop) : Prop := (qS h x0 = .inl 12 ∧ (qok h (qR h x0 66) 2 x6 ∧ ((z0 = (qI h (qR h x0 66) (x6).toNatClampNeg) → (K116 x0 x1 x2 x3 (x6 + (1 : Int32)) h)) ∧ (¬ z0 = (qI h (qR h x0 66) (x6).toNatClampNeg) → (qok h (qR h x0 67) 2 x3 ∧ ∀ h5 : qH, h5 = qsI h (qR h x0 67) (x3).toNatClampNeg (vp_nar .boolean (0 : Int32)) → (K116 x0 x1 x2 x3 (x6 + (1 : Int32)) h5))))))
def w_M_fillsPairs_116 (N : Nat) : Nat → Nat → Int32 → Int32 → Int32 → Int32 → qH → (Int32 → qH → Prop) → (Nat → Int32 → Int32 → Int32 → qH → Prop) → Prop
  | 0 => fun _ _ _ _ _ _ _ _ => False
  | k + 1 => fun x0 x1 x2 x3 x6 h Q K175 => ((x1 ≤ x6 → (K175 x0 x1 x2 x3 h)) ∧ (¬ x1 ≤ x6 → (qS h x0 = .inl 12 ∧ (qok h (qR h x0 64) 0 x6 ∧ (qok h (qR h x0 50) 0 ((12 : Int32) + (qI h (qR h x0 64) (x6).toNatClampNeg)) ∧ (qok h (qR h x0 65) 0 x6 ∧ ((¬ (qI h (qR h x0 50) (((12 : Int32) + (qI h (qR h x0 64) (x6).toNatClampNeg))).toNatClampNeg) = (qI h (qR h x0 65) (x6).toNatClampNeg) → (w_M_fillsPairs_152 N x0 x1 x2 x3 x6 (0 : Int32) h Q (fun x0 x1 x2 x3 x6 h => w_M_fillsPairs_116 N k x0 x1 x2 x3 x6 h Q K175))) ∧ ((qI h (qR h x0 50) (((12 : Int32) + (qI h (qR h x0 64) (x6).toNatClampNeg))).toNatClampNeg) = (qI h (qR h x0 65) (x6).toNatClampNeg) → (w_M_fillsPairs_152 N x0 x1 x2 x3 x6 (1 : Int32) h Q (fun x0 x1 x2 x3 x6 h => w_M_fillsPairs_116 N k x0 x1 x2 x3 x6 h Q K175))))))))))
def w_M_fillsPairs_50 (N : Nat) (x0 : Nat) (x1 : Int32) (x2 : Int32) (x3 : Int32) (x4 : Int32) (x5 : Int32) (z0 : Int32) (z1 : Int32) (z2 : Nat) (h : qH) (Q : Int32 → qH → Prop) (K4 : Nat → Int32 → Int32 → Int32 → qH → Prop) : Prop := (qok h z2 2 z1 ∧ ∀ h2 : qH, h2 = qsI h z2 (z1).toNatClampNeg (vp_nar .boolean z0) → (qS h2 x0 = .inl 12 ∧ (qok h2 (qR h2 x0 67) 2 x3 ∧ ((¬ (qI h2 (qR h2 x0 67) (x3).toNatClampNeg) = 0 → (w_M_changesFor N x0 x4 x5 h2 (fun h6 => (qS h6 x0 = .inl 12 ∧ w_M_nightGoes N x0 h6 (fun h8 => (w_M_fillsPairs_78 N N x0 x1 x2 x3 (0 : Int32) h8 Q (fun x9 x10 x11 x12 h13 => (w_M_fillsPairs_116 N N x9 x10 x11 x12 (0 : Int32) h13 Q (fun x14 x15 x16 x17 h18 => (qS h18 x14 = .inl 12 ∧ (qok h18 (qR h18 x14 67) 2 x17 ∧ (((qI h18 (qR h18 x14 67) (x17).toNatClampNeg) = 0 → (K4 x14 x15 x16 (x17 + (1 : Int32)) h18)) ∧ (¬ (qI h18 (qR h18 x14 67) (x17).toNatClampNeg) = 0 → (K4 x14 x15 (x16 + (1 : Int32)) (x17 + (1 : Int32)) h18)))))))))))))) ∧ ((qI h2 (qR h2 x0 67) (x3).toNatClampNeg) = 0 → (K4 x0 x1 x2 (x3 + (1 : Int32)) h2))))))
def w_M_fillsPairs_49 (N : Nat) (x0 : Nat) (x1 : Int32) (x2 : Int32) (x3 : Int32) (x4 : Int32) (x5 : Int32) (z0 : Int32) (z1 : Nat) (h : qH) (Q : Int32 → qH → Prop) (K4 : Nat → Int32 → Int32 → Int32 → qH → Prop) : Prop := (w_M_fillsPairs_50 N x0 x1 x2 x3 x4 x5 (0 : Int32) z0 z1 h Q K4)
def w_M_fillsPairs_4 (N : Nat) : Nat → Nat → Int32 → Int32 → Int32 → qH → (Int32 → qH → Prop) → Prop
  | 0 => fun _ _ _ _ _ _ => False
  | k + 1 => fun x0 x1 x2 x3 h Q => (((36 : Int32) ≤ x3 → Q x2 h) ∧ (¬ (36 : Int32) ≤ x3 → (¬ (6 : Int32) = 0 ∧ (∀ y3 : Int32, y3 = (x3 / (6 : Int32)) → (¬ (6 : Int32) = 0 ∧ (∀ y5 : Int32, y5 = (x3 - x3 / (6 : Int32) * (6 : Int32)) → (qS h x0 = .inl 12 ∧ ((y5 ≤ y3 → (w_M_fillsPairs_49 N x0 x1 x2 x3 y3 y5 x3 (qR h x0 67) h Q (fun x0 x1 x2 x3 h => w_M_fillsPairs_4 N k x0 x1 x2 x3 h Q))) ∧ (¬ y5 ≤ y3 → (w_M_areUp N x0 y3 y5 h (fun r8 h9 => ((r8 = 0 → (w_M_fillsPairs_49 N x0 x1 x2 x3 y3 y5 x3 (qR h x0 67) h9 Q (fun x0 x1 x2 x3 h => w_M_fillsPairs_4 N k x0 x1 x2 x3 h Q))) ∧ (¬ r8 = 0 → (w_M_fillsPairs_50 N x0 x1 x2 x3 y3 y5 (1 : Int32) x3 (qR h x0 67) h9 Q (fun x0 x1 x2 x3 h => w_M_fillsPairs_4 N k x0 x1 x2 x3 h Q)))))))))))))))
def w_M_fillsPairs (N : Nat) (x0 : Nat) (x1 : Int32) (h : qH) (Q : Int32 → qH → Prop) : Prop := (w_M_fillsPairs_4 N N x0 x1 (0 : Int32) (0 : Int32) h Q )
def w_M_two_45 (N : Nat) : Nat → Nat → Int32 → Int32 → Int32 → qH → (Int32 → qH → Prop) → (Int32 → qH → Prop) → Prop
  | 0 => fun _ _ _ _ _ _ _ => False
  | k + 1 => fun x0 x2 x4 x5 h Q K70 => ((x2 ≤ x4 → (K70 x5 h)) ∧ (¬ x2 ≤ x4 → (qS h x0 = .inl 12 ∧ (qok h (qR h x0 67) 2 (x5 + (1 : Int32)) ∧ (((qI h (qR h x0 67) ((x5 + (1 : Int32))).toNatClampNeg) = 0 → (w_M_two_45 N k x0 x2 x4 (x5 + (1 : Int32)) h Q K70)) ∧ (¬ (qI h (qR h x0 67) ((x5 + (1 : Int32))).toNatClampNeg) = 0 → (w_M_two_45 N k x0 x2 (x4 + (1 : Int32)) (x5 + (1 : Int32)) h Q K70)))))))
def w_M_two (N : Nat) (x0 : Nat) (x1 : Int32) (x2 : Int32) (h : qH) (Q : Int32 → qH → Prop) : Prop := (qS h x0 = .inl 12 ∧ (w_M_in N x1 (0 : Int32) (qI h x0 63) h (fun r2 h3 => ((r2 = 0 → Q (-1 : Int32) h3) ∧ (¬ r2 = 0 → (((-1 : Int32) ≤ x2 → (qS h3 x0 = .inl 12 ∧ w_M_fillsPairs N x0 x1 h3 (fun r7 h8 => ((¬ x2 = (-1 : Int32) → ((x2 < r7 → (w_M_two_45 N N x0 x2 (-1 : Int32) (-1 : Int32) h8 Q (fun x11 h12 => (¬ (6 : Int32) = 0 ∧ (¬ (6 : Int32) = 0 ∧ Q (((10 : Int32) * (x11 / (6 : Int32))) + (x11 - x11 / (6 : Int32) * (6 : Int32))) h12))))) ∧ (¬ x2 < r7 → Q (-1 : Int32) h8))) ∧ (x2 = (-1 : Int32) → Q r7 h8))))) ∧ (¬ (-1 : Int32) ≤ x2 → Q (-1 : Int32) h3)))))))
def w_M_worstOf_16 (N : Nat) : Nat → Nat → Int32 → Int32 → Int32 → Int32 → Int32 → qH → (Int32 → qH → Prop) → (Nat → Int32 → Int32 → Int32 → Int32 → qH → Prop) → Prop
  | 0 => fun _ _ _ _ _ _ _ _ _ => False
  | k + 1 => fun x0 x1 x2 x3 x4 x5 h Q K58 => (((36 : Int32) ≤ x5 → (K58 x0 x1 x2 x3 x4 h)) ∧ (¬ (36 : Int32) ≤ x5 → (qS h x0 = .inl 12 ∧ (qok h (qR h x0 67) 2 x5 ∧ (((qI h (qR h x0 67) (x5).toNatClampNeg) = 0 → (w_M_worstOf_16 N k x0 x1 x2 x3 x4 (x5 + (1 : Int32)) h Q K58)) ∧ (¬ (qI h (qR h x0 67) (x5).toNatClampNeg) = 0 → (qok h (qR h x0 68) 0 (((6 : Int32) * x5) + x1) ∧ ((¬ (qI h (qR h x0 68) ((((6 : Int32) * x5) + x1)).toNatClampNeg) = x3 → (w_M_worstOf_16 N k x0 x1 x2 x3 x4 (x5 + (1 : Int32)) h Q K58)) ∧ ((qI h (qR h x0 68) ((((6 : Int32) * x5) + x1)).toNatClampNeg) = x3 → (w_M_worstOf_16 N k x0 x1 x2 x3 (x4 + (1 : Int32)) (x5 + (1 : Int32)) h Q K58))))))))))
def w_M_worstOf_4 (N : Nat) : Nat → Nat → Int32 → Int32 → Int32 → qH → (Int32 → qH → Prop) → Prop
  | 0 => fun _ _ _ _ _ _ => False
  | k + 1 => fun x0 x1 x2 x3 h Q => (((6 : Int32) ≤ x3 → Q x2 h) ∧ (¬ (6 : Int32) ≤ x3 → (w_M_worstOf_16 N N x0 x1 x2 x3 (0 : Int32) (0 : Int32) h Q (fun x2 x3 x4 x5 x6 h7 => ((x6 ≤ x4 → (w_M_worstOf_4 N k x2 x3 x4 (x5 + (1 : Int32)) h7 Q)) ∧ (¬ x6 ≤ x4 → (w_M_worstOf_4 N k x2 x3 x6 (x5 + (1 : Int32)) h7 Q)))))))
def w_M_worstOf (N : Nat) (x0 : Nat) (x1 : Int32) (h : qH) (Q : Int32 → qH → Prop) : Prop := (w_M_worstOf_4 N N x0 x1 (0 : Int32) (0 : Int32) h Q )
def w_M_ask_26 (N : Nat) : Nat → Nat → Int32 → Int32 → Int32 → qH → (Int32 → qH → Prop) → Prop
  | 0 => fun _ _ _ _ _ _ => False
  | k + 1 => fun x0 x2 x3 x4 h Q => (qS h x0 = .inl 12 ∧ (qok h (qR h x0 26) 0 (qI h x0 18) ∧ (((qI h (qR h x0 26) ((qI h x0 18)).toNatClampNeg) ≤ x4 → Q x3 h) ∧ (¬ (qI h (qR h x0 26) ((qI h x0 18)).toNatClampNeg) ≤ x4 → ((x2 ≤ 0 → Q x3 h) ∧ (¬ x2 ≤ 0 → ((x3 < 0 → (w_M_ask_26 N k x0 x2 x4 (x4 + (1 : Int32)) h Q)) ∧ (¬ x3 < 0 → (w_M_worstOf N x0 x4 h (fun r6 h7 => (qS h7 x0 = .inl 12 ∧ w_M_worstOf N x0 x3 h7 (fun r9 h10 => ((r9 ≤ r6 → (w_M_ask_26 N k x0 x2 x3 (x4 + (1 : Int32)) h10 Q)) ∧ (¬ r9 ≤ r6 → (w_M_ask_26 N k x0 x2 x4 (x4 + (1 : Int32)) h10 Q)))))))))))))))
def w_M_ask (N : Nat) (x0 : Nat) (x1 : Int32) (h : qH) (Q : Int32 → qH → Prop) : Prop := (qS h x0 = .inl 12 ∧ (w_M_in N x1 (0 : Int32) (qI h x0 63) h (fun r2 h3 => ((¬ r2 = 0 → (qS h3 x0 = .inl 12 ∧ w_M_fillsPairs N x0 x1 h3 (fun r6 h7 => (w_M_ask_26 N N x0 r6 (-2 : Int32) (0 : Int32) h7 Q )))) ∧ (r2 = 0 → Q (-1 : Int32) h3)))))
def w_M_hold_20 (N : Nat) : Nat → Nat → Int32 → Int32 → qH → (Int32 → qH → Prop) → Prop
  | 0 => fun _ _ _ _ _ => False
  | k + 1 => fun x0 x1 x2 h Q => (((32 : Int32) ≤ x2 → (qzb (1 : Int32) ∧ Q (1 : Int32) h)) ∧ (¬ (32 : Int32) ≤ x2 → (qS h x0 = .inl 12 ∧ (qok h (qR h x0 49) 0 x2 ∧ (qok h (qR h x0 70) 0 (((32 : Int32) * x1) + x2) ∧ ∀ h5 : qH, h5 = qsI h (qR h x0 70) ((((32 : Int32) * x1) + x2)).toNatClampNeg (qI h (qR h x0 49) (x2).toNatClampNeg) → (w_M_hold_20 N k x0 x1 (x2 + (1 : Int32)) h5 Q))))))
def w_M_hold (N : Nat) (x0 : Nat) (x1 : Int32) (h : qH) (Q : Int32 → qH → Prop) : Prop := (w_M_in N x1 (0 : Int32) (2 : Int32) h (fun r1 h2 => ((¬ r1 = 0 → (qS h2 x0 = .inl 12 ∧ (qok h2 (qR h2 x0 69) 2 x1 ∧ ∀ h6 : qH, h6 = qsI h2 (qR h2 x0 69) (x1).toNatClampNeg (vp_nar .boolean (1 : Int32)) → (w_M_hold_20 N N x0 x1 (0 : Int32) h6 Q )))) ∧ (r1 = 0 → (qzb (0 : Int32) ∧ Q (0 : Int32) h2)))))
section QG
variable {p : Program} {l : Launch} {e : Env} {s : State} {m : MethodId} {args : Array Value} {below : List Frame} {meth : Method} {c : Code} {D : va_G} {cy : Nat → ClassId} {b : Nat} {adK adV : Nat → Nat}

set_option maxRecDepth 4000 in
theorem t_M_crowded_19 (X : qX p s m args meth c D cy b adK adV prog_14_method_97_code "CoatHangersModel" 4 (some .int) "crowded") (N k : Nat) (x0 : Nat) (x1 : Int32) (x2 : Int32) (x3 : Int32) (h : qH) (Q : Int32 → qH → Prop)  (hw : w_M_crowded_19 N k x0 x1 x2 x3 h Q ) : qW p l e (qrm 2 0 0 44) s m args below meth c D cy b 4 0 0 (MQ below (qQc D cy b qrI Q) args s 0 0 (qA b)) 19 [(0, .inr (.inr (.inl x0))), (1, .inl x1), (2, .inl x2), (3, .inl x3)] [] h := by
  induction k generalizing x0 x1 x2 x3 h with
  | zero => exact hw.elim
  | succ k ih =>
    refine qx_iload_n (x := x3) X d_M_crowded_19 rfl 3 rfl ?_
    refine qx_iconst (v := (5 : Int32)) X d_M_crowded_20 (by decide) ?_
    refine qx_icmp_ge X 45 d_M_crowded_21 (by decide) (fun q1 => ?_) (fun q1 => ?_)
    · have hw := hw.1 q1
      refine qx_iload_n (x := x1) X d_M_crowded_45 rfl 1 rfl ?_
      refine qx_if_ne X 53 d_M_crowded_46 (by decide) (fun q2 => ?_) (fun q2 => ?_)
      · have hw := hw.1 q2
        refine qx_aload_n (x := x0) X d_M_crowded_53 rfl 0 rfl ?_
        refine qx_iload_n (x := x2) X d_M_crowded_54 rfl 2 rfl ?_
        obtain ⟨g3, hw⟩ := hw
        refine qx_callVI (st := []) (As := [.int x2]) X (t_M_manyOn (adK := adK) (adV := adV) l D cy b N x0 x2 h _ hw) qm_M_manyOn wm_M_354 wi_M_manyOn wl_M_manyOn qcls12 g3 rfl rfl rfl ⟨Nat.le_of_ble_eq_true rfl, Nat.le_of_ble_eq_true rfl⟩ ⟨Nat.le_refl 0, Nat.le_refl 0⟩ (Nat.le_of_ble_eq_true rfl) rfl d_M_crowded_55 (fun r4 h5 hw => ?_)
        exact qx_iret X hw (Nat.le_refl 0) (Nat.le_refl 0) rfl d_M_crowded_58
      · have hw := hw.2 q2
        refine qx_iload_n (x := x2) X d_M_crowded_49 rfl 2 rfl ?_
        refine qx_goto X 58 d_M_crowded_50 (by decide) ?_
        exact qx_iret X hw (Nat.le_refl 0) (Nat.le_refl 0) rfl d_M_crowded_58
    · have hw := hw.2 q1
      refine qx_aload_n (x := x0) X d_M_crowded_24 rfl 0 rfl ?_
      refine qx_iload_n (x := x3) X d_M_crowded_25 rfl 3 rfl ?_
      obtain ⟨g6, hw⟩ := hw
      refine qx_callVI (st := []) (As := [.int x3]) X (t_M_manyOn (adK := adK) (adV := adV) l D cy b N x0 x3 h _ hw) qm_M_manyOn wm_M_354 wi_M_manyOn wl_M_manyOn qcls12 g6 rfl rfl rfl ⟨Nat.le_of_ble_eq_true rfl, Nat.le_of_ble_eq_true rfl⟩ ⟨Nat.le_refl 0, Nat.le_refl 0⟩ (Nat.le_of_ble_eq_true rfl) rfl d_M_crowded_26 (fun r7 h8 hw => ?_)
      refine qx_aload_n (x := x0) X d_M_crowded_29 rfl 0 rfl ?_
      refine qx_iload_n (x := x2) X d_M_crowded_30 rfl 2 rfl ?_
      obtain ⟨g9, hw⟩ := hw
      refine qx_callVI (st := [.int r7]) (As := [.int x2]) X (t_M_manyOn (adK := adK) (adV := adV) l D cy b N x0 x2 h8 _ hw) qm_M_manyOn wm_M_354 wi_M_manyOn wl_M_manyOn qcls12 g9 rfl rfl rfl ⟨Nat.le_of_ble_eq_true rfl, Nat.le_of_ble_eq_true rfl⟩ ⟨Nat.le_refl 0, Nat.le_refl 0⟩ (Nat.le_of_ble_eq_true rfl) rfl d_M_crowded_31 (fun r10 h11 hw => ?_)
      refine qx_icmp_le X 39 d_M_crowded_34 (by decide) (fun q12 => ?_) (fun q12 => ?_)
      · have hw := hw.1 q12
        refine qx_iinc (v := (x3 + (1 : Int32))) (L' := [(3, .inl (x3 + (1 : Int32))), (0, .inr (.inr (.inl x0))), (1, .inl x1), (2, .inl x2)]) X d_M_crowded_39 3 rfl rfl (by decide) rfl ?_
        refine qx_goto X 19 d_M_crowded_42 (by decide) ?_
        refine qx_sub [1, 2, 3, 0] rfl ?_
        exact ih x0 x1 x2 (x3 + (1 : Int32)) h11 hw
      · have hw := hw.2 q12
        refine qx_iload_n (x := x3) X d_M_crowded_37 rfl 3 rfl ?_
        refine qx_istore_n (L' := [(2, .inl x3), (0, .inr (.inr (.inl x0))), (1, .inl x1), (3, .inl x3)]) X d_M_crowded_38 rfl (by decide) rfl ?_
        refine qx_iinc (v := (x3 + (1 : Int32))) (L' := [(3, .inl (x3 + (1 : Int32))), (2, .inl x3), (0, .inr (.inr (.inl x0))), (1, .inl x1)]) X d_M_crowded_39 3 rfl rfl (by decide) rfl ?_
        refine qx_goto X 19 d_M_crowded_42 (by decide) ?_
        refine qx_sub [2, 3, 1, 0] rfl ?_
        exact ih x0 x1 x3 (x3 + (1 : Int32)) h11 hw
set_option maxRecDepth 4000 in
theorem t_M_crowded {adK adV : Nat → Nat} (l : Launch) (D : va_G) (cy : Nat → ClassId) (b : Nat) (N : Nat) (x0 : Nat) (x1 : Int32) (h : qH) (Q : Int32 → qH → Prop) (hw : w_M_crowded N x0 x1 h Q) : Met l y_M_crowded (Cond.code y_M_crowded prog_14_method_97_code 4 (some .int) :: qT) (qrm 2 0 0 44) (qPc D cy b adK adV h [qr b x0, .int x1]) (qQc D cy b qrI Q) 0 0 (qA b) := by
  refine qmet (L0 := [(0, .inr (.inr (.inl x0))), (1, .inl x1)]) qm_M_crowded (plainFor_of_name (by decide)) [.inr (.inr (.inl x0)), .inl x1] rfl (Nat.le_of_ble_eq_true rfl) rfl (fun p e s m args below meth c X => ?_)
  unfold w_M_crowded at hw
  refine qx_iload_n (x := x1) X d_M_crowded_0 rfl 1 rfl ?_
  refine qx_iconst (v := (0 : Int32)) X d_M_crowded_1 (by decide) ?_
  refine qx_iconst (v := (1 : Int32)) X d_M_crowded_2 (by decide) ?_
  refine qx_callSI (st := []) (As := [.int x1, .int (0 : Int32), .int (1 : Int32)]) X (t_M_in (adK := adK) (adV := adV) l D cy b N x1 (0 : Int32) (1 : Int32) h _ hw) qm_M_in wm_M_322 wi_M_in rfl rfl rfl ⟨Nat.le_of_ble_eq_true rfl, Nat.le_of_ble_eq_true rfl⟩ ⟨Nat.le_refl 0, Nat.le_refl 0⟩ (Nat.le_of_ble_eq_true rfl) rfl d_M_crowded_3 (fun r1 h2 hw => ?_)
  refine qx_if_ne X 11 d_M_crowded_6 (by decide) (fun q3 => ?_) (fun q3 => ?_)
  · have hw := hw.1 q3
    refine qx_aload_n (x := x0) X d_M_crowded_11 rfl 0 rfl ?_
    obtain ⟨g4, hw⟩ := hw
    refine qx_callVV (st := []) (As := []) X (t_M_copies (adK := adK) (adV := adV) l D cy b N x0 h2 _ hw) qm_M_copies wm_M_332 wi_M_copies wl_M_copies qcls12 g4 rfl rfl rfl ⟨Nat.le_of_ble_eq_true rfl, Nat.le_of_ble_eq_true rfl⟩ ⟨Nat.le_refl 0, Nat.le_refl 0⟩ (Nat.le_of_ble_eq_true rfl) rfl d_M_crowded_12 (fun h5 hw => ?_)
    refine qx_iconst (v := (0 : Int32)) X d_M_crowded_15 (by decide) ?_
    refine qx_istore_n (L' := [(2, .inl (0 : Int32)), (0, .inr (.inr (.inl x0))), (1, .inl x1)]) X d_M_crowded_16 rfl (by decide) rfl ?_
    refine qx_iconst (v := (1 : Int32)) X d_M_crowded_17 (by decide) ?_
    refine qx_istore_n (L' := [(3, .inl (1 : Int32)), (2, .inl (0 : Int32)), (0, .inr (.inr (.inl x0))), (1, .inl x1)]) X d_M_crowded_18 rfl (by decide) rfl ?_
    refine qx_sub [2, 3, 1, 0] rfl ?_
    exact t_M_crowded_19 X N N x0 x1 (0 : Int32) (1 : Int32) h5 Q  hw 
  · have hw := hw.2 q3
    refine qx_iconst (v := (-1 : Int32)) X d_M_crowded_9 (by decide) ?_
    exact qx_iret X hw (Nat.le_refl 0) (Nat.le_refl 0) rfl d_M_crowded_10
set_option maxRecDepth 4000 in
theorem t_M_straight_5 (X : qX p s m args meth c D cy b adK adV prog_14_method_98_code "CoatHangersModel" 3 (some .int) "straight") (N k : Nat) (x0 : Nat) (x1 : Int32) (x2 : Int32) (h : qH) (Q : Int32 → qH → Prop)  (hw : w_M_straight_5 N k x0 x1 x2 h Q ) : qW p l e (qrm 0 0 0 0) s m args below meth c D cy b 3 0 0 (MQ below (qQc D cy b qrI Q) args s 0 0 (qA b)) 5 [(0, .inr (.inr (.inl x0))), (1, .inl x1), (2, .inl x2)] [] h := by
  induction k generalizing x0 x1 x2 h with
  | zero => exact hw.elim
  | succ k ih =>
    refine qx_iload_n (x := x2) X d_M_straight_5 rfl 2 rfl ?_
    refine qx_aload_n (x := x0) X d_M_straight_6 rfl 0 rfl ?_
    obtain ⟨g1, hw⟩ := hw
    refine qx_getR X qcls12 g1 26 (by decide) rfl wf_M_55 d_M_straight_7 ?_
    refine qx_aload_n (x := x0) X d_M_straight_10 rfl 0 rfl ?_
    refine qx_getI X qcls12 g1 18 (by decide) rfl wf_M_245 d_M_straight_11 ?_
    obtain ⟨g2, hw⟩ := hw
    refine qx_ild X g2 d_M_straight_14 ?_
    refine qx_icmp_ge X 63 d_M_straight_15 (by decide) (fun q3 => ?_) (fun q3 => ?_)
    · have hw := hw.1 q3
      refine qx_iload_n (x := x1) X d_M_straight_63 rfl 1 rfl ?_
      exact qx_iret X hw (Nat.le_refl 0) (Nat.le_refl 0) rfl d_M_straight_64
    · have hw := hw.2 q3
      refine qx_aload_n (x := x0) X d_M_straight_18 rfl 0 rfl ?_
      refine qx_getR X qcls12 g1 49 (by decide) rfl wf_M_113 d_M_straight_19 ?_
      refine qx_bipush (v := (6 : Int32)) X d_M_straight_22 (by decide) ?_
      refine qx_iload_n (x := x2) X d_M_straight_24 rfl 2 rfl ?_
      refine qx_iadd X d_M_straight_25 ?_
      obtain ⟨g4, hw⟩ := hw
      refine qx_ild X g4 d_M_straight_26 ?_
      refine qx_if_lt X 57 d_M_straight_27 (by decide) (fun q5 => ?_) (fun q5 => ?_)
      · have hw := hw.1 q5
        refine qx_iinc (v := (x2 + (1 : Int32))) (L' := [(2, .inl (x2 + (1 : Int32))), (0, .inr (.inr (.inl x0))), (1, .inl x1)]) X d_M_straight_57 2 rfl rfl (by decide) rfl ?_
        refine qx_goto X 5 d_M_straight_60 (by decide) ?_
        refine qx_sub [1, 2, 0] rfl ?_
        exact ih x0 x1 (x2 + (1 : Int32)) h hw
      · have hw := hw.2 q5
        refine qx_iload_n (x := x1) X d_M_straight_30 rfl 1 rfl ?_
        refine qx_if_lt X 55 d_M_straight_31 (by decide) (fun q6 => ?_) (fun q6 => ?_)
        · have hw := hw.1 q6
          refine qx_iload_n (x := x2) X d_M_straight_55 rfl 2 rfl ?_
          refine qx_istore_n (L' := [(1, .inl x2), (0, .inr (.inr (.inl x0))), (2, .inl x2)]) X d_M_straight_56 rfl (by decide) rfl ?_
          refine qx_iinc (v := (x2 + (1 : Int32))) (L' := [(2, .inl (x2 + (1 : Int32))), (1, .inl x2), (0, .inr (.inr (.inl x0)))]) X d_M_straight_57 2 rfl rfl (by decide) rfl ?_
          refine qx_goto X 5 d_M_straight_60 (by decide) ?_
          refine qx_sub [2, 1, 0] rfl ?_
          exact ih x0 x2 (x2 + (1 : Int32)) h hw
        · have hw := hw.2 q6
          refine qx_aload_n (x := x0) X d_M_straight_34 rfl 0 rfl ?_
          refine qx_getR X qcls12 g1 49 (by decide) rfl wf_M_113 d_M_straight_35 ?_
          refine qx_bipush (v := (18 : Int32)) X d_M_straight_38 (by decide) ?_
          refine qx_iload_n (x := x2) X d_M_straight_40 rfl 2 rfl ?_
          refine qx_iadd X d_M_straight_41 ?_
          obtain ⟨g7, hw⟩ := hw
          refine qx_ild X g7 d_M_straight_42 ?_
          refine qx_aload_n (x := x0) X d_M_straight_43 rfl 0 rfl ?_
          refine qx_getR X qcls12 g1 49 (by decide) rfl wf_M_113 d_M_straight_44 ?_
          refine qx_bipush (v := (18 : Int32)) X d_M_straight_47 (by decide) ?_
          refine qx_iload_n (x := x1) X d_M_straight_49 rfl 1 rfl ?_
          refine qx_iadd X d_M_straight_50 ?_
          obtain ⟨g8, hw⟩ := hw
          refine qx_ild X g8 d_M_straight_51 ?_
          refine qx_icmp_ge X 57 d_M_straight_52 (by decide) (fun q9 => ?_) (fun q9 => ?_)
          · have hw := hw.1 q9
            refine qx_iinc (v := (x2 + (1 : Int32))) (L' := [(2, .inl (x2 + (1 : Int32))), (0, .inr (.inr (.inl x0))), (1, .inl x1)]) X d_M_straight_57 2 rfl rfl (by decide) rfl ?_
            refine qx_goto X 5 d_M_straight_60 (by decide) ?_
            refine qx_sub [1, 2, 0] rfl ?_
            exact ih x0 x1 (x2 + (1 : Int32)) h hw
          · have hw := hw.2 q9
            refine qx_iload_n (x := x2) X d_M_straight_55 rfl 2 rfl ?_
            refine qx_istore_n (L' := [(1, .inl x2), (0, .inr (.inr (.inl x0))), (2, .inl x2)]) X d_M_straight_56 rfl (by decide) rfl ?_
            refine qx_iinc (v := (x2 + (1 : Int32))) (L' := [(2, .inl (x2 + (1 : Int32))), (1, .inl x2), (0, .inr (.inr (.inl x0)))]) X d_M_straight_57 2 rfl rfl (by decide) rfl ?_
            refine qx_goto X 5 d_M_straight_60 (by decide) ?_
            refine qx_sub [2, 1, 0] rfl ?_
            exact ih x0 x2 (x2 + (1 : Int32)) h hw
set_option maxRecDepth 4000 in
theorem t_M_straight {adK adV : Nat → Nat} (l : Launch) (D : va_G) (cy : Nat → ClassId) (b : Nat) (N : Nat) (x0 : Nat) (h : qH) (Q : Int32 → qH → Prop) (hw : w_M_straight N x0 h Q) : Met l y_M_straight (Cond.code y_M_straight prog_14_method_98_code 3 (some .int) :: qT) (qrm 0 0 0 0) (qPc D cy b adK adV h [qr b x0]) (qQc D cy b qrI Q) 0 0 (qA b) := by
  refine qmet (L0 := [(0, .inr (.inr (.inl x0)))]) qm_M_straight (plainFor_of_name (by decide)) [.inr (.inr (.inl x0))] rfl (Nat.le_of_ble_eq_true rfl) rfl (fun p e s m args below meth c X => ?_)
  unfold w_M_straight at hw
  refine qx_bipush (v := (-2 : Int32)) X d_M_straight_0 (by decide) ?_
  refine qx_istore_n (L' := [(1, .inl (-2 : Int32)), (0, .inr (.inr (.inl x0)))]) X d_M_straight_2 rfl (by decide) rfl ?_
  refine qx_iconst (v := (0 : Int32)) X d_M_straight_3 (by decide) ?_
  refine qx_istore_n (L' := [(2, .inl (0 : Int32)), (1, .inl (-2 : Int32)), (0, .inr (.inr (.inl x0)))]) X d_M_straight_4 rfl (by decide) rfl ?_
  refine qx_sub [2, 1, 0] rfl ?_
  exact t_M_straight_5 X N N x0 (-2 : Int32) (0 : Int32) h Q  hw 
set_option maxRecDepth 4000 in
theorem t_M_bill_17 (X : qX p s m args meth c D cy b adK adV prog_14_method_99_code "CoatHangersModel" 4 (some .int) "bill") (N k : Nat) (x0 : Nat) (x1 : Int32) (x2 : Int32) (x3 : Int32) (h : qH) (Q : Int32 → qH → Prop)  (hw : w_M_bill_17 N k x0 x1 x2 x3 h Q ) : qW p l e (qrm 5 0 0 109) s m args below meth c D cy b 4 0 0 (MQ below (qQc D cy b qrI Q) args s 0 0 (qA b)) 17 [(0, .inr (.inr (.inl x0))), (1, .inl x1), (2, .inl x2), (3, .inl x3)] [] h := by
  induction k generalizing x0 x1 x2 x3 h with
  | zero => exact hw.elim
  | succ k ih =>
    refine qx_iload_n (x := x3) X d_M_bill_17 rfl 3 rfl ?_
    refine qx_iload_n (x := x1) X d_M_bill_18 rfl 1 rfl ?_
    refine qx_icmp_ge X 39 d_M_bill_19 (by decide) (fun q1 => ?_) (fun q1 => ?_)
    · have hw := hw.1 q1
      refine qx_iload_n (x := x2) X d_M_bill_39 rfl 2 rfl ?_
      exact qx_iret X hw (Nat.le_refl 0) (Nat.le_refl 0) rfl d_M_bill_40
    · have hw := hw.2 q1
      refine qx_iload_n (x := x2) X d_M_bill_22 rfl 2 rfl ?_
      refine qx_aload_n (x := x0) X d_M_bill_23 rfl 0 rfl ?_
      obtain ⟨g2, hw⟩ := hw
      refine qx_callVI (st := [.int x2]) (As := []) X (t_M_costsAll (adK := adK) (adV := adV) l D cy b N x0 h _ hw) qm_M_costsAll wm_M_454 wi_M_costsAll wl_M_costsAll qcls12 g2 rfl rfl rfl ⟨Nat.le_of_ble_eq_true rfl, Nat.le_of_ble_eq_true rfl⟩ ⟨Nat.le_refl 0, Nat.le_refl 0⟩ (Nat.le_of_ble_eq_true rfl) rfl d_M_bill_24 (fun r3 h4 hw => ?_)
      refine qx_iadd X d_M_bill_27 ?_
      refine qx_topi (fun y5 ey5 => ?_)
      have hw := hw y5 ey5
      refine qx_istore_n (L' := [(2, .inl y5), (0, .inr (.inr (.inl x0))), (1, .inl x1), (3, .inl x3)]) X d_M_bill_28 rfl (by decide) rfl ?_
      refine qx_aload_n (x := x0) X d_M_bill_29 rfl 1 rfl ?_
      obtain ⟨g6, hw⟩ := hw
      refine qx_callVV (st := []) (As := []) X (t_M_nightGoes (adK := adK) (adV := adV) l D cy b N x0 h4 _ hw) qm_M_nightGoes wm_M_383 wi_M_nightGoes wl_M_nightGoes qcls12 g6 rfl rfl rfl ⟨Nat.le_of_ble_eq_true rfl, Nat.le_of_ble_eq_true rfl⟩ ⟨Nat.le_refl 0, Nat.le_refl 0⟩ (Nat.le_of_ble_eq_true rfl) rfl d_M_bill_30 (fun h7 hw => ?_)
      refine qx_iinc (v := (x3 + (1 : Int32))) (L' := [(3, .inl (x3 + (1 : Int32))), (2, .inl y5), (0, .inr (.inr (.inl x0))), (1, .inl x1)]) X d_M_bill_33 3 rfl rfl (by decide) rfl ?_
      refine qx_goto X 17 d_M_bill_36 (by decide) ?_
      refine qx_sub [2, 3, 1, 0] rfl ?_
      exact ih x0 x1 y5 (x3 + (1 : Int32)) h7 hw
set_option maxRecDepth 4000 in
theorem t_M_bill {adK adV : Nat → Nat} (l : Launch) (D : va_G) (cy : Nat → ClassId) (b : Nat) (N : Nat) (x0 : Nat) (x1 : Int32) (h : qH) (Q : Int32 → qH → Prop) (hw : w_M_bill N x0 x1 h Q) : Met l y_M_bill (Cond.code y_M_bill prog_14_method_99_code 4 (some .int) :: qT) (qrm 5 0 0 109) (qPc D cy b adK adV h [qr b x0, .int x1]) (qQc D cy b qrI Q) 0 0 (qA b) := by
  refine qmet (L0 := [(0, .inr (.inr (.inl x0))), (1, .inl x1)]) qm_M_bill (plainFor_of_name (by decide)) [.inr (.inr (.inl x0)), .inl x1] rfl (Nat.le_of_ble_eq_true rfl) rfl (fun p e s m args below meth c X => ?_)
  unfold w_M_bill at hw
  refine qx_iload_n (x := x1) X d_M_bill_0 rfl 1 rfl ?_
  refine qx_callSI (st := []) (As := [.int x1]) X (t_M_isLong (adK := adK) (adV := adV) l D cy b N x1 h _ hw) qm_M_isLong wm_M_411 wi_M_isLong rfl rfl rfl ⟨Nat.le_of_ble_eq_true rfl, Nat.le_of_ble_eq_true rfl⟩ ⟨Nat.le_refl 0, Nat.le_refl 0⟩ (Nat.le_of_ble_eq_true rfl) rfl d_M_bill_1 (fun r1 h2 hw => ?_)
  refine qx_if_ne X 9 d_M_bill_4 (by decide) (fun q3 => ?_) (fun q3 => ?_)
  · have hw := hw.1 q3
    refine qx_aload_n (x := x0) X d_M_bill_9 rfl 0 rfl ?_
    obtain ⟨g4, hw⟩ := hw
    refine qx_callVV (st := []) (As := []) X (t_M_copiesStill (adK := adK) (adV := adV) l D cy b N x0 h2 _ hw) qm_M_copiesStill wm_M_401 wi_M_copiesStill wl_M_copiesStill qcls12 g4 rfl rfl rfl ⟨Nat.le_of_ble_eq_true rfl, Nat.le_of_ble_eq_true rfl⟩ ⟨Nat.le_refl 0, Nat.le_refl 0⟩ (Nat.le_of_ble_eq_true rfl) rfl d_M_bill_10 (fun h5 hw => ?_)
    refine qx_iconst (v := (0 : Int32)) X d_M_bill_13 (by decide) ?_
    refine qx_istore_n (L' := [(2, .inl (0 : Int32)), (0, .inr (.inr (.inl x0))), (1, .inl x1)]) X d_M_bill_14 rfl (by decide) rfl ?_
    refine qx_iconst (v := (0 : Int32)) X d_M_bill_15 (by decide) ?_
    refine qx_istore_n (L' := [(3, .inl (0 : Int32)), (2, .inl (0 : Int32)), (0, .inr (.inr (.inl x0))), (1, .inl x1)]) X d_M_bill_16 rfl (by decide) rfl ?_
    refine qx_sub [2, 3, 1, 0] rfl ?_
    exact t_M_bill_17 X N N x0 x1 (0 : Int32) (0 : Int32) h5 Q  hw 
  · have hw := hw.2 q3
    refine qx_iconst (v := (-1 : Int32)) X d_M_bill_7 (by decide) ?_
    exact qx_iret X hw (Nat.le_refl 0) (Nat.le_refl 0) rfl d_M_bill_8
set_option maxRecDepth 4000 in
theorem t_M_swap_49 (X : qX p s m args meth c D cy b adK adV prog_14_method_100_code "CoatHangersModel" 8 (some .int) "swap") (N k : Nat) (x0 : Nat) (x1 : Int32) (x2 : Int32) (x3 : Int32) (x4 : Int32) (x5 : Int32) (x6 : Int32) (h : qH) (Q : Int32 → qH → Prop) (K122 : Nat → Int32 → Int32 → Int32 → Int32 → Int32 → qH → Prop) (hw : w_M_swap_49 N k x0 x1 x2 x3 x4 x5 x6 h Q K122) (hK122 : ∀ (x0 : Nat) (x1 : Int32) (x2 : Int32) (x3 : Int32) (x4 : Int32) (x5 : Int32) (h : qH), K122 x0 x1 x2 x3 x4 x5 h → qW p l e (qrm 5 0 0 109) s m args below meth c D cy b 8 0 0 (MQ below (qQc D cy b qrI Q) args s 0 0 (qA b)) 122 [(0, .inr (.inr (.inl x0))), (1, .inl x1), (2, .inl x2), (3, .inl x3), (4, .inl x4), (5, .inl x5)] [] h) : qW p l e (qrm 5 0 0 109) s m args below meth c D cy b 8 0 0 (MQ below (qQc D cy b qrI Q) args s 0 0 (qA b)) 49 [(0, .inr (.inr (.inl x0))), (1, .inl x1), (2, .inl x2), (3, .inl x3), (4, .inl x4), (5, .inl x5), (6, .inl x6)] [] h := by
  induction k generalizing x0 x1 x2 x3 x4 x5 x6 h with
  | zero => exact hw.elim
  | succ k ih =>
    refine qx_iload (x := x6) X d_M_swap_49 6 rfl ?_
    refine qx_aload_n (x := x0) X d_M_swap_51 rfl 0 rfl ?_
    obtain ⟨g1, hw⟩ := hw
    refine qx_getR X qcls12 g1 26 (by decide) rfl wf_M_55 d_M_swap_52 ?_
    refine qx_aload_n (x := x0) X d_M_swap_55 rfl 0 rfl ?_
    refine qx_getI X qcls12 g1 18 (by decide) rfl wf_M_245 d_M_swap_56 ?_
    obtain ⟨g2, hw⟩ := hw
    refine qx_ild X g2 d_M_swap_59 ?_
    refine qx_icmp_ge X 122 d_M_swap_60 (by decide) (fun q3 => ?_) (fun q3 => ?_)
    · have hw := hw.1 q3
      refine qx_sub [0, 1, 2, 3, 4, 5] rfl ?_
      exact hK122 x0 x1 x2 x3 x4 x5 h hw
    · have hw := hw.2 q3
      refine qx_aload_n (x := x0) X d_M_swap_63 rfl 0 rfl ?_
      refine qx_iload (x := x5) X d_M_swap_64 5 rfl ?_
      refine qx_iload (x := x6) X d_M_swap_66 6 rfl ?_
      refine qx_callVI (st := []) (As := [.int x5, .int x6]) X (t_M_areUp (adK := adK) (adV := adV) l D cy b N x0 x5 x6 h _ hw) qm_M_areUp wm_M_404 wi_M_areUp wl_M_areUp qcls12 g1 rfl rfl rfl ⟨Nat.le_of_ble_eq_true rfl, Nat.le_of_ble_eq_true rfl⟩ ⟨Nat.le_refl 0, Nat.le_refl 0⟩ (Nat.le_of_ble_eq_true rfl) rfl d_M_swap_68 (fun r4 h5 hw => ?_)
      refine qx_if_ne X 77 d_M_swap_71 (by decide) (fun q6 => ?_) (fun q6 => ?_)
      · have hw := hw.1 q6
        refine qx_aload_n (x := x0) X d_M_swap_77 rfl 0 rfl ?_
        refine qx_iload (x := x5) X d_M_swap_78 5 rfl ?_
        refine qx_iload (x := x6) X d_M_swap_80 6 rfl ?_
        obtain ⟨g7, hw⟩ := hw
        refine qx_callVV (st := []) (As := [.int x5, .int x6]) X (t_M_changesFor (adK := adK) (adV := adV) l D cy b N x0 x5 x6 h5 _ hw) qm_M_changesFor wm_M_408 wi_M_changesFor wl_M_changesFor qcls12 g7 rfl rfl rfl ⟨Nat.le_of_ble_eq_true rfl, Nat.le_of_ble_eq_true rfl⟩ ⟨Nat.le_refl 0, Nat.le_refl 0⟩ (Nat.le_of_ble_eq_true rfl) rfl d_M_swap_82 (fun h8 hw => ?_)
        refine qx_iload_n (x := x2) X d_M_swap_85 rfl 2 rfl ?_
        refine qx_aload_n (x := x0) X d_M_swap_86 rfl 0 rfl ?_
        obtain ⟨g9, hw⟩ := hw
        refine qx_callVI (st := [.int x2]) (As := []) X (t_M_costsAll (adK := adK) (adV := adV) l D cy b N x0 h8 _ hw) qm_M_costsAll wm_M_454 wi_M_costsAll wl_M_costsAll qcls12 g9 rfl rfl rfl ⟨Nat.le_of_ble_eq_true rfl, Nat.le_of_ble_eq_true rfl⟩ ⟨Nat.le_refl 0, Nat.le_refl 0⟩ (Nat.le_of_ble_eq_true rfl) rfl d_M_swap_87 (fun r10 h11 hw => ?_)
        refine qx_isub X d_M_swap_90 ?_
        refine qx_topi (fun y12 ey12 => ?_)
        have hw := hw y12 ey12
        refine qx_istore (L' := [(7, .inl y12), (0, .inr (.inr (.inl x0))), (1, .inl x1), (2, .inl x2), (3, .inl x3), (4, .inl x4), (5, .inl x5), (6, .inl x6)]) X d_M_swap_91 (by decide) rfl ?_
        refine qx_iload (x := y12) X d_M_swap_93 0 rfl ?_
        refine qx_iload (x := x4) X d_M_swap_95 5 rfl ?_
        refine qx_icmp_gt X 103 d_M_swap_97 (by decide) (fun q13 => ?_) (fun q13 => ?_)
        · have hw := hw.1 q13
          refine qx_bipush (v := (10 : Int32)) X d_M_swap_103 (by decide) ?_
          refine qx_iload (x := x5) X d_M_swap_105 6 rfl ?_
          refine qx_imul X d_M_swap_107 ?_
          refine qx_iload (x := x6) X d_M_swap_108 7 rfl ?_
          refine qx_iadd X d_M_swap_110 ?_
          refine qx_topi (fun y14 ey14 => ?_)
          have hw := hw y14 ey14
          refine qx_istore_n (L' := [(3, .inl y14), (7, .inl y12), (0, .inr (.inr (.inl x0))), (1, .inl x1), (2, .inl x2), (4, .inl x4), (5, .inl x5), (6, .inl x6)]) X d_M_swap_111 rfl (by decide) rfl ?_
          refine qx_iload (x := y12) X d_M_swap_112 1 rfl ?_
          refine qx_istore (L' := [(4, .inl y12), (3, .inl y14), (7, .inl y12), (0, .inr (.inr (.inl x0))), (1, .inl x1), (2, .inl x2), (5, .inl x5), (6, .inl x6)]) X d_M_swap_114 (by decide) rfl ?_
          refine qx_iinc (v := (x6 + (1 : Int32))) (L' := [(6, .inl (x6 + (1 : Int32))), (4, .inl y12), (3, .inl y14), (7, .inl y12), (0, .inr (.inr (.inl x0))), (1, .inl x1), (2, .inl x2), (5, .inl x5)]) X d_M_swap_116 7 rfl rfl (by decide) rfl ?_
          refine qx_goto X 49 d_M_swap_119 (by decide) ?_
          refine qx_sub [4, 5, 6, 2, 1, 7, 0] rfl ?_
          exact ih x0 x1 x2 y14 y12 x5 (x6 + (1 : Int32)) h11 hw
        · have hw := hw.2 q13
          refine qx_goto X 116 d_M_swap_100 (by decide) ?_
          refine qx_iinc (v := (x6 + (1 : Int32))) (L' := [(6, .inl (x6 + (1 : Int32))), (7, .inl y12), (0, .inr (.inr (.inl x0))), (1, .inl x1), (2, .inl x2), (3, .inl x3), (4, .inl x4), (5, .inl x5)]) X d_M_swap_116 7 rfl rfl (by decide) rfl ?_
          refine qx_goto X 49 d_M_swap_119 (by decide) ?_
          refine qx_sub [2, 3, 4, 5, 6, 7, 0] rfl ?_
          exact ih x0 x1 x2 x3 x4 x5 (x6 + (1 : Int32)) h11 hw
      · have hw := hw.2 q6
        refine qx_goto X 116 d_M_swap_74 (by decide) ?_
        refine qx_iinc (v := (x6 + (1 : Int32))) (L' := [(6, .inl (x6 + (1 : Int32))), (0, .inr (.inr (.inl x0))), (1, .inl x1), (2, .inl x2), (3, .inl x3), (4, .inl x4), (5, .inl x5)]) X d_M_swap_116 6 rfl rfl (by decide) rfl ?_
        refine qx_goto X 49 d_M_swap_119 (by decide) ?_
        refine qx_sub [1, 2, 3, 4, 5, 6, 0] rfl ?_
        exact ih x0 x1 x2 x3 x4 x5 (x6 + (1 : Int32)) h5 hw
set_option maxRecDepth 4000 in
theorem t_M_swap_29 (X : qX p s m args meth c D cy b adK adV prog_14_method_100_code "CoatHangersModel" 8 (some .int) "swap") (N k : Nat) (x0 : Nat) (x1 : Int32) (x2 : Int32) (x3 : Int32) (x4 : Int32) (x5 : Int32) (h : qH) (Q : Int32 → qH → Prop)  (hw : w_M_swap_29 N k x0 x1 x2 x3 x4 x5 h Q ) : qW p l e (qrm 5 0 0 109) s m args below meth c D cy b 8 0 0 (MQ below (qQc D cy b qrI Q) args s 0 0 (qA b)) 29 [(0, .inr (.inr (.inl x0))), (1, .inl x1), (2, .inl x2), (3, .inl x3), (4, .inl x4), (5, .inl x5)] [] h := by
  induction k generalizing x0 x1 x2 x3 x4 x5 h with
  | zero => exact hw.elim
  | succ k ih =>
    refine qx_iload (x := x5) X d_M_swap_29 5 rfl ?_
    refine qx_aload_n (x := x0) X d_M_swap_31 rfl 0 rfl ?_
    obtain ⟨g1, hw⟩ := hw
    refine qx_getR X qcls12 g1 26 (by decide) rfl wf_M_55 d_M_swap_32 ?_
    refine qx_aload_n (x := x0) X d_M_swap_35 rfl 0 rfl ?_
    refine qx_getI X qcls12 g1 18 (by decide) rfl wf_M_245 d_M_swap_36 ?_
    obtain ⟨g2, hw⟩ := hw
    refine qx_ild X g2 d_M_swap_39 ?_
    refine qx_icmp_ge X 128 d_M_swap_40 (by decide) (fun q3 => ?_) (fun q3 => ?_)
    · have hw := hw.1 q3
      refine qx_iload_n (x := x3) X d_M_swap_128 rfl 3 rfl ?_
      refine qx_if_lt X 136 d_M_swap_129 (by decide) (fun q4 => ?_) (fun q4 => ?_)
      · have hw := hw.1 q4
        refine qx_iload_n (x := x3) X d_M_swap_136 rfl 3 rfl ?_
        refine qx_goto X 142 d_M_swap_137 (by decide) ?_
        exact qx_iret X hw (Nat.le_refl 0) (Nat.le_refl 0) rfl d_M_swap_142
      · have hw := hw.2 q4
        refine qx_iload_n (x := x1) X d_M_swap_132 rfl 1 rfl ?_
        refine qx_if_ne X 140 d_M_swap_133 (by decide) (fun q5 => ?_) (fun q5 => ?_)
        · have hw := hw.1 q5
          refine qx_iload (x := x4) X d_M_swap_140 4 rfl ?_
          exact qx_iret X hw (Nat.le_refl 0) (Nat.le_refl 0) rfl d_M_swap_142
        · have hw := hw.2 q5
          refine qx_iload_n (x := x3) X d_M_swap_136 rfl 3 rfl ?_
          refine qx_goto X 142 d_M_swap_137 (by decide) ?_
          exact qx_iret X hw (Nat.le_refl 0) (Nat.le_refl 0) rfl d_M_swap_142
    · have hw := hw.2 q3
      refine qx_iload (x := x5) X d_M_swap_43 5 rfl ?_
      refine qx_iconst (v := (1 : Int32)) X d_M_swap_45 (by decide) ?_
      refine qx_iadd X d_M_swap_46 ?_
      refine qx_topi (fun y6 ey6 => ?_)
      have hw := hw y6 ey6
      refine qx_istore (L' := [(6, .inl y6), (0, .inr (.inr (.inl x0))), (1, .inl x1), (2, .inl x2), (3, .inl x3), (4, .inl x4), (5, .inl x5)]) X d_M_swap_47 (by decide) rfl ?_
      refine qx_sub [1, 2, 3, 4, 5, 6, 0] rfl ?_
      refine t_M_swap_49 X N N x0 x1 x2 x3 x4 x5 y6 h Q _ hw (fun x7 x8 x9 x10 x11 x12 h13 hw => ?_)
      refine qx_iinc (v := (x12 + (1 : Int32))) (L' := [(5, .inl (x12 + (1 : Int32))), (0, .inr (.inr (.inl x7))), (1, .inl x8), (2, .inl x9), (3, .inl x10), (4, .inl x11)]) X d_M_swap_122 5 rfl rfl (by decide) rfl ?_
      refine qx_goto X 29 d_M_swap_125 (by decide) ?_
      refine qx_sub [1, 2, 3, 4, 5, 0] rfl ?_
      exact ih x7 x8 x9 x10 x11 (x12 + (1 : Int32)) h13 hw
set_option maxRecDepth 4000 in
theorem t_M_swap {adK adV : Nat → Nat} (l : Launch) (D : va_G) (cy : Nat → ClassId) (b : Nat) (N : Nat) (x0 : Nat) (x1 : Int32) (h : qH) (Q : Int32 → qH → Prop) (hw : w_M_swap N x0 x1 h Q) : Met l y_M_swap (Cond.code y_M_swap prog_14_method_100_code 8 (some .int) :: qT) (qrm 5 0 0 109) (qPc D cy b adK adV h [qr b x0, .int x1]) (qQc D cy b qrI Q) 0 0 (qA b) := by
  refine qmet (L0 := [(0, .inr (.inr (.inl x0))), (1, .inl x1)]) qm_M_swap (plainFor_of_name (by decide)) [.inr (.inr (.inl x0)), .inl x1] rfl (Nat.le_of_ble_eq_true rfl) rfl (fun p e s m args below meth c X => ?_)
  unfold w_M_swap at hw
  refine qx_iload_n (x := x1) X d_M_swap_0 rfl 1 rfl ?_
  refine qx_iconst (v := (0 : Int32)) X d_M_swap_1 (by decide) ?_
  refine qx_iconst (v := (1 : Int32)) X d_M_swap_2 (by decide) ?_
  refine qx_callSI (st := []) (As := [.int x1, .int (0 : Int32), .int (1 : Int32)]) X (t_M_in (adK := adK) (adV := adV) l D cy b N x1 (0 : Int32) (1 : Int32) h _ hw) qm_M_in wm_M_322 wi_M_in rfl rfl rfl ⟨Nat.le_of_ble_eq_true rfl, Nat.le_of_ble_eq_true rfl⟩ ⟨Nat.le_refl 0, Nat.le_refl 0⟩ (Nat.le_of_ble_eq_true rfl) rfl d_M_swap_3 (fun r1 h2 hw => ?_)
  refine qx_if_ne X 11 d_M_swap_6 (by decide) (fun q3 => ?_) (fun q3 => ?_)
  · have hw := hw.1 q3
    refine qx_aload_n (x := x0) X d_M_swap_11 rfl 0 rfl ?_
    obtain ⟨g4, hw⟩ := hw
    refine qx_callVV (st := []) (As := []) X (t_M_copies (adK := adK) (adV := adV) l D cy b N x0 h2 _ hw) qm_M_copies wm_M_332 wi_M_copies wl_M_copies qcls12 g4 rfl rfl rfl ⟨Nat.le_of_ble_eq_true rfl, Nat.le_of_ble_eq_true rfl⟩ ⟨Nat.le_refl 0, Nat.le_refl 0⟩ (Nat.le_of_ble_eq_true rfl) rfl d_M_swap_12 (fun h5 hw => ?_)
    refine qx_aload_n (x := x0) X d_M_swap_15 rfl 0 rfl ?_
    obtain ⟨g6, hw⟩ := hw
    refine qx_callVI (st := []) (As := []) X (t_M_costsAll (adK := adK) (adV := adV) l D cy b N x0 h5 _ hw) qm_M_costsAll wm_M_454 wi_M_costsAll wl_M_costsAll qcls12 g6 rfl rfl rfl ⟨Nat.le_of_ble_eq_true rfl, Nat.le_of_ble_eq_true rfl⟩ ⟨Nat.le_refl 0, Nat.le_refl 0⟩ (Nat.le_of_ble_eq_true rfl) rfl d_M_swap_16 (fun r7 h8 hw => ?_)
    refine qx_istore_n (L' := [(2, .inl r7), (0, .inr (.inr (.inl x0))), (1, .inl x1)]) X d_M_swap_19 rfl (by decide) rfl ?_
    refine qx_bipush (v := (-2 : Int32)) X d_M_swap_20 (by decide) ?_
    refine qx_istore_n (L' := [(3, .inl (-2 : Int32)), (2, .inl r7), (0, .inr (.inr (.inl x0))), (1, .inl x1)]) X d_M_swap_22 rfl (by decide) rfl ?_
    refine qx_iconst (v := (0 : Int32)) X d_M_swap_23 (by decide) ?_
    refine qx_istore (L' := [(4, .inl (0 : Int32)), (3, .inl (-2 : Int32)), (2, .inl r7), (0, .inr (.inr (.inl x0))), (1, .inl x1)]) X d_M_swap_24 (by decide) rfl ?_
    refine qx_iconst (v := (0 : Int32)) X d_M_swap_26 (by decide) ?_
    refine qx_istore (L' := [(5, .inl (0 : Int32)), (4, .inl (0 : Int32)), (3, .inl (-2 : Int32)), (2, .inl r7), (0, .inr (.inr (.inl x0))), (1, .inl x1)]) X d_M_swap_27 (by decide) rfl ?_
    refine qx_sub [4, 5, 3, 2, 1, 0] rfl ?_
    exact t_M_swap_29 X N N x0 x1 r7 (-2 : Int32) (0 : Int32) (0 : Int32) h8 Q  hw 
  · have hw := hw.2 q3
    refine qx_iconst (v := (-1 : Int32)) X d_M_swap_9 (by decide) ?_
    exact qx_iret X hw (Nat.le_refl 0) (Nat.le_refl 0) rfl d_M_swap_10
set_option maxRecDepth 4000 in
theorem t_M_upright_34 (X : qX p s m args meth c D cy b adK adV prog_14_method_101_code "CoatHangersModel" 5 (some .int) "upright") (N k : Nat) (x0 : Nat) (x2 : Int32) (x3 : Int32) (x4 : Int32) (h : qH) (Q : Int32 → qH → Prop)  (hw : w_M_upright_34 N k x0 x2 x3 x4 h Q ) : qW p l e (qrm 6 0 0 131) s m args below meth c D cy b 5 0 0 (MQ below (qQc D cy b qrI Q) args s 0 0 (qA b)) 34 [(0, .inr (.inr (.inl x0))), (2, .inl x2), (3, .inl x3), (4, .inl x4)] [] h := by
  induction k generalizing x0 x2 x3 x4 h with
  | zero => exact hw.elim
  | succ k ih =>
    refine qx_iload (x := x4) X d_M_upright_34 3 rfl ?_
    refine qx_aload_n (x := x0) X d_M_upright_36 rfl 0 rfl ?_
    obtain ⟨g1, hw⟩ := hw
    refine qx_getR X qcls12 g1 26 (by decide) rfl wf_M_55 d_M_upright_37 ?_
    refine qx_aload_n (x := x0) X d_M_upright_40 rfl 0 rfl ?_
    refine qx_getI X qcls12 g1 18 (by decide) rfl wf_M_245 d_M_upright_41 ?_
    obtain ⟨g2, hw⟩ := hw
    refine qx_ild X g2 d_M_upright_44 ?_
    refine qx_icmp_ge X 75 d_M_upright_45 (by decide) (fun q3 => ?_) (fun q3 => ?_)
    · have hw := hw.1 q3
      refine qx_iload_n (x := x3) X d_M_upright_75 rfl 2 rfl ?_
      exact qx_iret X hw (Nat.le_refl 0) (Nat.le_refl 0) rfl d_M_upright_76
    · have hw := hw.2 q3
      refine qx_aload_n (x := x0) X d_M_upright_48 rfl 0 rfl ?_
      refine qx_getR X qcls12 g1 50 (by decide) rfl wf_M_116 d_M_upright_49 ?_
      refine qx_bipush (v := (18 : Int32)) X d_M_upright_52 (by decide) ?_
      refine qx_iload (x := x4) X d_M_upright_54 3 rfl ?_
      refine qx_iadd X d_M_upright_56 ?_
      obtain ⟨g4, hw⟩ := hw
      refine qx_ild X g4 d_M_upright_57 ?_
      refine qx_iload_n (x := x2) X d_M_upright_58 rfl 1 rfl ?_
      refine qx_icmp_ge X 69 d_M_upright_59 (by decide) (fun q5 => ?_) (fun q5 => ?_)
      · have hw := hw.1 q5
        refine qx_iinc (v := (x4 + (1 : Int32))) (L' := [(4, .inl (x4 + (1 : Int32))), (0, .inr (.inr (.inl x0))), (2, .inl x2), (3, .inl x3)]) X d_M_upright_69 3 rfl rfl (by decide) rfl ?_
        refine qx_goto X 34 d_M_upright_72 (by decide) ?_
        refine qx_sub [1, 2, 3, 0] rfl ?_
        exact ih x0 x2 x3 (x4 + (1 : Int32)) h hw
      · have hw := hw.2 q5
        refine qx_iload_n (x := x3) X d_M_upright_62 rfl 2 rfl ?_
        refine qx_iconst (v := (1 : Int32)) X d_M_upright_63 (by decide) ?_
        refine qx_iload (x := x4) X d_M_upright_64 3 rfl ?_
        refine qx_ishl X d_M_upright_66 ?_
        refine qx_ior X d_M_upright_67 ?_
        refine qx_topi (fun y6 ey6 => ?_)
        have hw := hw y6 ey6
        refine qx_istore_n (L' := [(3, .inl y6), (0, .inr (.inr (.inl x0))), (2, .inl x2), (4, .inl x4)]) X d_M_upright_68 rfl (by decide) rfl ?_
        refine qx_iinc (v := (x4 + (1 : Int32))) (L' := [(4, .inl (x4 + (1 : Int32))), (3, .inl y6), (0, .inr (.inr (.inl x0))), (2, .inl x2)]) X d_M_upright_69 3 rfl rfl (by decide) rfl ?_
        refine qx_goto X 34 d_M_upright_72 (by decide) ?_
        refine qx_sub [2, 3, 1, 0] rfl ?_
        exact ih x0 x2 y6 (x4 + (1 : Int32)) h hw
set_option maxRecDepth 4000 in
theorem t_M_upright {adK adV : Nat → Nat} (l : Launch) (D : va_G) (cy : Nat → ClassId) (b : Nat) (N : Nat) (x0 : Nat) (x1 : Int32) (x2 : Int32) (h : qH) (Q : Int32 → qH → Prop) (hw : w_M_upright N x0 x1 x2 h Q) : Met l y_M_upright (Cond.code y_M_upright prog_14_method_101_code 5 (some .int) :: qT) (qrm 6 0 0 131) (qPc D cy b adK adV h [qr b x0, .int x1, .int x2]) (qQc D cy b qrI Q) 0 0 (qA b) := by
  refine qmet (L0 := [(0, .inr (.inr (.inl x0))), (1, .inl x1), (2, .inl x2)]) qm_M_upright (plainFor_of_name (by decide)) [.inr (.inr (.inl x0)), .inl x1, .inl x2] rfl (Nat.le_of_ble_eq_true rfl) rfl (fun p e s m args below meth c X => ?_)
  unfold w_M_upright at hw
  refine qx_iload_n (x := x1) X d_M_upright_0 rfl 1 rfl ?_
  refine qx_callSI (st := []) (As := [.int x1]) X (t_M_isLong (adK := adK) (adV := adV) l D cy b N x1 h _ hw) qm_M_isLong wm_M_411 wi_M_isLong rfl rfl rfl ⟨Nat.le_of_ble_eq_true rfl, Nat.le_of_ble_eq_true rfl⟩ ⟨Nat.le_refl 0, Nat.le_refl 0⟩ (Nat.le_of_ble_eq_true rfl) rfl d_M_upright_1 (fun r1 h2 hw => ?_)
  refine qx_if_eq X 18 d_M_upright_4 (by decide) (fun q3 => ?_) (fun q3 => ?_)
  · have hw := hw.1 q3
    refine qx_iconst (v := (-1 : Int32)) X d_M_upright_18 (by decide) ?_
    exact qx_iret X hw (Nat.le_refl 0) (Nat.le_refl 0) rfl d_M_upright_19
  · have hw := hw.2 q3
    refine qx_iload_n (x := x2) X d_M_upright_7 rfl 2 rfl ?_
    refine qx_iconst (v := (1 : Int32)) X d_M_upright_8 (by decide) ?_
    refine qx_sipush (v := (999 : Int32)) X d_M_upright_9 (by decide) ?_
    refine qx_callSI (st := []) (As := [.int x2, .int (1 : Int32), .int (999 : Int32)]) X (t_M_in (adK := adK) (adV := adV) l D cy b N x2 (1 : Int32) (999 : Int32) h2 _ hw) qm_M_in wm_M_322 wi_M_in rfl rfl rfl ⟨Nat.le_of_ble_eq_true rfl, Nat.le_of_ble_eq_true rfl⟩ ⟨Nat.le_refl 0, Nat.le_refl 0⟩ (Nat.le_of_ble_eq_true rfl) rfl d_M_upright_12 (fun r4 h5 hw => ?_)
    refine qx_if_ne X 20 d_M_upright_15 (by decide) (fun q6 => ?_) (fun q6 => ?_)
    · have hw := hw.1 q6
      refine qx_aload_n (x := x0) X d_M_upright_20 rfl 0 rfl ?_
      obtain ⟨g7, hw⟩ := hw
      refine qx_callVV (st := []) (As := []) X (t_M_copiesStill (adK := adK) (adV := adV) l D cy b N x0 h5 _ hw) qm_M_copiesStill wm_M_401 wi_M_copiesStill wl_M_copiesStill qcls12 g7 rfl rfl rfl ⟨Nat.le_of_ble_eq_true rfl, Nat.le_of_ble_eq_true rfl⟩ ⟨Nat.le_refl 0, Nat.le_refl 0⟩ (Nat.le_of_ble_eq_true rfl) rfl d_M_upright_21 (fun h8 hw => ?_)
      refine qx_aload_n (x := x0) X d_M_upright_24 rfl 0 rfl ?_
      refine qx_iload_n (x := x1) X d_M_upright_25 rfl 1 rfl ?_
      obtain ⟨g9, hw⟩ := hw
      refine qx_callVV (st := []) (As := [.int x1]) X (t_M_goes (adK := adK) (adV := adV) l D cy b N x0 x1 h8 _ hw) qm_M_goes wm_M_414 wi_M_goes wl_M_goes qcls12 g9 rfl rfl rfl ⟨Nat.le_of_ble_eq_true rfl, Nat.le_of_ble_eq_true rfl⟩ ⟨Nat.le_refl 0, Nat.le_refl 0⟩ (Nat.le_of_ble_eq_true rfl) rfl d_M_upright_26 (fun h10 hw => ?_)
      refine qx_iconst (v := (0 : Int32)) X d_M_upright_29 (by decide) ?_
      refine qx_istore_n (L' := [(3, .inl (0 : Int32)), (0, .inr (.inr (.inl x0))), (1, .inl x1), (2, .inl x2)]) X d_M_upright_30 rfl (by decide) rfl ?_
      refine qx_iconst (v := (0 : Int32)) X d_M_upright_31 (by decide) ?_
      refine qx_istore (L' := [(4, .inl (0 : Int32)), (3, .inl (0 : Int32)), (0, .inr (.inr (.inl x0))), (1, .inl x1), (2, .inl x2)]) X d_M_upright_32 (by decide) rfl ?_
      refine qx_sub [2, 4, 1, 0] rfl ?_
      exact t_M_upright_34 X N N x0 x2 (0 : Int32) (0 : Int32) h10 Q  hw 
    · have hw := hw.2 q6
      refine qx_iconst (v := (-1 : Int32)) X d_M_upright_18 (by decide) ?_
      exact qx_iret X hw (Nat.le_refl 0) (Nat.le_refl 0) rfl d_M_upright_19
set_option maxRecDepth 4000 in
theorem t_M_free_20 (X : qX p s m args meth c D cy b adK adV prog_14_method_102_code "CoatHangersModel" 4 (some .int) "free") (N k : Nat) (x0 : Nat) (x1 : Int32) (x2 : Int32) (x3 : Int32) (h : qH) (Q : Int32 → qH → Prop) (K84 : Nat → Int32 → Int32 → qH → Prop) (hw : w_M_free_20 N k x0 x1 x2 x3 h Q K84) (hK84 : ∀ (x0 : Nat) (x1 : Int32) (x2 : Int32) (h : qH), K84 x0 x1 x2 h → qW p l e (qrm 1 0 0 22) s m args below meth c D cy b 4 0 0 (MQ below (qQc D cy b qrI Q) args s 0 0 (qA b)) 84 [(0, .inr (.inr (.inl x0))), (1, .inl x1), (2, .inl x2)] [] h) : qW p l e (qrm 1 0 0 22) s m args below meth c D cy b 4 0 0 (MQ below (qQc D cy b qrI Q) args s 0 0 (qA b)) 20 [(0, .inr (.inr (.inl x0))), (1, .inl x1), (2, .inl x2), (3, .inl x3)] [] h := by
  induction k generalizing x0 x1 x2 x3 h with
  | zero => exact hw.elim
  | succ k ih =>
    refine qx_iload_n (x := x3) X d_M_free_20 rfl 3 rfl ?_
    refine qx_aload_n (x := x0) X d_M_free_21 rfl 0 rfl ?_
    obtain ⟨g1, hw⟩ := hw
    refine qx_getR X qcls12 g1 23 (by decide) rfl wf_M_46 d_M_free_22 ?_
    refine qx_aload_n (x := x0) X d_M_free_25 rfl 0 rfl ?_
    refine qx_getI X qcls12 g1 18 (by decide) rfl wf_M_245 d_M_free_26 ?_
    obtain ⟨g2, hw⟩ := hw
    refine qx_ild X g2 d_M_free_29 ?_
    refine qx_icmp_ge X 84 d_M_free_30 (by decide) (fun q3 => ?_) (fun q3 => ?_)
    · have hw := hw.1 q3
      refine qx_sub [0, 1, 2] rfl ?_
      exact hK84 x0 x1 x2 h hw
    · have hw := hw.2 q3
      refine qx_aload_n (x := x0) X d_M_free_33 rfl 0 rfl ?_
      refine qx_iload_n (x := x3) X d_M_free_34 rfl 3 rfl ?_
      refine qx_callVI (st := []) (As := [.int x3]) X (t_M_whoIsOn (adK := adK) (adV := adV) l D cy b N x0 x3 h _ hw) qm_M_whoIsOn wm_M_389 wi_M_whoIsOn wl_M_whoIsOn qcls12 g1 rfl rfl rfl ⟨Nat.le_of_ble_eq_true rfl, Nat.le_of_ble_eq_true rfl⟩ ⟨Nat.le_refl 0, Nat.le_refl 0⟩ (Nat.le_of_ble_eq_true rfl) rfl d_M_free_35 (fun r4 h5 hw => ?_)
      refine qx_if_ge X 78 d_M_free_38 (by decide) (fun q6 => ?_) (fun q6 => ?_)
      · have hw := hw.1 q6
        refine qx_iinc (v := (x3 + (1 : Int32))) (L' := [(3, .inl (x3 + (1 : Int32))), (0, .inr (.inr (.inl x0))), (1, .inl x1), (2, .inl x2)]) X d_M_free_78 3 rfl rfl (by decide) rfl ?_
        refine qx_goto X 20 d_M_free_81 (by decide) ?_
        refine qx_sub [1, 2, 3, 0] rfl ?_
        exact ih x0 x1 x2 (x3 + (1 : Int32)) h5 hw
      · have hw := hw.2 q6
        refine qx_iload_n (x := x2) X d_M_free_41 rfl 2 rfl ?_
        refine qx_if_lt X 76 d_M_free_42 (by decide) (fun q7 => ?_) (fun q7 => ?_)
        · have hw := hw.1 q7
          refine qx_iload_n (x := x3) X d_M_free_76 rfl 3 rfl ?_
          refine qx_istore_n (L' := [(2, .inl x3), (0, .inr (.inr (.inl x0))), (1, .inl x1), (3, .inl x3)]) X d_M_free_77 rfl (by decide) rfl ?_
          refine qx_iinc (v := (x3 + (1 : Int32))) (L' := [(3, .inl (x3 + (1 : Int32))), (2, .inl x3), (0, .inr (.inr (.inl x0))), (1, .inl x1)]) X d_M_free_78 3 rfl rfl (by decide) rfl ?_
          refine qx_goto X 20 d_M_free_81 (by decide) ?_
          refine qx_sub [2, 3, 1, 0] rfl ?_
          exact ih x0 x1 x3 (x3 + (1 : Int32)) h5 hw
        · have hw := hw.2 q7
          refine qx_aload_n (x := x0) X d_M_free_45 rfl 0 rfl ?_
          obtain ⟨g8, hw⟩ := hw
          refine qx_getR X qcls12 g8 25 (by decide) rfl wf_M_52 d_M_free_46 ?_
          refine qx_bipush (v := (7 : Int32)) X d_M_free_49 (by decide) ?_
          refine qx_aload_n (x := x0) X d_M_free_51 rfl 0 rfl ?_
          refine qx_getI X qcls12 g8 18 (by decide) rfl wf_M_245 d_M_free_52 ?_
          refine qx_imul X d_M_free_55 ?_
          refine qx_iload_n (x := x3) X d_M_free_56 rfl 3 rfl ?_
          refine qx_iadd X d_M_free_57 ?_
          obtain ⟨g9, hw⟩ := hw
          refine qx_ild X g9 d_M_free_58 ?_
          refine qx_aload_n (x := x0) X d_M_free_59 rfl 0 rfl ?_
          refine qx_getR X qcls12 g8 25 (by decide) rfl wf_M_52 d_M_free_60 ?_
          refine qx_bipush (v := (7 : Int32)) X d_M_free_63 (by decide) ?_
          refine qx_aload_n (x := x0) X d_M_free_65 rfl 0 rfl ?_
          refine qx_getI X qcls12 g8 18 (by decide) rfl wf_M_245 d_M_free_66 ?_
          refine qx_imul X d_M_free_69 ?_
          refine qx_iload_n (x := x2) X d_M_free_70 rfl 2 rfl ?_
          refine qx_iadd X d_M_free_71 ?_
          obtain ⟨g10, hw⟩ := hw
          refine qx_ild X g10 d_M_free_72 ?_
          refine qx_icmp_le X 78 d_M_free_73 (by decide) (fun q11 => ?_) (fun q11 => ?_)
          · have hw := hw.1 q11
            refine qx_iinc (v := (x3 + (1 : Int32))) (L' := [(3, .inl (x3 + (1 : Int32))), (0, .inr (.inr (.inl x0))), (1, .inl x1), (2, .inl x2)]) X d_M_free_78 3 rfl rfl (by decide) rfl ?_
            refine qx_goto X 20 d_M_free_81 (by decide) ?_
            refine qx_sub [1, 2, 3, 0] rfl ?_
            exact ih x0 x1 x2 (x3 + (1 : Int32)) h5 hw
          · have hw := hw.2 q11
            refine qx_iload_n (x := x3) X d_M_free_76 rfl 3 rfl ?_
            refine qx_istore_n (L' := [(2, .inl x3), (0, .inr (.inr (.inl x0))), (1, .inl x1), (3, .inl x3)]) X d_M_free_77 rfl (by decide) rfl ?_
            refine qx_iinc (v := (x3 + (1 : Int32))) (L' := [(3, .inl (x3 + (1 : Int32))), (2, .inl x3), (0, .inr (.inr (.inl x0))), (1, .inl x1)]) X d_M_free_78 3 rfl rfl (by decide) rfl ?_
            refine qx_goto X 20 d_M_free_81 (by decide) ?_
            refine qx_sub [2, 3, 1, 0] rfl ?_
            exact ih x0 x1 x3 (x3 + (1 : Int32)) h5 hw
set_option maxRecDepth 4000 in
theorem t_M_free {adK adV : Nat → Nat} (l : Launch) (D : va_G) (cy : Nat → ClassId) (b : Nat) (N : Nat) (x0 : Nat) (x1 : Int32) (h : qH) (Q : Int32 → qH → Prop) (hw : w_M_free N x0 x1 h Q) : Met l y_M_free (Cond.code y_M_free prog_14_method_102_code 4 (some .int) :: qT) (qrm 1 0 0 22) (qPc D cy b adK adV h [qr b x0, .int x1]) (qQc D cy b qrI Q) 0 0 (qA b) := by
  refine qmet (L0 := [(0, .inr (.inr (.inl x0))), (1, .inl x1)]) qm_M_free (plainFor_of_name (by decide)) [.inr (.inr (.inl x0)), .inl x1] rfl (Nat.le_of_ble_eq_true rfl) rfl (fun p e s m args below meth c X => ?_)
  unfold w_M_free at hw
  refine qx_iload_n (x := x1) X d_M_free_0 rfl 1 rfl ?_
  refine qx_iconst (v := (0 : Int32)) X d_M_free_1 (by decide) ?_
  refine qx_iconst (v := (1 : Int32)) X d_M_free_2 (by decide) ?_
  refine qx_callSI (st := []) (As := [.int x1, .int (0 : Int32), .int (1 : Int32)]) X (t_M_in (adK := adK) (adV := adV) l D cy b N x1 (0 : Int32) (1 : Int32) h _ hw) qm_M_in wm_M_322 wi_M_in rfl rfl rfl ⟨Nat.le_of_ble_eq_true rfl, Nat.le_of_ble_eq_true rfl⟩ ⟨Nat.le_refl 0, Nat.le_refl 0⟩ (Nat.le_of_ble_eq_true rfl) rfl d_M_free_3 (fun r1 h2 hw => ?_)
  refine qx_if_ne X 11 d_M_free_6 (by decide) (fun q3 => ?_) (fun q3 => ?_)
  · have hw := hw.1 q3
    refine qx_aload_n (x := x0) X d_M_free_11 rfl 0 rfl ?_
    obtain ⟨g4, hw⟩ := hw
    refine qx_callVV (st := []) (As := []) X (t_M_copies (adK := adK) (adV := adV) l D cy b N x0 h2 _ hw) qm_M_copies wm_M_332 wi_M_copies wl_M_copies qcls12 g4 rfl rfl rfl ⟨Nat.le_of_ble_eq_true rfl, Nat.le_of_ble_eq_true rfl⟩ ⟨Nat.le_refl 0, Nat.le_refl 0⟩ (Nat.le_of_ble_eq_true rfl) rfl d_M_free_12 (fun h5 hw => ?_)
    refine qx_bipush (v := (-2 : Int32)) X d_M_free_15 (by decide) ?_
    refine qx_istore_n (L' := [(2, .inl (-2 : Int32)), (0, .inr (.inr (.inl x0))), (1, .inl x1)]) X d_M_free_17 rfl (by decide) rfl ?_
    refine qx_iconst (v := (0 : Int32)) X d_M_free_18 (by decide) ?_
    refine qx_istore_n (L' := [(3, .inl (0 : Int32)), (2, .inl (-2 : Int32)), (0, .inr (.inr (.inl x0))), (1, .inl x1)]) X d_M_free_19 rfl (by decide) rfl ?_
    refine qx_sub [2, 3, 1, 0] rfl ?_
    refine t_M_free_20 X N N x0 x1 (-2 : Int32) (0 : Int32) h5 Q _ hw (fun x6 x7 x8 h9 hw => ?_)
    refine qx_iload_n (x := x8) X d_M_free_84 rfl 2 rfl ?_
    refine qx_if_lt X 92 d_M_free_85 (by decide) (fun q10 => ?_) (fun q10 => ?_)
    · have hw := hw.1 q10
      refine qx_iload_n (x := x8) X d_M_free_92 rfl 2 rfl ?_
      refine qx_goto X 110 d_M_free_93 (by decide) ?_
      exact qx_iret X hw (Nat.le_refl 0) (Nat.le_refl 0) rfl d_M_free_110
    · have hw := hw.2 q10
      refine qx_iload_n (x := x7) X d_M_free_88 rfl 1 rfl ?_
      refine qx_if_ne X 96 d_M_free_89 (by decide) (fun q11 => ?_) (fun q11 => ?_)
      · have hw := hw.1 q11
        refine qx_aload_n (x := x6) X d_M_free_96 rfl 0 rfl ?_
        obtain ⟨g12, hw⟩ := hw
        refine qx_getR X qcls12 g12 25 (by decide) rfl wf_M_52 d_M_free_97 ?_
        refine qx_bipush (v := (7 : Int32)) X d_M_free_100 (by decide) ?_
        refine qx_aload_n (x := x6) X d_M_free_102 rfl 0 rfl ?_
        refine qx_getI X qcls12 g12 18 (by decide) rfl wf_M_245 d_M_free_103 ?_
        refine qx_imul X d_M_free_106 ?_
        refine qx_iload_n (x := x8) X d_M_free_107 rfl 2 rfl ?_
        refine qx_iadd X d_M_free_108 ?_
        obtain ⟨g13, hw⟩ := hw
        refine qx_ild X g13 d_M_free_109 ?_
        exact qx_iret X hw (Nat.le_refl 0) (Nat.le_refl 0) rfl d_M_free_110
      · have hw := hw.2 q11
        refine qx_iload_n (x := x8) X d_M_free_92 rfl 2 rfl ?_
        refine qx_goto X 110 d_M_free_93 (by decide) ?_
        exact qx_iret X hw (Nat.le_refl 0) (Nat.le_refl 0) rfl d_M_free_110
  · have hw := hw.2 q3
    refine qx_iconst (v := (-1 : Int32)) X d_M_free_9 (by decide) ?_
    exact qx_iret X hw (Nat.le_refl 0) (Nat.le_refl 0) rfl d_M_free_10
set_option maxRecDepth 4000 in
theorem t_M_then {adK adV : Nat → Nat} (l : Launch) (D : va_G) (cy : Nat → ClassId) (b : Nat) (N : Nat) (x0 : Nat) (x1 : Int32) (x2 : Int32) (x3 : Int32) (h : qH) (Q : Int32 → qH → Prop) (hw : w_M_then N x0 x1 x2 x3 h Q) : Met l y_M_then (Cond.code y_M_then prog_14_method_103_code 4 (some .int) :: qT) (qrm 6 0 0 131) (qPc D cy b adK adV h [qr b x0, .int x1, .int x2, .int x3]) (qQc D cy b qrI Q) 0 0 (qA b) := by
  refine qmet (L0 := [(0, .inr (.inr (.inl x0))), (1, .inl x1), (2, .inl x2), (3, .inl x3)]) qm_M_then (plainFor_of_name (by decide)) [.inr (.inr (.inl x0)), .inl x1, .inl x2, .inl x3] rfl (Nat.le_of_ble_eq_true rfl) rfl (fun p e s m args below meth c X => ?_)
  unfold w_M_then at hw
  refine qx_aload_n (x := x0) X d_M_then_0 rfl 0 rfl ?_
  refine qx_iload_n (x := x1) X d_M_then_1 rfl 1 rfl ?_
  obtain ⟨g1, hw⟩ := hw
  refine qx_callVI (st := []) (As := [.int x1]) X (t_M_isPerson (adK := adK) (adV := adV) l D cy b N x0 x1 h _ hw) qm_M_isPerson wm_M_392 wi_M_isPerson wl_M_isPerson qcls12 g1 rfl rfl rfl ⟨Nat.le_of_ble_eq_true rfl, Nat.le_of_ble_eq_true rfl⟩ ⟨Nat.le_refl 0, Nat.le_refl 0⟩ (Nat.le_of_ble_eq_true rfl) rfl d_M_then_2 (fun r2 h3 hw => ?_)
  refine qx_if_eq X 24 d_M_then_5 (by decide) (fun q4 => ?_) (fun q4 => ?_)
  · have hw := hw.1 q4
    refine qx_iconst (v := (-1 : Int32)) X d_M_then_24 (by decide) ?_
    exact qx_iret X hw (Nat.le_refl 0) (Nat.le_refl 0) rfl d_M_then_25
  · have hw := hw.2 q4
    refine qx_iload_n (x := x2) X d_M_then_8 rfl 2 rfl ?_
    refine qx_callSI (st := []) (As := [.int x2]) X (t_M_isLong (adK := adK) (adV := adV) l D cy b N x2 h3 _ hw) qm_M_isLong wm_M_411 wi_M_isLong rfl rfl rfl ⟨Nat.le_of_ble_eq_true rfl, Nat.le_of_ble_eq_true rfl⟩ ⟨Nat.le_refl 0, Nat.le_refl 0⟩ (Nat.le_of_ble_eq_true rfl) rfl d_M_then_9 (fun r5 h6 hw => ?_)
    refine qx_if_eq X 24 d_M_then_12 (by decide) (fun q7 => ?_) (fun q7 => ?_)
    · have hw := hw.1 q7
      refine qx_iconst (v := (-1 : Int32)) X d_M_then_24 (by decide) ?_
      exact qx_iret X hw (Nat.le_refl 0) (Nat.le_refl 0) rfl d_M_then_25
    · have hw := hw.2 q7
      refine qx_iload_n (x := x3) X d_M_then_15 rfl 3 rfl ?_
      refine qx_iconst (v := (0 : Int32)) X d_M_then_16 (by decide) ?_
      refine qx_iconst (v := (2 : Int32)) X d_M_then_17 (by decide) ?_
      refine qx_callSI (st := []) (As := [.int x3, .int (0 : Int32), .int (2 : Int32)]) X (t_M_in (adK := adK) (adV := adV) l D cy b N x3 (0 : Int32) (2 : Int32) h6 _ hw) qm_M_in wm_M_322 wi_M_in rfl rfl rfl ⟨Nat.le_of_ble_eq_true rfl, Nat.le_of_ble_eq_true rfl⟩ ⟨Nat.le_refl 0, Nat.le_refl 0⟩ (Nat.le_of_ble_eq_true rfl) rfl d_M_then_18 (fun r8 h9 hw => ?_)
      refine qx_if_ne X 26 d_M_then_21 (by decide) (fun q10 => ?_) (fun q10 => ?_)
      · have hw := hw.1 q10
        refine qx_aload_n (x := x0) X d_M_then_26 rfl 0 rfl ?_
        obtain ⟨g11, hw⟩ := hw
        refine qx_callVV (st := []) (As := []) X (t_M_copies (adK := adK) (adV := adV) l D cy b N x0 h9 _ hw) qm_M_copies wm_M_332 wi_M_copies wl_M_copies qcls12 g11 rfl rfl rfl ⟨Nat.le_of_ble_eq_true rfl, Nat.le_of_ble_eq_true rfl⟩ ⟨Nat.le_refl 0, Nat.le_refl 0⟩ (Nat.le_of_ble_eq_true rfl) rfl d_M_then_27 (fun h12 hw => ?_)
        refine qx_aload_n (x := x0) X d_M_then_30 rfl 0 rfl ?_
        refine qx_iload_n (x := x2) X d_M_then_31 rfl 2 rfl ?_
        obtain ⟨g13, hw⟩ := hw
        refine qx_callVV (st := []) (As := [.int x2]) X (t_M_goes (adK := adK) (adV := adV) l D cy b N x0 x2 h12 _ hw) qm_M_goes wm_M_414 wi_M_goes wl_M_goes qcls12 g13 rfl rfl rfl ⟨Nat.le_of_ble_eq_true rfl, Nat.le_of_ble_eq_true rfl⟩ ⟨Nat.le_refl 0, Nat.le_refl 0⟩ (Nat.le_of_ble_eq_true rfl) rfl d_M_then_32 (fun h14 hw => ?_)
        refine qx_iload_n (x := x3) X d_M_then_35 rfl 3 rfl ?_
        refine qx_if_ne X 51 d_M_then_36 (by decide) (fun q15 => ?_) (fun q15 => ?_)
        · have hw := hw.1 q15
          refine qx_iload_n (x := x3) X d_M_then_51 rfl 3 rfl ?_
          refine qx_iconst (v := (1 : Int32)) X d_M_then_52 (by decide) ?_
          refine qx_icmp_ne X 68 d_M_then_53 (by decide) (fun q16 => ?_) (fun q16 => ?_)
          · have hw := hw.1 q16
            refine qx_aload_n (x := x0) X d_M_then_68 rfl 0 rfl ?_
            obtain ⟨g17, hw⟩ := hw
            refine qx_getR X qcls12 g17 50 (by decide) rfl wf_M_116 d_M_then_69 ?_
            refine qx_bipush (v := (6 : Int32)) X d_M_then_72 (by decide) ?_
            refine qx_iload_n (x := x1) X d_M_then_74 rfl 1 rfl ?_
            refine qx_iadd X d_M_then_75 ?_
            obtain ⟨g18, hw⟩ := hw
            refine qx_ild X g18 d_M_then_76 ?_
            exact qx_iret X hw (Nat.le_refl 0) (Nat.le_refl 0) rfl d_M_then_77
          · have hw := hw.2 q16
            refine qx_aload_n (x := x0) X d_M_then_56 rfl 0 rfl ?_
            obtain ⟨g19, hw⟩ := hw
            refine qx_getR X qcls12 g19 50 (by decide) rfl wf_M_116 d_M_then_57 ?_
            refine qx_bipush (v := (18 : Int32)) X d_M_then_60 (by decide) ?_
            refine qx_iload_n (x := x1) X d_M_then_62 rfl 1 rfl ?_
            refine qx_iadd X d_M_then_63 ?_
            obtain ⟨g20, hw⟩ := hw
            refine qx_ild X g20 d_M_then_64 ?_
            refine qx_goto X 77 d_M_then_65 (by decide) ?_
            exact qx_iret X hw (Nat.le_refl 0) (Nat.le_refl 0) rfl d_M_then_77
        · have hw := hw.2 q15
          refine qx_aload_n (x := x0) X d_M_then_39 rfl 0 rfl ?_
          obtain ⟨g21, hw⟩ := hw
          refine qx_getR X qcls12 g21 50 (by decide) rfl wf_M_116 d_M_then_40 ?_
          refine qx_bipush (v := (12 : Int32)) X d_M_then_43 (by decide) ?_
          refine qx_iload_n (x := x1) X d_M_then_45 rfl 1 rfl ?_
          refine qx_iadd X d_M_then_46 ?_
          obtain ⟨g22, hw⟩ := hw
          refine qx_ild X g22 d_M_then_47 ?_
          refine qx_goto X 77 d_M_then_48 (by decide) ?_
          exact qx_iret X hw (Nat.le_refl 0) (Nat.le_refl 0) rfl d_M_then_77
      · have hw := hw.2 q10
        refine qx_iconst (v := (-1 : Int32)) X d_M_then_24 (by decide) ?_
        exact qx_iret X hw (Nat.le_refl 0) (Nat.le_refl 0) rfl d_M_then_25
set_option maxRecDepth 4000 in
theorem t_M_bentIn {adK adV : Nat → Nat} (l : Launch) (D : va_G) (cy : Nat → ClassId) (b : Nat) (N : Nat) (x0 : Nat) (x1 : Int32) (x2 : Int32) (h : qH) (Q : Int32 → qH → Prop) (hw : w_M_bentIn N x0 x1 x2 h Q) : Met l y_M_bentIn (Cond.code y_M_bentIn prog_14_method_104_code 3 (some .int) :: qT) (qrm 6 0 0 131) (qPc D cy b adK adV h [qr b x0, .int x1, .int x2]) (qQc D cy b qrI Q) 0 0 (qA b) := by
  refine qmet (L0 := [(0, .inr (.inr (.inl x0))), (1, .inl x1), (2, .inl x2)]) qm_M_bentIn (plainFor_of_name (by decide)) [.inr (.inr (.inl x0)), .inl x1, .inl x2] rfl (Nat.le_of_ble_eq_true rfl) rfl (fun p e s m args below meth c X => ?_)
  unfold w_M_bentIn at hw
  refine qx_aload_n (x := x0) X d_M_bentIn_0 rfl 0 rfl ?_
  refine qx_iload_n (x := x1) X d_M_bentIn_1 rfl 1 rfl ?_
  obtain ⟨g1, hw⟩ := hw
  refine qx_callVI (st := []) (As := [.int x1]) X (t_M_isHanger (adK := adK) (adV := adV) l D cy b N x0 x1 h _ hw) qm_M_isHanger wm_M_386 wi_M_isHanger wl_M_isHanger qcls12 g1 rfl rfl rfl ⟨Nat.le_of_ble_eq_true rfl, Nat.le_of_ble_eq_true rfl⟩ ⟨Nat.le_refl 0, Nat.le_refl 0⟩ (Nat.le_of_ble_eq_true rfl) rfl d_M_bentIn_2 (fun r2 h3 hw => ?_)
  refine qx_if_eq X 15 d_M_bentIn_5 (by decide) (fun q4 => ?_) (fun q4 => ?_)
  · have hw := hw.1 q4
    refine qx_iconst (v := (-1 : Int32)) X d_M_bentIn_15 (by decide) ?_
    exact qx_iret X hw (Nat.le_refl 0) (Nat.le_refl 0) rfl d_M_bentIn_16
  · have hw := hw.2 q4
    refine qx_iload_n (x := x2) X d_M_bentIn_8 rfl 2 rfl ?_
    refine qx_callSI (st := []) (As := [.int x2]) X (t_M_isLong (adK := adK) (adV := adV) l D cy b N x2 h3 _ hw) qm_M_isLong wm_M_411 wi_M_isLong rfl rfl rfl ⟨Nat.le_of_ble_eq_true rfl, Nat.le_of_ble_eq_true rfl⟩ ⟨Nat.le_refl 0, Nat.le_refl 0⟩ (Nat.le_of_ble_eq_true rfl) rfl d_M_bentIn_9 (fun r5 h6 hw => ?_)
    refine qx_if_ne X 17 d_M_bentIn_12 (by decide) (fun q7 => ?_) (fun q7 => ?_)
    · have hw := hw.1 q7
      refine qx_aload_n (x := x0) X d_M_bentIn_17 rfl 0 rfl ?_
      obtain ⟨g8, hw⟩ := hw
      refine qx_callVV (st := []) (As := []) X (t_M_copies (adK := adK) (adV := adV) l D cy b N x0 h6 _ hw) qm_M_copies wm_M_332 wi_M_copies wl_M_copies qcls12 g8 rfl rfl rfl ⟨Nat.le_of_ble_eq_true rfl, Nat.le_of_ble_eq_true rfl⟩ ⟨Nat.le_refl 0, Nat.le_refl 0⟩ (Nat.le_of_ble_eq_true rfl) rfl d_M_bentIn_18 (fun h9 hw => ?_)
      refine qx_aload_n (x := x0) X d_M_bentIn_21 rfl 0 rfl ?_
      refine qx_iload_n (x := x2) X d_M_bentIn_22 rfl 2 rfl ?_
      obtain ⟨g10, hw⟩ := hw
      refine qx_callVV (st := []) (As := [.int x2]) X (t_M_goes (adK := adK) (adV := adV) l D cy b N x0 x2 h9 _ hw) qm_M_goes wm_M_414 wi_M_goes wl_M_goes qcls12 g10 rfl rfl rfl ⟨Nat.le_of_ble_eq_true rfl, Nat.le_of_ble_eq_true rfl⟩ ⟨Nat.le_refl 0, Nat.le_refl 0⟩ (Nat.le_of_ble_eq_true rfl) rfl d_M_bentIn_23 (fun h11 hw => ?_)
      refine qx_aload_n (x := x0) X d_M_bentIn_26 rfl 0 rfl ?_
      obtain ⟨g12, hw⟩ := hw
      refine qx_getR X qcls12 g12 50 (by decide) rfl wf_M_116 d_M_bentIn_27 ?_
      refine qx_bipush (v := (24 : Int32)) X d_M_bentIn_30 (by decide) ?_
      refine qx_iload_n (x := x1) X d_M_bentIn_32 rfl 1 rfl ?_
      refine qx_iadd X d_M_bentIn_33 ?_
      obtain ⟨g13, hw⟩ := hw
      refine qx_ild X g13 d_M_bentIn_34 ?_
      exact qx_iret X hw (Nat.le_refl 0) (Nat.le_refl 0) rfl d_M_bentIn_35
    · have hw := hw.2 q7
      refine qx_iconst (v := (-1 : Int32)) X d_M_bentIn_15 (by decide) ?_
      exact qx_iret X hw (Nat.le_refl 0) (Nat.le_refl 0) rfl d_M_bentIn_16
set_option maxRecDepth 4000 in
theorem t_M_year_33 (X : qX p s m args meth c D cy b adK adV prog_14_method_105_code "CoatHangersModel" 6 (some .int) "year") (N k : Nat) (x0 : Nat) (x1 : Int32) (x2 : Int32) (x3 : Int32) (x4 : Int32) (x5 : Int32) (h : qH) (Q : Int32 → qH → Prop)  (hw : w_M_year_33 N k x0 x1 x2 x3 x4 x5 h Q ) : qW p l e (qrm 6 0 0 131) s m args below meth c D cy b 6 0 0 (MQ below (qQc D cy b qrI Q) args s 0 0 (qA b)) 33 [(0, .inr (.inr (.inl x0))), (1, .inl x1), (2, .inl x2), (3, .inl x3), (4, .inl x4), (5, .inl x5)] [] h := by
  induction k generalizing x0 x1 x2 x3 x4 x5 h with
  | zero => exact hw.elim
  | succ k ih =>
    refine qx_iload (x := x5) X d_M_year_33 5 rfl ?_
    refine qx_iload_n (x := x3) X d_M_year_35 rfl 3 rfl ?_
    refine qx_icmp_ge X 76 d_M_year_36 (by decide) (fun q1 => ?_) (fun q1 => ?_)
    · have hw := hw.1 q1
      refine qx_iload (x := x4) X d_M_year_76 4 rfl ?_
      exact qx_iret X hw (Nat.le_refl 0) (Nat.le_refl 0) rfl d_M_year_78
    · have hw := hw.2 q1
      refine qx_aload_n (x := x0) X d_M_year_39 rfl 0 rfl ?_
      obtain ⟨g2, hw⟩ := hw
      refine qx_callVV (st := []) (As := []) X (t_M_copies (adK := adK) (adV := adV) l D cy b N x0 h _ hw) qm_M_copies wm_M_332 wi_M_copies wl_M_copies qcls12 g2 rfl rfl rfl ⟨Nat.le_of_ble_eq_true rfl, Nat.le_of_ble_eq_true rfl⟩ ⟨Nat.le_refl 0, Nat.le_refl 0⟩ (Nat.le_of_ble_eq_true rfl) rfl d_M_year_40 (fun h3 hw => ?_)
      refine qx_aload_n (x := x0) X d_M_year_43 rfl 0 rfl ?_
      refine qx_dup X (qr_cat _ _) d_M_year_44 ?_
      obtain ⟨g4, hw⟩ := hw
      refine qx_getI X qcls12 g4 51 (by decide) rfl wf_M_326 d_M_year_45 ?_
      refine qx_iload (x := x5) X d_M_year_48 5 rfl ?_
      refine qx_iadd X d_M_year_50 ?_
      refine qx_putI X qcls12 g4 51 (by decide) rfl wf_M_326 rfl rfl rfl d_M_year_51 ?_
      refine qx_toph (fun h5 eh5 => ?_)
      have hw := hw h5 eh5
      refine qx_aload_n (x := x0) X d_M_year_54 rfl 0 rfl ?_
      refine qx_iload_n (x := x2) X d_M_year_55 rfl 2 rfl ?_
      obtain ⟨g6, hw⟩ := hw
      refine qx_callVV (st := []) (As := [.int x2]) X (t_M_goes (adK := adK) (adV := adV) l D cy b N x0 x2 h5 _ hw) qm_M_goes wm_M_414 wi_M_goes wl_M_goes qcls12 g6 rfl rfl rfl ⟨Nat.le_of_ble_eq_true rfl, Nat.le_of_ble_eq_true rfl⟩ ⟨Nat.le_refl 0, Nat.le_refl 0⟩ (Nat.le_of_ble_eq_true rfl) rfl d_M_year_56 (fun h7 hw => ?_)
      refine qx_aload_n (x := x0) X d_M_year_59 rfl 0 rfl ?_
      refine qx_iload_n (x := x1) X d_M_year_60 rfl 1 rfl ?_
      obtain ⟨g8, hw⟩ := hw
      refine qx_callVI (st := []) (As := [.int x1]) X (t_M_isUp (adK := adK) (adV := adV) l D cy b N x0 x1 h7 _ hw) qm_M_isUp wm_M_342 wi_M_isUp wl_M_isUp qcls12 g8 rfl rfl rfl ⟨Nat.le_of_ble_eq_true rfl, Nat.le_of_ble_eq_true rfl⟩ ⟨Nat.le_refl 0, Nat.le_refl 0⟩ (Nat.le_of_ble_eq_true rfl) rfl d_M_year_61 (fun r9 h10 hw => ?_)
      refine qx_if_eq X 70 d_M_year_64 (by decide) (fun q11 => ?_) (fun q11 => ?_)
      · have hw := hw.1 q11
        refine qx_iinc (v := (x5 + (1 : Int32))) (L' := [(5, .inl (x5 + (1 : Int32))), (0, .inr (.inr (.inl x0))), (1, .inl x1), (2, .inl x2), (3, .inl x3), (4, .inl x4)]) X d_M_year_70 5 rfl rfl (by decide) rfl ?_
        refine qx_goto X 33 d_M_year_73 (by decide) ?_
        refine qx_sub [1, 2, 3, 4, 5, 0] rfl ?_
        exact ih x0 x1 x2 x3 x4 (x5 + (1 : Int32)) h10 hw
      · have hw := hw.2 q11
        refine qx_iinc (v := (x4 + (1 : Int32))) (L' := [(4, .inl (x4 + (1 : Int32))), (0, .inr (.inr (.inl x0))), (1, .inl x1), (2, .inl x2), (3, .inl x3), (5, .inl x5)]) X d_M_year_67 4 rfl rfl (by decide) rfl ?_
        refine qx_iinc (v := (x5 + (1 : Int32))) (L' := [(5, .inl (x5 + (1 : Int32))), (4, .inl (x4 + (1 : Int32))), (0, .inr (.inr (.inl x0))), (1, .inl x1), (2, .inl x2), (3, .inl x3)]) X d_M_year_70 5 rfl rfl (by decide) rfl ?_
        refine qx_goto X 33 d_M_year_73 (by decide) ?_
        refine qx_sub [2, 3, 4, 5, 1, 0] rfl ?_
        exact ih x0 x1 x2 x3 (x4 + (1 : Int32)) (x5 + (1 : Int32)) h10 hw
set_option maxRecDepth 4000 in
theorem t_M_year {adK adV : Nat → Nat} (l : Launch) (D : va_G) (cy : Nat → ClassId) (b : Nat) (N : Nat) (x0 : Nat) (x1 : Int32) (x2 : Int32) (x3 : Int32) (h : qH) (Q : Int32 → qH → Prop) (hw : w_M_year N x0 x1 x2 x3 h Q) : Met l y_M_year (Cond.code y_M_year prog_14_method_105_code 6 (some .int) :: qT) (qrm 6 0 0 131) (qPc D cy b adK adV h [qr b x0, .int x1, .int x2, .int x3]) (qQc D cy b qrI Q) 0 0 (qA b) := by
  refine qmet (L0 := [(0, .inr (.inr (.inl x0))), (1, .inl x1), (2, .inl x2), (3, .inl x3)]) qm_M_year (plainFor_of_name (by decide)) [.inr (.inr (.inl x0)), .inl x1, .inl x2, .inl x3] rfl (Nat.le_of_ble_eq_true rfl) rfl (fun p e s m args below meth c X => ?_)
  unfold w_M_year at hw
  refine qx_aload_n (x := x0) X d_M_year_0 rfl 0 rfl ?_
  refine qx_iload_n (x := x1) X d_M_year_1 rfl 1 rfl ?_
  obtain ⟨g1, hw⟩ := hw
  refine qx_callVI (st := []) (As := [.int x1]) X (t_M_isPerson (adK := adK) (adV := adV) l D cy b N x0 x1 h _ hw) qm_M_isPerson wm_M_392 wi_M_isPerson wl_M_isPerson qcls12 g1 rfl rfl rfl ⟨Nat.le_of_ble_eq_true rfl, Nat.le_of_ble_eq_true rfl⟩ ⟨Nat.le_refl 0, Nat.le_refl 0⟩ (Nat.le_of_ble_eq_true rfl) rfl d_M_year_2 (fun r2 h3 hw => ?_)
  refine qx_if_eq X 25 d_M_year_5 (by decide) (fun q4 => ?_) (fun q4 => ?_)
  · have hw := hw.1 q4
    refine qx_iconst (v := (-1 : Int32)) X d_M_year_25 (by decide) ?_
    exact qx_iret X hw (Nat.le_refl 0) (Nat.le_refl 0) rfl d_M_year_26
  · have hw := hw.2 q4
    refine qx_iload_n (x := x2) X d_M_year_8 rfl 2 rfl ?_
    refine qx_callSI (st := []) (As := [.int x2]) X (t_M_isLong (adK := adK) (adV := adV) l D cy b N x2 h3 _ hw) qm_M_isLong wm_M_411 wi_M_isLong rfl rfl rfl ⟨Nat.le_of_ble_eq_true rfl, Nat.le_of_ble_eq_true rfl⟩ ⟨Nat.le_refl 0, Nat.le_refl 0⟩ (Nat.le_of_ble_eq_true rfl) rfl d_M_year_9 (fun r5 h6 hw => ?_)
    refine qx_if_eq X 25 d_M_year_12 (by decide) (fun q7 => ?_) (fun q7 => ?_)
    · have hw := hw.1 q7
      refine qx_iconst (v := (-1 : Int32)) X d_M_year_25 (by decide) ?_
      exact qx_iret X hw (Nat.le_refl 0) (Nat.le_refl 0) rfl d_M_year_26
    · have hw := hw.2 q7
      refine qx_iload_n (x := x3) X d_M_year_15 rfl 3 rfl ?_
      refine qx_iconst (v := (1 : Int32)) X d_M_year_16 (by decide) ?_
      refine qx_bipush (v := (20 : Int32)) X d_M_year_17 (by decide) ?_
      refine qx_callSI (st := []) (As := [.int x3, .int (1 : Int32), .int (20 : Int32)]) X (t_M_in (adK := adK) (adV := adV) l D cy b N x3 (1 : Int32) (20 : Int32) h6 _ hw) qm_M_in wm_M_322 wi_M_in rfl rfl rfl ⟨Nat.le_of_ble_eq_true rfl, Nat.le_of_ble_eq_true rfl⟩ ⟨Nat.le_refl 0, Nat.le_refl 0⟩ (Nat.le_of_ble_eq_true rfl) rfl d_M_year_19 (fun r8 h9 hw => ?_)
      refine qx_if_ne X 27 d_M_year_22 (by decide) (fun q10 => ?_) (fun q10 => ?_)
      · have hw := hw.1 q10
        refine qx_iconst (v := (0 : Int32)) X d_M_year_27 (by decide) ?_
        refine qx_istore (L' := [(4, .inl (0 : Int32)), (0, .inr (.inr (.inl x0))), (1, .inl x1), (2, .inl x2), (3, .inl x3)]) X d_M_year_28 (by decide) rfl ?_
        refine qx_iconst (v := (0 : Int32)) X d_M_year_30 (by decide) ?_
        refine qx_istore (L' := [(5, .inl (0 : Int32)), (4, .inl (0 : Int32)), (0, .inr (.inr (.inl x0))), (1, .inl x1), (2, .inl x2), (3, .inl x3)]) X d_M_year_31 (by decide) rfl ?_
        refine qx_sub [2, 3, 4, 5, 1, 0] rfl ?_
        exact t_M_year_33 X N N x0 x1 x2 x3 (0 : Int32) (0 : Int32) h9 Q  hw 
      · have hw := hw.2 q10
        refine qx_iconst (v := (-1 : Int32)) X d_M_year_25 (by decide) ?_
        exact qx_iret X hw (Nat.le_refl 0) (Nat.le_refl 0) rfl d_M_year_26
set_option maxRecDepth 4000 in
theorem t_M_tell {adK adV : Nat → Nat} (l : Launch) (D : va_G) (cy : Nat → ClassId) (b : Nat) (N : Nat) (x0 : Nat) (x1 : Int32) (x2 : Int32) (x3 : Int32) (h : qH) (Q : Int32 → qH → Prop) (hw : w_M_tell N x0 x1 x2 x3 h Q) : Met l y_M_tell (Cond.code y_M_tell prog_14_method_106_code 4 (some .int) :: qT) (qrm 2 0 0 43) (qPc D cy b adK adV h [qr b x0, .int x1, .int x2, .int x3]) (qQc D cy b qrI Q) 0 0 (qA b) := by
  refine qmet (L0 := [(0, .inr (.inr (.inl x0))), (1, .inl x1), (2, .inl x2), (3, .inl x3)]) qm_M_tell (plainFor_of_name (by decide)) [.inr (.inr (.inl x0)), .inl x1, .inl x2, .inl x3] rfl (Nat.le_of_ble_eq_true rfl) rfl (fun p e s m args below meth c X => ?_)
  unfold w_M_tell at hw
  refine qx_aload_n (x := x0) X d_M_tell_0 rfl 0 rfl ?_
  obtain ⟨g1, hw⟩ := hw
  refine qx_getI X qcls12 g1 63 (by decide) rfl wf_M_266 d_M_tell_1 ?_
  refine qx_bipush (v := (20 : Int32)) X d_M_tell_4 (by decide) ?_
  refine qx_icmp_eq X 25 d_M_tell_6 (by decide) (fun q2 => ?_) (fun q2 => ?_)
  · have hw := hw.1 q2
    refine qx_iconst (v := (-1 : Int32)) X d_M_tell_25 (by decide) ?_
    exact qx_iret X hw (Nat.le_refl 0) (Nat.le_refl 0) rfl d_M_tell_26
  · have hw := hw.2 q2
    refine qx_aload_n (x := x0) X d_M_tell_9 rfl 0 rfl ?_
    refine qx_iload_n (x := x1) X d_M_tell_10 rfl 1 rfl ?_
    refine qx_callVI (st := []) (As := [.int x1]) X (t_M_isPerson (adK := adK) (adV := adV) l D cy b N x0 x1 h _ hw) qm_M_isPerson wm_M_392 wi_M_isPerson wl_M_isPerson qcls12 g1 rfl rfl rfl ⟨Nat.le_of_ble_eq_true rfl, Nat.le_of_ble_eq_true rfl⟩ ⟨Nat.le_refl 0, Nat.le_refl 0⟩ (Nat.le_of_ble_eq_true rfl) rfl d_M_tell_11 (fun r3 h4 hw => ?_)
    refine qx_if_eq X 25 d_M_tell_14 (by decide) (fun q5 => ?_) (fun q5 => ?_)
    · have hw := hw.1 q5
      refine qx_iconst (v := (-1 : Int32)) X d_M_tell_25 (by decide) ?_
      exact qx_iret X hw (Nat.le_refl 0) (Nat.le_refl 0) rfl d_M_tell_26
    · have hw := hw.2 q5
      refine qx_aload_n (x := x0) X d_M_tell_17 rfl 0 rfl ?_
      refine qx_iload_n (x := x2) X d_M_tell_18 rfl 2 rfl ?_
      obtain ⟨g6, hw⟩ := hw
      refine qx_callVI (st := []) (As := [.int x2]) X (t_M_isPerson (adK := adK) (adV := adV) l D cy b N x0 x2 h4 _ hw) qm_M_isPerson wm_M_392 wi_M_isPerson wl_M_isPerson qcls12 g6 rfl rfl rfl ⟨Nat.le_of_ble_eq_true rfl, Nat.le_of_ble_eq_true rfl⟩ ⟨Nat.le_refl 0, Nat.le_refl 0⟩ (Nat.le_of_ble_eq_true rfl) rfl d_M_tell_19 (fun r7 h8 hw => ?_)
      refine qx_if_ne X 27 d_M_tell_22 (by decide) (fun q9 => ?_) (fun q9 => ?_)
      · have hw := hw.1 q9
        refine qx_aload_n (x := x0) X d_M_tell_27 rfl 0 rfl ?_
        obtain ⟨g10, hw⟩ := hw
        refine qx_getR X qcls12 g10 64 (by decide) rfl wf_M_143 d_M_tell_28 ?_
        refine qx_aload_n (x := x0) X d_M_tell_31 rfl 0 rfl ?_
        refine qx_getI X qcls12 g10 63 (by decide) rfl wf_M_266 d_M_tell_32 ?_
        refine qx_iload_n (x := x1) X d_M_tell_35 rfl 1 rfl ?_
        obtain ⟨g11, hw⟩ := hw
        refine qx_ist X g11 d_M_tell_36 ?_
        refine qx_toph (fun h12 eh12 => ?_)
        have hw := hw h12 eh12
        refine qx_aload_n (x := x0) X d_M_tell_37 rfl 0 rfl ?_
        obtain ⟨g13, hw⟩ := hw
        refine qx_getR X qcls12 g13 65 (by decide) rfl wf_M_146 d_M_tell_38 ?_
        refine qx_aload_n (x := x0) X d_M_tell_41 rfl 0 rfl ?_
        refine qx_getI X qcls12 g13 63 (by decide) rfl wf_M_266 d_M_tell_42 ?_
        refine qx_iload_n (x := x2) X d_M_tell_45 rfl 2 rfl ?_
        obtain ⟨g14, hw⟩ := hw
        refine qx_ist X g14 d_M_tell_46 ?_
        refine qx_toph (fun h15 eh15 => ?_)
        have hw := hw h15 eh15
        refine qx_aload_n (x := x0) X d_M_tell_47 rfl 0 rfl ?_
        obtain ⟨g16, hw⟩ := hw
        refine qx_getR X qcls12 g16 66 (by decide) rfl wf_M_149 d_M_tell_48 ?_
        refine qx_aload_n (x := x0) X d_M_tell_51 rfl 0 rfl ?_
        refine qx_getI X qcls12 g16 63 (by decide) rfl wf_M_266 d_M_tell_52 ?_
        refine qx_iload_n (x := x3) X d_M_tell_55 rfl 3 rfl ?_
        obtain ⟨g17, hw⟩ := hw
        refine qx_zst X g17 d_M_tell_56 ?_
        refine qx_toph (fun h18 eh18 => ?_)
        have hw := hw h18 eh18
        refine qx_aload_n (x := x0) X d_M_tell_57 rfl 0 rfl ?_
        refine qx_dup X (qr_cat _ _) d_M_tell_58 ?_
        obtain ⟨g19, hw⟩ := hw
        refine qx_getI X qcls12 g19 63 (by decide) rfl wf_M_266 d_M_tell_59 ?_
        refine qx_iconst (v := (1 : Int32)) X d_M_tell_62 (by decide) ?_
        refine qx_iadd X d_M_tell_63 ?_
        refine qx_putI X qcls12 g19 63 (by decide) rfl wf_M_266 rfl rfl rfl d_M_tell_64 ?_
        refine qx_toph (fun h20 eh20 => ?_)
        have hw := hw h20 eh20
        refine qx_aload_n (x := x0) X d_M_tell_67 rfl 0 rfl ?_
        obtain ⟨g21, hw⟩ := hw
        refine qx_getI X qcls12 g21 63 (by decide) rfl wf_M_266 d_M_tell_68 ?_
        refine qx_iconst (v := (1 : Int32)) X d_M_tell_71 (by decide) ?_
        refine qx_isub X d_M_tell_72 ?_
        exact qx_iret X hw (Nat.le_refl 0) (Nat.le_refl 0) rfl d_M_tell_73
      · have hw := hw.2 q9
        refine qx_iconst (v := (-1 : Int32)) X d_M_tell_25 (by decide) ?_
        exact qx_iret X hw (Nat.le_refl 0) (Nat.le_refl 0) rfl d_M_tell_26
set_option maxRecDepth 4000 in
theorem t_M_forget {adK adV : Nat → Nat} (l : Launch) (D : va_G) (cy : Nat → ClassId) (b : Nat) (N : Nat) (x0 : Nat) (h : qH) (Q : Int32 → qH → Prop) (hw : w_M_forget N x0 h Q) : Met l y_M_forget (Cond.code y_M_forget prog_14_method_107_code 2 (some .int) :: qT) (qrm 0 0 0 0) (qPc D cy b adK adV h [qr b x0]) (qQc D cy b qrI Q) 0 0 (qA b) := by
  refine qmet (L0 := [(0, .inr (.inr (.inl x0)))]) qm_M_forget (plainFor_of_name (by decide)) [.inr (.inr (.inl x0))] rfl (Nat.le_of_ble_eq_true rfl) rfl (fun p e s m args below meth c X => ?_)
  unfold w_M_forget at hw
  refine qx_aload_n (x := x0) X d_M_forget_0 rfl 0 rfl ?_
  obtain ⟨g1, hw⟩ := hw
  refine qx_getI X qcls12 g1 63 (by decide) rfl wf_M_266 d_M_forget_1 ?_
  refine qx_topi (fun y2 ey2 => ?_)
  have hw := hw y2 ey2
  refine qx_istore_n (L' := [(1, .inl y2), (0, .inr (.inr (.inl x0)))]) X d_M_forget_4 rfl (by decide) rfl ?_
  refine qx_aload_n (x := x0) X d_M_forget_5 rfl 1 rfl ?_
  refine qx_iconst (v := (0 : Int32)) X d_M_forget_6 (by decide) ?_
  refine qx_putI X qcls12 g1 63 (by decide) rfl wf_M_266 rfl rfl rfl d_M_forget_7 ?_
  refine qx_toph (fun h3 eh3 => ?_)
  have hw := hw h3 eh3
  refine qx_iload_n (x := y2) X d_M_forget_10 rfl 0 rfl ?_
  exact qx_iret X hw (Nat.le_refl 0) (Nat.le_refl 0) rfl d_M_forget_11
set_option maxRecDepth 4000 in
theorem t_M_fillsPairs_78 (X : qX p s m args meth c D cy b adK adV prog_14_method_108_code "CoatHangersModel" 7 (some .int) "fillsPairs") (N k : Nat) (x0 : Nat) (x1 : Int32) (x2 : Int32) (x3 : Int32) (x6 : Int32) (h : qH) (Q : Int32 → qH → Prop) (K113 : Nat → Int32 → Int32 → Int32 → qH → Prop) (hw : w_M_fillsPairs_78 N k x0 x1 x2 x3 x6 h Q K113) (hK113 : ∀ (x0 : Nat) (x1 : Int32) (x2 : Int32) (x3 : Int32) (h : qH), K113 x0 x1 x2 x3 h → qW p l e (qrm 5 0 0 109) s m args below meth c D cy b 7 0 0 (MQ below (qQc D cy b qrI Q) args s 0 0 (qA b)) 113 [(0, .inr (.inr (.inl x0))), (1, .inl x1), (2, .inl x2), (3, .inl x3)] [] h) : qW p l e (qrm 5 0 0 109) s m args below meth c D cy b 7 0 0 (MQ below (qQc D cy b qrI Q) args s 0 0 (qA b)) 78 [(0, .inr (.inr (.inl x0))), (1, .inl x1), (2, .inl x2), (3, .inl x3), (6, .inl x6)] [] h := by
  induction k generalizing x0 x1 x2 x3 x6 h with
  | zero => exact hw.elim
  | succ k ih =>
    refine qx_iload (x := x6) X d_M_fillsPairs_78 4 rfl ?_
    refine qx_bipush (v := (6 : Int32)) X d_M_fillsPairs_80 (by decide) ?_
    refine qx_icmp_ge X 113 d_M_fillsPairs_82 (by decide) (fun q1 => ?_) (fun q1 => ?_)
    · have hw := hw.1 q1
      refine qx_sub [0, 1, 2, 3] rfl ?_
      exact hK113 x0 x1 x2 x3 h hw
    · have hw := hw.2 q1
      refine qx_aload_n (x := x0) X d_M_fillsPairs_85 rfl 0 rfl ?_
      obtain ⟨g2, hw⟩ := hw
      refine qx_getR X qcls12 g2 68 (by decide) rfl wf_M_155 d_M_fillsPairs_86 ?_
      refine qx_bipush (v := (6 : Int32)) X d_M_fillsPairs_89 (by decide) ?_
      refine qx_iload_n (x := x3) X d_M_fillsPairs_91 rfl 3 rfl ?_
      refine qx_imul X d_M_fillsPairs_92 ?_
      refine qx_iload (x := x6) X d_M_fillsPairs_93 4 rfl ?_
      refine qx_iadd X d_M_fillsPairs_95 ?_
      refine qx_aload_n (x := x0) X d_M_fillsPairs_96 rfl 0 rfl ?_
      refine qx_getR X qcls12 g2 50 (by decide) rfl wf_M_116 d_M_fillsPairs_97 ?_
      refine qx_bipush (v := (12 : Int32)) X d_M_fillsPairs_100 (by decide) ?_
      refine qx_iload (x := x6) X d_M_fillsPairs_102 4 rfl ?_
      refine qx_iadd X d_M_fillsPairs_104 ?_
      obtain ⟨g3, hw⟩ := hw
      refine qx_ild X g3 d_M_fillsPairs_105 ?_
      obtain ⟨g4, hw⟩ := hw
      refine qx_ist X g4 d_M_fillsPairs_106 ?_
      refine qx_toph (fun h5 eh5 => ?_)
      have hw := hw h5 eh5
      refine qx_iinc (v := (x6 + (1 : Int32))) (L' := [(6, .inl (x6 + (1 : Int32))), (0, .inr (.inr (.inl x0))), (1, .inl x1), (2, .inl x2), (3, .inl x3)]) X d_M_fillsPairs_107 4 rfl rfl (by decide) rfl ?_
      refine qx_goto X 78 d_M_fillsPairs_110 (by decide) ?_
      refine qx_sub [1, 2, 3, 4, 0] rfl ?_
      exact ih x0 x1 x2 x3 (x6 + (1 : Int32)) h5 hw
set_option maxRecDepth 4000 in
theorem t_M_fillsPairs_152 (X : qX p s m args meth c D cy b adK adV prog_14_method_108_code "CoatHangersModel" 7 (some .int) "fillsPairs") (N : Nat) (x0 : Nat) (x1 : Int32) (x2 : Int32) (x3 : Int32) (x6 : Int32) (z0 : Int32) (h : qH) (Q : Int32 → qH → Prop) (K116 : Nat → Int32 → Int32 → Int32 → Int32 → qH → Prop) (hw : w_M_fillsPairs_152 N x0 x1 x2 x3 x6 z0 h Q K116) (hK116 : ∀ (x0 : Nat) (x1 : Int32) (x2 : Int32) (x3 : Int32) (x6 : Int32) (h : qH), K116 x0 x1 x2 x3 x6 h → qW p l e (qrm 5 0 0 109) s m args below meth c D cy b 7 0 0 (MQ below (qQc D cy b qrI Q) args s 0 0 (qA b)) 116 [(0, .inr (.inr (.inl x0))), (1, .inl x1), (2, .inl x2), (3, .inl x3), (6, .inl x6)] [] h) : qW p l e (qrm 5 0 0 109) s m args below meth c D cy b 7 0 0 (MQ below (qQc D cy b qrI Q) args s 0 0 (qA b)) 152 [(0, .inr (.inr (.inl x0))), (1, .inl x1), (2, .inl x2), (3, .inl x3), (6, .inl x6)] [.int z0] h := by
  unfold w_M_fillsPairs_152 at hw
  refine qx_aload_n (x := x0) X d_M_fillsPairs_152 rfl 0 rfl ?_
  obtain ⟨g1, hw⟩ := hw
  refine qx_getR X qcls12 g1 66 (by decide) rfl wf_M_149 d_M_fillsPairs_153 ?_
  refine qx_iload (x := x6) X d_M_fillsPairs_156 4 rfl ?_
  obtain ⟨g2, hw⟩ := hw
  refine qx_zld X g2 d_M_fillsPairs_158 ?_
  refine qx_icmp_eq X 169 d_M_fillsPairs_159 (by decide) (fun q3 => ?_) (fun q3 => ?_)
  · have hw := hw.1 q3
    refine qx_iinc (v := (x6 + (1 : Int32))) (L' := [(6, .inl (x6 + (1 : Int32))), (0, .inr (.inr (.inl x0))), (1, .inl x1), (2, .inl x2), (3, .inl x3)]) X d_M_fillsPairs_169 4 rfl rfl (by decide) rfl ?_
    refine qx_goto X 116 d_M_fillsPairs_172 (by decide) ?_
    refine qx_sub [1, 2, 3, 4, 0] rfl ?_
    exact hK116 x0 x1 x2 x3 (x6 + (1 : Int32)) h hw
  · have hw := hw.2 q3
    refine qx_aload_n (x := x0) X d_M_fillsPairs_162 rfl 0 rfl ?_
    refine qx_getR X qcls12 g1 67 (by decide) rfl wf_M_152 d_M_fillsPairs_163 ?_
    refine qx_iload_n (x := x3) X d_M_fillsPairs_166 rfl 3 rfl ?_
    refine qx_iconst (v := (0 : Int32)) X d_M_fillsPairs_167 (by decide) ?_
    obtain ⟨g4, hw⟩ := hw
    refine qx_zst X g4 d_M_fillsPairs_168 ?_
    refine qx_toph (fun h5 eh5 => ?_)
    have hw := hw h5 eh5
    refine qx_iinc (v := (x6 + (1 : Int32))) (L' := [(6, .inl (x6 + (1 : Int32))), (0, .inr (.inr (.inl x0))), (1, .inl x1), (2, .inl x2), (3, .inl x3)]) X d_M_fillsPairs_169 4 rfl rfl (by decide) rfl ?_
    refine qx_goto X 116 d_M_fillsPairs_172 (by decide) ?_
    refine qx_sub [1, 2, 3, 4, 0] rfl ?_
    exact hK116 x0 x1 x2 x3 (x6 + (1 : Int32)) h5 hw
set_option maxRecDepth 4000 in
theorem t_M_fillsPairs_116 (X : qX p s m args meth c D cy b adK adV prog_14_method_108_code "CoatHangersModel" 7 (some .int) "fillsPairs") (N k : Nat) (x0 : Nat) (x1 : Int32) (x2 : Int32) (x3 : Int32) (x6 : Int32) (h : qH) (Q : Int32 → qH → Prop) (K175 : Nat → Int32 → Int32 → Int32 → qH → Prop) (hw : w_M_fillsPairs_116 N k x0 x1 x2 x3 x6 h Q K175) (hK175 : ∀ (x0 : Nat) (x1 : Int32) (x2 : Int32) (x3 : Int32) (h : qH), K175 x0 x1 x2 x3 h → qW p l e (qrm 5 0 0 109) s m args below meth c D cy b 7 0 0 (MQ below (qQc D cy b qrI Q) args s 0 0 (qA b)) 175 [(0, .inr (.inr (.inl x0))), (1, .inl x1), (2, .inl x2), (3, .inl x3)] [] h) : qW p l e (qrm 5 0 0 109) s m args below meth c D cy b 7 0 0 (MQ below (qQc D cy b qrI Q) args s 0 0 (qA b)) 116 [(0, .inr (.inr (.inl x0))), (1, .inl x1), (2, .inl x2), (3, .inl x3), (6, .inl x6)] [] h := by
  induction k generalizing x0 x1 x2 x3 x6 h with
  | zero => exact hw.elim
  | succ k ih =>
    refine qx_iload (x := x6) X d_M_fillsPairs_116 4 rfl ?_
    refine qx_iload_n (x := x1) X d_M_fillsPairs_118 rfl 1 rfl ?_
    refine qx_icmp_ge X 175 d_M_fillsPairs_119 (by decide) (fun q1 => ?_) (fun q1 => ?_)
    · have hw := hw.1 q1
      refine qx_sub [0, 1, 2, 3] rfl ?_
      exact hK175 x0 x1 x2 x3 h hw
    · have hw := hw.2 q1
      refine qx_aload_n (x := x0) X d_M_fillsPairs_122 rfl 0 rfl ?_
      obtain ⟨g2, hw⟩ := hw
      refine qx_getR X qcls12 g2 50 (by decide) rfl wf_M_116 d_M_fillsPairs_123 ?_
      refine qx_bipush (v := (12 : Int32)) X d_M_fillsPairs_126 (by decide) ?_
      refine qx_aload_n (x := x0) X d_M_fillsPairs_128 rfl 0 rfl ?_
      refine qx_getR X qcls12 g2 64 (by decide) rfl wf_M_143 d_M_fillsPairs_129 ?_
      refine qx_iload (x := x6) X d_M_fillsPairs_132 4 rfl ?_
      obtain ⟨g3, hw⟩ := hw
      refine qx_ild X g3 d_M_fillsPairs_134 ?_
      refine qx_iadd X d_M_fillsPairs_135 ?_
      obtain ⟨g4, hw⟩ := hw
      refine qx_ild X g4 d_M_fillsPairs_136 ?_
      refine qx_aload_n (x := x0) X d_M_fillsPairs_137 rfl 0 rfl ?_
      refine qx_getR X qcls12 g2 65 (by decide) rfl wf_M_146 d_M_fillsPairs_138 ?_
      refine qx_iload (x := x6) X d_M_fillsPairs_141 4 rfl ?_
      obtain ⟨g5, hw⟩ := hw
      refine qx_ild X g5 d_M_fillsPairs_143 ?_
      refine qx_icmp_ne X 151 d_M_fillsPairs_144 (by decide) (fun q6 => ?_) (fun q6 => ?_)
      · have hw := hw.1 q6
        refine qx_iconst (v := (0 : Int32)) X d_M_fillsPairs_151 (by decide) ?_
        exact t_M_fillsPairs_152 X N x0 x1 x2 x3 x6 (0 : Int32) h Q _ hw ih
      · have hw := hw.2 q6
        refine qx_iconst (v := (1 : Int32)) X d_M_fillsPairs_147 (by decide) ?_
        refine qx_goto X 152 d_M_fillsPairs_148 (by decide) ?_
        exact t_M_fillsPairs_152 X N x0 x1 x2 x3 x6 (1 : Int32) h Q _ hw ih
set_option maxRecDepth 4000 in
theorem t_M_fillsPairs_50 (X : qX p s m args meth c D cy b adK adV prog_14_method_108_code "CoatHangersModel" 7 (some .int) "fillsPairs") (N : Nat) (x0 : Nat) (x1 : Int32) (x2 : Int32) (x3 : Int32) (x4 : Int32) (x5 : Int32) (z0 : Int32) (z1 : Int32) (z2 : Nat) (h : qH) (Q : Int32 → qH → Prop) (K4 : Nat → Int32 → Int32 → Int32 → qH → Prop) (hw : w_M_fillsPairs_50 N x0 x1 x2 x3 x4 x5 z0 z1 z2 h Q K4) (hK4 : ∀ (x0 : Nat) (x1 : Int32) (x2 : Int32) (x3 : Int32) (h : qH), K4 x0 x1 x2 x3 h → qW p l e (qrm 5 0 0 109) s m args below meth c D cy b 7 0 0 (MQ below (qQc D cy b qrI Q) args s 0 0 (qA b)) 4 [(0, .inr (.inr (.inl x0))), (1, .inl x1), (2, .inl x2), (3, .inl x3)] [] h) : qW p l e (qrm 5 0 0 109) s m args below meth c D cy b 7 0 0 (MQ below (qQc D cy b qrI Q) args s 0 0 (qA b)) 50 [(0, .inr (.inr (.inl x0))), (1, .inl x1), (2, .inl x2), (3, .inl x3), (4, .inl x4), (5, .inl x5)] [.int z0, .int z1, qr b z2] h := by
  unfold w_M_fillsPairs_50 at hw
  obtain ⟨g1, hw⟩ := hw
  refine qx_zst X g1 d_M_fillsPairs_50 ?_
  refine qx_toph (fun h2 eh2 => ?_)
  have hw := hw h2 eh2
  refine qx_aload_n (x := x0) X d_M_fillsPairs_51 rfl 0 rfl ?_
  obtain ⟨g3, hw⟩ := hw
  refine qx_getR X qcls12 g3 67 (by decide) rfl wf_M_152 d_M_fillsPairs_52 ?_
  refine qx_iload_n (x := x3) X d_M_fillsPairs_55 rfl 3 rfl ?_
  obtain ⟨g4, hw⟩ := hw
  refine qx_zld X g4 d_M_fillsPairs_56 ?_
  refine qx_if_ne X 63 d_M_fillsPairs_57 (by decide) (fun q5 => ?_) (fun q5 => ?_)
  · have hw := hw.1 q5
    refine qx_aload_n (x := x0) X d_M_fillsPairs_63 rfl 0 rfl ?_
    refine qx_iload (x := x4) X d_M_fillsPairs_64 4 rfl ?_
    refine qx_iload (x := x5) X d_M_fillsPairs_66 5 rfl ?_
    refine qx_callVV (st := []) (As := [.int x4, .int x5]) X (t_M_changesFor (adK := adK) (adV := adV) l D cy b N x0 x4 x5 h2 _ hw) qm_M_changesFor wm_M_408 wi_M_changesFor wl_M_changesFor qcls12 g3 rfl rfl rfl ⟨Nat.le_of_ble_eq_true rfl, Nat.le_of_ble_eq_true rfl⟩ ⟨Nat.le_refl 0, Nat.le_refl 0⟩ (Nat.le_of_ble_eq_true rfl) rfl d_M_fillsPairs_68 (fun h6 hw => ?_)
    refine qx_aload_n (x := x0) X d_M_fillsPairs_71 rfl 0 rfl ?_
    obtain ⟨g7, hw⟩ := hw
    refine qx_callVV (st := []) (As := []) X (t_M_nightGoes (adK := adK) (adV := adV) l D cy b N x0 h6 _ hw) qm_M_nightGoes wm_M_383 wi_M_nightGoes wl_M_nightGoes qcls12 g7 rfl rfl rfl ⟨Nat.le_of_ble_eq_true rfl, Nat.le_of_ble_eq_true rfl⟩ ⟨Nat.le_refl 0, Nat.le_refl 0⟩ (Nat.le_of_ble_eq_true rfl) rfl d_M_fillsPairs_72 (fun h8 hw => ?_)
    refine qx_iconst (v := (0 : Int32)) X d_M_fillsPairs_75 (by decide) ?_
    refine qx_istore (L' := [(6, .inl (0 : Int32)), (0, .inr (.inr (.inl x0))), (1, .inl x1), (2, .inl x2), (3, .inl x3), (4, .inl x4), (5, .inl x5)]) X d_M_fillsPairs_76 (by decide) rfl ?_
    refine qx_sub [1, 2, 3, 4, 0] rfl ?_
    refine t_M_fillsPairs_78 X N N x0 x1 x2 x3 (0 : Int32) h8 Q _ hw (fun x9 x10 x11 x12 h13 hw => ?_)
    refine qx_iconst (v := (0 : Int32)) X d_M_fillsPairs_113 (by decide) ?_
    refine qx_istore (L' := [(6, .inl (0 : Int32)), (0, .inr (.inr (.inl x9))), (1, .inl x10), (2, .inl x11), (3, .inl x12)]) X d_M_fillsPairs_114 (by decide) rfl ?_
    refine qx_sub [1, 2, 3, 4, 0] rfl ?_
    refine t_M_fillsPairs_116 X N N x9 x10 x11 x12 (0 : Int32) h13 Q _ hw (fun x14 x15 x16 x17 h18 hw => ?_)
    refine qx_aload_n (x := x14) X d_M_fillsPairs_175 rfl 0 rfl ?_
    obtain ⟨g19, hw⟩ := hw
    refine qx_getR X qcls12 g19 67 (by decide) rfl wf_M_152 d_M_fillsPairs_176 ?_
    refine qx_iload_n (x := x17) X d_M_fillsPairs_179 rfl 3 rfl ?_
    obtain ⟨g20, hw⟩ := hw
    refine qx_zld X g20 d_M_fillsPairs_180 ?_
    refine qx_if_eq X 187 d_M_fillsPairs_181 (by decide) (fun q21 => ?_) (fun q21 => ?_)
    · have hw := hw.1 q21
      refine qx_iinc (v := (x17 + (1 : Int32))) (L' := [(3, .inl (x17 + (1 : Int32))), (0, .inr (.inr (.inl x14))), (1, .inl x15), (2, .inl x16)]) X d_M_fillsPairs_187 3 rfl rfl (by decide) rfl ?_
      refine qx_goto X 4 d_M_fillsPairs_190 (by decide) ?_
      refine qx_sub [1, 2, 3, 0] rfl ?_
      exact hK4 x14 x15 x16 (x17 + (1 : Int32)) h18 hw
    · have hw := hw.2 q21
      refine qx_iinc (v := (x16 + (1 : Int32))) (L' := [(2, .inl (x16 + (1 : Int32))), (0, .inr (.inr (.inl x14))), (1, .inl x15), (3, .inl x17)]) X d_M_fillsPairs_184 2 rfl rfl (by decide) rfl ?_
      refine qx_iinc (v := (x17 + (1 : Int32))) (L' := [(3, .inl (x17 + (1 : Int32))), (2, .inl (x16 + (1 : Int32))), (0, .inr (.inr (.inl x14))), (1, .inl x15)]) X d_M_fillsPairs_187 3 rfl rfl (by decide) rfl ?_
      refine qx_goto X 4 d_M_fillsPairs_190 (by decide) ?_
      refine qx_sub [2, 3, 1, 0] rfl ?_
      exact hK4 x14 x15 (x16 + (1 : Int32)) (x17 + (1 : Int32)) h18 hw
  · have hw := hw.2 q5
    refine qx_goto X 187 d_M_fillsPairs_60 (by decide) ?_
    refine qx_iinc (v := (x3 + (1 : Int32))) (L' := [(3, .inl (x3 + (1 : Int32))), (0, .inr (.inr (.inl x0))), (1, .inl x1), (2, .inl x2), (4, .inl x4), (5, .inl x5)]) X d_M_fillsPairs_187 3 rfl rfl (by decide) rfl ?_
    refine qx_goto X 4 d_M_fillsPairs_190 (by decide) ?_
    refine qx_sub [1, 2, 3, 0] rfl ?_
    exact hK4 x0 x1 x2 (x3 + (1 : Int32)) h2 hw
set_option maxRecDepth 4000 in
theorem t_M_fillsPairs_49 (X : qX p s m args meth c D cy b adK adV prog_14_method_108_code "CoatHangersModel" 7 (some .int) "fillsPairs") (N : Nat) (x0 : Nat) (x1 : Int32) (x2 : Int32) (x3 : Int32) (x4 : Int32) (x5 : Int32) (z0 : Int32) (z1 : Nat) (h : qH) (Q : Int32 → qH → Prop) (K4 : Nat → Int32 → Int32 → Int32 → qH → Prop) (hw : w_M_fillsPairs_49 N x0 x1 x2 x3 x4 x5 z0 z1 h Q K4) (hK4 : ∀ (x0 : Nat) (x1 : Int32) (x2 : Int32) (x3 : Int32) (h : qH), K4 x0 x1 x2 x3 h → qW p l e (qrm 5 0 0 109) s m args below meth c D cy b 7 0 0 (MQ below (qQc D cy b qrI Q) args s 0 0 (qA b)) 4 [(0, .inr (.inr (.inl x0))), (1, .inl x1), (2, .inl x2), (3, .inl x3)] [] h) : qW p l e (qrm 5 0 0 109) s m args below meth c D cy b 7 0 0 (MQ below (qQc D cy b qrI Q) args s 0 0 (qA b)) 49 [(0, .inr (.inr (.inl x0))), (1, .inl x1), (2, .inl x2), (3, .inl x3), (4, .inl x4), (5, .inl x5)] [.int z0, qr b z1] h := by
  unfold w_M_fillsPairs_49 at hw
  refine qx_iconst (v := (0 : Int32)) X d_M_fillsPairs_49 (by decide) ?_
  exact t_M_fillsPairs_50 X N x0 x1 x2 x3 x4 x5 (0 : Int32) z0 z1 h Q _ hw hK4
set_option maxRecDepth 4000 in
theorem t_M_fillsPairs_4 (X : qX p s m args meth c D cy b adK adV prog_14_method_108_code "CoatHangersModel" 7 (some .int) "fillsPairs") (N k : Nat) (x0 : Nat) (x1 : Int32) (x2 : Int32) (x3 : Int32) (h : qH) (Q : Int32 → qH → Prop)  (hw : w_M_fillsPairs_4 N k x0 x1 x2 x3 h Q ) : qW p l e (qrm 5 0 0 109) s m args below meth c D cy b 7 0 0 (MQ below (qQc D cy b qrI Q) args s 0 0 (qA b)) 4 [(0, .inr (.inr (.inl x0))), (1, .inl x1), (2, .inl x2), (3, .inl x3)] [] h := by
  induction k generalizing x0 x1 x2 x3 h with
  | zero => exact hw.elim
  | succ k ih =>
    refine qx_iload_n (x := x3) X d_M_fillsPairs_4 rfl 3 rfl ?_
    refine qx_bipush (v := (36 : Int32)) X d_M_fillsPairs_5 (by decide) ?_
    refine qx_icmp_ge X 193 d_M_fillsPairs_7 (by decide) (fun q1 => ?_) (fun q1 => ?_)
    · have hw := hw.1 q1
      refine qx_iload_n (x := x2) X d_M_fillsPairs_193 rfl 2 rfl ?_
      exact qx_iret X hw (Nat.le_refl 0) (Nat.le_refl 0) rfl d_M_fillsPairs_194
    · have hw := hw.2 q1
      refine qx_iload_n (x := x3) X d_M_fillsPairs_10 rfl 3 rfl ?_
      refine qx_bipush (v := (6 : Int32)) X d_M_fillsPairs_11 (by decide) ?_
      obtain ⟨g2, hw⟩ := hw
      refine qx_idiv X g2 d_M_fillsPairs_13 ?_
      refine qx_topi (fun y3 ey3 => ?_)
      have hw := hw y3 ey3
      refine qx_istore (L' := [(4, .inl y3), (0, .inr (.inr (.inl x0))), (1, .inl x1), (2, .inl x2), (3, .inl x3)]) X d_M_fillsPairs_14 (by decide) rfl ?_
      refine qx_iload_n (x := x3) X d_M_fillsPairs_16 rfl 4 rfl ?_
      refine qx_bipush (v := (6 : Int32)) X d_M_fillsPairs_17 (by decide) ?_
      obtain ⟨g4, hw⟩ := hw
      refine qx_irem X g4 d_M_fillsPairs_19 ?_
      refine qx_topi (fun y5 ey5 => ?_)
      have hw := hw y5 ey5
      refine qx_istore (L' := [(5, .inl y5), (4, .inl y3), (0, .inr (.inr (.inl x0))), (1, .inl x1), (2, .inl x2), (3, .inl x3)]) X d_M_fillsPairs_20 (by decide) rfl ?_
      refine qx_aload_n (x := x0) X d_M_fillsPairs_22 rfl 2 rfl ?_
      obtain ⟨g6, hw⟩ := hw
      refine qx_getR X qcls12 g6 67 (by decide) rfl wf_M_152 d_M_fillsPairs_23 ?_
      refine qx_iload_n (x := x3) X d_M_fillsPairs_26 rfl 5 rfl ?_
      refine qx_iload (x := y3) X d_M_fillsPairs_27 1 rfl ?_
      refine qx_iload (x := y5) X d_M_fillsPairs_29 0 rfl ?_
      refine qx_icmp_ge X 49 d_M_fillsPairs_31 (by decide) (fun q7 => ?_) (fun q7 => ?_)
      · have hw := hw.1 q7
        refine qx_sub [2, 3, 4, 5, 1, 0] rfl ?_
        exact t_M_fillsPairs_49 X N x0 x1 x2 x3 y3 y5 x3 (qR h x0 67) h Q _ hw ih
      · have hw := hw.2 q7
        refine qx_aload_n (x := x0) X d_M_fillsPairs_34 rfl 2 rfl ?_
        refine qx_iload (x := y3) X d_M_fillsPairs_35 1 rfl ?_
        refine qx_iload (x := y5) X d_M_fillsPairs_37 0 rfl ?_
        refine qx_callVI (st := [.int x3, qr b (qR h x0 67)]) (As := [.int y3, .int y5]) X (t_M_areUp (adK := adK) (adV := adV) l D cy b N x0 y3 y5 h _ hw) qm_M_areUp wm_M_404 wi_M_areUp wl_M_areUp qcls12 g6 rfl rfl rfl ⟨Nat.le_of_ble_eq_true rfl, Nat.le_of_ble_eq_true rfl⟩ ⟨Nat.le_refl 0, Nat.le_refl 0⟩ (Nat.le_of_ble_eq_true rfl) rfl d_M_fillsPairs_39 (fun r8 h9 hw => ?_)
        refine qx_if_eq X 49 d_M_fillsPairs_42 (by decide) (fun q10 => ?_) (fun q10 => ?_)
        · have hw := hw.1 q10
          refine qx_sub [2, 3, 4, 5, 1, 0] rfl ?_
          exact t_M_fillsPairs_49 X N x0 x1 x2 x3 y3 y5 x3 (qR h x0 67) h9 Q _ hw ih
        · have hw := hw.2 q10
          refine qx_iconst (v := (1 : Int32)) X d_M_fillsPairs_45 (by decide) ?_
          refine qx_goto X 50 d_M_fillsPairs_46 (by decide) ?_
          refine qx_sub [2, 3, 4, 5, 1, 0] rfl ?_
          exact t_M_fillsPairs_50 X N x0 x1 x2 x3 y3 y5 (1 : Int32) x3 (qR h x0 67) h9 Q _ hw ih
set_option maxRecDepth 4000 in
theorem t_M_fillsPairs {adK adV : Nat → Nat} (l : Launch) (D : va_G) (cy : Nat → ClassId) (b : Nat) (N : Nat) (x0 : Nat) (x1 : Int32) (h : qH) (Q : Int32 → qH → Prop) (hw : w_M_fillsPairs N x0 x1 h Q) : Met l y_M_fillsPairs (Cond.code y_M_fillsPairs prog_14_method_108_code 7 (some .int) :: qT) (qrm 5 0 0 109) (qPc D cy b adK adV h [qr b x0, .int x1]) (qQc D cy b qrI Q) 0 0 (qA b) := by
  refine qmet (L0 := [(0, .inr (.inr (.inl x0))), (1, .inl x1)]) qm_M_fillsPairs (plainFor_of_name (by decide)) [.inr (.inr (.inl x0)), .inl x1] rfl (Nat.le_of_ble_eq_true rfl) rfl (fun p e s m args below meth c X => ?_)
  unfold w_M_fillsPairs at hw
  refine qx_iconst (v := (0 : Int32)) X d_M_fillsPairs_0 (by decide) ?_
  refine qx_istore_n (L' := [(2, .inl (0 : Int32)), (0, .inr (.inr (.inl x0))), (1, .inl x1)]) X d_M_fillsPairs_1 rfl (by decide) rfl ?_
  refine qx_iconst (v := (0 : Int32)) X d_M_fillsPairs_2 (by decide) ?_
  refine qx_istore_n (L' := [(3, .inl (0 : Int32)), (2, .inl (0 : Int32)), (0, .inr (.inr (.inl x0))), (1, .inl x1)]) X d_M_fillsPairs_3 rfl (by decide) rfl ?_
  refine qx_sub [2, 3, 1, 0] rfl ?_
  exact t_M_fillsPairs_4 X N N x0 x1 (0 : Int32) (0 : Int32) h Q  hw 
set_option maxRecDepth 4000 in
theorem t_M_two_45 (X : qX p s m args meth c D cy b adK adV prog_14_method_109_code "CoatHangersModel" 6 (some .int) "two") (N k : Nat) (x0 : Nat) (x2 : Int32) (x4 : Int32) (x5 : Int32) (h : qH) (Q : Int32 → qH → Prop) (K70 : Int32 → qH → Prop) (hw : w_M_two_45 N k x0 x2 x4 x5 h Q K70) (hK70 : ∀ (x5 : Int32) (h : qH), K70 x5 h → qW p l e (qrm 6 0 0 135) s m args below meth c D cy b 6 0 0 (MQ below (qQc D cy b qrI Q) args s 0 0 (qA b)) 70 [(5, .inl x5)] [] h) : qW p l e (qrm 6 0 0 135) s m args below meth c D cy b 6 0 0 (MQ below (qQc D cy b qrI Q) args s 0 0 (qA b)) 45 [(0, .inr (.inr (.inl x0))), (2, .inl x2), (4, .inl x4), (5, .inl x5)] [] h := by
  induction k generalizing x0 x2 x4 x5 h with
  | zero => exact hw.elim
  | succ k ih =>
    refine qx_iload (x := x4) X d_M_two_45 2 rfl ?_
    refine qx_iload_n (x := x2) X d_M_two_47 rfl 1 rfl ?_
    refine qx_icmp_ge X 70 d_M_two_48 (by decide) (fun q1 => ?_) (fun q1 => ?_)
    · have hw := hw.1 q1
      refine qx_sub [3] rfl ?_
      exact hK70 x5 h hw
    · have hw := hw.2 q1
      refine qx_iinc (v := (x5 + (1 : Int32))) (L' := [(5, .inl (x5 + (1 : Int32))), (0, .inr (.inr (.inl x0))), (2, .inl x2), (4, .inl x4)]) X d_M_two_51 3 rfl rfl (by decide) rfl ?_
      refine qx_aload_n (x := x0) X d_M_two_54 rfl 1 rfl ?_
      obtain ⟨g2, hw⟩ := hw
      refine qx_getR X qcls12 g2 67 (by decide) rfl wf_M_152 d_M_two_55 ?_
      refine qx_iload (x := (x5 + (1 : Int32))) X d_M_two_58 0 rfl ?_
      obtain ⟨g3, hw⟩ := hw
      refine qx_zld X g3 d_M_two_60 ?_
      refine qx_if_eq X 45 d_M_two_61 (by decide) (fun q4 => ?_) (fun q4 => ?_)
      · have hw := hw.1 q4
        refine qx_sub [1, 2, 3, 0] rfl ?_
        exact ih x0 x2 x4 (x5 + (1 : Int32)) h hw
      · have hw := hw.2 q4
        refine qx_iinc (v := (x4 + (1 : Int32))) (L' := [(4, .inl (x4 + (1 : Int32))), (5, .inl (x5 + (1 : Int32))), (0, .inr (.inr (.inl x0))), (2, .inl x2)]) X d_M_two_64 3 rfl rfl (by decide) rfl ?_
        refine qx_goto X 45 d_M_two_67 (by decide) ?_
        refine qx_sub [2, 3, 0, 1] rfl ?_
        exact ih x0 x2 (x4 + (1 : Int32)) (x5 + (1 : Int32)) h hw
set_option maxRecDepth 4000 in
theorem t_M_two {adK adV : Nat → Nat} (l : Launch) (D : va_G) (cy : Nat → ClassId) (b : Nat) (N : Nat) (x0 : Nat) (x1 : Int32) (x2 : Int32) (h : qH) (Q : Int32 → qH → Prop) (hw : w_M_two N x0 x1 x2 h Q) : Met l y_M_two (Cond.code y_M_two prog_14_method_109_code 6 (some .int) :: qT) (qrm 6 0 0 135) (qPc D cy b adK adV h [qr b x0, .int x1, .int x2]) (qQc D cy b qrI Q) 0 0 (qA b) := by
  refine qmet (L0 := [(0, .inr (.inr (.inl x0))), (1, .inl x1), (2, .inl x2)]) qm_M_two (plainFor_of_name (by decide)) [.inr (.inr (.inl x0)), .inl x1, .inl x2] rfl (Nat.le_of_ble_eq_true rfl) rfl (fun p e s m args below meth c X => ?_)
  unfold w_M_two at hw
  refine qx_iload_n (x := x1) X d_M_two_0 rfl 1 rfl ?_
  refine qx_iconst (v := (0 : Int32)) X d_M_two_1 (by decide) ?_
  refine qx_aload_n (x := x0) X d_M_two_2 rfl 0 rfl ?_
  obtain ⟨g1, hw⟩ := hw
  refine qx_getI X qcls12 g1 63 (by decide) rfl wf_M_266 d_M_two_3 ?_
  refine qx_callSI (st := []) (As := [.int x1, .int (0 : Int32), .int (qI h x0 63)]) X (t_M_in (adK := adK) (adV := adV) l D cy b N x1 (0 : Int32) (qI h x0 63) h _ hw) qm_M_in wm_M_322 wi_M_in rfl rfl rfl ⟨Nat.le_of_ble_eq_true rfl, Nat.le_of_ble_eq_true rfl⟩ ⟨Nat.le_refl 0, Nat.le_refl 0⟩ (Nat.le_of_ble_eq_true rfl) rfl d_M_two_6 (fun r2 h3 hw => ?_)
  refine qx_if_eq X 17 d_M_two_9 (by decide) (fun q4 => ?_) (fun q4 => ?_)
  · have hw := hw.1 q4
    refine qx_iconst (v := (-1 : Int32)) X d_M_two_17 (by decide) ?_
    exact qx_iret X hw (Nat.le_refl 0) (Nat.le_refl 0) rfl d_M_two_18
  · have hw := hw.2 q4
    refine qx_iload_n (x := x2) X d_M_two_12 rfl 2 rfl ?_
    refine qx_iconst (v := (-1 : Int32)) X d_M_two_13 (by decide) ?_
    refine qx_icmp_ge X 19 d_M_two_14 (by decide) (fun q5 => ?_) (fun q5 => ?_)
    · have hw := hw.1 q5
      refine qx_aload_n (x := x0) X d_M_two_19 rfl 0 rfl ?_
      refine qx_iload_n (x := x1) X d_M_two_20 rfl 1 rfl ?_
      obtain ⟨g6, hw⟩ := hw
      refine qx_callVI (st := []) (As := [.int x1]) X (t_M_fillsPairs (adK := adK) (adV := adV) l D cy b N x0 x1 h3 _ hw) qm_M_fillsPairs wm_M_457 wi_M_fillsPairs wl_M_fillsPairs qcls12 g6 rfl rfl rfl ⟨Nat.le_of_ble_eq_true rfl, Nat.le_of_ble_eq_true rfl⟩ ⟨Nat.le_refl 0, Nat.le_refl 0⟩ (Nat.le_of_ble_eq_true rfl) rfl d_M_two_21 (fun r7 h8 hw => ?_)
      refine qx_istore_n (L' := [(3, .inl r7), (0, .inr (.inr (.inl x0))), (1, .inl x1), (2, .inl x2)]) X d_M_two_24 rfl (by decide) rfl ?_
      refine qx_iload_n (x := x2) X d_M_two_25 rfl 3 rfl ?_
      refine qx_iconst (v := (-1 : Int32)) X d_M_two_26 (by decide) ?_
      refine qx_icmp_ne X 32 d_M_two_27 (by decide) (fun q9 => ?_) (fun q9 => ?_)
      · have hw := hw.1 q9
        refine qx_iload_n (x := x2) X d_M_two_32 rfl 3 rfl ?_
        refine qx_iload_n (x := r7) X d_M_two_33 rfl 0 rfl ?_
        refine qx_icmp_lt X 39 d_M_two_34 (by decide) (fun q10 => ?_) (fun q10 => ?_)
        · have hw := hw.1 q10
          refine qx_iconst (v := (-1 : Int32)) X d_M_two_39 (by decide) ?_
          refine qx_istore (L' := [(4, .inl (-1 : Int32)), (3, .inl r7), (0, .inr (.inr (.inl x0))), (1, .inl x1), (2, .inl x2)]) X d_M_two_40 (by decide) rfl ?_
          refine qx_iconst (v := (-1 : Int32)) X d_M_two_42 (by decide) ?_
          refine qx_istore (L' := [(5, .inl (-1 : Int32)), (4, .inl (-1 : Int32)), (3, .inl r7), (0, .inr (.inr (.inl x0))), (1, .inl x1), (2, .inl x2)]) X d_M_two_43 (by decide) rfl ?_
          refine qx_sub [3, 5, 1, 0] rfl ?_
          refine t_M_two_45 X N N x0 x2 (-1 : Int32) (-1 : Int32) h8 Q _ hw (fun x11 h12 hw => ?_)
          refine qx_bipush (v := (10 : Int32)) X d_M_two_70 (by decide) ?_
          refine qx_iload (x := x11) X d_M_two_72 0 rfl ?_
          refine qx_bipush (v := (6 : Int32)) X d_M_two_74 (by decide) ?_
          obtain ⟨g13, hw⟩ := hw
          refine qx_idiv X g13 d_M_two_76 ?_
          refine qx_imul X d_M_two_77 ?_
          refine qx_iload (x := x11) X d_M_two_78 0 rfl ?_
          refine qx_bipush (v := (6 : Int32)) X d_M_two_80 (by decide) ?_
          obtain ⟨g14, hw⟩ := hw
          refine qx_irem X g14 d_M_two_82 ?_
          refine qx_iadd X d_M_two_83 ?_
          exact qx_iret X hw (Nat.le_refl 0) (Nat.le_refl 0) rfl d_M_two_84
        · have hw := hw.2 q10
          refine qx_iconst (v := (-1 : Int32)) X d_M_two_37 (by decide) ?_
          exact qx_iret X hw (Nat.le_refl 0) (Nat.le_refl 0) rfl d_M_two_38
      · have hw := hw.2 q9
        refine qx_iload_n (x := r7) X d_M_two_30 rfl 0 rfl ?_
        exact qx_iret X hw (Nat.le_refl 0) (Nat.le_refl 0) rfl d_M_two_31
    · have hw := hw.2 q5
      refine qx_iconst (v := (-1 : Int32)) X d_M_two_17 (by decide) ?_
      exact qx_iret X hw (Nat.le_refl 0) (Nat.le_refl 0) rfl d_M_two_18
set_option maxRecDepth 4000 in
theorem t_M_worstOf_16 (X : qX p s m args meth c D cy b adK adV prog_14_method_110_code "CoatHangersModel" 6 (some .int) "worstOf") (N k : Nat) (x0 : Nat) (x1 : Int32) (x2 : Int32) (x3 : Int32) (x4 : Int32) (x5 : Int32) (h : qH) (Q : Int32 → qH → Prop) (K58 : Nat → Int32 → Int32 → Int32 → Int32 → qH → Prop) (hw : w_M_worstOf_16 N k x0 x1 x2 x3 x4 x5 h Q K58) (hK58 : ∀ (x0 : Nat) (x1 : Int32) (x2 : Int32) (x3 : Int32) (x4 : Int32) (h : qH), K58 x0 x1 x2 x3 x4 h → qW p l e (qrm 0 0 0 0) s m args below meth c D cy b 6 0 0 (MQ below (qQc D cy b qrI Q) args s 0 0 (qA b)) 58 [(0, .inr (.inr (.inl x0))), (1, .inl x1), (2, .inl x2), (3, .inl x3), (4, .inl x4)] [] h) : qW p l e (qrm 0 0 0 0) s m args below meth c D cy b 6 0 0 (MQ below (qQc D cy b qrI Q) args s 0 0 (qA b)) 16 [(0, .inr (.inr (.inl x0))), (1, .inl x1), (2, .inl x2), (3, .inl x3), (4, .inl x4), (5, .inl x5)] [] h := by
  induction k generalizing x0 x1 x2 x3 x4 x5 h with
  | zero => exact hw.elim
  | succ k ih =>
    refine qx_iload (x := x5) X d_M_worstOf_16 5 rfl ?_
    refine qx_bipush (v := (36 : Int32)) X d_M_worstOf_18 (by decide) ?_
    refine qx_icmp_ge X 58 d_M_worstOf_20 (by decide) (fun q1 => ?_) (fun q1 => ?_)
    · have hw := hw.1 q1
      refine qx_sub [0, 1, 2, 3, 4] rfl ?_
      exact hK58 x0 x1 x2 x3 x4 h hw
    · have hw := hw.2 q1
      refine qx_aload_n (x := x0) X d_M_worstOf_23 rfl 0 rfl ?_
      obtain ⟨g2, hw⟩ := hw
      refine qx_getR X qcls12 g2 67 (by decide) rfl wf_M_152 d_M_worstOf_24 ?_
      refine qx_iload (x := x5) X d_M_worstOf_27 5 rfl ?_
      obtain ⟨g3, hw⟩ := hw
      refine qx_zld X g3 d_M_worstOf_29 ?_
      refine qx_if_eq X 52 d_M_worstOf_30 (by decide) (fun q4 => ?_) (fun q4 => ?_)
      · have hw := hw.1 q4
        refine qx_iinc (v := (x5 + (1 : Int32))) (L' := [(5, .inl (x5 + (1 : Int32))), (0, .inr (.inr (.inl x0))), (1, .inl x1), (2, .inl x2), (3, .inl x3), (4, .inl x4)]) X d_M_worstOf_52 5 rfl rfl (by decide) rfl ?_
        refine qx_goto X 16 d_M_worstOf_55 (by decide) ?_
        refine qx_sub [1, 2, 3, 4, 5, 0] rfl ?_
        exact ih x0 x1 x2 x3 x4 (x5 + (1 : Int32)) h hw
      · have hw := hw.2 q4
        refine qx_aload_n (x := x0) X d_M_worstOf_33 rfl 0 rfl ?_
        refine qx_getR X qcls12 g2 68 (by decide) rfl wf_M_155 d_M_worstOf_34 ?_
        refine qx_bipush (v := (6 : Int32)) X d_M_worstOf_37 (by decide) ?_
        refine qx_iload (x := x5) X d_M_worstOf_39 5 rfl ?_
        refine qx_imul X d_M_worstOf_41 ?_
        refine qx_iload_n (x := x1) X d_M_worstOf_42 rfl 1 rfl ?_
        refine qx_iadd X d_M_worstOf_43 ?_
        obtain ⟨g5, hw⟩ := hw
        refine qx_ild X g5 d_M_worstOf_44 ?_
        refine qx_iload_n (x := x3) X d_M_worstOf_45 rfl 3 rfl ?_
        refine qx_icmp_ne X 52 d_M_worstOf_46 (by decide) (fun q6 => ?_) (fun q6 => ?_)
        · have hw := hw.1 q6
          refine qx_iinc (v := (x5 + (1 : Int32))) (L' := [(5, .inl (x5 + (1 : Int32))), (0, .inr (.inr (.inl x0))), (1, .inl x1), (2, .inl x2), (3, .inl x3), (4, .inl x4)]) X d_M_worstOf_52 5 rfl rfl (by decide) rfl ?_
          refine qx_goto X 16 d_M_worstOf_55 (by decide) ?_
          refine qx_sub [1, 2, 3, 4, 5, 0] rfl ?_
          exact ih x0 x1 x2 x3 x4 (x5 + (1 : Int32)) h hw
        · have hw := hw.2 q6
          refine qx_iinc (v := (x4 + (1 : Int32))) (L' := [(4, .inl (x4 + (1 : Int32))), (0, .inr (.inr (.inl x0))), (1, .inl x1), (2, .inl x2), (3, .inl x3), (5, .inl x5)]) X d_M_worstOf_49 4 rfl rfl (by decide) rfl ?_
          refine qx_iinc (v := (x5 + (1 : Int32))) (L' := [(5, .inl (x5 + (1 : Int32))), (4, .inl (x4 + (1 : Int32))), (0, .inr (.inr (.inl x0))), (1, .inl x1), (2, .inl x2), (3, .inl x3)]) X d_M_worstOf_52 5 rfl rfl (by decide) rfl ?_
          refine qx_goto X 16 d_M_worstOf_55 (by decide) ?_
          refine qx_sub [2, 3, 4, 5, 1, 0] rfl ?_
          exact ih x0 x1 x2 x3 (x4 + (1 : Int32)) (x5 + (1 : Int32)) h hw
set_option maxRecDepth 4000 in
theorem t_M_worstOf_4 (X : qX p s m args meth c D cy b adK adV prog_14_method_110_code "CoatHangersModel" 6 (some .int) "worstOf") (N k : Nat) (x0 : Nat) (x1 : Int32) (x2 : Int32) (x3 : Int32) (h : qH) (Q : Int32 → qH → Prop)  (hw : w_M_worstOf_4 N k x0 x1 x2 x3 h Q ) : qW p l e (qrm 0 0 0 0) s m args below meth c D cy b 6 0 0 (MQ below (qQc D cy b qrI Q) args s 0 0 (qA b)) 4 [(0, .inr (.inr (.inl x0))), (1, .inl x1), (2, .inl x2), (3, .inl x3)] [] h := by
  induction k generalizing x0 x1 x2 x3 h with
  | zero => exact hw.elim
  | succ k ih =>
    refine qx_iload_n (x := x3) X d_M_worstOf_4 rfl 3 rfl ?_
    refine qx_bipush (v := (6 : Int32)) X d_M_worstOf_5 (by decide) ?_
    refine qx_icmp_ge X 73 d_M_worstOf_7 (by decide) (fun q1 => ?_) (fun q1 => ?_)
    · have hw := hw.1 q1
      refine qx_iload_n (x := x2) X d_M_worstOf_73 rfl 2 rfl ?_
      exact qx_iret X hw (Nat.le_refl 0) (Nat.le_refl 0) rfl d_M_worstOf_74
    · have hw := hw.2 q1
      refine qx_iconst (v := (0 : Int32)) X d_M_worstOf_10 (by decide) ?_
      refine qx_istore (L' := [(4, .inl (0 : Int32)), (0, .inr (.inr (.inl x0))), (1, .inl x1), (2, .inl x2), (3, .inl x3)]) X d_M_worstOf_11 (by decide) rfl ?_
      refine qx_iconst (v := (0 : Int32)) X d_M_worstOf_13 (by decide) ?_
      refine qx_istore (L' := [(5, .inl (0 : Int32)), (4, .inl (0 : Int32)), (0, .inr (.inr (.inl x0))), (1, .inl x1), (2, .inl x2), (3, .inl x3)]) X d_M_worstOf_14 (by decide) rfl ?_
      refine qx_sub [2, 3, 4, 5, 1, 0] rfl ?_
      refine t_M_worstOf_16 X N N x0 x1 x2 x3 (0 : Int32) (0 : Int32) h Q _ hw (fun x2 x3 x4 x5 x6 h7 hw => ?_)
      refine qx_iload (x := x6) X d_M_worstOf_58 4 rfl ?_
      refine qx_iload_n (x := x4) X d_M_worstOf_60 rfl 2 rfl ?_
      refine qx_icmp_le X 67 d_M_worstOf_61 (by decide) (fun q8 => ?_) (fun q8 => ?_)
      · have hw := hw.1 q8
        refine qx_iinc (v := (x5 + (1 : Int32))) (L' := [(3, .inl (x5 + (1 : Int32))), (0, .inr (.inr (.inl x2))), (1, .inl x3), (2, .inl x4), (4, .inl x6)]) X d_M_worstOf_67 3 rfl rfl (by decide) rfl ?_
        refine qx_goto X 4 d_M_worstOf_70 (by decide) ?_
        refine qx_sub [1, 2, 3, 0] rfl ?_
        exact ih x2 x3 x4 (x5 + (1 : Int32)) h7 hw
      · have hw := hw.2 q8
        refine qx_iload (x := x6) X d_M_worstOf_64 4 rfl ?_
        refine qx_istore_n (L' := [(2, .inl x6), (0, .inr (.inr (.inl x2))), (1, .inl x3), (3, .inl x5), (4, .inl x6)]) X d_M_worstOf_66 rfl (by decide) rfl ?_
        refine qx_iinc (v := (x5 + (1 : Int32))) (L' := [(3, .inl (x5 + (1 : Int32))), (2, .inl x6), (0, .inr (.inr (.inl x2))), (1, .inl x3), (4, .inl x6)]) X d_M_worstOf_67 3 rfl rfl (by decide) rfl ?_
        refine qx_goto X 4 d_M_worstOf_70 (by decide) ?_
        refine qx_sub [2, 3, 1, 0] rfl ?_
        exact ih x2 x3 x6 (x5 + (1 : Int32)) h7 hw
set_option maxRecDepth 4000 in
theorem t_M_worstOf {adK adV : Nat → Nat} (l : Launch) (D : va_G) (cy : Nat → ClassId) (b : Nat) (N : Nat) (x0 : Nat) (x1 : Int32) (h : qH) (Q : Int32 → qH → Prop) (hw : w_M_worstOf N x0 x1 h Q) : Met l y_M_worstOf (Cond.code y_M_worstOf prog_14_method_110_code 6 (some .int) :: qT) (qrm 0 0 0 0) (qPc D cy b adK adV h [qr b x0, .int x1]) (qQc D cy b qrI Q) 0 0 (qA b) := by
  refine qmet (L0 := [(0, .inr (.inr (.inl x0))), (1, .inl x1)]) qm_M_worstOf (plainFor_of_name (by decide)) [.inr (.inr (.inl x0)), .inl x1] rfl (Nat.le_of_ble_eq_true rfl) rfl (fun p e s m args below meth c X => ?_)
  unfold w_M_worstOf at hw
  refine qx_iconst (v := (0 : Int32)) X d_M_worstOf_0 (by decide) ?_
  refine qx_istore_n (L' := [(2, .inl (0 : Int32)), (0, .inr (.inr (.inl x0))), (1, .inl x1)]) X d_M_worstOf_1 rfl (by decide) rfl ?_
  refine qx_iconst (v := (0 : Int32)) X d_M_worstOf_2 (by decide) ?_
  refine qx_istore_n (L' := [(3, .inl (0 : Int32)), (2, .inl (0 : Int32)), (0, .inr (.inr (.inl x0))), (1, .inl x1)]) X d_M_worstOf_3 rfl (by decide) rfl ?_
  refine qx_sub [2, 3, 1, 0] rfl ?_
  exact t_M_worstOf_4 X N N x0 x1 (0 : Int32) (0 : Int32) h Q  hw 
set_option maxRecDepth 4000 in
theorem t_M_ask_26 (X : qX p s m args meth c D cy b adK adV prog_14_method_111_code "CoatHangersModel" 5 (some .int) "ask") (N k : Nat) (x0 : Nat) (x2 : Int32) (x3 : Int32) (x4 : Int32) (h : qH) (Q : Int32 → qH → Prop)  (hw : w_M_ask_26 N k x0 x2 x3 x4 h Q ) : qW p l e (qrm 6 0 0 135) s m args below meth c D cy b 5 0 0 (MQ below (qQc D cy b qrI Q) args s 0 0 (qA b)) 26 [(0, .inr (.inr (.inl x0))), (2, .inl x2), (3, .inl x3), (4, .inl x4)] [] h := by
  induction k generalizing x0 x2 x3 x4 h with
  | zero => exact hw.elim
  | succ k ih =>
    refine qx_iload (x := x4) X d_M_ask_26 3 rfl ?_
    refine qx_aload_n (x := x0) X d_M_ask_28 rfl 0 rfl ?_
    obtain ⟨g1, hw⟩ := hw
    refine qx_getR X qcls12 g1 26 (by decide) rfl wf_M_55 d_M_ask_29 ?_
    refine qx_aload_n (x := x0) X d_M_ask_32 rfl 0 rfl ?_
    refine qx_getI X qcls12 g1 18 (by decide) rfl wf_M_245 d_M_ask_33 ?_
    obtain ⟨g2, hw⟩ := hw
    refine qx_ild X g2 d_M_ask_36 ?_
    refine qx_icmp_ge X 71 d_M_ask_37 (by decide) (fun q3 => ?_) (fun q3 => ?_)
    · have hw := hw.1 q3
      refine qx_iload_n (x := x3) X d_M_ask_71 rfl 2 rfl ?_
      exact qx_iret X hw (Nat.le_refl 0) (Nat.le_refl 0) rfl d_M_ask_72
    · have hw := hw.2 q3
      refine qx_iload_n (x := x2) X d_M_ask_40 rfl 1 rfl ?_
      refine qx_if_le X 71 d_M_ask_41 (by decide) (fun q4 => ?_) (fun q4 => ?_)
      · have hw := hw.1 q4
        refine qx_iload_n (x := x3) X d_M_ask_71 rfl 2 rfl ?_
        exact qx_iret X hw (Nat.le_refl 0) (Nat.le_refl 0) rfl d_M_ask_72
      · have hw := hw.2 q4
        refine qx_iload_n (x := x3) X d_M_ask_44 rfl 2 rfl ?_
        refine qx_if_lt X 62 d_M_ask_45 (by decide) (fun q5 => ?_) (fun q5 => ?_)
        · have hw := hw.1 q5
          refine qx_iload (x := x4) X d_M_ask_62 3 rfl ?_
          refine qx_istore_n (L' := [(3, .inl x4), (0, .inr (.inr (.inl x0))), (2, .inl x2), (4, .inl x4)]) X d_M_ask_64 rfl (by decide) rfl ?_
          refine qx_iinc (v := (x4 + (1 : Int32))) (L' := [(4, .inl (x4 + (1 : Int32))), (3, .inl x4), (0, .inr (.inr (.inl x0))), (2, .inl x2)]) X d_M_ask_65 3 rfl rfl (by decide) rfl ?_
          refine qx_goto X 26 d_M_ask_68 (by decide) ?_
          refine qx_sub [2, 3, 1, 0] rfl ?_
          exact ih x0 x2 x4 (x4 + (1 : Int32)) h hw
        · have hw := hw.2 q5
          refine qx_aload_n (x := x0) X d_M_ask_48 rfl 0 rfl ?_
          refine qx_iload (x := x4) X d_M_ask_49 3 rfl ?_
          refine qx_callVI (st := []) (As := [.int x4]) X (t_M_worstOf (adK := adK) (adV := adV) l D cy b N x0 x4 h _ hw) qm_M_worstOf wm_M_460 wi_M_worstOf wl_M_worstOf qcls12 g1 rfl rfl rfl ⟨Nat.le_of_ble_eq_true rfl, Nat.le_of_ble_eq_true rfl⟩ ⟨Nat.le_refl 0, Nat.le_refl 0⟩ (Nat.le_of_ble_eq_true rfl) rfl d_M_ask_51 (fun r6 h7 hw => ?_)
          refine qx_aload_n (x := x0) X d_M_ask_54 rfl 0 rfl ?_
          refine qx_iload_n (x := x3) X d_M_ask_55 rfl 2 rfl ?_
          obtain ⟨g8, hw⟩ := hw
          refine qx_callVI (st := [.int r6]) (As := [.int x3]) X (t_M_worstOf (adK := adK) (adV := adV) l D cy b N x0 x3 h7 _ hw) qm_M_worstOf wm_M_460 wi_M_worstOf wl_M_worstOf qcls12 g8 rfl rfl rfl ⟨Nat.le_of_ble_eq_true rfl, Nat.le_of_ble_eq_true rfl⟩ ⟨Nat.le_refl 0, Nat.le_refl 0⟩ (Nat.le_of_ble_eq_true rfl) rfl d_M_ask_56 (fun r9 h10 hw => ?_)
          refine qx_icmp_ge X 65 d_M_ask_59 (by decide) (fun q11 => ?_) (fun q11 => ?_)
          · have hw := hw.1 q11
            refine qx_iinc (v := (x4 + (1 : Int32))) (L' := [(4, .inl (x4 + (1 : Int32))), (0, .inr (.inr (.inl x0))), (2, .inl x2), (3, .inl x3)]) X d_M_ask_65 3 rfl rfl (by decide) rfl ?_
            refine qx_goto X 26 d_M_ask_68 (by decide) ?_
            refine qx_sub [1, 2, 3, 0] rfl ?_
            exact ih x0 x2 x3 (x4 + (1 : Int32)) h10 hw
          · have hw := hw.2 q11
            refine qx_iload (x := x4) X d_M_ask_62 3 rfl ?_
            refine qx_istore_n (L' := [(3, .inl x4), (0, .inr (.inr (.inl x0))), (2, .inl x2), (4, .inl x4)]) X d_M_ask_64 rfl (by decide) rfl ?_
            refine qx_iinc (v := (x4 + (1 : Int32))) (L' := [(4, .inl (x4 + (1 : Int32))), (3, .inl x4), (0, .inr (.inr (.inl x0))), (2, .inl x2)]) X d_M_ask_65 3 rfl rfl (by decide) rfl ?_
            refine qx_goto X 26 d_M_ask_68 (by decide) ?_
            refine qx_sub [2, 3, 1, 0] rfl ?_
            exact ih x0 x2 x4 (x4 + (1 : Int32)) h10 hw
set_option maxRecDepth 4000 in
theorem t_M_ask {adK adV : Nat → Nat} (l : Launch) (D : va_G) (cy : Nat → ClassId) (b : Nat) (N : Nat) (x0 : Nat) (x1 : Int32) (h : qH) (Q : Int32 → qH → Prop) (hw : w_M_ask N x0 x1 h Q) : Met l y_M_ask (Cond.code y_M_ask prog_14_method_111_code 5 (some .int) :: qT) (qrm 6 0 0 135) (qPc D cy b adK adV h [qr b x0, .int x1]) (qQc D cy b qrI Q) 0 0 (qA b) := by
  refine qmet (L0 := [(0, .inr (.inr (.inl x0))), (1, .inl x1)]) qm_M_ask (plainFor_of_name (by decide)) [.inr (.inr (.inl x0)), .inl x1] rfl (Nat.le_of_ble_eq_true rfl) rfl (fun p e s m args below meth c X => ?_)
  unfold w_M_ask at hw
  refine qx_iload_n (x := x1) X d_M_ask_0 rfl 1 rfl ?_
  refine qx_iconst (v := (0 : Int32)) X d_M_ask_1 (by decide) ?_
  refine qx_aload_n (x := x0) X d_M_ask_2 rfl 0 rfl ?_
  obtain ⟨g1, hw⟩ := hw
  refine qx_getI X qcls12 g1 63 (by decide) rfl wf_M_266 d_M_ask_3 ?_
  refine qx_callSI (st := []) (As := [.int x1, .int (0 : Int32), .int (qI h x0 63)]) X (t_M_in (adK := adK) (adV := adV) l D cy b N x1 (0 : Int32) (qI h x0 63) h _ hw) qm_M_in wm_M_322 wi_M_in rfl rfl rfl ⟨Nat.le_of_ble_eq_true rfl, Nat.le_of_ble_eq_true rfl⟩ ⟨Nat.le_refl 0, Nat.le_refl 0⟩ (Nat.le_of_ble_eq_true rfl) rfl d_M_ask_6 (fun r2 h3 hw => ?_)
  refine qx_if_ne X 14 d_M_ask_9 (by decide) (fun q4 => ?_) (fun q4 => ?_)
  · have hw := hw.1 q4
    refine qx_aload_n (x := x0) X d_M_ask_14 rfl 0 rfl ?_
    refine qx_iload_n (x := x1) X d_M_ask_15 rfl 1 rfl ?_
    obtain ⟨g5, hw⟩ := hw
    refine qx_callVI (st := []) (As := [.int x1]) X (t_M_fillsPairs (adK := adK) (adV := adV) l D cy b N x0 x1 h3 _ hw) qm_M_fillsPairs wm_M_457 wi_M_fillsPairs wl_M_fillsPairs qcls12 g5 rfl rfl rfl ⟨Nat.le_of_ble_eq_true rfl, Nat.le_of_ble_eq_true rfl⟩ ⟨Nat.le_refl 0, Nat.le_refl 0⟩ (Nat.le_of_ble_eq_true rfl) rfl d_M_ask_16 (fun r6 h7 hw => ?_)
    refine qx_istore_n (L' := [(2, .inl r6), (0, .inr (.inr (.inl x0))), (1, .inl x1)]) X d_M_ask_19 rfl (by decide) rfl ?_
    refine qx_bipush (v := (-2 : Int32)) X d_M_ask_20 (by decide) ?_
    refine qx_istore_n (L' := [(3, .inl (-2 : Int32)), (2, .inl r6), (0, .inr (.inr (.inl x0))), (1, .inl x1)]) X d_M_ask_22 rfl (by decide) rfl ?_
    refine qx_iconst (v := (0 : Int32)) X d_M_ask_23 (by decide) ?_
    refine qx_istore (L' := [(4, .inl (0 : Int32)), (3, .inl (-2 : Int32)), (2, .inl r6), (0, .inr (.inr (.inl x0))), (1, .inl x1)]) X d_M_ask_24 (by decide) rfl ?_
    refine qx_sub [3, 2, 1, 0] rfl ?_
    exact t_M_ask_26 X N N x0 r6 (-2 : Int32) (0 : Int32) h7 Q  hw 
  · have hw := hw.2 q4
    refine qx_iconst (v := (-1 : Int32)) X d_M_ask_12 (by decide) ?_
    exact qx_iret X hw (Nat.le_refl 0) (Nat.le_refl 0) rfl d_M_ask_13
set_option maxRecDepth 4000 in
theorem t_M_hold_20 (X : qX p s m args meth c D cy b adK adV prog_14_method_112_code "CoatHangersModel" 3 (some .boolean) "hold") (N k : Nat) (x0 : Nat) (x1 : Int32) (x2 : Int32) (h : qH) (Q : Int32 → qH → Prop)  (hw : w_M_hold_20 N k x0 x1 x2 h Q ) : qW p l e (qrm 1 0 0 22) s m args below meth c D cy b 3 0 0 (MQ below (qQc D cy b qrI Q) args s 0 0 (qA b)) 20 [(0, .inr (.inr (.inl x0))), (1, .inl x1), (2, .inl x2)] [] h := by
  induction k generalizing x0 x1 x2 h with
  | zero => exact hw.elim
  | succ k ih =>
    refine qx_iload_n (x := x2) X d_M_hold_20 rfl 2 rfl ?_
    refine qx_bipush (v := (32 : Int32)) X d_M_hold_21 (by decide) ?_
    refine qx_icmp_ge X 49 d_M_hold_23 (by decide) (fun q1 => ?_) (fun q1 => ?_)
    · have hw := hw.1 q1
      refine qx_iconst (v := (1 : Int32)) X d_M_hold_49 (by decide) ?_
      exact qx_zret X hw (Nat.le_refl 0) (Nat.le_refl 0) rfl d_M_hold_50
    · have hw := hw.2 q1
      refine qx_aload_n (x := x0) X d_M_hold_26 rfl 0 rfl ?_
      obtain ⟨g2, hw⟩ := hw
      refine qx_getR X qcls12 g2 70 (by decide) rfl wf_M_161 d_M_hold_27 ?_
      refine qx_bipush (v := (32 : Int32)) X d_M_hold_30 (by decide) ?_
      refine qx_iload_n (x := x1) X d_M_hold_32 rfl 1 rfl ?_
      refine qx_imul X d_M_hold_33 ?_
      refine qx_iload_n (x := x2) X d_M_hold_34 rfl 2 rfl ?_
      refine qx_iadd X d_M_hold_35 ?_
      refine qx_aload_n (x := x0) X d_M_hold_36 rfl 0 rfl ?_
      refine qx_getR X qcls12 g2 49 (by decide) rfl wf_M_113 d_M_hold_37 ?_
      refine qx_iload_n (x := x2) X d_M_hold_40 rfl 2 rfl ?_
      obtain ⟨g3, hw⟩ := hw
      refine qx_ild X g3 d_M_hold_41 ?_
      obtain ⟨g4, hw⟩ := hw
      refine qx_ist X g4 d_M_hold_42 ?_
      refine qx_toph (fun h5 eh5 => ?_)
      have hw := hw h5 eh5
      refine qx_iinc (v := (x2 + (1 : Int32))) (L' := [(2, .inl (x2 + (1 : Int32))), (0, .inr (.inr (.inl x0))), (1, .inl x1)]) X d_M_hold_43 2 rfl rfl (by decide) rfl ?_
      refine qx_goto X 20 d_M_hold_46 (by decide) ?_
      refine qx_sub [1, 2, 0] rfl ?_
      exact ih x0 x1 (x2 + (1 : Int32)) h5 hw
set_option maxRecDepth 4000 in
theorem t_M_hold {adK adV : Nat → Nat} (l : Launch) (D : va_G) (cy : Nat → ClassId) (b : Nat) (N : Nat) (x0 : Nat) (x1 : Int32) (h : qH) (Q : Int32 → qH → Prop) (hw : w_M_hold N x0 x1 h Q) : Met l y_M_hold (Cond.code y_M_hold prog_14_method_112_code 3 (some .boolean) :: qT) (qrm 1 0 0 22) (qPc D cy b adK adV h [qr b x0, .int x1]) (qQc D cy b qrI Q) 0 0 (qA b) := by
  refine qmet (L0 := [(0, .inr (.inr (.inl x0))), (1, .inl x1)]) qm_M_hold (plainFor_of_name (by decide)) [.inr (.inr (.inl x0)), .inl x1] rfl (Nat.le_of_ble_eq_true rfl) rfl (fun p e s m args below meth c X => ?_)
  unfold w_M_hold at hw
  refine qx_iload_n (x := x1) X d_M_hold_0 rfl 1 rfl ?_
  refine qx_iconst (v := (0 : Int32)) X d_M_hold_1 (by decide) ?_
  refine qx_iconst (v := (2 : Int32)) X d_M_hold_2 (by decide) ?_
  refine qx_callSI (st := []) (As := [.int x1, .int (0 : Int32), .int (2 : Int32)]) X (t_M_in (adK := adK) (adV := adV) l D cy b N x1 (0 : Int32) (2 : Int32) h _ hw) qm_M_in wm_M_322 wi_M_in rfl rfl rfl ⟨Nat.le_of_ble_eq_true rfl, Nat.le_of_ble_eq_true rfl⟩ ⟨Nat.le_refl 0, Nat.le_refl 0⟩ (Nat.le_of_ble_eq_true rfl) rfl d_M_hold_3 (fun r1 h2 hw => ?_)
  refine qx_if_ne X 11 d_M_hold_6 (by decide) (fun q3 => ?_) (fun q3 => ?_)
  · have hw := hw.1 q3
    refine qx_aload_n (x := x0) X d_M_hold_11 rfl 0 rfl ?_
    obtain ⟨g4, hw⟩ := hw
    refine qx_getR X qcls12 g4 69 (by decide) rfl wf_M_158 d_M_hold_12 ?_
    refine qx_iload_n (x := x1) X d_M_hold_15 rfl 1 rfl ?_
    refine qx_iconst (v := (1 : Int32)) X d_M_hold_16 (by decide) ?_
    obtain ⟨g5, hw⟩ := hw
    refine qx_zst X g5 d_M_hold_17 ?_
    refine qx_toph (fun h6 eh6 => ?_)
    have hw := hw h6 eh6
    refine qx_iconst (v := (0 : Int32)) X d_M_hold_18 (by decide) ?_
    refine qx_istore_n (L' := [(2, .inl (0 : Int32)), (0, .inr (.inr (.inl x0))), (1, .inl x1)]) X d_M_hold_19 rfl (by decide) rfl ?_
    refine qx_sub [1, 2, 0] rfl ?_
    exact t_M_hold_20 X N N x0 x1 (0 : Int32) h6 Q  hw 
  · have hw := hw.2 q3
    refine qx_iconst (v := (0 : Int32)) X d_M_hold_9 (by decide) ?_
    exact qx_zret X hw (Nat.le_refl 0) (Nat.le_refl 0) rfl d_M_hold_10
end QG
