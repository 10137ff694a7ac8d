/-! the reference, part 3: written by wip/whole/emit.py out of the bytecode -/
def y_M_nextOn : MethodName := ⟨"CoatHangersModel", "nextOn", "(I)I"⟩
theorem qm_M_nextOn : qMt y_M_nextOn prog_14_method_58_code 4 (some .int) 1 := ⟨qT_8 (i := 23) (by decide +kernel) rfl, qT_1 (i := 17) (by decide +kernel) rfl, by decide, by decide, by decide +kernel⟩
theorem wi_M_nextOn : Cond.instanceMethod y_M_nextOn ∈ qT := qT_8 (i := 22) (by decide +kernel) rfl
theorem wl_M_nextOn : Cond.selects y_M_nextOn.cls y_M_nextOn y_M_nextOn ∈ qT := qT_s (i := 99) (by decide +kernel) rfl
def y_M_wakes : MethodName := ⟨"CoatHangersModel", "wakes", "(I)V"⟩
theorem qm_M_wakes : qMt y_M_wakes prog_14_method_59_code 2 (none) 1 := ⟨qT_8 (i := 27) (by decide +kernel) rfl, qT_1 (i := 17) (by decide +kernel) rfl, by decide, by decide, by decide +kernel⟩
theorem wi_M_wakes : Cond.instanceMethod y_M_wakes ∈ qT := qT_8 (i := 26) (by decide +kernel) rfl
theorem wl_M_wakes : Cond.selects y_M_wakes.cls y_M_wakes y_M_wakes ∈ qT := qT_s (i := 100) (by decide +kernel) rfl
def y_M_nightGoes : MethodName := ⟨"CoatHangersModel", "nightGoes", "()V"⟩
theorem qm_M_nightGoes : qMt y_M_nightGoes prog_14_method_60_code 3 (none) 0 := ⟨qT_8 (i := 11) (by decide +kernel) rfl, qT_1 (i := 17) (by decide +kernel) rfl, by decide, by decide, by decide +kernel⟩
theorem wi_M_nightGoes : Cond.instanceMethod y_M_nightGoes ∈ qT := qT_8 (i := 10) (by decide +kernel) rfl
theorem wl_M_nightGoes : Cond.selects y_M_nightGoes.cls y_M_nightGoes y_M_nightGoes ∈ qT := qT_s (i := 97) (by decide +kernel) rfl
def y_M_goes : MethodName := ⟨"CoatHangersModel", "goes", "(I)V"⟩
theorem qm_M_goes : qMt y_M_goes prog_14_method_61_code 3 (none) 1 := ⟨qT_8 (i := 7) (by decide +kernel) rfl, qT_1 (i := 17) (by decide +kernel) rfl, by decide, by decide, by decide +kernel⟩
theorem wi_M_goes : Cond.instanceMethod y_M_goes ∈ qT := qT_8 (i := 6) (by decide +kernel) rfl
theorem wl_M_goes : Cond.selects y_M_goes.cls y_M_goes y_M_goes ∈ qT := qT_s (i := 96) (by decide +kernel) rfl
def y_M_hanger : MethodName := ⟨"CoatHangersModel", "hanger", "(II)I"⟩
theorem qm_M_hanger : qMt y_M_hanger prog_14_method_62_code 3 (some .int) 2 := ⟨qT_7 (i := 135) (by decide +kernel) rfl, qT_1 (i := 17) (by decide +kernel) rfl, by decide, by decide, by decide +kernel⟩
theorem wi_M_hanger : Cond.instanceMethod y_M_hanger ∈ qT := qT_7 (i := 133) (by decide +kernel) rfl
theorem wl_M_hanger : Cond.selects y_M_hanger.cls y_M_hanger y_M_hanger ∈ qT := qT_7 (i := 134) (by decide +kernel) rfl
def y_M_person : MethodName := ⟨"CoatHangersModel", "person", "(II)I"⟩
theorem qm_M_person : qMt y_M_person prog_14_method_63_code 3 (some .int) 2 := ⟨qT_7 (i := 158) (by decide +kernel) rfl, qT_1 (i := 17) (by decide +kernel) rfl, by decide, by decide, by decide +kernel⟩
theorem wi_M_person : Cond.instanceMethod y_M_person ∈ qT := qT_7 (i := 156) (by decide +kernel) rfl
theorem wl_M_person : Cond.selects y_M_person.cls y_M_person y_M_person ∈ qT := qT_7 (i := 157) (by decide +kernel) rfl
def y_M_tells : MethodName := ⟨"CoatHangersModel", "tells", "(II)I"⟩
theorem qm_M_tells : qMt y_M_tells prog_14_method_64_code 3 (some .int) 2 := ⟨qT_7 (i := 178) (by decide +kernel) rfl, qT_1 (i := 17) (by decide +kernel) rfl, by decide, by decide, by decide +kernel⟩
theorem wi_M_tells : Cond.instanceMethod y_M_tells ∈ qT := qT_7 (i := 176) (by decide +kernel) rfl
theorem wl_M_tells : Cond.selects y_M_tells.cls y_M_tells y_M_tells ∈ qT := qT_7 (i := 177) (by decide +kernel) rfl
def y_M_records : MethodName := ⟨"CoatHangersModel", "records", "()V"⟩
theorem qm_M_records : qMt y_M_records prog_14_method_65_code 2 (none) 0 := ⟨qT_7 (i := 212) (by decide +kernel) rfl, qT_1 (i := 17) (by decide +kernel) rfl, by decide, by decide, by decide +kernel⟩
theorem wi_M_records : Cond.instanceMethod y_M_records ∈ qT := qT_7 (i := 211) (by decide +kernel) rfl
theorem wl_M_records : Cond.selects y_M_records.cls y_M_records y_M_records ∈ qT := qT_s (i := 92) (by decide +kernel) rfl
def y_M_does : MethodName := ⟨"CoatHangersModel", "does", "(II)V"⟩
theorem qm_M_does : qMt y_M_does prog_14_method_66_code 3 (none) 2 := ⟨qT_7 (i := 208) (by decide +kernel) rfl, qT_1 (i := 17) (by decide +kernel) rfl, by decide, by decide, by decide +kernel⟩
theorem wi_M_does : Cond.instanceMethod y_M_does ∈ qT := qT_7 (i := 207) (by decide +kernel) rfl
theorem wl_M_does : Cond.selects y_M_does.cls y_M_does y_M_does ∈ qT := qT_s (i := 91) (by decide +kernel) rfl
def y_M_hang : MethodName := ⟨"CoatHangersModel", "hang", "(II)Z"⟩
theorem qm_M_hang : qMt y_M_hang prog_14_method_67_code 3 (some .boolean) 2 := ⟨qT_7 (i := 204) (by decide +kernel) rfl, qT_1 (i := 17) (by decide +kernel) rfl, by decide, by decide, by decide +kernel⟩
theorem wi_M_hang : Cond.instanceMethod y_M_hang ∈ qT := qT_7 (i := 202) (by decide +kernel) rfl
theorem wl_M_hang : Cond.selects y_M_hang.cls y_M_hang y_M_hang ∈ qT := qT_7 (i := 203) (by decide +kernel) rfl
def y_M_take : MethodName := ⟨"CoatHangersModel", "take", "(I)Z"⟩
theorem qm_M_take : qMt y_M_take prog_14_method_68_code 2 (some .boolean) 1 := ⟨qT_7 (i := 216) (by decide +kernel) rfl, qT_1 (i := 17) (by decide +kernel) rfl, by decide, by decide, by decide +kernel⟩
theorem wi_M_take : Cond.instanceMethod y_M_take ∈ qT := qT_7 (i := 214) (by decide +kernel) rfl
theorem wl_M_take : Cond.selects y_M_take.cls y_M_take y_M_take ∈ qT := qT_7 (i := 215) (by decide +kernel) rfl
def y_M_areUp : MethodName := ⟨"CoatHangersModel", "areUp", "(II)Z"⟩
theorem qm_M_areUp : qMt y_M_areUp prog_14_method_69_code 3 (some .boolean) 2 := ⟨qT_7 (i := 224) (by decide +kernel) rfl, qT_1 (i := 17) (by decide +kernel) rfl, by decide, by decide, by decide +kernel⟩
theorem wi_M_areUp : Cond.instanceMethod y_M_areUp ∈ qT := qT_7 (i := 223) (by decide +kernel) rfl
theorem wl_M_areUp : Cond.selects y_M_areUp.cls y_M_areUp y_M_areUp ∈ qT := qT_s (i := 93) (by decide +kernel) rfl
def y_M_changesFor : MethodName := ⟨"CoatHangersModel", "changesFor", "(II)V"⟩
theorem qm_M_changesFor : qMt y_M_changesFor prog_14_method_70_code 3 (none) 2 := ⟨qT_7 (i := 228) (by decide +kernel) rfl, qT_1 (i := 17) (by decide +kernel) rfl, by decide, by decide, by decide +kernel⟩
theorem wi_M_changesFor : Cond.instanceMethod y_M_changesFor ∈ qT := qT_7 (i := 227) (by decide +kernel) rfl
theorem wl_M_changesFor : Cond.selects y_M_changesFor.cls y_M_changesFor y_M_changesFor ∈ qT := qT_s (i := 94) (by decide +kernel) rfl
def y_M_change : MethodName := ⟨"CoatHangersModel", "change", "(II)Z"⟩
theorem qm_M_change : qMt y_M_change prog_14_method_71_code 3 (some .boolean) 2 := ⟨qT_7 (i := 220) (by decide +kernel) rfl, qT_1 (i := 17) (by decide +kernel) rfl, by decide, by decide, by decide +kernel⟩
theorem wi_M_change : Cond.instanceMethod y_M_change ∈ qT := qT_7 (i := 218) (by decide +kernel) rfl
theorem wl_M_change : Cond.selects y_M_change.cls y_M_change y_M_change ∈ qT := qT_7 (i := 219) (by decide +kernel) rfl
def y_M_straighten : MethodName := ⟨"CoatHangersModel", "straighten", "(I)Z"⟩
theorem qm_M_straighten : qMt y_M_straighten prog_14_method_72_code 2 (some .boolean) 1 := ⟨qT_7 (i := 236) (by decide +kernel) rfl, qT_1 (i := 17) (by decide +kernel) rfl, by decide, by decide, by decide +kernel⟩
theorem wi_M_straighten : Cond.instanceMethod y_M_straighten ∈ qT := qT_7 (i := 234) (by decide +kernel) rfl
theorem wl_M_straighten : Cond.selects y_M_straighten.cls y_M_straighten y_M_straighten ∈ qT := qT_7 (i := 235) (by decide +kernel) rfl
def y_M_isLong : MethodName := ⟨"CoatHangersModel", "isLong", "(I)Z"⟩
theorem qm_M_isLong : qMt y_M_isLong prog_14_method_73_code 1 (some .boolean) 1 := ⟨qT_8 (i := 3) (by decide +kernel) rfl, qT_1 (i := 17) (by decide +kernel) rfl, by decide, by decide, by decide +kernel⟩
theorem wi_M_isLong : Cond.static y_M_isLong ∈ qT := qT_8 (i := 2) (by decide +kernel) rfl
def y_M_nights : MethodName := ⟨"CoatHangersModel", "nights", "(I)I"⟩
theorem qm_M_nights : qMt y_M_nights prog_14_method_74_code 2 (some .int) 1 := ⟨qT_8 (i := 0) (by decide +kernel) rfl, qT_1 (i := 17) (by decide +kernel) rfl, by decide, by decide, by decide +kernel⟩
theorem wi_M_nights : Cond.instanceMethod y_M_nights ∈ qT := qT_7 (i := 238) (by decide +kernel) rfl
theorem wl_M_nights : Cond.selects y_M_nights.cls y_M_nights y_M_nights ∈ qT := qT_7 (i := 239) (by decide +kernel) rfl
def y_M_undo : MethodName := ⟨"CoatHangersModel", "undo", "()Z"⟩
theorem qm_M_undo : qMt y_M_undo prog_14_method_75_code 2 (some .boolean) 0 := ⟨qT_8 (i := 35) (by decide +kernel) rfl, qT_1 (i := 17) (by decide +kernel) rfl, by decide, by decide, by decide +kernel⟩
theorem wi_M_undo : Cond.instanceMethod y_M_undo ∈ qT := qT_8 (i := 33) (by decide +kernel) rfl
theorem wl_M_undo : Cond.selects y_M_undo.cls y_M_undo y_M_undo ∈ qT := qT_8 (i := 34) (by decide +kernel) rfl
def y_M_fillsTable : MethodName := ⟨"CoatHangersModel", "fillsTable", "()V"⟩
theorem qm_M_fillsTable : qMt y_M_fillsTable prog_14_method_76_code 3 (none) 0 := ⟨qT_8 (i := 51) (by decide +kernel) rfl, qT_1 (i := 17) (by decide +kernel) rfl, by decide, by decide, by decide +kernel⟩
theorem wi_M_fillsTable : Cond.instanceMethod y_M_fillsTable ∈ qT := qT_8 (i := 50) (by decide +kernel) rfl
theorem wl_M_fillsTable : Cond.selects y_M_fillsTable.cls y_M_fillsTable y_M_fillsTable ∈ qT := qT_s (i := 104) (by decide +kernel) rfl
theorem wf_M_128 : Cond.fieldLink "CoatHangersModel" 128 "CoatHangersModel" "selfThen" "[I" ∈ qT := qT_6 (i := 100) (by decide +kernel) rfl
theorem wf_M_125 : Cond.fieldLink "CoatHangersModel" 125 "CoatHangersModel" "slipsNow" "[Z" ∈ qT := qT_6 (i := 99) (by decide +kernel) rfl
theorem wf_M_119 : Cond.fieldLink "CoatHangersModel" 119 "CoatHangersModel" "crooksNow" "[I" ∈ qT := qT_6 (i := 97) (by decide +kernel) rfl
theorem wf_M_122 : Cond.fieldLink "CoatHangersModel" 122 "CoatHangersModel" "bendsNow" "[I" ∈ qT := qT_6 (i := 98) (by decide +kernel) rfl
theorem wm_M_373 : Cond.methodLink "CoatHangersModel" 373 y_M_nextOn ∈ qT := qT_8 (i := 20) (by decide +kernel) rfl
theorem wm_M_376 : Cond.methodLink "CoatHangersModel" 376 y_M_wakes ∈ qT := qT_8 (i := 24) (by decide +kernel) rfl
theorem wm_M_379 : Cond.methodLink "CoatHangersModel" 379 y_M_isMoth ∈ qT := qT_8 (i := 28) (by decide +kernel) rfl
theorem wm_M_383 : Cond.methodLink "CoatHangersModel" 383 y_M_nightGoes ∈ qT := qT_8 (i := 8) (by decide +kernel) rfl
theorem wm_M_386 : Cond.methodLink "CoatHangersModel" 386 y_M_isHanger ∈ qT := qT_7 (i := 136) (by decide +kernel) rfl
theorem wm_M_389 : Cond.methodLink "CoatHangersModel" 389 y_M_whoIsOn ∈ qT := qT_7 (i := 151) (by decide +kernel) rfl
theorem wm_M_392 : Cond.methodLink "CoatHangersModel" 392 y_M_isPerson ∈ qT := qT_7 (i := 159) (by decide +kernel) rfl
theorem wf_M_131 : Cond.fieldLink "CoatHangersModel" 131 "CoatHangersModel" "history" "[I" ∈ qT := qT_6 (i := 102) (by decide +kernel) rfl
theorem wm_M_395 : Cond.methodLink "CoatHangersModel" 395 y_M_records ∈ qT := qT_7 (i := 209) (by decide +kernel) rfl
theorem wm_M_398 : Cond.methodLink "CoatHangersModel" 398 y_M_does ∈ qT := qT_7 (i := 205) (by decide +kernel) rfl
theorem wm_M_401 : Cond.methodLink "CoatHangersModel" 401 y_M_copiesStill ∈ qT := qT_7 (i := 229) (by decide +kernel) rfl
theorem wm_M_404 : Cond.methodLink "CoatHangersModel" 404 y_M_areUp ∈ qT := qT_7 (i := 221) (by decide +kernel) rfl
theorem wm_M_408 : Cond.methodLink "CoatHangersModel" 408 y_M_changesFor ∈ qT := qT_7 (i := 225) (by decide +kernel) rfl
theorem wm_M_411 : Cond.methodLink "CoatHangersModel" 411 y_M_isLong ∈ qT := qT_8 (i := 1) (by decide +kernel) rfl
theorem wm_M_414 : Cond.methodLink "CoatHangersModel" 414 y_M_goes ∈ qT := qT_8 (i := 4) (by decide +kernel) rfl
theorem wf_M_137 : Cond.fieldLink "CoatHangersModel" 137 "CoatHangersModel" "tableOf" "[I" ∈ qT := qT_6 (i := 104) (by decide +kernel) rfl
theorem wm_M_417 : Cond.methodLink "CoatHangersModel" 417 y_M_costsAt ∈ qT := qT_8 (i := 52) (by decide +kernel) rfl
theorem d_M_nextOn_0 : decode prog_14_method_58_code 0 = .ok (.aload_n 0, 1) := by decide +kernel
theorem d_M_nextOn_1 : decode prog_14_method_58_code 1 = .ok (.aload_n 0, 1) := by decide +kernel
theorem d_M_nextOn_2 : decode prog_14_method_58_code 2 = .ok (.getfield 116, 3) := by decide +kernel
theorem d_M_nextOn_5 : decode prog_14_method_58_code 5 = .ok (.bipush 6, 2) := by decide +kernel
theorem d_M_nextOn_7 : decode prog_14_method_58_code 7 = .ok (.iload_n 1, 1) := by decide +kernel
theorem d_M_nextOn_8 : decode prog_14_method_58_code 8 = .ok (.iadd, 1) := by decide +kernel
theorem d_M_nextOn_9 : decode prog_14_method_58_code 9 = .ok (.iaload, 1) := by decide +kernel
theorem d_M_nextOn_10 : decode prog_14_method_58_code 10 = .ok (.invokevirtual 345, 3) := by decide +kernel
theorem d_M_nextOn_13 : decode prog_14_method_58_code 13 = .ok (.istore_n 2, 1) := by decide +kernel
theorem d_M_nextOn_14 : decode prog_14_method_58_code 14 = .ok (.iload_n 1, 1) := by decide +kernel
theorem d_M_nextOn_15 : decode prog_14_method_58_code 15 = .ok (.iconst 1, 1) := by decide +kernel
theorem d_M_nextOn_16 : decode prog_14_method_58_code 16 = .ok (.iadd, 1) := by decide +kernel
theorem d_M_nextOn_17 : decode prog_14_method_58_code 17 = .ok (.aload_n 0, 1) := by decide +kernel
theorem d_M_nextOn_18 : decode prog_14_method_58_code 18 = .ok (.getfield 55, 3) := by decide +kernel
theorem d_M_nextOn_21 : decode prog_14_method_58_code 21 = .ok (.aload_n 0, 1) := by decide +kernel
theorem d_M_nextOn_22 : decode prog_14_method_58_code 22 = .ok (.getfield 245, 3) := by decide +kernel
theorem d_M_nextOn_25 : decode prog_14_method_58_code 25 = .ok (.iaload, 1) := by decide +kernel
theorem d_M_nextOn_26 : decode prog_14_method_58_code 26 = .ok (.irem, 1) := by decide +kernel
theorem d_M_nextOn_27 : decode prog_14_method_58_code 27 = .ok (.istore_n 3, 1) := by decide +kernel
theorem d_M_nextOn_28 : decode prog_14_method_58_code 28 = .ok (.aload_n 0, 1) := by decide +kernel
theorem d_M_nextOn_29 : decode prog_14_method_58_code 29 = .ok (.iload_n 3, 1) := by decide +kernel
theorem d_M_nextOn_30 : decode prog_14_method_58_code 30 = .ok (.invokevirtual 342, 3) := by decide +kernel
theorem d_M_nextOn_33 : decode prog_14_method_58_code 33 = .ok (.ifCond .eq 20, 3) := by decide +kernel
theorem d_M_nextOn_36 : decode prog_14_method_58_code 36 = .ok (.aload_n 0, 1) := by decide +kernel
theorem d_M_nextOn_37 : decode prog_14_method_58_code 37 = .ok (.aload_n 0, 1) := by decide +kernel
theorem d_M_nextOn_38 : decode prog_14_method_58_code 38 = .ok (.getfield 116, 3) := by decide +kernel
theorem d_M_nextOn_41 : decode prog_14_method_58_code 41 = .ok (.bipush 6, 2) := by decide +kernel
theorem d_M_nextOn_43 : decode prog_14_method_58_code 43 = .ok (.iload_n 3, 1) := by decide +kernel
theorem d_M_nextOn_44 : decode prog_14_method_58_code 44 = .ok (.iadd, 1) := by decide +kernel
theorem d_M_nextOn_45 : decode prog_14_method_58_code 45 = .ok (.iaload, 1) := by decide +kernel
theorem d_M_nextOn_46 : decode prog_14_method_58_code 46 = .ok (.invokevirtual 345, 3) := by decide +kernel
theorem d_M_nextOn_49 : decode prog_14_method_58_code 49 = .ok (.iload_n 2, 1) := by decide +kernel
theorem d_M_nextOn_50 : decode prog_14_method_58_code 50 = .ok (.if_icmp .eq 20, 3) := by decide +kernel
theorem d_M_nextOn_53 : decode prog_14_method_58_code 53 = .ok (.iload_n 3, 1) := by decide +kernel
theorem d_M_nextOn_54 : decode prog_14_method_58_code 54 = .ok (.iconst 1, 1) := by decide +kernel
theorem d_M_nextOn_55 : decode prog_14_method_58_code 55 = .ok (.iadd, 1) := by decide +kernel
theorem d_M_nextOn_56 : decode prog_14_method_58_code 56 = .ok (.aload_n 0, 1) := by decide +kernel
theorem d_M_nextOn_57 : decode prog_14_method_58_code 57 = .ok (.getfield 55, 3) := by decide +kernel
theorem d_M_nextOn_60 : decode prog_14_method_58_code 60 = .ok (.aload_n 0, 1) := by decide +kernel
theorem d_M_nextOn_61 : decode prog_14_method_58_code 61 = .ok (.getfield 245, 3) := by decide +kernel
theorem d_M_nextOn_64 : decode prog_14_method_58_code 64 = .ok (.iaload, 1) := by decide +kernel
theorem d_M_nextOn_65 : decode prog_14_method_58_code 65 = .ok (.irem, 1) := by decide +kernel
theorem d_M_nextOn_66 : decode prog_14_method_58_code 66 = .ok (.istore_n 3, 1) := by decide +kernel
theorem d_M_nextOn_67 : decode prog_14_method_58_code 67 = .ok (.goto (-39), 3) := by decide +kernel
theorem d_M_nextOn_70 : decode prog_14_method_58_code 70 = .ok (.iload_n 3, 1) := by decide +kernel
theorem d_M_nextOn_71 : decode prog_14_method_58_code 71 = .ok (.ireturn, 1) := by decide +kernel
theorem d_M_wakes_0 : decode prog_14_method_59_code 0 = .ok (.aload_n 0, 1) := by decide +kernel
theorem d_M_wakes_1 : decode prog_14_method_59_code 1 = .ok (.iload_n 1, 1) := by decide +kernel
theorem d_M_wakes_2 : decode prog_14_method_59_code 2 = .ok (.invokevirtual 342, 3) := by decide +kernel
theorem d_M_wakes_5 : decode prog_14_method_59_code 5 = .ok (.ifCond .eq 85, 3) := by decide +kernel
theorem d_M_wakes_8 : decode prog_14_method_59_code 8 = .ok (.aload_n 0, 1) := by decide +kernel
theorem d_M_wakes_9 : decode prog_14_method_59_code 9 = .ok (.getfield 116, 3) := by decide +kernel
theorem d_M_wakes_12 : decode prog_14_method_59_code 12 = .ok (.bipush 18, 2) := by decide +kernel
theorem d_M_wakes_14 : decode prog_14_method_59_code 14 = .ok (.iload_n 1, 1) := by decide +kernel
theorem d_M_wakes_15 : decode prog_14_method_59_code 15 = .ok (.iadd, 1) := by decide +kernel
theorem d_M_wakes_16 : decode prog_14_method_59_code 16 = .ok (.aload_n 0, 1) := by decide +kernel
theorem d_M_wakes_17 : decode prog_14_method_59_code 17 = .ok (.getfield 116, 3) := by decide +kernel
theorem d_M_wakes_20 : decode prog_14_method_59_code 20 = .ok (.bipush 18, 2) := by decide +kernel
theorem d_M_wakes_22 : decode prog_14_method_59_code 22 = .ok (.iload_n 1, 1) := by decide +kernel
theorem d_M_wakes_23 : decode prog_14_method_59_code 23 = .ok (.iadd, 1) := by decide +kernel
theorem d_M_wakes_24 : decode prog_14_method_59_code 24 = .ok (.iaload, 1) := by decide +kernel
theorem d_M_wakes_25 : decode prog_14_method_59_code 25 = .ok (.aload_n 0, 1) := by decide +kernel
theorem d_M_wakes_26 : decode prog_14_method_59_code 26 = .ok (.getfield 119, 3) := by decide +kernel
theorem d_M_wakes_29 : decode prog_14_method_59_code 29 = .ok (.iload_n 1, 1) := by decide +kernel
theorem d_M_wakes_30 : decode prog_14_method_59_code 30 = .ok (.iaload, 1) := by decide +kernel
theorem d_M_wakes_31 : decode prog_14_method_59_code 31 = .ok (.iadd, 1) := by decide +kernel
theorem d_M_wakes_32 : decode prog_14_method_59_code 32 = .ok (.iconst 0, 1) := by decide +kernel
theorem d_M_wakes_33 : decode prog_14_method_59_code 33 = .ok (.sipush 999, 3) := by decide +kernel
theorem d_M_wakes_36 : decode prog_14_method_59_code 36 = .ok (.invokestatic 367, 3) := by decide +kernel
theorem d_M_wakes_39 : decode prog_14_method_59_code 39 = .ok (.iastore, 1) := by decide +kernel
theorem d_M_wakes_40 : decode prog_14_method_59_code 40 = .ok (.aload_n 0, 1) := by decide +kernel
theorem d_M_wakes_41 : decode prog_14_method_59_code 41 = .ok (.getfield 116, 3) := by decide +kernel
theorem d_M_wakes_44 : decode prog_14_method_59_code 44 = .ok (.bipush 24, 2) := by decide +kernel
theorem d_M_wakes_46 : decode prog_14_method_59_code 46 = .ok (.aload_n 0, 1) := by decide +kernel
theorem d_M_wakes_47 : decode prog_14_method_59_code 47 = .ok (.getfield 116, 3) := by decide +kernel
theorem d_M_wakes_50 : decode prog_14_method_59_code 50 = .ok (.bipush 6, 2) := by decide +kernel
theorem d_M_wakes_52 : decode prog_14_method_59_code 52 = .ok (.iload_n 1, 1) := by decide +kernel
theorem d_M_wakes_53 : decode prog_14_method_59_code 53 = .ok (.iadd, 1) := by decide +kernel
theorem d_M_wakes_54 : decode prog_14_method_59_code 54 = .ok (.iaload, 1) := by decide +kernel
theorem d_M_wakes_55 : decode prog_14_method_59_code 55 = .ok (.iadd, 1) := by decide +kernel
theorem d_M_wakes_56 : decode prog_14_method_59_code 56 = .ok (.aload_n 0, 1) := by decide +kernel
theorem d_M_wakes_57 : decode prog_14_method_59_code 57 = .ok (.getfield 116, 3) := by decide +kernel
theorem d_M_wakes_60 : decode prog_14_method_59_code 60 = .ok (.bipush 24, 2) := by decide +kernel
theorem d_M_wakes_62 : decode prog_14_method_59_code 62 = .ok (.aload_n 0, 1) := by decide +kernel
theorem d_M_wakes_63 : decode prog_14_method_59_code 63 = .ok (.getfield 116, 3) := by decide +kernel
theorem d_M_wakes_66 : decode prog_14_method_59_code 66 = .ok (.bipush 6, 2) := by decide +kernel
theorem d_M_wakes_68 : decode prog_14_method_59_code 68 = .ok (.iload_n 1, 1) := by decide +kernel
theorem d_M_wakes_69 : decode prog_14_method_59_code 69 = .ok (.iadd, 1) := by decide +kernel
theorem d_M_wakes_70 : decode prog_14_method_59_code 70 = .ok (.iaload, 1) := by decide +kernel
theorem d_M_wakes_71 : decode prog_14_method_59_code 71 = .ok (.iadd, 1) := by decide +kernel
theorem d_M_wakes_72 : decode prog_14_method_59_code 72 = .ok (.iaload, 1) := by decide +kernel
theorem d_M_wakes_73 : decode prog_14_method_59_code 73 = .ok (.aload_n 0, 1) := by decide +kernel
theorem d_M_wakes_74 : decode prog_14_method_59_code 74 = .ok (.getfield 122, 3) := by decide +kernel
theorem d_M_wakes_77 : decode prog_14_method_59_code 77 = .ok (.iload_n 1, 1) := by decide +kernel
theorem d_M_wakes_78 : decode prog_14_method_59_code 78 = .ok (.iaload, 1) := by decide +kernel
theorem d_M_wakes_79 : decode prog_14_method_59_code 79 = .ok (.iadd, 1) := by decide +kernel
theorem d_M_wakes_80 : decode prog_14_method_59_code 80 = .ok (.iconst 0, 1) := by decide +kernel
theorem d_M_wakes_81 : decode prog_14_method_59_code 81 = .ok (.bipush 99, 2) := by decide +kernel
theorem d_M_wakes_83 : decode prog_14_method_59_code 83 = .ok (.invokestatic 367, 3) := by decide +kernel
theorem d_M_wakes_86 : decode prog_14_method_59_code 86 = .ok (.iastore, 1) := by decide +kernel
theorem d_M_wakes_87 : decode prog_14_method_59_code 87 = .ok (.goto 13, 3) := by decide +kernel
theorem d_M_wakes_90 : decode prog_14_method_59_code 90 = .ok (.aload_n 0, 1) := by decide +kernel
theorem d_M_wakes_91 : decode prog_14_method_59_code 91 = .ok (.getfield 116, 3) := by decide +kernel
theorem d_M_wakes_94 : decode prog_14_method_59_code 94 = .ok (.bipush 18, 2) := by decide +kernel
theorem d_M_wakes_96 : decode prog_14_method_59_code 96 = .ok (.iload_n 1, 1) := by decide +kernel
theorem d_M_wakes_97 : decode prog_14_method_59_code 97 = .ok (.iadd, 1) := by decide +kernel
theorem d_M_wakes_98 : decode prog_14_method_59_code 98 = .ok (.iconst 0, 1) := by decide +kernel
theorem d_M_wakes_99 : decode prog_14_method_59_code 99 = .ok (.iastore, 1) := by decide +kernel
theorem d_M_wakes_100 : decode prog_14_method_59_code 100 = .ok (.aload_n 0, 1) := by decide +kernel
theorem d_M_wakes_101 : decode prog_14_method_59_code 101 = .ok (.getfield 116, 3) := by decide +kernel
theorem d_M_wakes_104 : decode prog_14_method_59_code 104 = .ok (.bipush 12, 2) := by decide +kernel
theorem d_M_wakes_106 : decode prog_14_method_59_code 106 = .ok (.iload_n 1, 1) := by decide +kernel
theorem d_M_wakes_107 : decode prog_14_method_59_code 107 = .ok (.iadd, 1) := by decide +kernel
theorem d_M_wakes_108 : decode prog_14_method_59_code 108 = .ok (.aload_n 0, 1) := by decide +kernel
theorem d_M_wakes_109 : decode prog_14_method_59_code 109 = .ok (.getfield 128, 3) := by decide +kernel
theorem d_M_wakes_112 : decode prog_14_method_59_code 112 = .ok (.iload_n 1, 1) := by decide +kernel
theorem d_M_wakes_113 : decode prog_14_method_59_code 113 = .ok (.iaload, 1) := by decide +kernel
theorem d_M_wakes_114 : decode prog_14_method_59_code 114 = .ok (.iastore, 1) := by decide +kernel
theorem d_M_wakes_115 : decode prog_14_method_59_code 115 = .ok (.aload_n 0, 1) := by decide +kernel
theorem d_M_wakes_116 : decode prog_14_method_59_code 116 = .ok (.getfield 125, 3) := by decide +kernel
theorem d_M_wakes_119 : decode prog_14_method_59_code 119 = .ok (.iload_n 1, 1) := by decide +kernel
theorem d_M_wakes_120 : decode prog_14_method_59_code 120 = .ok (.baload, 1) := by decide +kernel
theorem d_M_wakes_121 : decode prog_14_method_59_code 121 = .ok (.ifCond .eq 14, 3) := by decide +kernel
theorem d_M_wakes_124 : decode prog_14_method_59_code 124 = .ok (.aload_n 0, 1) := by decide +kernel
theorem d_M_wakes_125 : decode prog_14_method_59_code 125 = .ok (.getfield 116, 3) := by decide +kernel
theorem d_M_wakes_128 : decode prog_14_method_59_code 128 = .ok (.bipush 6, 2) := by decide +kernel
theorem d_M_wakes_130 : decode prog_14_method_59_code 130 = .ok (.iload_n 1, 1) := by decide +kernel
theorem d_M_wakes_131 : decode prog_14_method_59_code 131 = .ok (.iadd, 1) := by decide +kernel
theorem d_M_wakes_132 : decode prog_14_method_59_code 132 = .ok (.bipush (-2), 2) := by decide +kernel
theorem d_M_wakes_134 : decode prog_14_method_59_code 134 = .ok (.iastore, 1) := by decide +kernel
theorem d_M_wakes_135 : decode prog_14_method_59_code 135 = .ok (.return_, 1) := by decide +kernel
theorem d_M_nightGoes_0 : decode prog_14_method_60_code 0 = .ok (.iconst 0, 1) := by decide +kernel
theorem d_M_nightGoes_1 : decode prog_14_method_60_code 1 = .ok (.istore_n 1, 1) := by decide +kernel
theorem d_M_nightGoes_2 : decode prog_14_method_60_code 2 = .ok (.iload_n 1, 1) := by decide +kernel
theorem d_M_nightGoes_3 : decode prog_14_method_60_code 3 = .ok (.aload_n 0, 1) := by decide +kernel
theorem d_M_nightGoes_4 : decode prog_14_method_60_code 4 = .ok (.getfield 55, 3) := by decide +kernel
theorem d_M_nightGoes_7 : decode prog_14_method_60_code 7 = .ok (.aload_n 0, 1) := by decide +kernel
theorem d_M_nightGoes_8 : decode prog_14_method_60_code 8 = .ok (.getfield 245, 3) := by decide +kernel
theorem d_M_nightGoes_11 : decode prog_14_method_60_code 11 = .ok (.iaload, 1) := by decide +kernel
theorem d_M_nightGoes_12 : decode prog_14_method_60_code 12 = .ok (.if_icmp .ge 131, 3) := by decide +kernel
theorem d_M_nightGoes_15 : decode prog_14_method_60_code 15 = .ok (.aload_n 0, 1) := by decide +kernel
theorem d_M_nightGoes_16 : decode prog_14_method_60_code 16 = .ok (.iload_n 1, 1) := by decide +kernel
theorem d_M_nightGoes_17 : decode prog_14_method_60_code 17 = .ok (.invokevirtual 342, 3) := by decide +kernel
theorem d_M_nightGoes_20 : decode prog_14_method_60_code 20 = .ok (.istore_n 2, 1) := by decide +kernel
theorem d_M_nightGoes_21 : decode prog_14_method_60_code 21 = .ok (.aload_n 0, 1) := by decide +kernel
theorem d_M_nightGoes_22 : decode prog_14_method_60_code 22 = .ok (.getfield 119, 3) := by decide +kernel
theorem d_M_nightGoes_25 : decode prog_14_method_60_code 25 = .ok (.iload_n 1, 1) := by decide +kernel
theorem d_M_nightGoes_26 : decode prog_14_method_60_code 26 = .ok (.iload_n 2, 1) := by decide +kernel
theorem d_M_nightGoes_27 : decode prog_14_method_60_code 27 = .ok (.ifCond .eq 12, 3) := by decide +kernel
theorem d_M_nightGoes_30 : decode prog_14_method_60_code 30 = .ok (.aload_n 0, 1) := by decide +kernel
theorem d_M_nightGoes_31 : decode prog_14_method_60_code 31 = .ok (.iload_n 1, 1) := by decide +kernel
theorem d_M_nightGoes_32 : decode prog_14_method_60_code 32 = .ok (.iconst 0, 1) := by decide +kernel
theorem d_M_nightGoes_33 : decode prog_14_method_60_code 33 = .ok (.invokevirtual 370, 3) := by decide +kernel
theorem d_M_nightGoes_36 : decode prog_14_method_60_code 36 = .ok (.goto 4, 3) := by decide +kernel
theorem d_M_nightGoes_39 : decode prog_14_method_60_code 39 = .ok (.iconst 0, 1) := by decide +kernel
theorem d_M_nightGoes_40 : decode prog_14_method_60_code 40 = .ok (.iastore, 1) := by decide +kernel
theorem d_M_nightGoes_41 : decode prog_14_method_60_code 41 = .ok (.aload_n 0, 1) := by decide +kernel
theorem d_M_nightGoes_42 : decode prog_14_method_60_code 42 = .ok (.getfield 122, 3) := by decide +kernel
theorem d_M_nightGoes_45 : decode prog_14_method_60_code 45 = .ok (.iload_n 1, 1) := by decide +kernel
theorem d_M_nightGoes_46 : decode prog_14_method_60_code 46 = .ok (.iload_n 2, 1) := by decide +kernel
theorem d_M_nightGoes_47 : decode prog_14_method_60_code 47 = .ok (.ifCond .eq 12, 3) := by decide +kernel
theorem d_M_nightGoes_50 : decode prog_14_method_60_code 50 = .ok (.aload_n 0, 1) := by decide +kernel
theorem d_M_nightGoes_51 : decode prog_14_method_60_code 51 = .ok (.iload_n 1, 1) := by decide +kernel
theorem d_M_nightGoes_52 : decode prog_14_method_60_code 52 = .ok (.iconst 1, 1) := by decide +kernel
theorem d_M_nightGoes_53 : decode prog_14_method_60_code 53 = .ok (.invokevirtual 370, 3) := by decide +kernel
theorem d_M_nightGoes_56 : decode prog_14_method_60_code 56 = .ok (.goto 4, 3) := by decide +kernel
theorem d_M_nightGoes_59 : decode prog_14_method_60_code 59 = .ok (.iconst 0, 1) := by decide +kernel
theorem d_M_nightGoes_60 : decode prog_14_method_60_code 60 = .ok (.iastore, 1) := by decide +kernel
theorem d_M_nightGoes_61 : decode prog_14_method_60_code 61 = .ok (.aload_n 0, 1) := by decide +kernel
theorem d_M_nightGoes_62 : decode prog_14_method_60_code 62 = .ok (.getfield 125, 3) := by decide +kernel
theorem d_M_nightGoes_65 : decode prog_14_method_60_code 65 = .ok (.iload_n 1, 1) := by decide +kernel
theorem d_M_nightGoes_66 : decode prog_14_method_60_code 66 = .ok (.iload_n 2, 1) := by decide +kernel
theorem d_M_nightGoes_67 : decode prog_14_method_60_code 67 = .ok (.ifCond .eq 41, 3) := by decide +kernel
theorem d_M_nightGoes_70 : decode prog_14_method_60_code 70 = .ok (.aload_n 0, 1) := by decide +kernel
theorem d_M_nightGoes_71 : decode prog_14_method_60_code 71 = .ok (.getfield 329, 3) := by decide +kernel
theorem d_M_nightGoes_74 : decode prog_14_method_60_code 74 = .ok (.ifCond .ne 34, 3) := by decide +kernel
theorem d_M_nightGoes_77 : decode prog_14_method_60_code 77 = .ok (.aload_n 0, 1) := by decide +kernel
theorem d_M_nightGoes_78 : decode prog_14_method_60_code 78 = .ok (.bipush 16, 2) := by decide +kernel
theorem d_M_nightGoes_80 : decode prog_14_method_60_code 80 = .ok (.aload_n 0, 1) := by decide +kernel
theorem d_M_nightGoes_81 : decode prog_14_method_60_code 81 = .ok (.getfield 116, 3) := by decide +kernel
theorem d_M_nightGoes_84 : decode prog_14_method_60_code 84 = .ok (.bipush 31, 2) := by decide +kernel
theorem d_M_nightGoes_86 : decode prog_14_method_60_code 86 = .ok (.iaload, 1) := by decide +kernel
theorem d_M_nightGoes_87 : decode prog_14_method_60_code 87 = .ok (.imul, 1) := by decide +kernel
theorem d_M_nightGoes_88 : decode prog_14_method_60_code 88 = .ok (.iload_n 1, 1) := by decide +kernel
theorem d_M_nightGoes_89 : decode prog_14_method_60_code 89 = .ok (.iadd, 1) := by decide +kernel
theorem d_M_nightGoes_90 : decode prog_14_method_60_code 90 = .ok (.bipush 100, 2) := by decide +kernel
theorem d_M_nightGoes_92 : decode prog_14_method_60_code 92 = .ok (.invokevirtual 339, 3) := by decide +kernel
theorem d_M_nightGoes_95 : decode prog_14_method_60_code 95 = .ok (.aload_n 0, 1) := by decide +kernel
theorem d_M_nightGoes_96 : decode prog_14_method_60_code 96 = .ok (.iload_n 1, 1) := by decide +kernel
theorem d_M_nightGoes_97 : decode prog_14_method_60_code 97 = .ok (.iconst 2, 1) := by decide +kernel
theorem d_M_nightGoes_98 : decode prog_14_method_60_code 98 = .ok (.invokevirtual 370, 3) := by decide +kernel
theorem d_M_nightGoes_101 : decode prog_14_method_60_code 101 = .ok (.if_icmp .ge 7, 3) := by decide +kernel
theorem d_M_nightGoes_104 : decode prog_14_method_60_code 104 = .ok (.iconst 1, 1) := by decide +kernel
theorem d_M_nightGoes_105 : decode prog_14_method_60_code 105 = .ok (.goto 4, 3) := by decide +kernel
theorem d_M_nightGoes_108 : decode prog_14_method_60_code 108 = .ok (.iconst 0, 1) := by decide +kernel
theorem d_M_nightGoes_109 : decode prog_14_method_60_code 109 = .ok (.bastore, 1) := by decide +kernel
theorem d_M_nightGoes_110 : decode prog_14_method_60_code 110 = .ok (.aload_n 0, 1) := by decide +kernel
theorem d_M_nightGoes_111 : decode prog_14_method_60_code 111 = .ok (.getfield 128, 3) := by decide +kernel
theorem d_M_nightGoes_114 : decode prog_14_method_60_code 114 = .ok (.iload_n 1, 1) := by decide +kernel
theorem d_M_nightGoes_115 : decode prog_14_method_60_code 115 = .ok (.aload_n 0, 1) := by decide +kernel
theorem d_M_nightGoes_116 : decode prog_14_method_60_code 116 = .ok (.getfield 116, 3) := by decide +kernel
theorem d_M_nightGoes_119 : decode prog_14_method_60_code 119 = .ok (.bipush 12, 2) := by decide +kernel
theorem d_M_nightGoes_121 : decode prog_14_method_60_code 121 = .ok (.iload_n 2, 1) := by decide +kernel
theorem d_M_nightGoes_122 : decode prog_14_method_60_code 122 = .ok (.ifCond .eq 11, 3) := by decide +kernel
theorem d_M_nightGoes_125 : decode prog_14_method_60_code 125 = .ok (.aload_n 0, 1) := by decide +kernel
theorem d_M_nightGoes_126 : decode prog_14_method_60_code 126 = .ok (.iload_n 1, 1) := by decide +kernel
theorem d_M_nightGoes_127 : decode prog_14_method_60_code 127 = .ok (.invokevirtual 373, 3) := by decide +kernel
theorem d_M_nightGoes_130 : decode prog_14_method_60_code 130 = .ok (.goto 4, 3) := by decide +kernel
theorem d_M_nightGoes_133 : decode prog_14_method_60_code 133 = .ok (.iload_n 1, 1) := by decide +kernel
theorem d_M_nightGoes_134 : decode prog_14_method_60_code 134 = .ok (.iadd, 1) := by decide +kernel
theorem d_M_nightGoes_135 : decode prog_14_method_60_code 135 = .ok (.iaload, 1) := by decide +kernel
theorem d_M_nightGoes_136 : decode prog_14_method_60_code 136 = .ok (.iastore, 1) := by decide +kernel
theorem d_M_nightGoes_137 : decode prog_14_method_60_code 137 = .ok (.iinc 1 1, 3) := by decide +kernel
theorem d_M_nightGoes_140 : decode prog_14_method_60_code 140 = .ok (.goto (-138), 3) := by decide +kernel
theorem d_M_nightGoes_143 : decode prog_14_method_60_code 143 = .ok (.iconst 0, 1) := by decide +kernel
theorem d_M_nightGoes_144 : decode prog_14_method_60_code 144 = .ok (.istore_n 1, 1) := by decide +kernel
theorem d_M_nightGoes_145 : decode prog_14_method_60_code 145 = .ok (.iload_n 1, 1) := by decide +kernel
theorem d_M_nightGoes_146 : decode prog_14_method_60_code 146 = .ok (.aload_n 0, 1) := by decide +kernel
theorem d_M_nightGoes_147 : decode prog_14_method_60_code 147 = .ok (.getfield 55, 3) := by decide +kernel
theorem d_M_nightGoes_150 : decode prog_14_method_60_code 150 = .ok (.aload_n 0, 1) := by decide +kernel
theorem d_M_nightGoes_151 : decode prog_14_method_60_code 151 = .ok (.getfield 245, 3) := by decide +kernel
theorem d_M_nightGoes_154 : decode prog_14_method_60_code 154 = .ok (.iaload, 1) := by decide +kernel
theorem d_M_nightGoes_155 : decode prog_14_method_60_code 155 = .ok (.if_icmp .ge 14, 3) := by decide +kernel
theorem d_M_nightGoes_158 : decode prog_14_method_60_code 158 = .ok (.aload_n 0, 1) := by decide +kernel
theorem d_M_nightGoes_159 : decode prog_14_method_60_code 159 = .ok (.iload_n 1, 1) := by decide +kernel
theorem d_M_nightGoes_160 : decode prog_14_method_60_code 160 = .ok (.invokevirtual 376, 3) := by decide +kernel
theorem d_M_nightGoes_163 : decode prog_14_method_60_code 163 = .ok (.iinc 1 1, 3) := by decide +kernel
theorem d_M_nightGoes_166 : decode prog_14_method_60_code 166 = .ok (.goto (-21), 3) := by decide +kernel
theorem d_M_nightGoes_169 : decode prog_14_method_60_code 169 = .ok (.aload_n 0, 1) := by decide +kernel
theorem d_M_nightGoes_170 : decode prog_14_method_60_code 170 = .ok (.getfield 329, 3) := by decide +kernel
theorem d_M_nightGoes_173 : decode prog_14_method_60_code 173 = .ok (.ifCond .ne 68, 3) := by decide +kernel
theorem d_M_nightGoes_176 : decode prog_14_method_60_code 176 = .ok (.aload_n 0, 1) := by decide +kernel
theorem d_M_nightGoes_177 : decode prog_14_method_60_code 177 = .ok (.getfield 55, 3) := by decide +kernel
theorem d_M_nightGoes_180 : decode prog_14_method_60_code 180 = .ok (.aload_n 0, 1) := by decide +kernel
theorem d_M_nightGoes_181 : decode prog_14_method_60_code 181 = .ok (.getfield 245, 3) := by decide +kernel
theorem d_M_nightGoes_184 : decode prog_14_method_60_code 184 = .ok (.iaload, 1) := by decide +kernel
theorem d_M_nightGoes_185 : decode prog_14_method_60_code 185 = .ok (.ifCond .le 56, 3) := by decide +kernel
theorem d_M_nightGoes_188 : decode prog_14_method_60_code 188 = .ok (.aload_n 0, 1) := by decide +kernel
theorem d_M_nightGoes_189 : decode prog_14_method_60_code 189 = .ok (.invokevirtual 379, 3) := by decide +kernel
theorem d_M_nightGoes_192 : decode prog_14_method_60_code 192 = .ok (.ifCond .eq 49, 3) := by decide +kernel
theorem d_M_nightGoes_195 : decode prog_14_method_60_code 195 = .ok (.aload_n 0, 1) := by decide +kernel
theorem d_M_nightGoes_196 : decode prog_14_method_60_code 196 = .ok (.bipush 16, 2) := by decide +kernel
theorem d_M_nightGoes_198 : decode prog_14_method_60_code 198 = .ok (.aload_n 0, 1) := by decide +kernel
theorem d_M_nightGoes_199 : decode prog_14_method_60_code 199 = .ok (.getfield 116, 3) := by decide +kernel
theorem d_M_nightGoes_202 : decode prog_14_method_60_code 202 = .ok (.bipush 31, 2) := by decide +kernel
theorem d_M_nightGoes_204 : decode prog_14_method_60_code 204 = .ok (.iaload, 1) := by decide +kernel
theorem d_M_nightGoes_205 : decode prog_14_method_60_code 205 = .ok (.imul, 1) := by decide +kernel
theorem d_M_nightGoes_206 : decode prog_14_method_60_code 206 = .ok (.bipush 9, 2) := by decide +kernel
theorem d_M_nightGoes_208 : decode prog_14_method_60_code 208 = .ok (.iadd, 1) := by decide +kernel
theorem d_M_nightGoes_209 : decode prog_14_method_60_code 209 = .ok (.aload_n 0, 1) := by decide +kernel
theorem d_M_nightGoes_210 : decode prog_14_method_60_code 210 = .ok (.getfield 55, 3) := by decide +kernel
theorem d_M_nightGoes_213 : decode prog_14_method_60_code 213 = .ok (.aload_n 0, 1) := by decide +kernel
theorem d_M_nightGoes_214 : decode prog_14_method_60_code 214 = .ok (.getfield 245, 3) := by decide +kernel
theorem d_M_nightGoes_217 : decode prog_14_method_60_code 217 = .ok (.iaload, 1) := by decide +kernel
theorem d_M_nightGoes_218 : decode prog_14_method_60_code 218 = .ok (.invokevirtual 339, 3) := by decide +kernel
theorem d_M_nightGoes_221 : decode prog_14_method_60_code 221 = .ok (.istore_n 1, 1) := by decide +kernel
theorem d_M_nightGoes_222 : decode prog_14_method_60_code 222 = .ok (.aload_n 0, 1) := by decide +kernel
theorem d_M_nightGoes_223 : decode prog_14_method_60_code 223 = .ok (.getfield 116, 3) := by decide +kernel
theorem d_M_nightGoes_226 : decode prog_14_method_60_code 226 = .ok (.iload_n 1, 1) := by decide +kernel
theorem d_M_nightGoes_227 : decode prog_14_method_60_code 227 = .ok (.iaload, 1) := by decide +kernel
theorem d_M_nightGoes_228 : decode prog_14_method_60_code 228 = .ok (.ifCond .le 13, 3) := by decide +kernel
theorem d_M_nightGoes_231 : decode prog_14_method_60_code 231 = .ok (.aload_n 0, 1) := by decide +kernel
theorem d_M_nightGoes_232 : decode prog_14_method_60_code 232 = .ok (.getfield 116, 3) := by decide +kernel
theorem d_M_nightGoes_235 : decode prog_14_method_60_code 235 = .ok (.iload_n 1, 1) := by decide +kernel
theorem d_M_nightGoes_236 : decode prog_14_method_60_code 236 = .ok (.dup2, 1) := by decide +kernel
theorem d_M_nightGoes_237 : decode prog_14_method_60_code 237 = .ok (.iaload, 1) := by decide +kernel
theorem d_M_nightGoes_238 : decode prog_14_method_60_code 238 = .ok (.iconst 1, 1) := by decide +kernel
theorem d_M_nightGoes_239 : decode prog_14_method_60_code 239 = .ok (.isub, 1) := by decide +kernel
theorem d_M_nightGoes_240 : decode prog_14_method_60_code 240 = .ok (.iastore, 1) := by decide +kernel
theorem d_M_nightGoes_241 : decode prog_14_method_60_code 241 = .ok (.aload_n 0, 1) := by decide +kernel
theorem d_M_nightGoes_242 : decode prog_14_method_60_code 242 = .ok (.getfield 116, 3) := by decide +kernel
theorem d_M_nightGoes_245 : decode prog_14_method_60_code 245 = .ok (.bipush 31, 2) := by decide +kernel
theorem d_M_nightGoes_247 : decode prog_14_method_60_code 247 = .ok (.dup2, 1) := by decide +kernel
theorem d_M_nightGoes_248 : decode prog_14_method_60_code 248 = .ok (.iaload, 1) := by decide +kernel
theorem d_M_nightGoes_249 : decode prog_14_method_60_code 249 = .ok (.iconst 1, 1) := by decide +kernel
theorem d_M_nightGoes_250 : decode prog_14_method_60_code 250 = .ok (.iadd, 1) := by decide +kernel
theorem d_M_nightGoes_251 : decode prog_14_method_60_code 251 = .ok (.iastore, 1) := by decide +kernel
theorem d_M_nightGoes_252 : decode prog_14_method_60_code 252 = .ok (.return_, 1) := by decide +kernel
theorem d_M_goes_0 : decode prog_14_method_61_code 0 = .ok (.iconst 0, 1) := by decide +kernel
theorem d_M_goes_1 : decode prog_14_method_61_code 1 = .ok (.istore_n 2, 1) := by decide +kernel
theorem d_M_goes_2 : decode prog_14_method_61_code 2 = .ok (.iload_n 2, 1) := by decide +kernel
theorem d_M_goes_3 : decode prog_14_method_61_code 3 = .ok (.iload_n 1, 1) := by decide +kernel
theorem d_M_goes_4 : decode prog_14_method_61_code 4 = .ok (.if_icmp .ge 13, 3) := by decide +kernel
theorem d_M_goes_7 : decode prog_14_method_61_code 7 = .ok (.aload_n 0, 1) := by decide +kernel
theorem d_M_goes_8 : decode prog_14_method_61_code 8 = .ok (.invokevirtual 383, 3) := by decide +kernel
theorem d_M_goes_11 : decode prog_14_method_61_code 11 = .ok (.iinc 2 1, 3) := by decide +kernel
theorem d_M_goes_14 : decode prog_14_method_61_code 14 = .ok (.goto (-12), 3) := by decide +kernel
theorem d_M_goes_17 : decode prog_14_method_61_code 17 = .ok (.return_, 1) := by decide +kernel
theorem d_M_hanger_0 : decode prog_14_method_62_code 0 = .ok (.aload_n 0, 1) := by decide +kernel
theorem d_M_hanger_1 : decode prog_14_method_62_code 1 = .ok (.iload_n 1, 1) := by decide +kernel
theorem d_M_hanger_2 : decode prog_14_method_62_code 2 = .ok (.invokevirtual 386, 3) := by decide +kernel
theorem d_M_hanger_5 : decode prog_14_method_62_code 5 = .ok (.ifCond .ne 5, 3) := by decide +kernel
theorem d_M_hanger_8 : decode prog_14_method_62_code 8 = .ok (.iconst (-1), 1) := by decide +kernel
theorem d_M_hanger_9 : decode prog_14_method_62_code 9 = .ok (.ireturn, 1) := by decide +kernel
theorem d_M_hanger_10 : decode prog_14_method_62_code 10 = .ok (.aload_n 0, 1) := by decide +kernel
theorem d_M_hanger_11 : decode prog_14_method_62_code 11 = .ok (.invokevirtual 332, 3) := by decide +kernel
theorem d_M_hanger_14 : decode prog_14_method_62_code 14 = .ok (.iload_n 2, 1) := by decide +kernel
theorem d_M_hanger_15 : decode prog_14_method_62_code 15 = .ok (.tableswitch 66 0 3 #[29, 35, 50, 60], 29) := by decide +kernel
theorem d_M_hanger_44 : decode prog_14_method_62_code 44 = .ok (.aload_n 0, 1) := by decide +kernel
theorem d_M_hanger_45 : decode prog_14_method_62_code 45 = .ok (.iload_n 1, 1) := by decide +kernel
theorem d_M_hanger_46 : decode prog_14_method_62_code 46 = .ok (.invokevirtual 345, 3) := by decide +kernel
theorem d_M_hanger_49 : decode prog_14_method_62_code 49 = .ok (.ireturn, 1) := by decide +kernel
theorem d_M_hanger_50 : decode prog_14_method_62_code 50 = .ok (.aload_n 0, 1) := by decide +kernel
theorem d_M_hanger_51 : decode prog_14_method_62_code 51 = .ok (.getfield 52, 3) := by decide +kernel
theorem d_M_hanger_54 : decode prog_14_method_62_code 54 = .ok (.bipush 7, 2) := by decide +kernel
theorem d_M_hanger_56 : decode prog_14_method_62_code 56 = .ok (.aload_n 0, 1) := by decide +kernel
theorem d_M_hanger_57 : decode prog_14_method_62_code 57 = .ok (.getfield 245, 3) := by decide +kernel
theorem d_M_hanger_60 : decode prog_14_method_62_code 60 = .ok (.imul, 1) := by decide +kernel
theorem d_M_hanger_61 : decode prog_14_method_62_code 61 = .ok (.iload_n 1, 1) := by decide +kernel
theorem d_M_hanger_62 : decode prog_14_method_62_code 62 = .ok (.iadd, 1) := by decide +kernel
theorem d_M_hanger_63 : decode prog_14_method_62_code 63 = .ok (.iaload, 1) := by decide +kernel
theorem d_M_hanger_64 : decode prog_14_method_62_code 64 = .ok (.ireturn, 1) := by decide +kernel
theorem d_M_hanger_65 : decode prog_14_method_62_code 65 = .ok (.aload_n 0, 1) := by decide +kernel
theorem d_M_hanger_66 : decode prog_14_method_62_code 66 = .ok (.getfield 116, 3) := by decide +kernel
theorem d_M_hanger_69 : decode prog_14_method_62_code 69 = .ok (.bipush 24, 2) := by decide +kernel
theorem d_M_hanger_71 : decode prog_14_method_62_code 71 = .ok (.iload_n 1, 1) := by decide +kernel
theorem d_M_hanger_72 : decode prog_14_method_62_code 72 = .ok (.iadd, 1) := by decide +kernel
theorem d_M_hanger_73 : decode prog_14_method_62_code 73 = .ok (.iaload, 1) := by decide +kernel
theorem d_M_hanger_74 : decode prog_14_method_62_code 74 = .ok (.ireturn, 1) := by decide +kernel
theorem d_M_hanger_75 : decode prog_14_method_62_code 75 = .ok (.aload_n 0, 1) := by decide +kernel
theorem d_M_hanger_76 : decode prog_14_method_62_code 76 = .ok (.iload_n 1, 1) := by decide +kernel
theorem d_M_hanger_77 : decode prog_14_method_62_code 77 = .ok (.invokevirtual 389, 3) := by decide +kernel
theorem d_M_hanger_80 : decode prog_14_method_62_code 80 = .ok (.ireturn, 1) := by decide +kernel
theorem d_M_hanger_81 : decode prog_14_method_62_code 81 = .ok (.iconst (-1), 1) := by decide +kernel
theorem d_M_hanger_82 : decode prog_14_method_62_code 82 = .ok (.ireturn, 1) := by decide +kernel
theorem d_M_person_0 : decode prog_14_method_63_code 0 = .ok (.aload_n 0, 1) := by decide +kernel
theorem d_M_person_1 : decode prog_14_method_63_code 1 = .ok (.iload_n 1, 1) := by decide +kernel
theorem d_M_person_2 : decode prog_14_method_63_code 2 = .ok (.invokevirtual 392, 3) := by decide +kernel
theorem d_M_person_5 : decode prog_14_method_63_code 5 = .ok (.ifCond .ne 5, 3) := by decide +kernel
theorem d_M_person_8 : decode prog_14_method_63_code 8 = .ok (.iconst (-1), 1) := by decide +kernel
theorem d_M_person_9 : decode prog_14_method_63_code 9 = .ok (.ireturn, 1) := by decide +kernel
theorem d_M_person_10 : decode prog_14_method_63_code 10 = .ok (.aload_n 0, 1) := by decide +kernel
theorem d_M_person_11 : decode prog_14_method_63_code 11 = .ok (.invokevirtual 332, 3) := by decide +kernel
theorem d_M_person_14 : decode prog_14_method_63_code 14 = .ok (.iload_n 2, 1) := by decide +kernel
theorem d_M_person_15 : decode prog_14_method_63_code 15 = .ok (.tableswitch 95 0 5 #[37, 44, 59, 69, 79, 89], 37) := by decide +kernel
theorem d_M_person_52 : decode prog_14_method_63_code 52 = .ok (.aload_n 0, 1) := by decide +kernel
theorem d_M_person_53 : decode prog_14_method_63_code 53 = .ok (.getfield 116, 3) := by decide +kernel
theorem d_M_person_56 : decode prog_14_method_63_code 56 = .ok (.iload_n 1, 1) := by decide +kernel
theorem d_M_person_57 : decode prog_14_method_63_code 57 = .ok (.iaload, 1) := by decide +kernel
theorem d_M_person_58 : decode prog_14_method_63_code 58 = .ok (.ireturn, 1) := by decide +kernel
theorem d_M_person_59 : decode prog_14_method_63_code 59 = .ok (.aload_n 0, 1) := by decide +kernel
theorem d_M_person_60 : decode prog_14_method_63_code 60 = .ok (.getfield 61, 3) := by decide +kernel
theorem d_M_person_63 : decode prog_14_method_63_code 63 = .ok (.bipush 6, 2) := by decide +kernel
theorem d_M_person_65 : decode prog_14_method_63_code 65 = .ok (.aload_n 0, 1) := by decide +kernel
theorem d_M_person_66 : decode prog_14_method_63_code 66 = .ok (.getfield 245, 3) := by decide +kernel
theorem d_M_person_69 : decode prog_14_method_63_code 69 = .ok (.imul, 1) := by decide +kernel
theorem d_M_person_70 : decode prog_14_method_63_code 70 = .ok (.iload_n 1, 1) := by decide +kernel
theorem d_M_person_71 : decode prog_14_method_63_code 71 = .ok (.iadd, 1) := by decide +kernel
theorem d_M_person_72 : decode prog_14_method_63_code 72 = .ok (.iaload, 1) := by decide +kernel
theorem d_M_person_73 : decode prog_14_method_63_code 73 = .ok (.ireturn, 1) := by decide +kernel
theorem d_M_person_74 : decode prog_14_method_63_code 74 = .ok (.aload_n 0, 1) := by decide +kernel
theorem d_M_person_75 : decode prog_14_method_63_code 75 = .ok (.getfield 116, 3) := by decide +kernel
theorem d_M_person_78 : decode prog_14_method_63_code 78 = .ok (.bipush 6, 2) := by decide +kernel
theorem d_M_person_80 : decode prog_14_method_63_code 80 = .ok (.iload_n 1, 1) := by decide +kernel
theorem d_M_person_81 : decode prog_14_method_63_code 81 = .ok (.iadd, 1) := by decide +kernel
theorem d_M_person_82 : decode prog_14_method_63_code 82 = .ok (.iaload, 1) := by decide +kernel
theorem d_M_person_83 : decode prog_14_method_63_code 83 = .ok (.ireturn, 1) := by decide +kernel
theorem d_M_person_84 : decode prog_14_method_63_code 84 = .ok (.aload_n 0, 1) := by decide +kernel
theorem d_M_person_85 : decode prog_14_method_63_code 85 = .ok (.getfield 116, 3) := by decide +kernel
theorem d_M_person_88 : decode prog_14_method_63_code 88 = .ok (.bipush 12, 2) := by decide +kernel
theorem d_M_person_90 : decode prog_14_method_63_code 90 = .ok (.iload_n 1, 1) := by decide +kernel
theorem d_M_person_91 : decode prog_14_method_63_code 91 = .ok (.iadd, 1) := by decide +kernel
theorem d_M_person_92 : decode prog_14_method_63_code 92 = .ok (.iaload, 1) := by decide +kernel
theorem d_M_person_93 : decode prog_14_method_63_code 93 = .ok (.ireturn, 1) := by decide +kernel
theorem d_M_person_94 : decode prog_14_method_63_code 94 = .ok (.aload_n 0, 1) := by decide +kernel
theorem d_M_person_95 : decode prog_14_method_63_code 95 = .ok (.getfield 116, 3) := by decide +kernel
theorem d_M_person_98 : decode prog_14_method_63_code 98 = .ok (.bipush 18, 2) := by decide +kernel
theorem d_M_person_100 : decode prog_14_method_63_code 100 = .ok (.iload_n 1, 1) := by decide +kernel
theorem d_M_person_101 : decode prog_14_method_63_code 101 = .ok (.iadd, 1) := by decide +kernel
theorem d_M_person_102 : decode prog_14_method_63_code 102 = .ok (.iaload, 1) := by decide +kernel
theorem d_M_person_103 : decode prog_14_method_63_code 103 = .ok (.ireturn, 1) := by decide +kernel
theorem d_M_person_104 : decode prog_14_method_63_code 104 = .ok (.aload_n 0, 1) := by decide +kernel
theorem d_M_person_105 : decode prog_14_method_63_code 105 = .ok (.iload_n 1, 1) := by decide +kernel
theorem d_M_person_106 : decode prog_14_method_63_code 106 = .ok (.invokevirtual 357, 3) := by decide +kernel
theorem d_M_person_109 : decode prog_14_method_63_code 109 = .ok (.ireturn, 1) := by decide +kernel
theorem d_M_person_110 : decode prog_14_method_63_code 110 = .ok (.iconst (-1), 1) := by decide +kernel
theorem d_M_person_111 : decode prog_14_method_63_code 111 = .ok (.ireturn, 1) := by decide +kernel
theorem d_M_tells_0 : decode prog_14_method_64_code 0 = .ok (.aload_n 0, 1) := by decide +kernel
theorem d_M_tells_1 : decode prog_14_method_64_code 1 = .ok (.iload_n 1, 1) := by decide +kernel
theorem d_M_tells_2 : decode prog_14_method_64_code 2 = .ok (.invokevirtual 392, 3) := by decide +kernel
theorem d_M_tells_5 : decode prog_14_method_64_code 5 = .ok (.ifCond .eq 12, 3) := by decide +kernel
theorem d_M_tells_8 : decode prog_14_method_64_code 8 = .ok (.iload_n 2, 1) := by decide +kernel
theorem d_M_tells_9 : decode prog_14_method_64_code 9 = .ok (.iconst 0, 1) := by decide +kernel
theorem d_M_tells_10 : decode prog_14_method_64_code 10 = .ok (.iconst 3, 1) := by decide +kernel
theorem d_M_tells_11 : decode prog_14_method_64_code 11 = .ok (.invokestatic 322, 3) := by decide +kernel
theorem d_M_tells_14 : decode prog_14_method_64_code 14 = .ok (.ifCond .ne 5, 3) := by decide +kernel
theorem d_M_tells_17 : decode prog_14_method_64_code 17 = .ok (.iconst (-1), 1) := by decide +kernel
theorem d_M_tells_18 : decode prog_14_method_64_code 18 = .ok (.ireturn, 1) := by decide +kernel
theorem d_M_tells_19 : decode prog_14_method_64_code 19 = .ok (.aload_n 0, 1) := by decide +kernel
theorem d_M_tells_20 : decode prog_14_method_64_code 20 = .ok (.invokevirtual 332, 3) := by decide +kernel
theorem d_M_tells_23 : decode prog_14_method_64_code 23 = .ok (.aload_n 0, 1) := by decide +kernel
theorem d_M_tells_24 : decode prog_14_method_64_code 24 = .ok (.iload_n 1, 1) := by decide +kernel
theorem d_M_tells_25 : decode prog_14_method_64_code 25 = .ok (.invokevirtual 342, 3) := by decide +kernel
theorem d_M_tells_28 : decode prog_14_method_64_code 28 = .ok (.ifCond .eq 12, 3) := by decide +kernel
theorem d_M_tells_31 : decode prog_14_method_64_code 31 = .ok (.aload_n 0, 1) := by decide +kernel
theorem d_M_tells_32 : decode prog_14_method_64_code 32 = .ok (.iload_n 1, 1) := by decide +kernel
theorem d_M_tells_33 : decode prog_14_method_64_code 33 = .ok (.iload_n 2, 1) := by decide +kernel
theorem d_M_tells_34 : decode prog_14_method_64_code 34 = .ok (.invokevirtual 370, 3) := by decide +kernel
theorem d_M_tells_37 : decode prog_14_method_64_code 37 = .ok (.goto 5, 3) := by decide +kernel
theorem d_M_tells_40 : decode prog_14_method_64_code 40 = .ok (.bipush (-2), 2) := by decide +kernel
theorem d_M_tells_42 : decode prog_14_method_64_code 42 = .ok (.ireturn, 1) := by decide +kernel
theorem d_M_records_0 : decode prog_14_method_65_code 0 = .ok (.aload_n 0, 1) := by decide +kernel
theorem d_M_records_1 : decode prog_14_method_65_code 1 = .ok (.getfield 263, 3) := by decide +kernel
theorem d_M_records_4 : decode prog_14_method_65_code 4 = .ok (.bipush 40, 2) := by decide +kernel
theorem d_M_records_6 : decode prog_14_method_65_code 6 = .ok (.if_icmp .ne 43, 3) := by decide +kernel
theorem d_M_records_9 : decode prog_14_method_65_code 9 = .ok (.iconst 0, 1) := by decide +kernel
theorem d_M_records_10 : decode prog_14_method_65_code 10 = .ok (.istore_n 1, 1) := by decide +kernel
theorem d_M_records_11 : decode prog_14_method_65_code 11 = .ok (.iload_n 1, 1) := by decide +kernel
theorem d_M_records_12 : decode prog_14_method_65_code 12 = .ok (.sipush 1248, 3) := by decide +kernel
theorem d_M_records_15 : decode prog_14_method_65_code 15 = .ok (.if_icmp .ge 24, 3) := by decide +kernel
theorem d_M_records_18 : decode prog_14_method_65_code 18 = .ok (.aload_n 0, 1) := by decide +kernel
theorem d_M_records_19 : decode prog_14_method_65_code 19 = .ok (.getfield 131, 3) := by decide +kernel
theorem d_M_records_22 : decode prog_14_method_65_code 22 = .ok (.iload_n 1, 1) := by decide +kernel
theorem d_M_records_23 : decode prog_14_method_65_code 23 = .ok (.aload_n 0, 1) := by decide +kernel
theorem d_M_records_24 : decode prog_14_method_65_code 24 = .ok (.getfield 131, 3) := by decide +kernel
theorem d_M_records_27 : decode prog_14_method_65_code 27 = .ok (.iload_n 1, 1) := by decide +kernel
theorem d_M_records_28 : decode prog_14_method_65_code 28 = .ok (.bipush 32, 2) := by decide +kernel
theorem d_M_records_30 : decode prog_14_method_65_code 30 = .ok (.iadd, 1) := by decide +kernel
theorem d_M_records_31 : decode prog_14_method_65_code 31 = .ok (.iaload, 1) := by decide +kernel
theorem d_M_records_32 : decode prog_14_method_65_code 32 = .ok (.iastore, 1) := by decide +kernel
theorem d_M_records_33 : decode prog_14_method_65_code 33 = .ok (.iinc 1 1, 3) := by decide +kernel
theorem d_M_records_36 : decode prog_14_method_65_code 36 = .ok (.goto (-25), 3) := by decide +kernel
theorem d_M_records_39 : decode prog_14_method_65_code 39 = .ok (.aload_n 0, 1) := by decide +kernel
theorem d_M_records_40 : decode prog_14_method_65_code 40 = .ok (.dup, 1) := by decide +kernel
theorem d_M_records_41 : decode prog_14_method_65_code 41 = .ok (.getfield 263, 3) := by decide +kernel
theorem d_M_records_44 : decode prog_14_method_65_code 44 = .ok (.iconst 1, 1) := by decide +kernel
theorem d_M_records_45 : decode prog_14_method_65_code 45 = .ok (.isub, 1) := by decide +kernel
theorem d_M_records_46 : decode prog_14_method_65_code 46 = .ok (.putfield 263, 3) := by decide +kernel
theorem d_M_records_49 : decode prog_14_method_65_code 49 = .ok (.iconst 0, 1) := by decide +kernel
theorem d_M_records_50 : decode prog_14_method_65_code 50 = .ok (.istore_n 1, 1) := by decide +kernel
theorem d_M_records_51 : decode prog_14_method_65_code 51 = .ok (.iload_n 1, 1) := by decide +kernel
theorem d_M_records_52 : decode prog_14_method_65_code 52 = .ok (.bipush 32, 2) := by decide +kernel
theorem d_M_records_54 : decode prog_14_method_65_code 54 = .ok (.if_icmp .ge 29, 3) := by decide +kernel
theorem d_M_records_57 : decode prog_14_method_65_code 57 = .ok (.aload_n 0, 1) := by decide +kernel
theorem d_M_records_58 : decode prog_14_method_65_code 58 = .ok (.getfield 131, 3) := by decide +kernel
theorem d_M_records_61 : decode prog_14_method_65_code 61 = .ok (.bipush 32, 2) := by decide +kernel
theorem d_M_records_63 : decode prog_14_method_65_code 63 = .ok (.aload_n 0, 1) := by decide +kernel
theorem d_M_records_64 : decode prog_14_method_65_code 64 = .ok (.getfield 263, 3) := by decide +kernel
theorem d_M_records_67 : decode prog_14_method_65_code 67 = .ok (.imul, 1) := by decide +kernel
theorem d_M_records_68 : decode prog_14_method_65_code 68 = .ok (.iload_n 1, 1) := by decide +kernel
theorem d_M_records_69 : decode prog_14_method_65_code 69 = .ok (.iadd, 1) := by decide +kernel
theorem d_M_records_70 : decode prog_14_method_65_code 70 = .ok (.aload_n 0, 1) := by decide +kernel
theorem d_M_records_71 : decode prog_14_method_65_code 71 = .ok (.getfield 113, 3) := by decide +kernel
theorem d_M_records_74 : decode prog_14_method_65_code 74 = .ok (.iload_n 1, 1) := by decide +kernel
theorem d_M_records_75 : decode prog_14_method_65_code 75 = .ok (.iaload, 1) := by decide +kernel
theorem d_M_records_76 : decode prog_14_method_65_code 76 = .ok (.iastore, 1) := by decide +kernel
theorem d_M_records_77 : decode prog_14_method_65_code 77 = .ok (.iinc 1 1, 3) := by decide +kernel
theorem d_M_records_80 : decode prog_14_method_65_code 80 = .ok (.goto (-29), 3) := by decide +kernel
theorem d_M_records_83 : decode prog_14_method_65_code 83 = .ok (.aload_n 0, 1) := by decide +kernel
theorem d_M_records_84 : decode prog_14_method_65_code 84 = .ok (.dup, 1) := by decide +kernel
theorem d_M_records_85 : decode prog_14_method_65_code 85 = .ok (.getfield 263, 3) := by decide +kernel
theorem d_M_records_88 : decode prog_14_method_65_code 88 = .ok (.iconst 1, 1) := by decide +kernel
theorem d_M_records_89 : decode prog_14_method_65_code 89 = .ok (.iadd, 1) := by decide +kernel
theorem d_M_records_90 : decode prog_14_method_65_code 90 = .ok (.putfield 263, 3) := by decide +kernel
theorem d_M_records_93 : decode prog_14_method_65_code 93 = .ok (.aload_n 0, 1) := by decide +kernel
theorem d_M_records_94 : decode prog_14_method_65_code 94 = .ok (.invokevirtual 175, 3) := by decide +kernel
theorem d_M_records_97 : decode prog_14_method_65_code 97 = .ok (.return_, 1) := by decide +kernel
theorem d_M_does_0 : decode prog_14_method_66_code 0 = .ok (.aload_n 0, 1) := by decide +kernel
theorem d_M_does_1 : decode prog_14_method_66_code 1 = .ok (.invokevirtual 332, 3) := by decide +kernel
theorem d_M_does_4 : decode prog_14_method_66_code 4 = .ok (.aload_n 0, 1) := by decide +kernel
theorem d_M_does_5 : decode prog_14_method_66_code 5 = .ok (.getfield 116, 3) := by decide +kernel
theorem d_M_does_8 : decode prog_14_method_66_code 8 = .ok (.iload_n 1, 1) := by decide +kernel
theorem d_M_does_9 : decode prog_14_method_66_code 9 = .ok (.iload_n 2, 1) := by decide +kernel
theorem d_M_does_10 : decode prog_14_method_66_code 10 = .ok (.iastore, 1) := by decide +kernel
theorem d_M_does_11 : decode prog_14_method_66_code 11 = .ok (.aload_n 0, 1) := by decide +kernel
theorem d_M_does_12 : decode prog_14_method_66_code 12 = .ok (.invokevirtual 395, 3) := by decide +kernel
theorem d_M_does_15 : decode prog_14_method_66_code 15 = .ok (.return_, 1) := by decide +kernel
theorem d_M_hang_0 : decode prog_14_method_67_code 0 = .ok (.aload_n 0, 1) := by decide +kernel
theorem d_M_hang_1 : decode prog_14_method_67_code 1 = .ok (.iload_n 1, 1) := by decide +kernel
theorem d_M_hang_2 : decode prog_14_method_67_code 2 = .ok (.invokevirtual 392, 3) := by decide +kernel
theorem d_M_hang_5 : decode prog_14_method_67_code 5 = .ok (.ifCond .eq 23, 3) := by decide +kernel
theorem d_M_hang_8 : decode prog_14_method_67_code 8 = .ok (.aload_n 0, 1) := by decide +kernel
theorem d_M_hang_9 : decode prog_14_method_67_code 9 = .ok (.iload_n 2, 1) := by decide +kernel
theorem d_M_hang_10 : decode prog_14_method_67_code 10 = .ok (.invokevirtual 386, 3) := by decide +kernel
theorem d_M_hang_13 : decode prog_14_method_67_code 13 = .ok (.ifCond .eq 15, 3) := by decide +kernel
theorem d_M_hang_16 : decode prog_14_method_67_code 16 = .ok (.aload_n 0, 1) := by decide +kernel
theorem d_M_hang_17 : decode prog_14_method_67_code 17 = .ok (.getfield 113, 3) := by decide +kernel
theorem d_M_hang_20 : decode prog_14_method_67_code 20 = .ok (.bipush 6, 2) := by decide +kernel
theorem d_M_hang_22 : decode prog_14_method_67_code 22 = .ok (.iload_n 1, 1) := by decide +kernel
theorem d_M_hang_23 : decode prog_14_method_67_code 23 = .ok (.iadd, 1) := by decide +kernel
theorem d_M_hang_24 : decode prog_14_method_67_code 24 = .ok (.iaload, 1) := by decide +kernel
theorem d_M_hang_25 : decode prog_14_method_67_code 25 = .ok (.ifCond .lt 5, 3) := by decide +kernel
theorem d_M_hang_28 : decode prog_14_method_67_code 28 = .ok (.iconst 0, 1) := by decide +kernel
theorem d_M_hang_29 : decode prog_14_method_67_code 29 = .ok (.ireturn, 1) := by decide +kernel
theorem d_M_hang_30 : decode prog_14_method_67_code 30 = .ok (.aload_n 0, 1) := by decide +kernel
theorem d_M_hang_31 : decode prog_14_method_67_code 31 = .ok (.invokevirtual 332, 3) := by decide +kernel
theorem d_M_hang_34 : decode prog_14_method_67_code 34 = .ok (.aload_n 0, 1) := by decide +kernel
theorem d_M_hang_35 : decode prog_14_method_67_code 35 = .ok (.iload_n 2, 1) := by decide +kernel
theorem d_M_hang_36 : decode prog_14_method_67_code 36 = .ok (.invokevirtual 389, 3) := by decide +kernel
theorem d_M_hang_39 : decode prog_14_method_67_code 39 = .ok (.ifCond .lt 5, 3) := by decide +kernel
theorem d_M_hang_42 : decode prog_14_method_67_code 42 = .ok (.iconst 0, 1) := by decide +kernel
theorem d_M_hang_43 : decode prog_14_method_67_code 43 = .ok (.ireturn, 1) := by decide +kernel
theorem d_M_hang_44 : decode prog_14_method_67_code 44 = .ok (.aload_n 0, 1) := by decide +kernel
theorem d_M_hang_45 : decode prog_14_method_67_code 45 = .ok (.bipush 6, 2) := by decide +kernel
theorem d_M_hang_47 : decode prog_14_method_67_code 47 = .ok (.iload_n 1, 1) := by decide +kernel
theorem d_M_hang_48 : decode prog_14_method_67_code 48 = .ok (.iadd, 1) := by decide +kernel
theorem d_M_hang_49 : decode prog_14_method_67_code 49 = .ok (.iload_n 2, 1) := by decide +kernel
theorem d_M_hang_50 : decode prog_14_method_67_code 50 = .ok (.invokevirtual 398, 3) := by decide +kernel
theorem d_M_hang_53 : decode prog_14_method_67_code 53 = .ok (.iconst 1, 1) := by decide +kernel
theorem d_M_hang_54 : decode prog_14_method_67_code 54 = .ok (.ireturn, 1) := by decide +kernel
theorem d_M_take_0 : decode prog_14_method_68_code 0 = .ok (.aload_n 0, 1) := by decide +kernel
theorem d_M_take_1 : decode prog_14_method_68_code 1 = .ok (.iload_n 1, 1) := by decide +kernel
theorem d_M_take_2 : decode prog_14_method_68_code 2 = .ok (.invokevirtual 392, 3) := by decide +kernel
theorem d_M_take_5 : decode prog_14_method_68_code 5 = .ok (.ifCond .eq 15, 3) := by decide +kernel
theorem d_M_take_8 : decode prog_14_method_68_code 8 = .ok (.aload_n 0, 1) := by decide +kernel
theorem d_M_take_9 : decode prog_14_method_68_code 9 = .ok (.getfield 113, 3) := by decide +kernel
theorem d_M_take_12 : decode prog_14_method_68_code 12 = .ok (.bipush 6, 2) := by decide +kernel
theorem d_M_take_14 : decode prog_14_method_68_code 14 = .ok (.iload_n 1, 1) := by decide +kernel
theorem d_M_take_15 : decode prog_14_method_68_code 15 = .ok (.iadd, 1) := by decide +kernel
theorem d_M_take_16 : decode prog_14_method_68_code 16 = .ok (.iaload, 1) := by decide +kernel
theorem d_M_take_17 : decode prog_14_method_68_code 17 = .ok (.ifCond .ge 5, 3) := by decide +kernel
theorem d_M_take_20 : decode prog_14_method_68_code 20 = .ok (.iconst 0, 1) := by decide +kernel
theorem d_M_take_21 : decode prog_14_method_68_code 21 = .ok (.ireturn, 1) := by decide +kernel
theorem d_M_take_22 : decode prog_14_method_68_code 22 = .ok (.aload_n 0, 1) := by decide +kernel
theorem d_M_take_23 : decode prog_14_method_68_code 23 = .ok (.bipush 6, 2) := by decide +kernel
theorem d_M_take_25 : decode prog_14_method_68_code 25 = .ok (.iload_n 1, 1) := by decide +kernel
theorem d_M_take_26 : decode prog_14_method_68_code 26 = .ok (.iadd, 1) := by decide +kernel
theorem d_M_take_27 : decode prog_14_method_68_code 27 = .ok (.bipush (-2), 2) := by decide +kernel
theorem d_M_take_29 : decode prog_14_method_68_code 29 = .ok (.invokevirtual 398, 3) := by decide +kernel
theorem d_M_take_32 : decode prog_14_method_68_code 32 = .ok (.iconst 1, 1) := by decide +kernel
theorem d_M_take_33 : decode prog_14_method_68_code 33 = .ok (.ireturn, 1) := by decide +kernel
theorem d_M_areUp_0 : decode prog_14_method_69_code 0 = .ok (.aload_n 0, 1) := by decide +kernel
theorem d_M_areUp_1 : decode prog_14_method_69_code 1 = .ok (.iload_n 1, 1) := by decide +kernel
theorem d_M_areUp_2 : decode prog_14_method_69_code 2 = .ok (.invokevirtual 392, 3) := by decide +kernel
theorem d_M_areUp_5 : decode prog_14_method_69_code 5 = .ok (.ifCond .eq 44, 3) := by decide +kernel
theorem d_M_areUp_8 : decode prog_14_method_69_code 8 = .ok (.aload_n 0, 1) := by decide +kernel
theorem d_M_areUp_9 : decode prog_14_method_69_code 9 = .ok (.iload_n 2, 1) := by decide +kernel
theorem d_M_areUp_10 : decode prog_14_method_69_code 10 = .ok (.invokevirtual 392, 3) := by decide +kernel
theorem d_M_areUp_13 : decode prog_14_method_69_code 13 = .ok (.ifCond .eq 36, 3) := by decide +kernel
theorem d_M_areUp_16 : decode prog_14_method_69_code 16 = .ok (.iload_n 1, 1) := by decide +kernel
theorem d_M_areUp_17 : decode prog_14_method_69_code 17 = .ok (.iload_n 2, 1) := by decide +kernel
theorem d_M_areUp_18 : decode prog_14_method_69_code 18 = .ok (.if_icmp .eq 31, 3) := by decide +kernel
theorem d_M_areUp_21 : decode prog_14_method_69_code 21 = .ok (.aload_n 0, 1) := by decide +kernel
theorem d_M_areUp_22 : decode prog_14_method_69_code 22 = .ok (.getfield 113, 3) := by decide +kernel
theorem d_M_areUp_25 : decode prog_14_method_69_code 25 = .ok (.bipush 6, 2) := by decide +kernel
theorem d_M_areUp_27 : decode prog_14_method_69_code 27 = .ok (.iload_n 1, 1) := by decide +kernel
theorem d_M_areUp_28 : decode prog_14_method_69_code 28 = .ok (.iadd, 1) := by decide +kernel
theorem d_M_areUp_29 : decode prog_14_method_69_code 29 = .ok (.iaload, 1) := by decide +kernel
theorem d_M_areUp_30 : decode prog_14_method_69_code 30 = .ok (.ifCond .lt 19, 3) := by decide +kernel
theorem d_M_areUp_33 : decode prog_14_method_69_code 33 = .ok (.aload_n 0, 1) := by decide +kernel
theorem d_M_areUp_34 : decode prog_14_method_69_code 34 = .ok (.getfield 113, 3) := by decide +kernel
theorem d_M_areUp_37 : decode prog_14_method_69_code 37 = .ok (.bipush 6, 2) := by decide +kernel
theorem d_M_areUp_39 : decode prog_14_method_69_code 39 = .ok (.iload_n 2, 1) := by decide +kernel
theorem d_M_areUp_40 : decode prog_14_method_69_code 40 = .ok (.iadd, 1) := by decide +kernel
theorem d_M_areUp_41 : decode prog_14_method_69_code 41 = .ok (.iaload, 1) := by decide +kernel
theorem d_M_areUp_42 : decode prog_14_method_69_code 42 = .ok (.ifCond .lt 7, 3) := by decide +kernel
theorem d_M_areUp_45 : decode prog_14_method_69_code 45 = .ok (.iconst 1, 1) := by decide +kernel
theorem d_M_areUp_46 : decode prog_14_method_69_code 46 = .ok (.goto 4, 3) := by decide +kernel
theorem d_M_areUp_49 : decode prog_14_method_69_code 49 = .ok (.iconst 0, 1) := by decide +kernel
theorem d_M_areUp_50 : decode prog_14_method_69_code 50 = .ok (.ireturn, 1) := by decide +kernel
theorem d_M_changesFor_0 : decode prog_14_method_70_code 0 = .ok (.aload_n 0, 1) := by decide +kernel
theorem d_M_changesFor_1 : decode prog_14_method_70_code 1 = .ok (.invokevirtual 401, 3) := by decide +kernel
theorem d_M_changesFor_4 : decode prog_14_method_70_code 4 = .ok (.aload_n 0, 1) := by decide +kernel
theorem d_M_changesFor_5 : decode prog_14_method_70_code 5 = .ok (.getfield 116, 3) := by decide +kernel
theorem d_M_changesFor_8 : decode prog_14_method_70_code 8 = .ok (.bipush 6, 2) := by decide +kernel
theorem d_M_changesFor_10 : decode prog_14_method_70_code 10 = .ok (.iload_n 1, 1) := by decide +kernel
theorem d_M_changesFor_11 : decode prog_14_method_70_code 11 = .ok (.iadd, 1) := by decide +kernel
theorem d_M_changesFor_12 : decode prog_14_method_70_code 12 = .ok (.aload_n 0, 1) := by decide +kernel
theorem d_M_changesFor_13 : decode prog_14_method_70_code 13 = .ok (.getfield 113, 3) := by decide +kernel
theorem d_M_changesFor_16 : decode prog_14_method_70_code 16 = .ok (.bipush 6, 2) := by decide +kernel
theorem d_M_changesFor_18 : decode prog_14_method_70_code 18 = .ok (.iload_n 2, 1) := by decide +kernel
theorem d_M_changesFor_19 : decode prog_14_method_70_code 19 = .ok (.iadd, 1) := by decide +kernel
theorem d_M_changesFor_20 : decode prog_14_method_70_code 20 = .ok (.iaload, 1) := by decide +kernel
theorem d_M_changesFor_21 : decode prog_14_method_70_code 21 = .ok (.iastore, 1) := by decide +kernel
theorem d_M_changesFor_22 : decode prog_14_method_70_code 22 = .ok (.aload_n 0, 1) := by decide +kernel
theorem d_M_changesFor_23 : decode prog_14_method_70_code 23 = .ok (.getfield 116, 3) := by decide +kernel
theorem d_M_changesFor_26 : decode prog_14_method_70_code 26 = .ok (.bipush 6, 2) := by decide +kernel
theorem d_M_changesFor_28 : decode prog_14_method_70_code 28 = .ok (.iload_n 2, 1) := by decide +kernel
theorem d_M_changesFor_29 : decode prog_14_method_70_code 29 = .ok (.iadd, 1) := by decide +kernel
theorem d_M_changesFor_30 : decode prog_14_method_70_code 30 = .ok (.aload_n 0, 1) := by decide +kernel
theorem d_M_changesFor_31 : decode prog_14_method_70_code 31 = .ok (.getfield 113, 3) := by decide +kernel
theorem d_M_changesFor_34 : decode prog_14_method_70_code 34 = .ok (.bipush 6, 2) := by decide +kernel
theorem d_M_changesFor_36 : decode prog_14_method_70_code 36 = .ok (.iload_n 1, 1) := by decide +kernel
theorem d_M_changesFor_37 : decode prog_14_method_70_code 37 = .ok (.iadd, 1) := by decide +kernel
theorem d_M_changesFor_38 : decode prog_14_method_70_code 38 = .ok (.iaload, 1) := by decide +kernel
theorem d_M_changesFor_39 : decode prog_14_method_70_code 39 = .ok (.iastore, 1) := by decide +kernel
theorem d_M_changesFor_40 : decode prog_14_method_70_code 40 = .ok (.return_, 1) := by decide +kernel
theorem d_M_change_0 : decode prog_14_method_71_code 0 = .ok (.aload_n 0, 1) := by decide +kernel
theorem d_M_change_1 : decode prog_14_method_71_code 1 = .ok (.iload_n 1, 1) := by decide +kernel
theorem d_M_change_2 : decode prog_14_method_71_code 2 = .ok (.iload_n 2, 1) := by decide +kernel
theorem d_M_change_3 : decode prog_14_method_71_code 3 = .ok (.invokevirtual 404, 3) := by decide +kernel
theorem d_M_change_6 : decode prog_14_method_71_code 6 = .ok (.ifCond .ne 5, 3) := by decide +kernel
theorem d_M_change_9 : decode prog_14_method_71_code 9 = .ok (.iconst 0, 1) := by decide +kernel
theorem d_M_change_10 : decode prog_14_method_71_code 10 = .ok (.ireturn, 1) := by decide +kernel
theorem d_M_change_11 : decode prog_14_method_71_code 11 = .ok (.aload_n 0, 1) := by decide +kernel
theorem d_M_change_12 : decode prog_14_method_71_code 12 = .ok (.iload_n 1, 1) := by decide +kernel
theorem d_M_change_13 : decode prog_14_method_71_code 13 = .ok (.iload_n 2, 1) := by decide +kernel
theorem d_M_change_14 : decode prog_14_method_71_code 14 = .ok (.invokevirtual 408, 3) := by decide +kernel
theorem d_M_change_17 : decode prog_14_method_71_code 17 = .ok (.aload_n 0, 1) := by decide +kernel
theorem d_M_change_18 : decode prog_14_method_71_code 18 = .ok (.invokevirtual 395, 3) := by decide +kernel
theorem d_M_change_21 : decode prog_14_method_71_code 21 = .ok (.iconst 1, 1) := by decide +kernel
theorem d_M_change_22 : decode prog_14_method_71_code 22 = .ok (.ireturn, 1) := by decide +kernel
theorem d_M_straighten_0 : decode prog_14_method_72_code 0 = .ok (.aload_n 0, 1) := by decide +kernel
theorem d_M_straighten_1 : decode prog_14_method_72_code 1 = .ok (.iload_n 1, 1) := by decide +kernel
theorem d_M_straighten_2 : decode prog_14_method_72_code 2 = .ok (.invokevirtual 386, 3) := by decide +kernel
theorem d_M_straighten_5 : decode prog_14_method_72_code 5 = .ok (.ifCond .eq 15, 3) := by decide +kernel
theorem d_M_straighten_8 : decode prog_14_method_72_code 8 = .ok (.aload_n 0, 1) := by decide +kernel
theorem d_M_straighten_9 : decode prog_14_method_72_code 9 = .ok (.getfield 113, 3) := by decide +kernel
theorem d_M_straighten_12 : decode prog_14_method_72_code 12 = .ok (.bipush 24, 2) := by decide +kernel
theorem d_M_straighten_14 : decode prog_14_method_72_code 14 = .ok (.iload_n 1, 1) := by decide +kernel
theorem d_M_straighten_15 : decode prog_14_method_72_code 15 = .ok (.iadd, 1) := by decide +kernel
theorem d_M_straighten_16 : decode prog_14_method_72_code 16 = .ok (.iaload, 1) := by decide +kernel
theorem d_M_straighten_17 : decode prog_14_method_72_code 17 = .ok (.ifCond .ne 5, 3) := by decide +kernel
theorem d_M_straighten_20 : decode prog_14_method_72_code 20 = .ok (.iconst 0, 1) := by decide +kernel
theorem d_M_straighten_21 : decode prog_14_method_72_code 21 = .ok (.ireturn, 1) := by decide +kernel
theorem d_M_straighten_22 : decode prog_14_method_72_code 22 = .ok (.aload_n 0, 1) := by decide +kernel
theorem d_M_straighten_23 : decode prog_14_method_72_code 23 = .ok (.invokevirtual 332, 3) := by decide +kernel
theorem d_M_straighten_26 : decode prog_14_method_72_code 26 = .ok (.aload_n 0, 1) := by decide +kernel
theorem d_M_straighten_27 : decode prog_14_method_72_code 27 = .ok (.iload_n 1, 1) := by decide +kernel
theorem d_M_straighten_28 : decode prog_14_method_72_code 28 = .ok (.invokevirtual 389, 3) := by decide +kernel
theorem d_M_straighten_31 : decode prog_14_method_72_code 31 = .ok (.ifCond .lt 5, 3) := by decide +kernel
theorem d_M_straighten_34 : decode prog_14_method_72_code 34 = .ok (.iconst 0, 1) := by decide +kernel
theorem d_M_straighten_35 : decode prog_14_method_72_code 35 = .ok (.ireturn, 1) := by decide +kernel
theorem d_M_straighten_36 : decode prog_14_method_72_code 36 = .ok (.aload_n 0, 1) := by decide +kernel
theorem d_M_straighten_37 : decode prog_14_method_72_code 37 = .ok (.bipush 24, 2) := by decide +kernel
theorem d_M_straighten_39 : decode prog_14_method_72_code 39 = .ok (.iload_n 1, 1) := by decide +kernel
theorem d_M_straighten_40 : decode prog_14_method_72_code 40 = .ok (.iadd, 1) := by decide +kernel
theorem d_M_straighten_41 : decode prog_14_method_72_code 41 = .ok (.iconst 0, 1) := by decide +kernel
theorem d_M_straighten_42 : decode prog_14_method_72_code 42 = .ok (.invokevirtual 398, 3) := by decide +kernel
theorem d_M_straighten_45 : decode prog_14_method_72_code 45 = .ok (.iconst 1, 1) := by decide +kernel
theorem d_M_straighten_46 : decode prog_14_method_72_code 46 = .ok (.ireturn, 1) := by decide +kernel
theorem d_M_isLong_0 : decode prog_14_method_73_code 0 = .ok (.iload_n 0, 1) := by decide +kernel
theorem d_M_isLong_1 : decode prog_14_method_73_code 1 = .ok (.iconst 0, 1) := by decide +kernel
theorem d_M_isLong_2 : decode prog_14_method_73_code 2 = .ok (.bipush 60, 2) := by decide +kernel
theorem d_M_isLong_4 : decode prog_14_method_73_code 4 = .ok (.invokestatic 322, 3) := by decide +kernel
theorem d_M_isLong_7 : decode prog_14_method_73_code 7 = .ok (.ireturn, 1) := by decide +kernel
theorem d_M_nights_0 : decode prog_14_method_74_code 0 = .ok (.iload_n 1, 1) := by decide +kernel
theorem d_M_nights_1 : decode prog_14_method_74_code 1 = .ok (.invokestatic 411, 3) := by decide +kernel
theorem d_M_nights_4 : decode prog_14_method_74_code 4 = .ok (.ifCond .ne 5, 3) := by decide +kernel
theorem d_M_nights_7 : decode prog_14_method_74_code 7 = .ok (.iconst (-1), 1) := by decide +kernel
theorem d_M_nights_8 : decode prog_14_method_74_code 8 = .ok (.ireturn, 1) := by decide +kernel
theorem d_M_nights_9 : decode prog_14_method_74_code 9 = .ok (.iload_n 1, 1) := by decide +kernel
theorem d_M_nights_10 : decode prog_14_method_74_code 10 = .ok (.ifCond .ne 11, 3) := by decide +kernel
theorem d_M_nights_13 : decode prog_14_method_74_code 13 = .ok (.aload_n 0, 1) := by decide +kernel
theorem d_M_nights_14 : decode prog_14_method_74_code 14 = .ok (.getfield 113, 3) := by decide +kernel
theorem d_M_nights_17 : decode prog_14_method_74_code 17 = .ok (.bipush 31, 2) := by decide +kernel
theorem d_M_nights_19 : decode prog_14_method_74_code 19 = .ok (.iaload, 1) := by decide +kernel
theorem d_M_nights_20 : decode prog_14_method_74_code 20 = .ok (.ireturn, 1) := by decide +kernel
theorem d_M_nights_21 : decode prog_14_method_74_code 21 = .ok (.aload_n 0, 1) := by decide +kernel
theorem d_M_nights_22 : decode prog_14_method_74_code 22 = .ok (.invokevirtual 332, 3) := by decide +kernel
theorem d_M_nights_25 : decode prog_14_method_74_code 25 = .ok (.aload_n 0, 1) := by decide +kernel
theorem d_M_nights_26 : decode prog_14_method_74_code 26 = .ok (.iload_n 1, 1) := by decide +kernel
theorem d_M_nights_27 : decode prog_14_method_74_code 27 = .ok (.invokevirtual 414, 3) := by decide +kernel
theorem d_M_nights_30 : decode prog_14_method_74_code 30 = .ok (.aload_n 0, 1) := by decide +kernel
theorem d_M_nights_31 : decode prog_14_method_74_code 31 = .ok (.invokevirtual 395, 3) := by decide +kernel
theorem d_M_nights_34 : decode prog_14_method_74_code 34 = .ok (.aload_n 0, 1) := by decide +kernel
theorem d_M_nights_35 : decode prog_14_method_74_code 35 = .ok (.getfield 113, 3) := by decide +kernel
theorem d_M_nights_38 : decode prog_14_method_74_code 38 = .ok (.bipush 31, 2) := by decide +kernel
theorem d_M_nights_40 : decode prog_14_method_74_code 40 = .ok (.iaload, 1) := by decide +kernel
theorem d_M_nights_41 : decode prog_14_method_74_code 41 = .ok (.ireturn, 1) := by decide +kernel
theorem d_M_undo_0 : decode prog_14_method_75_code 0 = .ok (.aload_n 0, 1) := by decide +kernel
theorem d_M_undo_1 : decode prog_14_method_75_code 1 = .ok (.getfield 263, 3) := by decide +kernel
theorem d_M_undo_4 : decode prog_14_method_75_code 4 = .ok (.ifCond .ne 5, 3) := by decide +kernel
theorem d_M_undo_7 : decode prog_14_method_75_code 7 = .ok (.iconst 0, 1) := by decide +kernel
theorem d_M_undo_8 : decode prog_14_method_75_code 8 = .ok (.ireturn, 1) := by decide +kernel
theorem d_M_undo_9 : decode prog_14_method_75_code 9 = .ok (.aload_n 0, 1) := by decide +kernel
theorem d_M_undo_10 : decode prog_14_method_75_code 10 = .ok (.dup, 1) := by decide +kernel
theorem d_M_undo_11 : decode prog_14_method_75_code 11 = .ok (.getfield 263, 3) := by decide +kernel
theorem d_M_undo_14 : decode prog_14_method_75_code 14 = .ok (.iconst 1, 1) := by decide +kernel
theorem d_M_undo_15 : decode prog_14_method_75_code 15 = .ok (.isub, 1) := by decide +kernel
theorem d_M_undo_16 : decode prog_14_method_75_code 16 = .ok (.putfield 263, 3) := by decide +kernel
theorem d_M_undo_19 : decode prog_14_method_75_code 19 = .ok (.iconst 0, 1) := by decide +kernel
theorem d_M_undo_20 : decode prog_14_method_75_code 20 = .ok (.istore_n 1, 1) := by decide +kernel
theorem d_M_undo_21 : decode prog_14_method_75_code 21 = .ok (.iload_n 1, 1) := by decide +kernel
theorem d_M_undo_22 : decode prog_14_method_75_code 22 = .ok (.bipush 32, 2) := by decide +kernel
theorem d_M_undo_24 : decode prog_14_method_75_code 24 = .ok (.if_icmp .ge 29, 3) := by decide +kernel
theorem d_M_undo_27 : decode prog_14_method_75_code 27 = .ok (.aload_n 0, 1) := by decide +kernel
theorem d_M_undo_28 : decode prog_14_method_75_code 28 = .ok (.getfield 113, 3) := by decide +kernel
theorem d_M_undo_31 : decode prog_14_method_75_code 31 = .ok (.iload_n 1, 1) := by decide +kernel
theorem d_M_undo_32 : decode prog_14_method_75_code 32 = .ok (.aload_n 0, 1) := by decide +kernel
theorem d_M_undo_33 : decode prog_14_method_75_code 33 = .ok (.getfield 131, 3) := by decide +kernel
theorem d_M_undo_36 : decode prog_14_method_75_code 36 = .ok (.bipush 32, 2) := by decide +kernel
theorem d_M_undo_38 : decode prog_14_method_75_code 38 = .ok (.aload_n 0, 1) := by decide +kernel
theorem d_M_undo_39 : decode prog_14_method_75_code 39 = .ok (.getfield 263, 3) := by decide +kernel
theorem d_M_undo_42 : decode prog_14_method_75_code 42 = .ok (.imul, 1) := by decide +kernel
theorem d_M_undo_43 : decode prog_14_method_75_code 43 = .ok (.iload_n 1, 1) := by decide +kernel
theorem d_M_undo_44 : decode prog_14_method_75_code 44 = .ok (.iadd, 1) := by decide +kernel
theorem d_M_undo_45 : decode prog_14_method_75_code 45 = .ok (.iaload, 1) := by decide +kernel
theorem d_M_undo_46 : decode prog_14_method_75_code 46 = .ok (.iastore, 1) := by decide +kernel
theorem d_M_undo_47 : decode prog_14_method_75_code 47 = .ok (.iinc 1 1, 3) := by decide +kernel
theorem d_M_undo_50 : decode prog_14_method_75_code 50 = .ok (.goto (-29), 3) := by decide +kernel
theorem d_M_undo_53 : decode prog_14_method_75_code 53 = .ok (.iconst 1, 1) := by decide +kernel
theorem d_M_undo_54 : decode prog_14_method_75_code 54 = .ok (.ireturn, 1) := by decide +kernel
theorem d_M_fillsTable_0 : decode prog_14_method_76_code 0 = .ok (.aload_n 0, 1) := by decide +kernel
theorem d_M_fillsTable_1 : decode prog_14_method_76_code 1 = .ok (.invokevirtual 332, 3) := by decide +kernel
theorem d_M_fillsTable_4 : decode prog_14_method_76_code 4 = .ok (.iconst 0, 1) := by decide +kernel
theorem d_M_fillsTable_5 : decode prog_14_method_76_code 5 = .ok (.istore_n 1, 1) := by decide +kernel
theorem d_M_fillsTable_6 : decode prog_14_method_76_code 6 = .ok (.iload_n 1, 1) := by decide +kernel
theorem d_M_fillsTable_7 : decode prog_14_method_76_code 7 = .ok (.aload_n 0, 1) := by decide +kernel
theorem d_M_fillsTable_8 : decode prog_14_method_76_code 8 = .ok (.getfield 55, 3) := by decide +kernel
theorem d_M_fillsTable_11 : decode prog_14_method_76_code 11 = .ok (.aload_n 0, 1) := by decide +kernel
theorem d_M_fillsTable_12 : decode prog_14_method_76_code 12 = .ok (.getfield 245, 3) := by decide +kernel
theorem d_M_fillsTable_15 : decode prog_14_method_76_code 15 = .ok (.iaload, 1) := by decide +kernel
theorem d_M_fillsTable_16 : decode prog_14_method_76_code 16 = .ok (.if_icmp .ge 47, 3) := by decide +kernel
theorem d_M_fillsTable_19 : decode prog_14_method_76_code 19 = .ok (.iconst 0, 1) := by decide +kernel
theorem d_M_fillsTable_20 : decode prog_14_method_76_code 20 = .ok (.istore_n 2, 1) := by decide +kernel
theorem d_M_fillsTable_21 : decode prog_14_method_76_code 21 = .ok (.iload_n 2, 1) := by decide +kernel
theorem d_M_fillsTable_22 : decode prog_14_method_76_code 22 = .ok (.aload_n 0, 1) := by decide +kernel
theorem d_M_fillsTable_23 : decode prog_14_method_76_code 23 = .ok (.getfield 46, 3) := by decide +kernel
theorem d_M_fillsTable_26 : decode prog_14_method_76_code 26 = .ok (.aload_n 0, 1) := by decide +kernel
theorem d_M_fillsTable_27 : decode prog_14_method_76_code 27 = .ok (.getfield 245, 3) := by decide +kernel
theorem d_M_fillsTable_30 : decode prog_14_method_76_code 30 = .ok (.iaload, 1) := by decide +kernel
theorem d_M_fillsTable_31 : decode prog_14_method_76_code 31 = .ok (.if_icmp .ge 26, 3) := by decide +kernel
theorem d_M_fillsTable_34 : decode prog_14_method_76_code 34 = .ok (.aload_n 0, 1) := by decide +kernel
theorem d_M_fillsTable_35 : decode prog_14_method_76_code 35 = .ok (.getfield 137, 3) := by decide +kernel
theorem d_M_fillsTable_38 : decode prog_14_method_76_code 38 = .ok (.bipush 7, 2) := by decide +kernel
theorem d_M_fillsTable_40 : decode prog_14_method_76_code 40 = .ok (.iload_n 1, 1) := by decide +kernel
theorem d_M_fillsTable_41 : decode prog_14_method_76_code 41 = .ok (.imul, 1) := by decide +kernel
theorem d_M_fillsTable_42 : decode prog_14_method_76_code 42 = .ok (.iload_n 2, 1) := by decide +kernel
theorem d_M_fillsTable_43 : decode prog_14_method_76_code 43 = .ok (.iadd, 1) := by decide +kernel
theorem d_M_fillsTable_44 : decode prog_14_method_76_code 44 = .ok (.aload_n 0, 1) := by decide +kernel
theorem d_M_fillsTable_45 : decode prog_14_method_76_code 45 = .ok (.iload_n 1, 1) := by decide +kernel
theorem d_M_fillsTable_46 : decode prog_14_method_76_code 46 = .ok (.iload_n 2, 1) := by decide +kernel
theorem d_M_fillsTable_47 : decode prog_14_method_76_code 47 = .ok (.invokevirtual 417, 3) := by decide +kernel
theorem d_M_fillsTable_50 : decode prog_14_method_76_code 50 = .ok (.iastore, 1) := by decide +kernel
theorem d_M_fillsTable_51 : decode prog_14_method_76_code 51 = .ok (.iinc 2 1, 3) := by decide +kernel
theorem d_M_fillsTable_54 : decode prog_14_method_76_code 54 = .ok (.goto (-33), 3) := by decide +kernel
theorem d_M_fillsTable_57 : decode prog_14_method_76_code 57 = .ok (.iinc 1 1, 3) := by decide +kernel
theorem d_M_fillsTable_60 : decode prog_14_method_76_code 60 = .ok (.goto (-54), 3) := by decide +kernel
theorem d_M_fillsTable_63 : decode prog_14_method_76_code 63 = .ok (.return_, 1) := by decide +kernel
def w_M_nextOn_53 (N : Nat) (x0 : Nat) (x2 : Int32) (x3 : Int32) (h : qH) (Q : Int32 → qH → Prop) (K28 : Nat → Int32 → Int32 → qH → Prop) : Prop := (qS h x0 = .inl 12 ∧ (qok h (qR h x0 26) 0 (qI h x0 18) ∧ (¬ (qI h (qR h x0 26) ((qI h x0 18)).toNatClampNeg) = 0 ∧ (∀ y4 : Int32, y4 = ((x3 + (1 : Int32)) - (x3 + (1 : Int32)) / (qI h (qR h x0 26) ((qI h x0 18)).toNatClampNeg) * (qI h (qR h x0 26) ((qI h x0 18)).toNatClampNeg)) → (K28 x0 x2 y4 h)))))
def w_M_nextOn_28 (N : Nat) : Nat → Nat → Int32 → Int32 → qH → (Int32 → qH → Prop) → Prop
  | 0 => fun _ _ _ _ _ => False
  | k + 1 => fun x0 x2 x3 h Q => (qS h x0 = .inl 12 ∧ w_M_isUp N x0 x3 h (fun r2 h3 => ((r2 = 0 → (w_M_nextOn_53 N x0 x2 x3 h3 Q (fun x0 x2 x3 h => w_M_nextOn_28 N k x0 x2 x3 h Q))) ∧ (¬ r2 = 0 → (qS h3 x0 = .inl 12 ∧ (qok h3 (qR h3 x0 50) 0 ((6 : Int32) + x3) ∧ (w_M_nailAt N x0 (qI h3 (qR h3 x0 50) (((6 : Int32) + x3)).toNatClampNeg) h3 (fun r7 h8 => ((r7 = x2 → Q x3 h8) ∧ (¬ r7 = x2 → (w_M_nextOn_53 N x0 x2 x3 h8 Q (fun x0 x2 x3 h => w_M_nextOn_28 N k x0 x2 x3 h Q))))))))))))
def w_M_nextOn (N : Nat) (x0 : Nat) (x1 : Int32) (h : qH) (Q : Int32 → qH → Prop) : Prop := (qS h x0 = .inl 12 ∧ (qok h (qR h x0 50) 0 ((6 : Int32) + x1) ∧ (w_M_nailAt N x0 (qI h (qR h x0 50) (((6 : Int32) + x1)).toNatClampNeg) h (fun r3 h4 => (qS h4 x0 = .inl 12 ∧ (qok h4 (qR h4 x0 26) 0 (qI h4 x0 18) ∧ (¬ (qI h4 (qR h4 x0 26) ((qI h4 x0 18)).toNatClampNeg) = 0 ∧ (∀ y8 : Int32, y8 = ((x1 + (1 : Int32)) - (x1 + (1 : Int32)) / (qI h4 (qR h4 x0 26) ((qI h4 x0 18)).toNatClampNeg) * (qI h4 (qR h4 x0 26) ((qI h4 x0 18)).toNatClampNeg)) → (w_M_nextOn_28 N N x0 r3 y8 h4 Q )))))))))
def w_M_wakes_100 (N : Nat) (x0 : Nat) (x1 : Int32) (h : qH) (Q : qH → Prop)  : Prop := (qS h x0 = .inl 12 ∧ (qok h (qR h x0 56) 0 x1 ∧ (qok h (qR h x0 50) 0 ((12 : Int32) + x1) ∧ ∀ h4 : qH, h4 = qsI h (qR h x0 50) (((12 : Int32) + x1)).toNatClampNeg (qI h (qR h x0 56) (x1).toNatClampNeg) → (qS h4 x0 = .inl 12 ∧ (qok h4 (qR h4 x0 55) 2 x1 ∧ (((qI h4 (qR h4 x0 55) (x1).toNatClampNeg) = 0 → Q h4) ∧ (¬ (qI h4 (qR h4 x0 55) (x1).toNatClampNeg) = 0 → (qok h4 (qR h4 x0 50) 0 ((6 : Int32) + x1) ∧ ∀ h9 : qH, h9 = qsI h4 (qR h4 x0 50) (((6 : Int32) + x1)).toNatClampNeg (-2 : Int32) → Q h9))))))))
def w_M_wakes (N : Nat) (x0 : Nat) (x1 : Int32) (h : qH) (Q : qH → Prop) : Prop := (qS h x0 = .inl 12 ∧ w_M_isUp N x0 x1 h (fun r2 h3 => ((r2 = 0 → (qS h3 x0 = .inl 12 ∧ (qok h3 (qR h3 x0 50) 0 ((18 : Int32) + x1) ∧ ∀ h7 : qH, h7 = qsI h3 (qR h3 x0 50) (((18 : Int32) + x1)).toNatClampNeg (0 : Int32) → (w_M_wakes_100 N x0 x1 h7 Q )))) ∧ (¬ r2 = 0 → (qS h3 x0 = .inl 12 ∧ (qok h3 (qR h3 x0 50) 0 ((18 : Int32) + x1) ∧ (qok h3 (qR h3 x0 53) 0 x1 ∧ (w_M_within N ((qI h3 (qR h3 x0 50) (((18 : Int32) + x1)).toNatClampNeg) + (qI h3 (qR h3 x0 53) (x1).toNatClampNeg)) (0 : Int32) (999 : Int32) h3 (fun r11 h12 => (qok h12 (qR h3 x0 50) 0 ((18 : Int32) + x1) ∧ ∀ h14 : qH, h14 = qsI h12 (qR h3 x0 50) (((18 : Int32) + x1)).toNatClampNeg r11 → (qS h14 x0 = .inl 12 ∧ (qok h14 (qR h14 x0 50) 0 ((6 : Int32) + x1) ∧ (qok h14 (qR h14 x0 50) 0 ((24 : Int32) + (qI h14 (qR h14 x0 50) (((6 : Int32) + x1)).toNatClampNeg)) ∧ (qok h14 (qR h14 x0 54) 0 x1 ∧ (w_M_within N ((qI h14 (qR h14 x0 50) (((24 : Int32) + (qI h14 (qR h14 x0 50) (((6 : Int32) + x1)).toNatClampNeg))).toNatClampNeg) + (qI h14 (qR h14 x0 54) (x1).toNatClampNeg)) (0 : Int32) (99 : Int32) h14 (fun r19 h20 => (qok h20 (qR h14 x0 50) 0 ((24 : Int32) + (qI h14 (qR h14 x0 50) (((6 : Int32) + x1)).toNatClampNeg)) ∧ ∀ h22 : qH, h22 = qsI h20 (qR h14 x0 50) (((24 : Int32) + (qI h14 (qR h14 x0 50) (((6 : Int32) + x1)).toNatClampNeg))).toNatClampNeg r19 → (w_M_wakes_100 N x0 x1 h22 Q ))))))))))))))))))
def w_M_nightGoes_109 (N : Nat) (x0 : Nat) (x1 : Int32) (x2 : Int32) (z0 : Int32) (z1 : Int32) (z2 : Nat) (h : qH) (Q : qH → Prop) (K2 : Nat → Int32 → qH → Prop) : Prop := (qok h z2 2 z1 ∧ ∀ h2 : qH, h2 = qsI h z2 (z1).toNatClampNeg (vp_nar .boolean z0) → (qS h2 x0 = .inl 12 ∧ ((x2 = 0 → (qok h2 (qR h2 x0 50) 0 ((12 : Int32) + x1) ∧ (qok h2 (qR h2 x0 56) 0 x1 ∧ ∀ h7 : qH, h7 = qsI h2 (qR h2 x0 56) (x1).toNatClampNeg (qI h2 (qR h2 x0 50) (((12 : Int32) + x1)).toNatClampNeg) → (K2 x0 (x1 + (1 : Int32)) h7)))) ∧ (¬ x2 = 0 → (w_M_nextOn N x0 x1 h2 (fun r8 h9 => (qok h9 (qR h2 x0 50) 0 ((12 : Int32) + r8) ∧ (qok h9 (qR h2 x0 56) 0 x1 ∧ ∀ h12 : qH, h12 = qsI h9 (qR h2 x0 56) (x1).toNatClampNeg (qI h9 (qR h2 x0 50) (((12 : Int32) + r8)).toNatClampNeg) → (K2 x0 (x1 + (1 : Int32)) h12)))))))))
def w_M_nightGoes_108 (N : Nat) (x0 : Nat) (x1 : Int32) (x2 : Int32) (z0 : Int32) (z1 : Nat) (h : qH) (Q : qH → Prop) (K2 : Nat → Int32 → qH → Prop) : Prop := (w_M_nightGoes_109 N x0 x1 x2 (0 : Int32) z0 z1 h Q K2)
def w_M_nightGoes_60 (N : Nat) (x0 : Nat) (x1 : Int32) (x2 : Int32) (z0 : Int32) (z1 : Int32) (z2 : Nat) (h : qH) (Q : qH → Prop) (K2 : Nat → Int32 → qH → Prop) : Prop := (qok h z2 0 z1 ∧ ∀ h2 : qH, h2 = qsI h z2 (z1).toNatClampNeg z0 → (qS h2 x0 = .inl 12 ∧ ((x2 = 0 → (w_M_nightGoes_108 N x0 x1 x2 x1 (qR h2 x0 55) h2 Q K2)) ∧ (¬ x2 = 0 → ((¬ (qI h2 x0 52) = 0 → (w_M_nightGoes_108 N x0 x1 x2 x1 (qR h2 x0 55) h2 Q K2)) ∧ ((qI h2 x0 52) = 0 → (qok h2 (qR h2 x0 50) 0 (31 : Int32) ∧ (w_M_lotOf N x0 (((16 : Int32) * (qI h2 (qR h2 x0 50) ((31 : Int32)).toNatClampNeg)) + x1) (100 : Int32) h2 (fun r7 h8 => (qS h8 x0 = .inl 12 ∧ w_M_toldOf N x0 x1 (2 : Int32) h8 (fun r10 h11 => ((r10 ≤ r7 → (w_M_nightGoes_108 N x0 x1 x2 x1 (qR h2 x0 55) h11 Q K2)) ∧ (¬ r10 ≤ r7 → (w_M_nightGoes_109 N x0 x1 x2 (1 : Int32) x1 (qR h2 x0 55) h11 Q K2))))))))))))))
def w_M_nightGoes_40 (N : Nat) (x0 : Nat) (x1 : Int32) (x2 : Int32) (z0 : Int32) (z1 : Int32) (z2 : Nat) (h : qH) (Q : qH → Prop) (K2 : Nat → Int32 → qH → Prop) : Prop := (qok h z2 0 z1 ∧ ∀ h2 : qH, h2 = qsI h z2 (z1).toNatClampNeg z0 → (qS h2 x0 = .inl 12 ∧ ((x2 = 0 → (w_M_nightGoes_60 N x0 x1 x2 (0 : Int32) x1 (qR h2 x0 54) h2 Q K2)) ∧ (¬ x2 = 0 → (w_M_toldOf N x0 x1 (1 : Int32) h2 (fun r5 h6 => (w_M_nightGoes_60 N x0 x1 x2 r5 x1 (qR h2 x0 54) h6 Q K2)))))))
def w_M_nightGoes_2 (N : Nat) : Nat → Nat → Int32 → qH → (qH → Prop) → (Nat → qH → Prop) → Prop
  | 0 => fun _ _ _ _ _ => False
  | k + 1 => fun x0 x1 h Q K143 => (qS h x0 = .inl 12 ∧ (qok h (qR h x0 26) 0 (qI h x0 18) ∧ (((qI h (qR h x0 26) ((qI h x0 18)).toNatClampNeg) ≤ x1 → (K143 x0 h)) ∧ (¬ (qI h (qR h x0 26) ((qI h x0 18)).toNatClampNeg) ≤ x1 → (w_M_isUp N x0 x1 h (fun r4 h5 => (qS h5 x0 = .inl 12 ∧ ((r4 = 0 → (w_M_nightGoes_40 N x0 x1 r4 (0 : Int32) x1 (qR h5 x0 53) h5 Q (fun x0 x1 h => w_M_nightGoes_2 N k x0 x1 h Q K143))) ∧ (¬ r4 = 0 → (w_M_toldOf N x0 x1 (0 : Int32) h5 (fun r8 h9 => (w_M_nightGoes_40 N x0 x1 r4 r8 x1 (qR h5 x0 53) h9 Q (fun x0 x1 h => w_M_nightGoes_2 N k x0 x1 h Q K143)))))))))))))
def w_M_nightGoes_145 (N : Nat) : Nat → Nat → Int32 → qH → (qH → Prop) → (Nat → qH → Prop) → Prop
  | 0 => fun _ _ _ _ _ => False
  | k + 1 => fun x0 x1 h Q K169 => (qS h x0 = .inl 12 ∧ (qok h (qR h x0 26) 0 (qI h x0 18) ∧ (((qI h (qR h x0 26) ((qI h x0 18)).toNatClampNeg) ≤ x1 → (K169 x0 h)) ∧ (¬ (qI h (qR h x0 26) ((qI h x0 18)).toNatClampNeg) ≤ x1 → (w_M_wakes N x0 x1 h (fun h4 => (w_M_nightGoes_145 N k x0 (x1 + (1 : Int32)) h4 Q K169)))))))
def w_M_nightGoes (N : Nat) (x0 : Nat) (h : qH) (Q : qH → Prop) : Prop := (w_M_nightGoes_2 N N x0 (0 : Int32) h Q (fun x1 h2 => (w_M_nightGoes_145 N N x1 (0 : Int32) h2 Q (fun x3 h4 => (qS h4 x3 = .inl 12 ∧ ((¬ (qI h4 x3 52) = 0 → (qok h4 (qR h4 x3 50) 0 (31 : Int32) ∧ (∀ h8 : qH, h8 = qsI h4 (qR h4 x3 50) ((31 : Int32)).toNatClampNeg ((qI h4 (qR h4 x3 50) ((31 : Int32)).toNatClampNeg) + (1 : Int32)) → Q h8))) ∧ ((qI h4 x3 52) = 0 → (qok h4 (qR h4 x3 26) 0 (qI h4 x3 18) ∧ (((qI h4 (qR h4 x3 26) ((qI h4 x3 18)).toNatClampNeg) ≤ 0 → (qok h4 (qR h4 x3 50) 0 (31 : Int32) ∧ (∀ h12 : qH, h12 = qsI h4 (qR h4 x3 50) ((31 : Int32)).toNatClampNeg ((qI h4 (qR h4 x3 50) ((31 : Int32)).toNatClampNeg) + (1 : Int32)) → Q h12))) ∧ (¬ (qI h4 (qR h4 x3 26) ((qI h4 x3 18)).toNatClampNeg) ≤ 0 → (w_M_isMoth N x3 h4 (fun r13 h14 => ((r13 = 0 → (qS h14 x3 = .inl 12 ∧ (qok h14 (qR h14 x3 50) 0 (31 : Int32) ∧ (∀ h18 : qH, h18 = qsI h14 (qR h14 x3 50) ((31 : Int32)).toNatClampNeg ((qI h14 (qR h14 x3 50) ((31 : Int32)).toNatClampNeg) + (1 : Int32)) → Q h18)))) ∧ (¬ r13 = 0 → (qS h14 x3 = .inl 12 ∧ (qok h14 (qR h14 x3 50) 0 (31 : Int32) ∧ (qok h14 (qR h14 x3 26) 0 (qI h14 x3 18) ∧ (w_M_lotOf N x3 (((16 : Int32) * (qI h14 (qR h14 x3 50) ((31 : Int32)).toNatClampNeg)) + (9 : Int32)) (qI h14 (qR h14 x3 26) ((qI h14 x3 18)).toNatClampNeg) h14 (fun r22 h23 => (qS h23 x3 = .inl 12 ∧ (qok h23 (qR h23 x3 50) 0 r22 ∧ (((qI h23 (qR h23 x3 50) (r22).toNatClampNeg) ≤ 0 → (qok h23 (qR h23 x3 50) 0 (31 : Int32) ∧ (∀ h28 : qH, h28 = qsI h23 (qR h23 x3 50) ((31 : Int32)).toNatClampNeg ((qI h23 (qR h23 x3 50) ((31 : Int32)).toNatClampNeg) + (1 : Int32)) → Q h28))) ∧ (¬ (qI h23 (qR h23 x3 50) (r22).toNatClampNeg) ≤ 0 → (∀ h29 : qH, h29 = qsI h23 (qR h23 x3 50) (r22).toNatClampNeg ((qI h23 (qR h23 x3 50) (r22).toNatClampNeg) - (1 : Int32)) → (qS h29 x3 = .inl 12 ∧ (qok h29 (qR h29 x3 50) 0 (31 : Int32) ∧ (∀ h32 : qH, h32 = qsI h29 (qR h29 x3 50) ((31 : Int32)).toNatClampNeg ((qI h29 (qR h29 x3 50) ((31 : Int32)).toNatClampNeg) + (1 : Int32)) → Q h32)))))))))))))))))))))))))))
def w_M_goes_2 (N : Nat) : Nat → Nat → Int32 → Int32 → qH → (qH → Prop) → Prop
  | 0 => fun _ _ _ _ _ => False
  | k + 1 => fun x0 x1 x2 h Q => ((x1 ≤ x2 → Q h) ∧ (¬ x1 ≤ x2 → (qS h x0 = .inl 12 ∧ w_M_nightGoes N x0 h (fun h3 => (w_M_goes_2 N k x0 x1 (x2 + (1 : Int32)) h3 Q)))))
def w_M_goes (N : Nat) (x0 : Nat) (x1 : Int32) (h : qH) (Q : qH → Prop) : Prop := (w_M_goes_2 N N x0 x1 (0 : Int32) h Q )
def w_M_hanger (N : Nat) (x0 : Nat) (x1 : Int32) (x2 : Int32) (h : qH) (Q : Int32 → qH → Prop) : Prop := (qS h x0 = .inl 12 ∧ w_M_isHanger N x0 x1 h (fun r2 h3 => ((¬ r2 = 0 → (qS h3 x0 = .inl 12 ∧ w_M_copies N x0 h3 (fun h6 => ((x2 = (0 : Int32) → (qS h6 x0 = .inl 12 ∧ w_M_nailAt N x0 x1 h6 (fun r9 h10 => Q r9 h10))) ∧ (¬ x2 = (0 : Int32) → ((x2 = (1 : Int32) → (qS h6 x0 = .inl 12 ∧ (qok h6 (qR h6 x0 25) 0 (((7 : Int32) * (qI h6 x0 18)) + x1) ∧ Q (qI h6 (qR h6 x0 25) ((((7 : Int32) * (qI h6 x0 18)) + x1)).toNatClampNeg) h6))) ∧ (¬ x2 = (1 : Int32) → ((x2 = (2 : Int32) → (qS h6 x0 = .inl 12 ∧ (qok h6 (qR h6 x0 50) 0 ((24 : Int32) + x1) ∧ Q (qI h6 (qR h6 x0 50) (((24 : Int32) + x1)).toNatClampNeg) h6))) ∧ (¬ x2 = (2 : Int32) → ((x2 = (3 : Int32) → (qS h6 x0 = .inl 12 ∧ w_M_whoIsOn N x0 x1 h6 (fun r19 h20 => Q r19 h20))) ∧ (¬ x2 = (3 : Int32) → Q (-1 : Int32) h6))))))))))) ∧ (r2 = 0 → Q (-1 : Int32) h3))))
def w_M_person (N : Nat) (x0 : Nat) (x1 : Int32) (x2 : Int32) (h : qH) (Q : Int32 → qH → Prop) : Prop := (qS h x0 = .inl 12 ∧ w_M_isPerson N x0 x1 h (fun r2 h3 => ((¬ r2 = 0 → (qS h3 x0 = .inl 12 ∧ w_M_copies N x0 h3 (fun h6 => ((x2 = (0 : Int32) → (qS h6 x0 = .inl 12 ∧ (qok h6 (qR h6 x0 50) 0 x1 ∧ Q (qI h6 (qR h6 x0 50) (x1).toNatClampNeg) h6))) ∧ (¬ x2 = (0 : Int32) → ((x2 = (1 : Int32) → (qS h6 x0 = .inl 12 ∧ (qok h6 (qR h6 x0 28) 0 (((6 : Int32) * (qI h6 x0 18)) + x1) ∧ Q (qI h6 (qR h6 x0 28) ((((6 : Int32) * (qI h6 x0 18)) + x1)).toNatClampNeg) h6))) ∧ (¬ x2 = (1 : Int32) → ((x2 = (2 : Int32) → (qS h6 x0 = .inl 12 ∧ (qok h6 (qR h6 x0 50) 0 ((6 : Int32) + x1) ∧ Q (qI h6 (qR h6 x0 50) (((6 : Int32) + x1)).toNatClampNeg) h6))) ∧ (¬ x2 = (2 : Int32) → ((x2 = (3 : Int32) → (qS h6 x0 = .inl 12 ∧ (qok h6 (qR h6 x0 50) 0 ((12 : Int32) + x1) ∧ Q (qI h6 (qR h6 x0 50) (((12 : Int32) + x1)).toNatClampNeg) h6))) ∧ (¬ x2 = (3 : Int32) → ((x2 = (4 : Int32) → (qS h6 x0 = .inl 12 ∧ (qok h6 (qR h6 x0 50) 0 ((18 : Int32) + x1) ∧ Q (qI h6 (qR h6 x0 50) (((18 : Int32) + x1)).toNatClampNeg) h6))) ∧ (¬ x2 = (4 : Int32) → ((x2 = (5 : Int32) → (qS h6 x0 = .inl 12 ∧ w_M_besideOf N x0 x1 h6 (fun r24 h25 => Q r24 h25))) ∧ (¬ x2 = (5 : Int32) → Q (-1 : Int32) h6))))))))))))))) ∧ (r2 = 0 → Q (-1 : Int32) h3))))
def w_M_tells (N : Nat) (x0 : Nat) (x1 : Int32) (x2 : Int32) (h : qH) (Q : Int32 → qH → Prop) : Prop := (qS h x0 = .inl 12 ∧ w_M_isPerson N x0 x1 h (fun r2 h3 => ((r2 = 0 → Q (-1 : Int32) h3) ∧ (¬ r2 = 0 → (w_M_in N x2 (0 : Int32) (3 : Int32) h3 (fun r5 h6 => ((¬ r5 = 0 → (qS h6 x0 = .inl 12 ∧ w_M_copies N x0 h6 (fun h9 => (qS h9 x0 = .inl 12 ∧ w_M_isUp N x0 x1 h9 (fun r11 h12 => ((r11 = 0 → Q (-2 : Int32) h12) ∧ (¬ r11 = 0 → (qS h12 x0 = .inl 12 ∧ w_M_toldOf N x0 x1 x2 h12 (fun r15 h16 => Q r15 h16))))))))) ∧ (r5 = 0 → Q (-1 : Int32) h6))))))))
def w_M_records_51 (N : Nat) : Nat → Nat → Int32 → qH → (qH → Prop) → (Nat → qH → Prop) → Prop
  | 0 => fun _ _ _ _ _ => False
  | k + 1 => fun x0 x1 h Q K83 => (((32 : Int32) ≤ x1 → (K83 x0 h)) ∧ (¬ (32 : Int32) ≤ x1 → (qS h x0 = .inl 12 ∧ (qok h (qR h x0 49) 0 x1 ∧ (qok h (qR h x0 58) 0 (((32 : Int32) * (qI h x0 57)) + x1) ∧ ∀ h5 : qH, h5 = qsI h (qR h x0 58) ((((32 : Int32) * (qI h x0 57)) + x1)).toNatClampNeg (qI h (qR h x0 49) (x1).toNatClampNeg) → (w_M_records_51 N k x0 (x1 + (1 : Int32)) h5 Q K83))))))
def w_M_records_49 (N : Nat) (x0 : Nat) (h : qH) (Q : qH → Prop)  : Prop := (w_M_records_51 N N x0 (0 : Int32) h Q (fun x1 h2 => (qS h2 x1 = .inl 12 ∧ (∀ h4 : qH, h4 = qsI h2 x1 57 ((qI h2 x1 57) + (1 : Int32)) → (qS h4 x1 = .inl 12 ∧ w_M_keepsRow N x1 h4 (fun h6 => Q h6))))))
def w_M_records_11 (N : Nat) : Nat → Nat → Int32 → qH → (qH → Prop) → (Nat → qH → Prop) → Prop
  | 0 => fun _ _ _ _ _ => False
  | k + 1 => fun x0 x1 h Q K39 => (((1248 : Int32) ≤ x1 → (K39 x0 h)) ∧ (¬ (1248 : Int32) ≤ x1 → (qS h x0 = .inl 12 ∧ (qok h (qR h x0 58) 0 (x1 + (32 : Int32)) ∧ (qok h (qR h x0 58) 0 x1 ∧ ∀ h5 : qH, h5 = qsI h (qR h x0 58) (x1).toNatClampNeg (qI h (qR h x0 58) ((x1 + (32 : Int32))).toNatClampNeg) → (w_M_records_11 N k x0 (x1 + (1 : Int32)) h5 Q K39))))))
def w_M_records (N : Nat) (x0 : Nat) (h : qH) (Q : qH → Prop) : Prop := (qS h x0 = .inl 12 ∧ ((¬ (qI h x0 57) = (40 : Int32) → (w_M_records_49 N x0 h Q )) ∧ ((qI h x0 57) = (40 : Int32) → (w_M_records_11 N N x0 (0 : Int32) h Q (fun x3 h4 => (qS h4 x3 = .inl 12 ∧ (∀ h6 : qH, h6 = qsI h4 x3 57 ((qI h4 x3 57) - (1 : Int32)) → (w_M_records_49 N x3 h6 Q ))))))))
def w_M_does (N : Nat) (x0 : Nat) (x1 : Int32) (x2 : Int32) (h : qH) (Q : qH → Prop) : Prop := (qS h x0 = .inl 12 ∧ w_M_copies N x0 h (fun h2 => (qS h2 x0 = .inl 12 ∧ (qok h2 (qR h2 x0 50) 0 x1 ∧ ∀ h5 : qH, h5 = qsI h2 (qR h2 x0 50) (x1).toNatClampNeg x2 → (qS h5 x0 = .inl 12 ∧ w_M_records N x0 h5 (fun h7 => Q h7))))))
def w_M_hang (N : Nat) (x0 : Nat) (x1 : Int32) (x2 : Int32) (h : qH) (Q : Int32 → qH → Prop) : Prop := (qS h x0 = .inl 12 ∧ w_M_isPerson N x0 x1 h (fun r2 h3 => ((r2 = 0 → (qzb (0 : Int32) ∧ Q (0 : Int32) h3)) ∧ (¬ r2 = 0 → (qS h3 x0 = .inl 12 ∧ w_M_isHanger N x0 x2 h3 (fun r6 h7 => ((r6 = 0 → (qzb (0 : Int32) ∧ Q (0 : Int32) h7)) ∧ (¬ r6 = 0 → (qS h7 x0 = .inl 12 ∧ (qok h7 (qR h7 x0 49) 0 ((6 : Int32) + x1) ∧ (((qI h7 (qR h7 x0 49) (((6 : Int32) + x1)).toNatClampNeg) < 0 → (w_M_copies N x0 h7 (fun h12 => (qS h12 x0 = .inl 12 ∧ w_M_whoIsOn N x0 x2 h12 (fun r14 h15 => ((r14 < 0 → (qS h15 x0 = .inl 12 ∧ w_M_does N x0 ((6 : Int32) + x1) x2 h15 (fun h18 => (qzb (1 : Int32) ∧ Q (1 : Int32) h18)))) ∧ (¬ r14 < 0 → (qzb (0 : Int32) ∧ Q (0 : Int32) h15)))))))) ∧ (¬ (qI h7 (qR h7 x0 49) (((6 : Int32) + x1)).toNatClampNeg) < 0 → (qzb (0 : Int32) ∧ Q (0 : Int32) h7)))))))))))))
def w_M_take (N : Nat) (x0 : Nat) (x1 : Int32) (h : qH) (Q : Int32 → qH → Prop) : Prop := (qS h x0 = .inl 12 ∧ w_M_isPerson N x0 x1 h (fun r2 h3 => ((r2 = 0 → (qzb (0 : Int32) ∧ Q (0 : Int32) h3)) ∧ (¬ r2 = 0 → (qS h3 x0 = .inl 12 ∧ (qok h3 (qR h3 x0 49) 0 ((6 : Int32) + x1) ∧ ((0 ≤ (qI h3 (qR h3 x0 49) (((6 : Int32) + x1)).toNatClampNeg) → (w_M_does N x0 ((6 : Int32) + x1) (-2 : Int32) h3 (fun h8 => (qzb (1 : Int32) ∧ Q (1 : Int32) h8)))) ∧ (¬ 0 ≤ (qI h3 (qR h3 x0 49) (((6 : Int32) + x1)).toNatClampNeg) → (qzb (0 : Int32) ∧ Q (0 : Int32) h3)))))))))
def w_M_areUp (N : Nat) (x0 : Nat) (x1 : Int32) (x2 : Int32) (h : qH) (Q : Int32 → qH → Prop) : Prop := (qS h x0 = .inl 12 ∧ w_M_isPerson N x0 x1 h (fun r2 h3 => ((r2 = 0 → (qzb (0 : Int32) ∧ Q (0 : Int32) h3)) ∧ (¬ r2 = 0 → (qS h3 x0 = .inl 12 ∧ w_M_isPerson N x0 x2 h3 (fun r6 h7 => ((r6 = 0 → (qzb (0 : Int32) ∧ Q (0 : Int32) h7)) ∧ (¬ r6 = 0 → ((x1 = x2 → (qzb (0 : Int32) ∧ Q (0 : Int32) h7)) ∧ (¬ x1 = x2 → (qS h7 x0 = .inl 12 ∧ (qok h7 (qR h7 x0 49) 0 ((6 : Int32) + x1) ∧ (((qI h7 (qR h7 x0 49) (((6 : Int32) + x1)).toNatClampNeg) < 0 → (qzb (0 : Int32) ∧ Q (0 : Int32) h7)) ∧ (¬ (qI h7 (qR h7 x0 49) (((6 : Int32) + x1)).toNatClampNeg) < 0 → (qok h7 (qR h7 x0 49) 0 ((6 : Int32) + x2) ∧ (((qI h7 (qR h7 x0 49) (((6 : Int32) + x2)).toNatClampNeg) < 0 → (qzb (0 : Int32) ∧ Q (0 : Int32) h7)) ∧ (¬ (qI h7 (qR h7 x0 49) (((6 : Int32) + x2)).toNatClampNeg) < 0 → (qzb (1 : Int32) ∧ Q (1 : Int32) h7))))))))))))))))))
def w_M_changesFor (N : Nat) (x0 : Nat) (x1 : Int32) (x2 : Int32) (h : qH) (Q : qH → Prop) : Prop := (qS h x0 = .inl 12 ∧ w_M_copiesStill N x0 h (fun h2 => (qS h2 x0 = .inl 12 ∧ (qok h2 (qR h2 x0 49) 0 ((6 : Int32) + x2) ∧ (qok h2 (qR h2 x0 50) 0 ((6 : Int32) + x1) ∧ ∀ h6 : qH, h6 = qsI h2 (qR h2 x0 50) (((6 : Int32) + x1)).toNatClampNeg (qI h2 (qR h2 x0 49) (((6 : Int32) + x2)).toNatClampNeg) → (qS h6 x0 = .inl 12 ∧ (qok h6 (qR h6 x0 49) 0 ((6 : Int32) + x1) ∧ (qok h6 (qR h6 x0 50) 0 ((6 : Int32) + x2) ∧ ∀ h10 : qH, h10 = qsI h6 (qR h6 x0 50) (((6 : Int32) + x2)).toNatClampNeg (qI h6 (qR h6 x0 49) (((6 : Int32) + x1)).toNatClampNeg) → Q h10))))))))
def w_M_change (N : Nat) (x0 : Nat) (x1 : Int32) (x2 : Int32) (h : qH) (Q : Int32 → qH → Prop) : Prop := (qS h x0 = .inl 12 ∧ w_M_areUp N x0 x1 x2 h (fun r2 h3 => ((¬ r2 = 0 → (qS h3 x0 = .inl 12 ∧ w_M_changesFor N x0 x1 x2 h3 (fun h6 => (qS h6 x0 = .inl 12 ∧ w_M_records N x0 h6 (fun h8 => (qzb (1 : Int32) ∧ Q (1 : Int32) h8)))))) ∧ (r2 = 0 → (qzb (0 : Int32) ∧ Q (0 : Int32) h3)))))
def w_M_straighten (N : Nat) (x0 : Nat) (x1 : Int32) (h : qH) (Q : Int32 → qH → Prop) : Prop := (qS h x0 = .inl 12 ∧ w_M_isHanger N x0 x1 h (fun r2 h3 => ((r2 = 0 → (qzb (0 : Int32) ∧ Q (0 : Int32) h3)) ∧ (¬ r2 = 0 → (qS h3 x0 = .inl 12 ∧ (qok h3 (qR h3 x0 49) 0 ((24 : Int32) + x1) ∧ ((¬ (qI h3 (qR h3 x0 49) (((24 : Int32) + x1)).toNatClampNeg) = 0 → (w_M_copies N x0 h3 (fun h8 => (qS h8 x0 = .inl 12 ∧ w_M_whoIsOn N x0 x1 h8 (fun r10 h11 => ((r10 < 0 → (qS h11 x0 = .inl 12 ∧ w_M_does N x0 ((24 : Int32) + x1) (0 : Int32) h11 (fun h14 => (qzb (1 : Int32) ∧ Q (1 : Int32) h14)))) ∧ (¬ r10 < 0 → (qzb (0 : Int32) ∧ Q (0 : Int32) h11)))))))) ∧ ((qI h3 (qR h3 x0 49) (((24 : Int32) + x1)).toNatClampNeg) = 0 → (qzb (0 : Int32) ∧ Q (0 : Int32) h3)))))))))
def w_M_isLong (N : Nat) (x0 : Int32) (h : qH) (Q : Int32 → qH → Prop) : Prop := (w_M_in N x0 (0 : Int32) (60 : Int32) h (fun r1 h2 => (qzb r1 ∧ Q r1 h2)))
def w_M_nights (N : Nat) (x0 : Nat) (x1 : Int32) (h : qH) (Q : Int32 → qH → Prop) : Prop := (w_M_isLong N x1 h (fun r1 h2 => ((¬ r1 = 0 → ((¬ x1 = 0 → (qS h2 x0 = .inl 12 ∧ w_M_copies N x0 h2 (fun h6 => (qS h6 x0 = .inl 12 ∧ w_M_goes N x0 x1 h6 (fun h8 => (qS h8 x0 = .inl 12 ∧ w_M_records N x0 h8 (fun h10 => (qS h10 x0 = .inl 12 ∧ (qok h10 (qR h10 x0 49) 0 (31 : Int32) ∧ Q (qI h10 (qR h10 x0 49) ((31 : Int32)).toNatClampNeg) h10))))))))) ∧ (x1 = 0 → (qS h2 x0 = .inl 12 ∧ (qok h2 (qR h2 x0 49) 0 (31 : Int32) ∧ Q (qI h2 (qR h2 x0 49) ((31 : Int32)).toNatClampNeg) h2))))) ∧ (r1 = 0 → Q (-1 : Int32) h2))))
def w_M_undo_21 (N : Nat) : Nat → Nat → Int32 → qH → (Int32 → qH → Prop) → Prop
  | 0 => fun _ _ _ _ => False
  | k + 1 => fun x0 x1 h Q => (((32 : Int32) ≤ x1 → (qzb (1 : Int32) ∧ Q (1 : Int32) h)) ∧ (¬ (32 : Int32) ≤ x1 → (qS h x0 = .inl 12 ∧ (qok h (qR h x0 58) 0 (((32 : Int32) * (qI h x0 57)) + x1) ∧ (qok h (qR h x0 49) 0 x1 ∧ ∀ h5 : qH, h5 = qsI h (qR h x0 49) (x1).toNatClampNeg (qI h (qR h x0 58) ((((32 : Int32) * (qI h x0 57)) + x1)).toNatClampNeg) → (w_M_undo_21 N k x0 (x1 + (1 : Int32)) h5 Q))))))
def w_M_undo (N : Nat) (x0 : Nat) (h : qH) (Q : Int32 → qH → Prop) : Prop := (qS h x0 = .inl 12 ∧ ((¬ (qI h x0 57) = 0 → (∀ h3 : qH, h3 = qsI h x0 57 ((qI h x0 57) - (1 : Int32)) → (w_M_undo_21 N N x0 (0 : Int32) h3 Q ))) ∧ ((qI h x0 57) = 0 → (qzb (0 : Int32) ∧ Q (0 : Int32) h))))
def w_M_fillsTable_21 (N : Nat) : Nat → Nat → Int32 → Int32 → qH → (qH → Prop) → (Nat → Int32 → qH → Prop) → Prop
  | 0 => fun _ _ _ _ _ _ => False
  | k + 1 => fun x0 x1 x2 h Q K57 => (qS h x0 = .inl 12 ∧ (qok h (qR h x0 23) 0 (qI h x0 18) ∧ (((qI h (qR h x0 23) ((qI h x0 18)).toNatClampNeg) ≤ x2 → (K57 x0 x1 h)) ∧ (¬ (qI h (qR h x0 23) ((qI h x0 18)).toNatClampNeg) ≤ x2 → (w_M_costsAt N x0 x1 x2 h (fun r4 h5 => (qok h5 (qR h x0 60) 0 (((7 : Int32) * x1) + x2) ∧ ∀ h7 : qH, h7 = qsI h5 (qR h x0 60) ((((7 : Int32) * x1) + x2)).toNatClampNeg r4 → (w_M_fillsTable_21 N k x0 x1 (x2 + (1 : Int32)) h7 Q K57))))))))
def w_M_fillsTable_6 (N : Nat) : Nat → Nat → Int32 → qH → (qH → Prop) → Prop
  | 0 => fun _ _ _ _ => False
  | k + 1 => fun x0 x1 h Q => (qS h x0 = .inl 12 ∧ (qok h (qR h x0 26) 0 (qI h x0 18) ∧ (((qI h (qR h x0 26) ((qI h x0 18)).toNatClampNeg) ≤ x1 → Q h) ∧ (¬ (qI h (qR h x0 26) ((qI h x0 18)).toNatClampNeg) ≤ x1 → (w_M_fillsTable_21 N N x0 x1 (0 : Int32) h Q (fun x4 x5 h6 => (w_M_fillsTable_6 N k x4 (x5 + (1 : Int32)) h6 Q)))))))
def w_M_fillsTable (N : Nat) (x0 : Nat) (h : qH) (Q : qH → Prop) : Prop := (qS h x0 = .inl 12 ∧ w_M_copies N x0 h (fun h2 => (w_M_fillsTable_6 N N x0 (0 : Int32) h2 Q )))
section QG
variable {p : Program} {l : Launch} {e : Env} {s : State} {m : MethodId} {args : Array Value} {below : List Frame} {meth : Method} {c : Code} {D : va_G} {cy : Nat → ClassId} {b : Nat} {adK adV : Nat → Nat}

set_option maxRecDepth 4000 in
theorem t_M_nextOn_53 (X : qX p s m args meth c D cy b adK adV prog_14_method_58_code "CoatHangersModel" 4 (some .int) "nextOn") (N : Nat) (x0 : Nat) (x2 : Int32) (x3 : Int32) (h : qH) (Q : Int32 → qH → Prop) (K28 : Nat → Int32 → Int32 → qH → Prop) (hw : w_M_nextOn_53 N x0 x2 x3 h Q K28) (hK28 : ∀ (x0 : Nat) (x2 : Int32) (x3 : Int32) (h : qH), K28 x0 x2 x3 h → qW p l e (qrm 1 0 0 21) s m args below meth c D cy b 4 0 0 (MQ below (qQc D cy b qrI Q) args s 0 0 (qA b)) 28 [(0, .inr (.inr (.inl x0))), (2, .inl x2), (3, .inl x3)] [] h) : qW p l e (qrm 1 0 0 21) s m args below meth c D cy b 4 0 0 (MQ below (qQc D cy b qrI Q) args s 0 0 (qA b)) 53 [(0, .inr (.inr (.inl x0))), (2, .inl x2), (3, .inl x3)] [] h := by
  unfold w_M_nextOn_53 at hw
  refine qx_iload_n (x := x3) X d_M_nextOn_53 rfl 2 rfl ?_
  refine qx_iconst (v := (1 : Int32)) X d_M_nextOn_54 (by decide) ?_
  refine qx_iadd X d_M_nextOn_55 ?_
  refine qx_aload_n (x := x0) X d_M_nextOn_56 rfl 0 rfl ?_
  obtain ⟨g1, hw⟩ := hw
  refine qx_getR X qcls12 g1 26 (by decide) rfl wf_M_55 d_M_nextOn_57 ?_
  refine qx_aload_n (x := x0) X d_M_nextOn_60 rfl 0 rfl ?_
  refine qx_getI X qcls12 g1 18 (by decide) rfl wf_M_245 d_M_nextOn_61 ?_
  obtain ⟨g2, hw⟩ := hw
  refine qx_ild X g2 d_M_nextOn_64 ?_
  obtain ⟨g3, hw⟩ := hw
  refine qx_irem X g3 d_M_nextOn_65 ?_
  refine qx_topi (fun y4 ey4 => ?_)
  have hw := hw y4 ey4
  refine qx_istore_n (L' := [(3, .inl y4), (0, .inr (.inr (.inl x0))), (2, .inl x2)]) X d_M_nextOn_66 rfl (by decide) rfl ?_
  refine qx_goto X 28 d_M_nextOn_67 (by decide) ?_
  refine qx_sub [1, 2, 0] rfl ?_
  exact hK28 x0 x2 y4 h hw
set_option maxRecDepth 4000 in
theorem t_M_nextOn_28 (X : qX p s m args meth c D cy b adK adV prog_14_method_58_code "CoatHangersModel" 4 (some .int) "nextOn") (N k : Nat) (x0 : Nat) (x2 : Int32) (x3 : Int32) (h : qH) (Q : Int32 → qH → Prop)  (hw : w_M_nextOn_28 N k x0 x2 x3 h Q ) : qW p l e (qrm 1 0 0 21) s m args below meth c D cy b 4 0 0 (MQ below (qQc D cy b qrI Q) args s 0 0 (qA b)) 28 [(0, .inr (.inr (.inl x0))), (2, .inl x2), (3, .inl x3)] [] h := by
  induction k generalizing x0 x2 x3 h with
  | zero => exact hw.elim
  | succ k ih =>
    refine qx_aload_n (x := x0) X d_M_nextOn_28 rfl 0 rfl ?_
    refine qx_iload_n (x := x3) X d_M_nextOn_29 rfl 2 rfl ?_
    obtain ⟨g1, hw⟩ := hw
    refine qx_callVI (st := []) (As := [.int x3]) X (t_M_isUp (adK := adK) (adV := adV) l D cy b N x0 x3 h _ hw) qm_M_isUp wm_M_342 wi_M_isUp wl_M_isUp qcls12 g1 rfl rfl rfl ⟨Nat.le_of_ble_eq_true rfl, Nat.le_of_ble_eq_true rfl⟩ ⟨Nat.le_refl 0, Nat.le_refl 0⟩ (Nat.le_of_ble_eq_true rfl) rfl d_M_nextOn_30 (fun r2 h3 hw => ?_)
    refine qx_if_eq X 53 d_M_nextOn_33 (by decide) (fun q4 => ?_) (fun q4 => ?_)
    · have hw := hw.1 q4
      exact t_M_nextOn_53 X N x0 x2 x3 h3 Q _ hw ih
    · have hw := hw.2 q4
      refine qx_aload_n (x := x0) X d_M_nextOn_36 rfl 0 rfl ?_
      refine qx_aload_n (x := x0) X d_M_nextOn_37 rfl 0 rfl ?_
      obtain ⟨g5, hw⟩ := hw
      refine qx_getR X qcls12 g5 50 (by decide) rfl wf_M_116 d_M_nextOn_38 ?_
      refine qx_bipush (v := (6 : Int32)) X d_M_nextOn_41 (by decide) ?_
      refine qx_iload_n (x := x3) X d_M_nextOn_43 rfl 2 rfl ?_
      refine qx_iadd X d_M_nextOn_44 ?_
      obtain ⟨g6, hw⟩ := hw
      refine qx_ild X g6 d_M_nextOn_45 ?_
      refine qx_callVI (st := []) (As := [.int (qI h3 (qR h3 x0 50) (((6 : Int32) + x3)).toNatClampNeg)]) X (t_M_nailAt (adK := adK) (adV := adV) l D cy b N x0 (qI h3 (qR h3 x0 50) (((6 : Int32) + x3)).toNatClampNeg) h3 _ hw) qm_M_nailAt wm_M_345 wi_M_nailAt wl_M_nailAt qcls12 g5 rfl rfl rfl ⟨Nat.le_of_ble_eq_true rfl, Nat.le_of_ble_eq_true rfl⟩ ⟨Nat.le_refl 0, Nat.le_refl 0⟩ (Nat.le_of_ble_eq_true rfl) rfl d_M_nextOn_46 (fun r7 h8 hw => ?_)
      refine qx_iload_n (x := x2) X d_M_nextOn_49 rfl 1 rfl ?_
      refine qx_icmp_eq X 70 d_M_nextOn_50 (by decide) (fun q9 => ?_) (fun q9 => ?_)
      · have hw := hw.1 q9
        refine qx_iload_n (x := x3) X d_M_nextOn_70 rfl 2 rfl ?_
        exact qx_iret X hw (Nat.le_refl 0) (Nat.le_refl 0) rfl d_M_nextOn_71
      · have hw := hw.2 q9
        exact t_M_nextOn_53 X N x0 x2 x3 h8 Q _ hw ih
set_option maxRecDepth 4000 in
theorem t_M_nextOn {adK adV : Nat → Nat} (l : Launch) (D : va_G) (cy : Nat → ClassId) (b : Nat) (N : Nat) (x0 : Nat) (x1 : Int32) (h : qH) (Q : Int32 → qH → Prop) (hw : w_M_nextOn N x0 x1 h Q) : Met l y_M_nextOn (Cond.code y_M_nextOn prog_14_method_58_code 4 (some .int) :: qT) (qrm 1 0 0 21) (qPc D cy b adK adV h [qr b x0, .int x1]) (qQc D cy b qrI Q) 0 0 (qA b) := by
  refine qmet (L0 := [(0, .inr (.inr (.inl x0))), (1, .inl x1)]) qm_M_nextOn (plainFor_of_name (by decide)) [.inr (.inr (.inl x0)), .inl x1] rfl (Nat.le_of_ble_eq_true rfl) rfl (fun p e s m args below meth c X => ?_)
  unfold w_M_nextOn at hw
  refine qx_aload_n (x := x0) X d_M_nextOn_0 rfl 0 rfl ?_
  refine qx_aload_n (x := x0) X d_M_nextOn_1 rfl 0 rfl ?_
  obtain ⟨g1, hw⟩ := hw
  refine qx_getR X qcls12 g1 50 (by decide) rfl wf_M_116 d_M_nextOn_2 ?_
  refine qx_bipush (v := (6 : Int32)) X d_M_nextOn_5 (by decide) ?_
  refine qx_iload_n (x := x1) X d_M_nextOn_7 rfl 1 rfl ?_
  refine qx_iadd X d_M_nextOn_8 ?_
  obtain ⟨g2, hw⟩ := hw
  refine qx_ild X g2 d_M_nextOn_9 ?_
  refine qx_callVI (st := []) (As := [.int (qI h (qR h x0 50) (((6 : Int32) + x1)).toNatClampNeg)]) X (t_M_nailAt (adK := adK) (adV := adV) l D cy b N x0 (qI h (qR h x0 50) (((6 : Int32) + x1)).toNatClampNeg) h _ hw) qm_M_nailAt wm_M_345 wi_M_nailAt wl_M_nailAt qcls12 g1 rfl rfl rfl ⟨Nat.le_of_ble_eq_true rfl, Nat.le_of_ble_eq_true rfl⟩ ⟨Nat.le_refl 0, Nat.le_refl 0⟩ (Nat.le_of_ble_eq_true rfl) rfl d_M_nextOn_10 (fun r3 h4 hw => ?_)
  refine qx_istore_n (L' := [(2, .inl r3), (0, .inr (.inr (.inl x0))), (1, .inl x1)]) X d_M_nextOn_13 rfl (by decide) rfl ?_
  refine qx_iload_n (x := x1) X d_M_nextOn_14 rfl 2 rfl ?_
  refine qx_iconst (v := (1 : Int32)) X d_M_nextOn_15 (by decide) ?_
  refine qx_iadd X d_M_nextOn_16 ?_
  refine qx_aload_n (x := x0) X d_M_nextOn_17 rfl 1 rfl ?_
  obtain ⟨g5, hw⟩ := hw
  refine qx_getR X qcls12 g5 26 (by decide) rfl wf_M_55 d_M_nextOn_18 ?_
  refine qx_aload_n (x := x0) X d_M_nextOn_21 rfl 1 rfl ?_
  refine qx_getI X qcls12 g5 18 (by decide) rfl wf_M_245 d_M_nextOn_22 ?_
  obtain ⟨g6, hw⟩ := hw
  refine qx_ild X g6 d_M_nextOn_25 ?_
  obtain ⟨g7, hw⟩ := hw
  refine qx_irem X g7 d_M_nextOn_26 ?_
  refine qx_topi (fun y8 ey8 => ?_)
  have hw := hw y8 ey8
  refine qx_istore_n (L' := [(3, .inl y8), (2, .inl r3), (0, .inr (.inr (.inl x0))), (1, .inl x1)]) X d_M_nextOn_27 rfl (by decide) rfl ?_
  refine qx_sub [2, 1, 0] rfl ?_
  exact t_M_nextOn_28 X N N x0 r3 y8 h4 Q  hw 
set_option maxRecDepth 4000 in
theorem t_M_wakes_100 (X : qX p s m args meth c D cy b adK adV prog_14_method_59_code "CoatHangersModel" 2 (none) "wakes") (N : Nat) (x0 : Nat) (x1 : Int32) (h : qH) (Q : qH → Prop)  (hw : w_M_wakes_100 N x0 x1 h Q ) : qW p l e (qrm 1 0 0 22) s m args below meth c D cy b 2 0 0 (MQ below (qQc D cy b qrV (fun (_ : Unit) h => Q h)) args s 0 0 (qA b)) 100 [(0, .inr (.inr (.inl x0))), (1, .inl x1)] [] h := by
  unfold w_M_wakes_100 at hw
  refine qx_aload_n (x := x0) X d_M_wakes_100 rfl 0 rfl ?_
  obtain ⟨g1, hw⟩ := hw
  refine qx_getR X qcls12 g1 50 (by decide) rfl wf_M_116 d_M_wakes_101 ?_
  refine qx_bipush (v := (12 : Int32)) X d_M_wakes_104 (by decide) ?_
  refine qx_iload_n (x := x1) X d_M_wakes_106 rfl 1 rfl ?_
  refine qx_iadd X d_M_wakes_107 ?_
  refine qx_aload_n (x := x0) X d_M_wakes_108 rfl 0 rfl ?_
  refine qx_getR X qcls12 g1 56 (by decide) rfl wf_M_128 d_M_wakes_109 ?_
  refine qx_iload_n (x := x1) X d_M_wakes_112 rfl 1 rfl ?_
  obtain ⟨g2, hw⟩ := hw
  refine qx_ild X g2 d_M_wakes_113 ?_
  obtain ⟨g3, hw⟩ := hw
  refine qx_ist X g3 d_M_wakes_114 ?_
  refine qx_toph (fun h4 eh4 => ?_)
  have hw := hw h4 eh4
  refine qx_aload_n (x := x0) X d_M_wakes_115 rfl 0 rfl ?_
  obtain ⟨g5, hw⟩ := hw
  refine qx_getR X qcls12 g5 55 (by decide) rfl wf_M_125 d_M_wakes_116 ?_
  refine qx_iload_n (x := x1) X d_M_wakes_119 rfl 1 rfl ?_
  obtain ⟨g6, hw⟩ := hw
  refine qx_zld X g6 d_M_wakes_120 ?_
  refine qx_if_eq X 135 d_M_wakes_121 (by decide) (fun q7 => ?_) (fun q7 => ?_)
  · have hw := hw.1 q7
    exact qx_vret X hw (Nat.le_refl 0) (Nat.le_refl 0) rfl d_M_wakes_135
  · have hw := hw.2 q7
    refine qx_aload_n (x := x0) X d_M_wakes_124 rfl 0 rfl ?_
    refine qx_getR X qcls12 g5 50 (by decide) rfl wf_M_116 d_M_wakes_125 ?_
    refine qx_bipush (v := (6 : Int32)) X d_M_wakes_128 (by decide) ?_
    refine qx_iload_n (x := x1) X d_M_wakes_130 rfl 1 rfl ?_
    refine qx_iadd X d_M_wakes_131 ?_
    refine qx_bipush (v := (-2 : Int32)) X d_M_wakes_132 (by decide) ?_
    obtain ⟨g8, hw⟩ := hw
    refine qx_ist X g8 d_M_wakes_134 ?_
    refine qx_toph (fun h9 eh9 => ?_)
    have hw := hw h9 eh9
    exact qx_vret X hw (Nat.le_refl 0) (Nat.le_refl 0) rfl d_M_wakes_135
set_option maxRecDepth 4000 in
theorem t_M_wakes {adK adV : Nat → Nat} (l : Launch) (D : va_G) (cy : Nat → ClassId) (b : Nat) (N : Nat) (x0 : Nat) (x1 : Int32) (h : qH) (Q : qH → Prop) (hw : w_M_wakes N x0 x1 h Q) : Met l y_M_wakes (Cond.code y_M_wakes prog_14_method_59_code 2 (none) :: qT) (qrm 1 0 0 22) (qPc D cy b adK adV h [qr b x0, .int x1]) (qQc D cy b qrV (fun (_ : Unit) h => Q h)) 0 0 (qA b) := by
  refine qmet (L0 := [(0, .inr (.inr (.inl x0))), (1, .inl x1)]) qm_M_wakes (plainFor_of_name (by decide)) [.inr (.inr (.inl x0)), .inl x1] rfl (Nat.le_of_ble_eq_true rfl) rfl (fun p e s m args below meth c X => ?_)
  unfold w_M_wakes at hw
  refine qx_aload_n (x := x0) X d_M_wakes_0 rfl 0 rfl ?_
  refine qx_iload_n (x := x1) X d_M_wakes_1 rfl 1 rfl ?_
  obtain ⟨g1, hw⟩ := hw
  refine qx_callVI (st := []) (As := [.int x1]) X (t_M_isUp (adK := adK) (adV := adV) l D cy b N x0 x1 h _ hw) qm_M_isUp wm_M_342 wi_M_isUp wl_M_isUp qcls12 g1 rfl rfl rfl ⟨Nat.le_of_ble_eq_true rfl, Nat.le_of_ble_eq_true rfl⟩ ⟨Nat.le_refl 0, Nat.le_refl 0⟩ (Nat.le_of_ble_eq_true rfl) rfl d_M_wakes_2 (fun r2 h3 hw => ?_)
  refine qx_if_eq X 90 d_M_wakes_5 (by decide) (fun q4 => ?_) (fun q4 => ?_)
  · have hw := hw.1 q4
    refine qx_aload_n (x := x0) X d_M_wakes_90 rfl 0 rfl ?_
    obtain ⟨g5, hw⟩ := hw
    refine qx_getR X qcls12 g5 50 (by decide) rfl wf_M_116 d_M_wakes_91 ?_
    refine qx_bipush (v := (18 : Int32)) X d_M_wakes_94 (by decide) ?_
    refine qx_iload_n (x := x1) X d_M_wakes_96 rfl 1 rfl ?_
    refine qx_iadd X d_M_wakes_97 ?_
    refine qx_iconst (v := (0 : Int32)) X d_M_wakes_98 (by decide) ?_
    obtain ⟨g6, hw⟩ := hw
    refine qx_ist X g6 d_M_wakes_99 ?_
    refine qx_toph (fun h7 eh7 => ?_)
    have hw := hw h7 eh7
    exact t_M_wakes_100 X N x0 x1 h7 Q  hw 
  · have hw := hw.2 q4
    refine qx_aload_n (x := x0) X d_M_wakes_8 rfl 0 rfl ?_
    obtain ⟨g8, hw⟩ := hw
    refine qx_getR X qcls12 g8 50 (by decide) rfl wf_M_116 d_M_wakes_9 ?_
    refine qx_bipush (v := (18 : Int32)) X d_M_wakes_12 (by decide) ?_
    refine qx_iload_n (x := x1) X d_M_wakes_14 rfl 1 rfl ?_
    refine qx_iadd X d_M_wakes_15 ?_
    refine qx_aload_n (x := x0) X d_M_wakes_16 rfl 0 rfl ?_
    refine qx_getR X qcls12 g8 50 (by decide) rfl wf_M_116 d_M_wakes_17 ?_
    refine qx_bipush (v := (18 : Int32)) X d_M_wakes_20 (by decide) ?_
    refine qx_iload_n (x := x1) X d_M_wakes_22 rfl 1 rfl ?_
    refine qx_iadd X d_M_wakes_23 ?_
    obtain ⟨g9, hw⟩ := hw
    refine qx_ild X g9 d_M_wakes_24 ?_
    refine qx_aload_n (x := x0) X d_M_wakes_25 rfl 0 rfl ?_
    refine qx_getR X qcls12 g8 53 (by decide) rfl wf_M_119 d_M_wakes_26 ?_
    refine qx_iload_n (x := x1) X d_M_wakes_29 rfl 1 rfl ?_
    obtain ⟨g10, hw⟩ := hw
    refine qx_ild X g10 d_M_wakes_30 ?_
    refine qx_iadd X d_M_wakes_31 ?_
    refine qx_iconst (v := (0 : Int32)) X d_M_wakes_32 (by decide) ?_
    refine qx_sipush (v := (999 : Int32)) X d_M_wakes_33 (by decide) ?_
    refine qx_callSI (st := [.int ((18 : Int32) + x1), qr b (qR h3 x0 50)]) (As := [.int ((qI h3 (qR h3 x0 50) (((18 : Int32) + x1)).toNatClampNeg) + (qI h3 (qR h3 x0 53) (x1).toNatClampNeg)), .int (0 : Int32), .int (999 : Int32)]) X (t_M_within (adK := adK) (adV := adV) l D cy b N ((qI h3 (qR h3 x0 50) (((18 : Int32) + x1)).toNatClampNeg) + (qI h3 (qR h3 x0 53) (x1).toNatClampNeg)) (0 : Int32) (999 : Int32) h3 _ hw) qm_M_within wm_M_367 wi_M_within rfl rfl rfl ⟨Nat.le_of_ble_eq_true rfl, Nat.le_of_ble_eq_true rfl⟩ ⟨Nat.le_refl 0, Nat.le_refl 0⟩ (Nat.le_of_ble_eq_true rfl) rfl d_M_wakes_36 (fun r11 h12 hw => ?_)
    obtain ⟨g13, hw⟩ := hw
    refine qx_ist X g13 d_M_wakes_39 ?_
    refine qx_toph (fun h14 eh14 => ?_)
    have hw := hw h14 eh14
    refine qx_aload_n (x := x0) X d_M_wakes_40 rfl 0 rfl ?_
    obtain ⟨g15, hw⟩ := hw
    refine qx_getR X qcls12 g15 50 (by decide) rfl wf_M_116 d_M_wakes_41 ?_
    refine qx_bipush (v := (24 : Int32)) X d_M_wakes_44 (by decide) ?_
    refine qx_aload_n (x := x0) X d_M_wakes_46 rfl 0 rfl ?_
    refine qx_getR X qcls12 g15 50 (by decide) rfl wf_M_116 d_M_wakes_47 ?_
    refine qx_bipush (v := (6 : Int32)) X d_M_wakes_50 (by decide) ?_
    refine qx_iload_n (x := x1) X d_M_wakes_52 rfl 1 rfl ?_
    refine qx_iadd X d_M_wakes_53 ?_
    obtain ⟨g16, hw⟩ := hw
    refine qx_ild X g16 d_M_wakes_54 ?_
    refine qx_iadd X d_M_wakes_55 ?_
    refine qx_aload_n (x := x0) X d_M_wakes_56 rfl 0 rfl ?_
    refine qx_getR X qcls12 g15 50 (by decide) rfl wf_M_116 d_M_wakes_57 ?_
    refine qx_bipush (v := (24 : Int32)) X d_M_wakes_60 (by decide) ?_
    refine qx_aload_n (x := x0) X d_M_wakes_62 rfl 0 rfl ?_
    refine qx_getR X qcls12 g15 50 (by decide) rfl wf_M_116 d_M_wakes_63 ?_
    refine qx_bipush (v := (6 : Int32)) X d_M_wakes_66 (by decide) ?_
    refine qx_iload_n (x := x1) X d_M_wakes_68 rfl 1 rfl ?_
    refine qx_iadd X d_M_wakes_69 ?_
    refine qx_ild X g16 d_M_wakes_70 ?_
    refine qx_iadd X d_M_wakes_71 ?_
    obtain ⟨g17, hw⟩ := hw
    refine qx_ild X g17 d_M_wakes_72 ?_
    refine qx_aload_n (x := x0) X d_M_wakes_73 rfl 0 rfl ?_
    refine qx_getR X qcls12 g15 54 (by decide) rfl wf_M_122 d_M_wakes_74 ?_
    refine qx_iload_n (x := x1) X d_M_wakes_77 rfl 1 rfl ?_
    obtain ⟨g18, hw⟩ := hw
    refine qx_ild X g18 d_M_wakes_78 ?_
    refine qx_iadd X d_M_wakes_79 ?_
    refine qx_iconst (v := (0 : Int32)) X d_M_wakes_80 (by decide) ?_
    refine qx_bipush (v := (99 : Int32)) X d_M_wakes_81 (by decide) ?_
    refine qx_callSI (st := [.int ((24 : Int32) + (qI h14 (qR h14 x0 50) (((6 : Int32) + x1)).toNatClampNeg)), qr b (qR h14 x0 50)]) (As := [.int ((qI h14 (qR h14 x0 50) (((24 : Int32) + (qI h14 (qR h14 x0 50) (((6 : Int32) + x1)).toNatClampNeg))).toNatClampNeg) + (qI h14 (qR h14 x0 54) (x1).toNatClampNeg)), .int (0 : Int32), .int (99 : Int32)]) X (t_M_within (adK := adK) (adV := adV) l D cy b N ((qI h14 (qR h14 x0 50) (((24 : Int32) + (qI h14 (qR h14 x0 50) (((6 : Int32) + x1)).toNatClampNeg))).toNatClampNeg) + (qI h14 (qR h14 x0 54) (x1).toNatClampNeg)) (0 : Int32) (99 : Int32) h14 _ hw) qm_M_within wm_M_367 wi_M_within rfl rfl rfl ⟨Nat.le_of_ble_eq_true rfl, Nat.le_of_ble_eq_true rfl⟩ ⟨Nat.le_refl 0, Nat.le_refl 0⟩ (Nat.le_of_ble_eq_true rfl) rfl d_M_wakes_83 (fun r19 h20 hw => ?_)
    obtain ⟨g21, hw⟩ := hw
    refine qx_ist X g21 d_M_wakes_86 ?_
    refine qx_toph (fun h22 eh22 => ?_)
    have hw := hw h22 eh22
    refine qx_goto X 100 d_M_wakes_87 (by decide) ?_
    exact t_M_wakes_100 X N x0 x1 h22 Q  hw 
set_option maxRecDepth 4000 in
theorem t_M_nightGoes_109 (X : qX p s m args meth c D cy b adK adV prog_14_method_60_code "CoatHangersModel" 3 (none) "nightGoes") (N : Nat) (x0 : Nat) (x1 : Int32) (x2 : Int32) (z0 : Int32) (z1 : Int32) (z2 : Nat) (h : qH) (Q : qH → Prop) (K2 : Nat → Int32 → qH → Prop) (hw : w_M_nightGoes_109 N x0 x1 x2 z0 z1 z2 h Q K2) (hK2 : ∀ (x0 : Nat) (x1 : Int32) (h : qH), K2 x0 x1 h → qW p l e (qrm 4 0 0 87) s m args below meth c D cy b 3 0 0 (MQ below (qQc D cy b qrV (fun (_ : Unit) h => Q h)) args s 0 0 (qA b)) 2 [(0, .inr (.inr (.inl x0))), (1, .inl x1)] [] h) : qW p l e (qrm 4 0 0 87) s m args below meth c D cy b 3 0 0 (MQ below (qQc D cy b qrV (fun (_ : Unit) h => Q h)) args s 0 0 (qA b)) 109 [(0, .inr (.inr (.inl x0))), (1, .inl x1), (2, .inl x2)] [.int z0, .int z1, qr b z2] h := by
  unfold w_M_nightGoes_109 at hw
  obtain ⟨g1, hw⟩ := hw
  refine qx_zst X g1 d_M_nightGoes_109 ?_
  refine qx_toph (fun h2 eh2 => ?_)
  have hw := hw h2 eh2
  refine qx_aload_n (x := x0) X d_M_nightGoes_110 rfl 0 rfl ?_
  obtain ⟨g3, hw⟩ := hw
  refine qx_getR X qcls12 g3 56 (by decide) rfl wf_M_128 d_M_nightGoes_111 ?_
  refine qx_iload_n (x := x1) X d_M_nightGoes_114 rfl 1 rfl ?_
  refine qx_aload_n (x := x0) X d_M_nightGoes_115 rfl 0 rfl ?_
  refine qx_getR X qcls12 g3 50 (by decide) rfl wf_M_116 d_M_nightGoes_116 ?_
  refine qx_bipush (v := (12 : Int32)) X d_M_nightGoes_119 (by decide) ?_
  refine qx_iload_n (x := x2) X d_M_nightGoes_121 rfl 2 rfl ?_
  refine qx_if_eq X 133 d_M_nightGoes_122 (by decide) (fun q4 => ?_) (fun q4 => ?_)
  · have hw := hw.1 q4
    refine qx_iload_n (x := x1) X d_M_nightGoes_133 rfl 1 rfl ?_
    refine qx_iadd X d_M_nightGoes_134 ?_
    obtain ⟨g5, hw⟩ := hw
    refine qx_ild X g5 d_M_nightGoes_135 ?_
    obtain ⟨g6, hw⟩ := hw
    refine qx_ist X g6 d_M_nightGoes_136 ?_
    refine qx_toph (fun h7 eh7 => ?_)
    have hw := hw h7 eh7
    refine qx_iinc (v := (x1 + (1 : Int32))) (L' := [(1, .inl (x1 + (1 : Int32))), (0, .inr (.inr (.inl x0))), (2, .inl x2)]) X d_M_nightGoes_137 1 rfl rfl (by decide) rfl ?_
    refine qx_goto X 2 d_M_nightGoes_140 (by decide) ?_
    refine qx_sub [1, 0] rfl ?_
    exact hK2 x0 (x1 + (1 : Int32)) h7 hw
  · have hw := hw.2 q4
    refine qx_aload_n (x := x0) X d_M_nightGoes_125 rfl 0 rfl ?_
    refine qx_iload_n (x := x1) X d_M_nightGoes_126 rfl 1 rfl ?_
    refine qx_callVI (st := [.int (12 : Int32), qr b (qR h2 x0 50), .int x1, qr b (qR h2 x0 56)]) (As := [.int x1]) X (t_M_nextOn (adK := adK) (adV := adV) l D cy b N x0 x1 h2 _ hw) qm_M_nextOn wm_M_373 wi_M_nextOn wl_M_nextOn qcls12 g3 rfl rfl rfl ⟨Nat.le_of_ble_eq_true rfl, Nat.le_of_ble_eq_true rfl⟩ ⟨Nat.le_refl 0, Nat.le_refl 0⟩ (Nat.le_of_ble_eq_true rfl) rfl d_M_nightGoes_127 (fun r8 h9 hw => ?_)
    refine qx_goto X 134 d_M_nightGoes_130 (by decide) ?_
    refine qx_iadd X d_M_nightGoes_134 ?_
    obtain ⟨g10, hw⟩ := hw
    refine qx_ild X g10 d_M_nightGoes_135 ?_
    obtain ⟨g11, hw⟩ := hw
    refine qx_ist X g11 d_M_nightGoes_136 ?_
    refine qx_toph (fun h12 eh12 => ?_)
    have hw := hw h12 eh12
    refine qx_iinc (v := (x1 + (1 : Int32))) (L' := [(1, .inl (x1 + (1 : Int32))), (0, .inr (.inr (.inl x0))), (2, .inl x2)]) X d_M_nightGoes_137 1 rfl rfl (by decide) rfl ?_
    refine qx_goto X 2 d_M_nightGoes_140 (by decide) ?_
    refine qx_sub [1, 0] rfl ?_
    exact hK2 x0 (x1 + (1 : Int32)) h12 hw
set_option maxRecDepth 4000 in
theorem t_M_nightGoes_108 (X : qX p s m args meth c D cy b adK adV prog_14_method_60_code "CoatHangersModel" 3 (none) "nightGoes") (N : Nat) (x0 : Nat) (x1 : Int32) (x2 : Int32) (z0 : Int32) (z1 : Nat) (h : qH) (Q : qH → Prop) (K2 : Nat → Int32 → qH → Prop) (hw : w_M_nightGoes_108 N x0 x1 x2 z0 z1 h Q K2) (hK2 : ∀ (x0 : Nat) (x1 : Int32) (h : qH), K2 x0 x1 h → qW p l e (qrm 4 0 0 87) s m args below meth c D cy b 3 0 0 (MQ below (qQc D cy b qrV (fun (_ : Unit) h => Q h)) args s 0 0 (qA b)) 2 [(0, .inr (.inr (.inl x0))), (1, .inl x1)] [] h) : qW p l e (qrm 4 0 0 87) s m args below meth c D cy b 3 0 0 (MQ below (qQc D cy b qrV (fun (_ : Unit) h => Q h)) args s 0 0 (qA b)) 108 [(0, .inr (.inr (.inl x0))), (1, .inl x1), (2, .inl x2)] [.int z0, qr b z1] h := by
  unfold w_M_nightGoes_108 at hw
  refine qx_iconst (v := (0 : Int32)) X d_M_nightGoes_108 (by decide) ?_
  exact t_M_nightGoes_109 X N x0 x1 x2 (0 : Int32) z0 z1 h Q _ hw hK2
set_option maxRecDepth 4000 in
theorem t_M_nightGoes_60 (X : qX p s m args meth c D cy b adK adV prog_14_method_60_code "CoatHangersModel" 3 (none) "nightGoes") (N : Nat) (x0 : Nat) (x1 : Int32) (x2 : Int32) (z0 : Int32) (z1 : Int32) (z2 : Nat) (h : qH) (Q : qH → Prop) (K2 : Nat → Int32 → qH → Prop) (hw : w_M_nightGoes_60 N x0 x1 x2 z0 z1 z2 h Q K2) (hK2 : ∀ (x0 : Nat) (x1 : Int32) (h : qH), K2 x0 x1 h → qW p l e (qrm 4 0 0 87) s m args below meth c D cy b 3 0 0 (MQ below (qQc D cy b qrV (fun (_ : Unit) h => Q h)) args s 0 0 (qA b)) 2 [(0, .inr (.inr (.inl x0))), (1, .inl x1)] [] h) : qW p l e (qrm 4 0 0 87) s m args below meth c D cy b 3 0 0 (MQ below (qQc D cy b qrV (fun (_ : Unit) h => Q h)) args s 0 0 (qA b)) 60 [(0, .inr (.inr (.inl x0))), (1, .inl x1), (2, .inl x2)] [.int z0, .int z1, qr b z2] h := by
  unfold w_M_nightGoes_60 at hw
  obtain ⟨g1, hw⟩ := hw
  refine qx_ist X g1 d_M_nightGoes_60 ?_
  refine qx_toph (fun h2 eh2 => ?_)
  have hw := hw h2 eh2
  refine qx_aload_n (x := x0) X d_M_nightGoes_61 rfl 0 rfl ?_
  obtain ⟨g3, hw⟩ := hw
  refine qx_getR X qcls12 g3 55 (by decide) rfl wf_M_125 d_M_nightGoes_62 ?_
  refine qx_iload_n (x := x1) X d_M_nightGoes_65 rfl 1 rfl ?_
  refine qx_iload_n (x := x2) X d_M_nightGoes_66 rfl 2 rfl ?_
  refine qx_if_eq X 108 d_M_nightGoes_67 (by decide) (fun q4 => ?_) (fun q4 => ?_)
  · have hw := hw.1 q4
    exact t_M_nightGoes_108 X N x0 x1 x2 x1 (qR h2 x0 55) h2 Q _ hw hK2
  · have hw := hw.2 q4
    refine qx_aload_n (x := x0) X d_M_nightGoes_70 rfl 0 rfl ?_
    refine qx_getI X qcls12 g3 52 (by decide) rfl wf_M_329 d_M_nightGoes_71 ?_
    refine qx_if_ne X 108 d_M_nightGoes_74 (by decide) (fun q5 => ?_) (fun q5 => ?_)
    · have hw := hw.1 q5
      exact t_M_nightGoes_108 X N x0 x1 x2 x1 (qR h2 x0 55) h2 Q _ hw hK2
    · have hw := hw.2 q5
      refine qx_aload_n (x := x0) X d_M_nightGoes_77 rfl 0 rfl ?_
      refine qx_bipush (v := (16 : Int32)) X d_M_nightGoes_78 (by decide) ?_
      refine qx_aload_n (x := x0) X d_M_nightGoes_80 rfl 0 rfl ?_
      refine qx_getR X qcls12 g3 50 (by decide) rfl wf_M_116 d_M_nightGoes_81 ?_
      refine qx_bipush (v := (31 : Int32)) X d_M_nightGoes_84 (by decide) ?_
      obtain ⟨g6, hw⟩ := hw
      refine qx_ild X g6 d_M_nightGoes_86 ?_
      refine qx_imul X d_M_nightGoes_87 ?_
      refine qx_iload_n (x := x1) X d_M_nightGoes_88 rfl 1 rfl ?_
      refine qx_iadd X d_M_nightGoes_89 ?_
      refine qx_bipush (v := (100 : Int32)) X d_M_nightGoes_90 (by decide) ?_
      refine qx_callVI (st := [.int x1, qr b (qR h2 x0 55)]) (As := [.int (((16 : Int32) * (qI h2 (qR h2 x0 50) ((31 : Int32)).toNatClampNeg)) + x1), .int (100 : Int32)]) X (t_M_lotOf (adK := adK) (adV := adV) l D cy b N x0 (((16 : Int32) * (qI h2 (qR h2 x0 50) ((31 : Int32)).toNatClampNeg)) + x1) (100 : Int32) h2 _ hw) qm_M_lotOf wm_M_339 wi_M_lotOf wl_M_lotOf qcls12 g3 rfl rfl rfl ⟨Nat.le_of_ble_eq_true rfl, Nat.le_of_ble_eq_true rfl⟩ ⟨Nat.le_refl 0, Nat.le_refl 0⟩ (Nat.le_of_ble_eq_true rfl) rfl d_M_nightGoes_92 (fun r7 h8 hw => ?_)
      refine qx_aload_n (x := x0) X d_M_nightGoes_95 rfl 0 rfl ?_
      refine qx_iload_n (x := x1) X d_M_nightGoes_96 rfl 1 rfl ?_
      refine qx_iconst (v := (2 : Int32)) X d_M_nightGoes_97 (by decide) ?_
      obtain ⟨g9, hw⟩ := hw
      refine qx_callVI (st := [.int r7, .int x1, qr b (qR h2 x0 55)]) (As := [.int x1, .int (2 : Int32)]) X (t_M_toldOf (adK := adK) (adV := adV) l D cy b N x0 x1 (2 : Int32) h8 _ hw) qm_M_toldOf wm_M_370 wi_M_toldOf wl_M_toldOf qcls12 g9 rfl rfl rfl ⟨Nat.le_of_ble_eq_true rfl, Nat.le_of_ble_eq_true rfl⟩ ⟨Nat.le_refl 0, Nat.le_refl 0⟩ (Nat.le_of_ble_eq_true rfl) rfl d_M_nightGoes_98 (fun r10 h11 hw => ?_)
      refine qx_icmp_ge X 108 d_M_nightGoes_101 (by decide) (fun q12 => ?_) (fun q12 => ?_)
      · have hw := hw.1 q12
        exact t_M_nightGoes_108 X N x0 x1 x2 x1 (qR h2 x0 55) h11 Q _ hw hK2
      · have hw := hw.2 q12
        refine qx_iconst (v := (1 : Int32)) X d_M_nightGoes_104 (by decide) ?_
        refine qx_goto X 109 d_M_nightGoes_105 (by decide) ?_
        exact t_M_nightGoes_109 X N x0 x1 x2 (1 : Int32) x1 (qR h2 x0 55) h11 Q _ hw hK2
set_option maxRecDepth 4000 in
theorem t_M_nightGoes_40 (X : qX p s m args meth c D cy b adK adV prog_14_method_60_code "CoatHangersModel" 3 (none) "nightGoes") (N : Nat) (x0 : Nat) (x1 : Int32) (x2 : Int32) (z0 : Int32) (z1 : Int32) (z2 : Nat) (h : qH) (Q : qH → Prop) (K2 : Nat → Int32 → qH → Prop) (hw : w_M_nightGoes_40 N x0 x1 x2 z0 z1 z2 h Q K2) (hK2 : ∀ (x0 : Nat) (x1 : Int32) (h : qH), K2 x0 x1 h → qW p l e (qrm 4 0 0 87) s m args below meth c D cy b 3 0 0 (MQ below (qQc D cy b qrV (fun (_ : Unit) h => Q h)) args s 0 0 (qA b)) 2 [(0, .inr (.inr (.inl x0))), (1, .inl x1)] [] h) : qW p l e (qrm 4 0 0 87) s m args below meth c D cy b 3 0 0 (MQ below (qQc D cy b qrV (fun (_ : Unit) h => Q h)) args s 0 0 (qA b)) 40 [(0, .inr (.inr (.inl x0))), (1, .inl x1), (2, .inl x2)] [.int z0, .int z1, qr b z2] h := by
  unfold w_M_nightGoes_40 at hw
  obtain ⟨g1, hw⟩ := hw
  refine qx_ist X g1 d_M_nightGoes_40 ?_
  refine qx_toph (fun h2 eh2 => ?_)
  have hw := hw h2 eh2
  refine qx_aload_n (x := x0) X d_M_nightGoes_41 rfl 0 rfl ?_
  obtain ⟨g3, hw⟩ := hw
  refine qx_getR X qcls12 g3 54 (by decide) rfl wf_M_122 d_M_nightGoes_42 ?_
  refine qx_iload_n (x := x1) X d_M_nightGoes_45 rfl 1 rfl ?_
  refine qx_iload_n (x := x2) X d_M_nightGoes_46 rfl 2 rfl ?_
  refine qx_if_eq X 59 d_M_nightGoes_47 (by decide) (fun q4 => ?_) (fun q4 => ?_)
  · have hw := hw.1 q4
    refine qx_iconst (v := (0 : Int32)) X d_M_nightGoes_59 (by decide) ?_
    exact t_M_nightGoes_60 X N x0 x1 x2 (0 : Int32) x1 (qR h2 x0 54) h2 Q _ hw hK2
  · have hw := hw.2 q4
    refine qx_aload_n (x := x0) X d_M_nightGoes_50 rfl 0 rfl ?_
    refine qx_iload_n (x := x1) X d_M_nightGoes_51 rfl 1 rfl ?_
    refine qx_iconst (v := (1 : Int32)) X d_M_nightGoes_52 (by decide) ?_
    refine qx_callVI (st := [.int x1, qr b (qR h2 x0 54)]) (As := [.int x1, .int (1 : Int32)]) X (t_M_toldOf (adK := adK) (adV := adV) l D cy b N x0 x1 (1 : Int32) h2 _ hw) qm_M_toldOf wm_M_370 wi_M_toldOf wl_M_toldOf qcls12 g3 rfl rfl rfl ⟨Nat.le_of_ble_eq_true rfl, Nat.le_of_ble_eq_true rfl⟩ ⟨Nat.le_refl 0, Nat.le_refl 0⟩ (Nat.le_of_ble_eq_true rfl) rfl d_M_nightGoes_53 (fun r5 h6 hw => ?_)
    refine qx_goto X 60 d_M_nightGoes_56 (by decide) ?_
    exact t_M_nightGoes_60 X N x0 x1 x2 r5 x1 (qR h2 x0 54) h6 Q _ hw hK2
set_option maxRecDepth 4000 in
theorem t_M_nightGoes_2 (X : qX p s m args meth c D cy b adK adV prog_14_method_60_code "CoatHangersModel" 3 (none) "nightGoes") (N k : Nat) (x0 : Nat) (x1 : Int32) (h : qH) (Q : qH → Prop) (K143 : Nat → qH → Prop) (hw : w_M_nightGoes_2 N k x0 x1 h Q K143) (hK143 : ∀ (x0 : Nat) (h : qH), K143 x0 h → qW p l e (qrm 4 0 0 87) s m args below meth c D cy b 3 0 0 (MQ below (qQc D cy b qrV (fun (_ : Unit) h => Q h)) args s 0 0 (qA b)) 143 [(0, .inr (.inr (.inl x0)))] [] h) : qW p l e (qrm 4 0 0 87) s m args below meth c D cy b 3 0 0 (MQ below (qQc D cy b qrV (fun (_ : Unit) h => Q h)) args s 0 0 (qA b)) 2 [(0, .inr (.inr (.inl x0))), (1, .inl x1)] [] h := by
  induction k generalizing x0 x1 h with
  | zero => exact hw.elim
  | succ k ih =>
    refine qx_iload_n (x := x1) X d_M_nightGoes_2 rfl 1 rfl ?_
    refine qx_aload_n (x := x0) X d_M_nightGoes_3 rfl 0 rfl ?_
    obtain ⟨g1, hw⟩ := hw
    refine qx_getR X qcls12 g1 26 (by decide) rfl wf_M_55 d_M_nightGoes_4 ?_
    refine qx_aload_n (x := x0) X d_M_nightGoes_7 rfl 0 rfl ?_
    refine qx_getI X qcls12 g1 18 (by decide) rfl wf_M_245 d_M_nightGoes_8 ?_
    obtain ⟨g2, hw⟩ := hw
    refine qx_ild X g2 d_M_nightGoes_11 ?_
    refine qx_icmp_ge X 143 d_M_nightGoes_12 (by decide) (fun q3 => ?_) (fun q3 => ?_)
    · have hw := hw.1 q3
      refine qx_sub [0] rfl ?_
      exact hK143 x0 h hw
    · have hw := hw.2 q3
      refine qx_aload_n (x := x0) X d_M_nightGoes_15 rfl 0 rfl ?_
      refine qx_iload_n (x := x1) X d_M_nightGoes_16 rfl 1 rfl ?_
      refine qx_callVI (st := []) (As := [.int x1]) X (t_M_isUp (adK := adK) (adV := adV) l D cy b N x0 x1 h _ hw) qm_M_isUp wm_M_342 wi_M_isUp wl_M_isUp qcls12 g1 rfl rfl rfl ⟨Nat.le_of_ble_eq_true rfl, Nat.le_of_ble_eq_true rfl⟩ ⟨Nat.le_refl 0, Nat.le_refl 0⟩ (Nat.le_of_ble_eq_true rfl) rfl d_M_nightGoes_17 (fun r4 h5 hw => ?_)
      refine qx_istore_n (L' := [(2, .inl r4), (0, .inr (.inr (.inl x0))), (1, .inl x1)]) X d_M_nightGoes_20 rfl (by decide) rfl ?_
      refine qx_aload_n (x := x0) X d_M_nightGoes_21 rfl 1 rfl ?_
      obtain ⟨g6, hw⟩ := hw
      refine qx_getR X qcls12 g6 53 (by decide) rfl wf_M_119 d_M_nightGoes_22 ?_
      refine qx_iload_n (x := x1) X d_M_nightGoes_25 rfl 2 rfl ?_
      refine qx_iload_n (x := r4) X d_M_nightGoes_26 rfl 0 rfl ?_
      refine qx_if_eq X 39 d_M_nightGoes_27 (by decide) (fun q7 => ?_) (fun q7 => ?_)
      · have hw := hw.1 q7
        refine qx_iconst (v := (0 : Int32)) X d_M_nightGoes_39 (by decide) ?_
        refine qx_sub [1, 2, 0] rfl ?_
        exact t_M_nightGoes_40 X N x0 x1 r4 (0 : Int32) x1 (qR h5 x0 53) h5 Q _ hw ih
      · have hw := hw.2 q7
        refine qx_aload_n (x := x0) X d_M_nightGoes_30 rfl 1 rfl ?_
        refine qx_iload_n (x := x1) X d_M_nightGoes_31 rfl 2 rfl ?_
        refine qx_iconst (v := (0 : Int32)) X d_M_nightGoes_32 (by decide) ?_
        refine qx_callVI (st := [.int x1, qr b (qR h5 x0 53)]) (As := [.int x1, .int (0 : Int32)]) X (t_M_toldOf (adK := adK) (adV := adV) l D cy b N x0 x1 (0 : Int32) h5 _ hw) qm_M_toldOf wm_M_370 wi_M_toldOf wl_M_toldOf qcls12 g6 rfl rfl rfl ⟨Nat.le_of_ble_eq_true rfl, Nat.le_of_ble_eq_true rfl⟩ ⟨Nat.le_refl 0, Nat.le_refl 0⟩ (Nat.le_of_ble_eq_true rfl) rfl d_M_nightGoes_33 (fun r8 h9 hw => ?_)
        refine qx_goto X 40 d_M_nightGoes_36 (by decide) ?_
        refine qx_sub [1, 2, 0] rfl ?_
        exact t_M_nightGoes_40 X N x0 x1 r4 r8 x1 (qR h5 x0 53) h9 Q _ hw ih
set_option maxRecDepth 4000 in
theorem t_M_nightGoes_145 (X : qX p s m args meth c D cy b adK adV prog_14_method_60_code "CoatHangersModel" 3 (none) "nightGoes") (N k : Nat) (x0 : Nat) (x1 : Int32) (h : qH) (Q : qH → Prop) (K169 : Nat → qH → Prop) (hw : w_M_nightGoes_145 N k x0 x1 h Q K169) (hK169 : ∀ (x0 : Nat) (h : qH), K169 x0 h → qW p l e (qrm 4 0 0 87) s m args below meth c D cy b 3 0 0 (MQ below (qQc D cy b qrV (fun (_ : Unit) h => Q h)) args s 0 0 (qA b)) 169 [(0, .inr (.inr (.inl x0)))] [] h) : qW p l e (qrm 4 0 0 87) s m args below meth c D cy b 3 0 0 (MQ below (qQc D cy b qrV (fun (_ : Unit) h => Q h)) args s 0 0 (qA b)) 145 [(0, .inr (.inr (.inl x0))), (1, .inl x1)] [] h := by
  induction k generalizing x0 x1 h with
  | zero => exact hw.elim
  | succ k ih =>
    refine qx_iload_n (x := x1) X d_M_nightGoes_145 rfl 1 rfl ?_
    refine qx_aload_n (x := x0) X d_M_nightGoes_146 rfl 0 rfl ?_
    obtain ⟨g1, hw⟩ := hw
    refine qx_getR X qcls12 g1 26 (by decide) rfl wf_M_55 d_M_nightGoes_147 ?_
    refine qx_aload_n (x := x0) X d_M_nightGoes_150 rfl 0 rfl ?_
    refine qx_getI X qcls12 g1 18 (by decide) rfl wf_M_245 d_M_nightGoes_151 ?_
    obtain ⟨g2, hw⟩ := hw
    refine qx_ild X g2 d_M_nightGoes_154 ?_
    refine qx_icmp_ge X 169 d_M_nightGoes_155 (by decide) (fun q3 => ?_) (fun q3 => ?_)
    · have hw := hw.1 q3
      refine qx_sub [0] rfl ?_
      exact hK169 x0 h hw
    · have hw := hw.2 q3
      refine qx_aload_n (x := x0) X d_M_nightGoes_158 rfl 0 rfl ?_
      refine qx_iload_n (x := x1) X d_M_nightGoes_159 rfl 1 rfl ?_
      refine qx_callVV (st := []) (As := [.int x1]) X (t_M_wakes (adK := adK) (adV := adV) l D cy b N x0 x1 h _ hw) qm_M_wakes wm_M_376 wi_M_wakes wl_M_wakes qcls12 g1 rfl rfl rfl ⟨Nat.le_of_ble_eq_true rfl, Nat.le_of_ble_eq_true rfl⟩ ⟨Nat.le_refl 0, Nat.le_refl 0⟩ (Nat.le_of_ble_eq_true rfl) rfl d_M_nightGoes_160 (fun h4 hw => ?_)
      refine qx_iinc (v := (x1 + (1 : Int32))) (L' := [(1, .inl (x1 + (1 : Int32))), (0, .inr (.inr (.inl x0)))]) X d_M_nightGoes_163 1 rfl rfl (by decide) rfl ?_
      refine qx_goto X 145 d_M_nightGoes_166 (by decide) ?_
      refine qx_sub [1, 0] rfl ?_
      exact ih x0 (x1 + (1 : Int32)) h4 hw
set_option maxRecDepth 4000 in
theorem t_M_nightGoes {adK adV : Nat → Nat} (l : Launch) (D : va_G) (cy : Nat → ClassId) (b : Nat) (N : Nat) (x0 : Nat) (h : qH) (Q : qH → Prop) (hw : w_M_nightGoes N x0 h Q) : Met l y_M_nightGoes (Cond.code y_M_nightGoes prog_14_method_60_code 3 (none) :: qT) (qrm 4 0 0 87) (qPc D cy b adK adV h [qr b x0]) (qQc D cy b qrV (fun (_ : Unit) h => Q h)) 0 0 (qA b) := by
  refine qmet (L0 := [(0, .inr (.inr (.inl x0)))]) qm_M_nightGoes (plainFor_of_name (by decide)) [.inr (.inr (.inl x0))] rfl (Nat.le_of_ble_eq_true rfl) rfl (fun p e s m args below meth c X => ?_)
  unfold w_M_nightGoes at hw
  refine qx_iconst (v := (0 : Int32)) X d_M_nightGoes_0 (by decide) ?_
  refine qx_istore_n (L' := [(1, .inl (0 : Int32)), (0, .inr (.inr (.inl x0)))]) X d_M_nightGoes_1 rfl (by decide) rfl ?_
  refine qx_sub [1, 0] rfl ?_
  refine t_M_nightGoes_2 X N N x0 (0 : Int32) h Q _ hw (fun x1 h2 hw => ?_)
  refine qx_iconst (v := (0 : Int32)) X d_M_nightGoes_143 (by decide) ?_
  refine qx_istore_n (L' := [(1, .inl (0 : Int32)), (0, .inr (.inr (.inl x1)))]) X d_M_nightGoes_144 rfl (by decide) rfl ?_
  refine qx_sub [1, 0] rfl ?_
  refine t_M_nightGoes_145 X N N x1 (0 : Int32) h2 Q _ hw (fun x3 h4 hw => ?_)
  refine qx_aload_n (x := x3) X d_M_nightGoes_169 rfl 0 rfl ?_
  obtain ⟨g5, hw⟩ := hw
  refine qx_getI X qcls12 g5 52 (by decide) rfl wf_M_329 d_M_nightGoes_170 ?_
  refine qx_if_ne X 241 d_M_nightGoes_173 (by decide) (fun q6 => ?_) (fun q6 => ?_)
  · have hw := hw.1 q6
    refine qx_aload_n (x := x3) X d_M_nightGoes_241 rfl 0 rfl ?_
    refine qx_getR X qcls12 g5 50 (by decide) rfl wf_M_116 d_M_nightGoes_242 ?_
    refine qx_bipush (v := (31 : Int32)) X d_M_nightGoes_245 (by decide) ?_
    refine qx_dup2 X rfl (qr_cat _ _) d_M_nightGoes_247 ?_
    obtain ⟨g7, hw⟩ := hw
    refine qx_ild X g7 d_M_nightGoes_248 ?_
    refine qx_iconst (v := (1 : Int32)) X d_M_nightGoes_249 (by decide) ?_
    refine qx_iadd X d_M_nightGoes_250 ?_
    refine qx_ist X g7 d_M_nightGoes_251 ?_
    refine qx_toph (fun h8 eh8 => ?_)
    have hw := hw h8 eh8
    exact qx_vret X hw (Nat.le_refl 0) (Nat.le_refl 0) rfl d_M_nightGoes_252
  · have hw := hw.2 q6
    refine qx_aload_n (x := x3) X d_M_nightGoes_176 rfl 0 rfl ?_
    refine qx_getR X qcls12 g5 26 (by decide) rfl wf_M_55 d_M_nightGoes_177 ?_
    refine qx_aload_n (x := x3) X d_M_nightGoes_180 rfl 0 rfl ?_
    refine qx_getI X qcls12 g5 18 (by decide) rfl wf_M_245 d_M_nightGoes_181 ?_
    obtain ⟨g9, hw⟩ := hw
    refine qx_ild X g9 d_M_nightGoes_184 ?_
    refine qx_if_le X 241 d_M_nightGoes_185 (by decide) (fun q10 => ?_) (fun q10 => ?_)
    · have hw := hw.1 q10
      refine qx_aload_n (x := x3) X d_M_nightGoes_241 rfl 0 rfl ?_
      refine qx_getR X qcls12 g5 50 (by decide) rfl wf_M_116 d_M_nightGoes_242 ?_
      refine qx_bipush (v := (31 : Int32)) X d_M_nightGoes_245 (by decide) ?_
      refine qx_dup2 X rfl (qr_cat _ _) d_M_nightGoes_247 ?_
      obtain ⟨g11, hw⟩ := hw
      refine qx_ild X g11 d_M_nightGoes_248 ?_
      refine qx_iconst (v := (1 : Int32)) X d_M_nightGoes_249 (by decide) ?_
      refine qx_iadd X d_M_nightGoes_250 ?_
      refine qx_ist X g11 d_M_nightGoes_251 ?_
      refine qx_toph (fun h12 eh12 => ?_)
      have hw := hw h12 eh12
      exact qx_vret X hw (Nat.le_refl 0) (Nat.le_refl 0) rfl d_M_nightGoes_252
    · have hw := hw.2 q10
      refine qx_aload_n (x := x3) X d_M_nightGoes_188 rfl 0 rfl ?_
      refine qx_callVI (st := []) (As := []) X (t_M_isMoth (adK := adK) (adV := adV) l D cy b N x3 h4 _ hw) qm_M_isMoth wm_M_379 wi_M_isMoth wl_M_isMoth qcls12 g5 rfl rfl rfl ⟨Nat.le_of_ble_eq_true rfl, Nat.le_of_ble_eq_true rfl⟩ ⟨Nat.le_refl 0, Nat.le_refl 0⟩ (Nat.le_of_ble_eq_true rfl) rfl d_M_nightGoes_189 (fun r13 h14 hw => ?_)
      refine qx_if_eq X 241 d_M_nightGoes_192 (by decide) (fun q15 => ?_) (fun q15 => ?_)
      · have hw := hw.1 q15
        refine qx_aload_n (x := x3) X d_M_nightGoes_241 rfl 0 rfl ?_
        obtain ⟨g16, hw⟩ := hw
        refine qx_getR X qcls12 g16 50 (by decide) rfl wf_M_116 d_M_nightGoes_242 ?_
        refine qx_bipush (v := (31 : Int32)) X d_M_nightGoes_245 (by decide) ?_
        refine qx_dup2 X rfl (qr_cat _ _) d_M_nightGoes_247 ?_
        obtain ⟨g17, hw⟩ := hw
        refine qx_ild X g17 d_M_nightGoes_248 ?_
        refine qx_iconst (v := (1 : Int32)) X d_M_nightGoes_249 (by decide) ?_
        refine qx_iadd X d_M_nightGoes_250 ?_
        refine qx_ist X g17 d_M_nightGoes_251 ?_
        refine qx_toph (fun h18 eh18 => ?_)
        have hw := hw h18 eh18
        exact qx_vret X hw (Nat.le_refl 0) (Nat.le_refl 0) rfl d_M_nightGoes_252
      · have hw := hw.2 q15
        refine qx_aload_n (x := x3) X d_M_nightGoes_195 rfl 0 rfl ?_
        refine qx_bipush (v := (16 : Int32)) X d_M_nightGoes_196 (by decide) ?_
        refine qx_aload_n (x := x3) X d_M_nightGoes_198 rfl 0 rfl ?_
        obtain ⟨g19, hw⟩ := hw
        refine qx_getR X qcls12 g19 50 (by decide) rfl wf_M_116 d_M_nightGoes_199 ?_
        refine qx_bipush (v := (31 : Int32)) X d_M_nightGoes_202 (by decide) ?_
        obtain ⟨g20, hw⟩ := hw
        refine qx_ild X g20 d_M_nightGoes_204 ?_
        refine qx_imul X d_M_nightGoes_205 ?_
        refine qx_bipush (v := (9 : Int32)) X d_M_nightGoes_206 (by decide) ?_
        refine qx_iadd X d_M_nightGoes_208 ?_
        refine qx_aload_n (x := x3) X d_M_nightGoes_209 rfl 0 rfl ?_
        refine qx_getR X qcls12 g19 26 (by decide) rfl wf_M_55 d_M_nightGoes_210 ?_
        refine qx_aload_n (x := x3) X d_M_nightGoes_213 rfl 0 rfl ?_
        refine qx_getI X qcls12 g19 18 (by decide) rfl wf_M_245 d_M_nightGoes_214 ?_
        obtain ⟨g21, hw⟩ := hw
        refine qx_ild X g21 d_M_nightGoes_217 ?_
        refine qx_callVI (st := []) (As := [.int (((16 : Int32) * (qI h14 (qR h14 x3 50) ((31 : Int32)).toNatClampNeg)) + (9 : Int32)), .int (qI h14 (qR h14 x3 26) ((qI h14 x3 18)).toNatClampNeg)]) X (t_M_lotOf (adK := adK) (adV := adV) l D cy b N x3 (((16 : Int32) * (qI h14 (qR h14 x3 50) ((31 : Int32)).toNatClampNeg)) + (9 : Int32)) (qI h14 (qR h14 x3 26) ((qI h14 x3 18)).toNatClampNeg) h14 _ hw) qm_M_lotOf wm_M_339 wi_M_lotOf wl_M_lotOf qcls12 g19 rfl rfl rfl ⟨Nat.le_of_ble_eq_true rfl, Nat.le_of_ble_eq_true rfl⟩ ⟨Nat.le_refl 0, Nat.le_refl 0⟩ (Nat.le_of_ble_eq_true rfl) rfl d_M_nightGoes_218 (fun r22 h23 hw => ?_)
        refine qx_istore_n (L' := [(1, .inl r22), (0, .inr (.inr (.inl x3)))]) X d_M_nightGoes_221 rfl (by decide) rfl ?_
        refine qx_aload_n (x := x3) X d_M_nightGoes_222 rfl 1 rfl ?_
        obtain ⟨g24, hw⟩ := hw
        refine qx_getR X qcls12 g24 50 (by decide) rfl wf_M_116 d_M_nightGoes_223 ?_
        refine qx_iload_n (x := r22) X d_M_nightGoes_226 rfl 0 rfl ?_
        obtain ⟨g25, hw⟩ := hw
        refine qx_ild X g25 d_M_nightGoes_227 ?_
        refine qx_if_le X 241 d_M_nightGoes_228 (by decide) (fun q26 => ?_) (fun q26 => ?_)
        · have hw := hw.1 q26
          refine qx_aload_n (x := x3) X d_M_nightGoes_241 rfl 1 rfl ?_
          refine qx_getR X qcls12 g24 50 (by decide) rfl wf_M_116 d_M_nightGoes_242 ?_
          refine qx_bipush (v := (31 : Int32)) X d_M_nightGoes_245 (by decide) ?_
          refine qx_dup2 X rfl (qr_cat _ _) d_M_nightGoes_247 ?_
          obtain ⟨g27, hw⟩ := hw
          refine qx_ild X g27 d_M_nightGoes_248 ?_
          refine qx_iconst (v := (1 : Int32)) X d_M_nightGoes_249 (by decide) ?_
          refine qx_iadd X d_M_nightGoes_250 ?_
          refine qx_ist X g27 d_M_nightGoes_251 ?_
          refine qx_toph (fun h28 eh28 => ?_)
          have hw := hw h28 eh28
          exact qx_vret X hw (Nat.le_refl 0) (Nat.le_refl 0) rfl d_M_nightGoes_252
        · have hw := hw.2 q26
          refine qx_aload_n (x := x3) X d_M_nightGoes_231 rfl 1 rfl ?_
          refine qx_getR X qcls12 g24 50 (by decide) rfl wf_M_116 d_M_nightGoes_232 ?_
          refine qx_iload_n (x := r22) X d_M_nightGoes_235 rfl 0 rfl ?_
          refine qx_dup2 X rfl (qr_cat _ _) d_M_nightGoes_236 ?_
          refine qx_ild X g25 d_M_nightGoes_237 ?_
          refine qx_iconst (v := (1 : Int32)) X d_M_nightGoes_238 (by decide) ?_
          refine qx_isub X d_M_nightGoes_239 ?_
          refine qx_ist X g25 d_M_nightGoes_240 ?_
          refine qx_toph (fun h29 eh29 => ?_)
          have hw := hw h29 eh29
          refine qx_aload_n (x := x3) X d_M_nightGoes_241 rfl 1 rfl ?_
          obtain ⟨g30, hw⟩ := hw
          refine qx_getR X qcls12 g30 50 (by decide) rfl wf_M_116 d_M_nightGoes_242 ?_
          refine qx_bipush (v := (31 : Int32)) X d_M_nightGoes_245 (by decide) ?_
          refine qx_dup2 X rfl (qr_cat _ _) d_M_nightGoes_247 ?_
          obtain ⟨g31, hw⟩ := hw
          refine qx_ild X g31 d_M_nightGoes_248 ?_
          refine qx_iconst (v := (1 : Int32)) X d_M_nightGoes_249 (by decide) ?_
          refine qx_iadd X d_M_nightGoes_250 ?_
          refine qx_ist X g31 d_M_nightGoes_251 ?_
          refine qx_toph (fun h32 eh32 => ?_)
          have hw := hw h32 eh32
          exact qx_vret X hw (Nat.le_refl 0) (Nat.le_refl 0) rfl d_M_nightGoes_252
set_option maxRecDepth 4000 in
theorem t_M_goes_2 (X : qX p s m args meth c D cy b adK adV prog_14_method_61_code "CoatHangersModel" 3 (none) "goes") (N k : Nat) (x0 : Nat) (x1 : Int32) (x2 : Int32) (h : qH) (Q : qH → Prop)  (hw : w_M_goes_2 N k x0 x1 x2 h Q ) : qW p l e (qrm 5 0 0 109) s m args below meth c D cy b 3 0 0 (MQ below (qQc D cy b qrV (fun (_ : Unit) h => Q h)) args s 0 0 (qA b)) 2 [(0, .inr (.inr (.inl x0))), (1, .inl x1), (2, .inl x2)] [] h := by
  induction k generalizing x0 x1 x2 h with
  | zero => exact hw.elim
  | succ k ih =>
    refine qx_iload_n (x := x2) X d_M_goes_2 rfl 2 rfl ?_
    refine qx_iload_n (x := x1) X d_M_goes_3 rfl 1 rfl ?_
    refine qx_icmp_ge X 17 d_M_goes_4 (by decide) (fun q1 => ?_) (fun q1 => ?_)
    · have hw := hw.1 q1
      exact qx_vret X hw (Nat.le_refl 0) (Nat.le_refl 0) rfl d_M_goes_17
    · have hw := hw.2 q1
      refine qx_aload_n (x := x0) X d_M_goes_7 rfl 0 rfl ?_
      obtain ⟨g2, hw⟩ := hw
      refine qx_callVV (st := []) (As := []) X (t_M_nightGoes (adK := adK) (adV := adV) l D cy b N x0 h _ hw) qm_M_nightGoes wm_M_383 wi_M_nightGoes wl_M_nightGoes qcls12 g2 rfl rfl rfl ⟨Nat.le_of_ble_eq_true rfl, Nat.le_of_ble_eq_true rfl⟩ ⟨Nat.le_refl 0, Nat.le_refl 0⟩ (Nat.le_of_ble_eq_true rfl) rfl d_M_goes_8 (fun h3 hw => ?_)
      refine qx_iinc (v := (x2 + (1 : Int32))) (L' := [(2, .inl (x2 + (1 : Int32))), (0, .inr (.inr (.inl x0))), (1, .inl x1)]) X d_M_goes_11 2 rfl rfl (by decide) rfl ?_
      refine qx_goto X 2 d_M_goes_14 (by decide) ?_
      refine qx_sub [1, 2, 0] rfl ?_
      exact ih x0 x1 (x2 + (1 : Int32)) h3 hw
set_option maxRecDepth 4000 in
theorem t_M_goes {adK adV : Nat → Nat} (l : Launch) (D : va_G) (cy : Nat → ClassId) (b : Nat) (N : Nat) (x0 : Nat) (x1 : Int32) (h : qH) (Q : qH → Prop) (hw : w_M_goes N x0 x1 h Q) : Met l y_M_goes (Cond.code y_M_goes prog_14_method_61_code 3 (none) :: qT) (qrm 5 0 0 109) (qPc D cy b adK adV h [qr b x0, .int x1]) (qQc D cy b qrV (fun (_ : Unit) h => Q h)) 0 0 (qA b) := by
  refine qmet (L0 := [(0, .inr (.inr (.inl x0))), (1, .inl x1)]) qm_M_goes (plainFor_of_name (by decide)) [.inr (.inr (.inl x0)), .inl x1] rfl (Nat.le_of_ble_eq_true rfl) rfl (fun p e s m args below meth c X => ?_)
  unfold w_M_goes at hw
  refine qx_iconst (v := (0 : Int32)) X d_M_goes_0 (by decide) ?_
  refine qx_istore_n (L' := [(2, .inl (0 : Int32)), (0, .inr (.inr (.inl x0))), (1, .inl x1)]) X d_M_goes_1 rfl (by decide) rfl ?_
  refine qx_sub [1, 2, 0] rfl ?_
  exact t_M_goes_2 X N N x0 x1 (0 : Int32) h Q  hw 
set_option maxRecDepth 4000 in
theorem t_M_hanger {adK adV : Nat → Nat} (l : Launch) (D : va_G) (cy : Nat → ClassId) (b : Nat) (N : Nat) (x0 : Nat) (x1 : Int32) (x2 : Int32) (h : qH) (Q : Int32 → qH → Prop) (hw : w_M_hanger N x0 x1 x2 h Q) : Met l y_M_hanger (Cond.code y_M_hanger prog_14_method_62_code 3 (some .int) :: qT) (qrm 2 0 0 43) (qPc D cy b adK adV h [qr b x0, .int x1, .int x2]) (qQc D cy b qrI Q) 0 0 (qA b) := by
  refine qmet (L0 := [(0, .inr (.inr (.inl x0))), (1, .inl x1), (2, .inl x2)]) qm_M_hanger (plainFor_of_name (by decide)) [.inr (.inr (.inl x0)), .inl x1, .inl x2] rfl (Nat.le_of_ble_eq_true rfl) rfl (fun p e s m args below meth c X => ?_)
  unfold w_M_hanger at hw
  refine qx_aload_n (x := x0) X d_M_hanger_0 rfl 0 rfl ?_
  refine qx_iload_n (x := x1) X d_M_hanger_1 rfl 1 rfl ?_
  obtain ⟨g1, hw⟩ := hw
  refine qx_callVI (st := []) (As := [.int x1]) X (t_M_isHanger (adK := adK) (adV := adV) l D cy b N x0 x1 h _ hw) qm_M_isHanger wm_M_386 wi_M_isHanger wl_M_isHanger qcls12 g1 rfl rfl rfl ⟨Nat.le_of_ble_eq_true rfl, Nat.le_of_ble_eq_true rfl⟩ ⟨Nat.le_refl 0, Nat.le_refl 0⟩ (Nat.le_of_ble_eq_true rfl) rfl d_M_hanger_2 (fun r2 h3 hw => ?_)
  refine qx_if_ne X 10 d_M_hanger_5 (by decide) (fun q4 => ?_) (fun q4 => ?_)
  · have hw := hw.1 q4
    refine qx_aload_n (x := x0) X d_M_hanger_10 rfl 0 rfl ?_
    obtain ⟨g5, hw⟩ := hw
    refine qx_callVV (st := []) (As := []) X (t_M_copies (adK := adK) (adV := adV) l D cy b N x0 h3 _ hw) qm_M_copies wm_M_332 wi_M_copies wl_M_copies qcls12 g5 rfl rfl rfl ⟨Nat.le_of_ble_eq_true rfl, Nat.le_of_ble_eq_true rfl⟩ ⟨Nat.le_refl 0, Nat.le_refl 0⟩ (Nat.le_of_ble_eq_true rfl) rfl d_M_hanger_11 (fun h6 hw => ?_)
    refine qx_iload_n (x := x2) X d_M_hanger_14 rfl 2 rfl ?_
    by_cases q7 : x2 = (0 : Int32)
    · have hw := hw.1 q7
      refine qx_tableIn (off := (29)) X 44 d_M_hanger_15 (by rw [q7]; decide) (by rw [q7]; decide) (by rw [q7]; rfl) (by decide) ?_
      refine qx_aload_n (x := x0) X d_M_hanger_44 rfl 0 rfl ?_
      refine qx_iload_n (x := x1) X d_M_hanger_45 rfl 1 rfl ?_
      obtain ⟨g8, hw⟩ := hw
      refine qx_callVI (st := []) (As := [.int x1]) X (t_M_nailAt (adK := adK) (adV := adV) l D cy b N x0 x1 h6 _ hw) qm_M_nailAt wm_M_345 wi_M_nailAt wl_M_nailAt qcls12 g8 rfl rfl rfl ⟨Nat.le_of_ble_eq_true rfl, Nat.le_of_ble_eq_true rfl⟩ ⟨Nat.le_refl 0, Nat.le_refl 0⟩ (Nat.le_of_ble_eq_true rfl) rfl d_M_hanger_46 (fun r9 h10 hw => ?_)
      exact qx_iret X hw (Nat.le_refl 0) (Nat.le_refl 0) rfl d_M_hanger_49
    · have hw := hw.2 q7
      by_cases q11 : x2 = (1 : Int32)
      · have hw := hw.1 q11
        refine qx_tableIn (off := (35)) X 50 d_M_hanger_15 (by rw [q11]; decide) (by rw [q11]; decide) (by rw [q11]; rfl) (by decide) ?_
        refine qx_aload_n (x := x0) X d_M_hanger_50 rfl 0 rfl ?_
        obtain ⟨g12, hw⟩ := hw
        refine qx_getR X qcls12 g12 25 (by decide) rfl wf_M_52 d_M_hanger_51 ?_
        refine qx_bipush (v := (7 : Int32)) X d_M_hanger_54 (by decide) ?_
        refine qx_aload_n (x := x0) X d_M_hanger_56 rfl 0 rfl ?_
        refine qx_getI X qcls12 g12 18 (by decide) rfl wf_M_245 d_M_hanger_57 ?_
        refine qx_imul X d_M_hanger_60 ?_
        refine qx_iload_n (x := x1) X d_M_hanger_61 rfl 1 rfl ?_
        refine qx_iadd X d_M_hanger_62 ?_
        obtain ⟨g13, hw⟩ := hw
        refine qx_ild X g13 d_M_hanger_63 ?_
        exact qx_iret X hw (Nat.le_refl 0) (Nat.le_refl 0) rfl d_M_hanger_64
      · have hw := hw.2 q11
        by_cases q14 : x2 = (2 : Int32)
        · have hw := hw.1 q14
          refine qx_tableIn (off := (50)) X 65 d_M_hanger_15 (by rw [q14]; decide) (by rw [q14]; decide) (by rw [q14]; rfl) (by decide) ?_
          refine qx_aload_n (x := x0) X d_M_hanger_65 rfl 0 rfl ?_
          obtain ⟨g15, hw⟩ := hw
          refine qx_getR X qcls12 g15 50 (by decide) rfl wf_M_116 d_M_hanger_66 ?_
          refine qx_bipush (v := (24 : Int32)) X d_M_hanger_69 (by decide) ?_
          refine qx_iload_n (x := x1) X d_M_hanger_71 rfl 1 rfl ?_
          refine qx_iadd X d_M_hanger_72 ?_
          obtain ⟨g16, hw⟩ := hw
          refine qx_ild X g16 d_M_hanger_73 ?_
          exact qx_iret X hw (Nat.le_refl 0) (Nat.le_refl 0) rfl d_M_hanger_74
        · have hw := hw.2 q14
          by_cases q17 : x2 = (3 : Int32)
          · have hw := hw.1 q17
            refine qx_tableIn (off := (60)) X 75 d_M_hanger_15 (by rw [q17]; decide) (by rw [q17]; decide) (by rw [q17]; rfl) (by decide) ?_
            refine qx_aload_n (x := x0) X d_M_hanger_75 rfl 0 rfl ?_
            refine qx_iload_n (x := x1) X d_M_hanger_76 rfl 1 rfl ?_
            obtain ⟨g18, hw⟩ := hw
            refine qx_callVI (st := []) (As := [.int x1]) X (t_M_whoIsOn (adK := adK) (adV := adV) l D cy b N x0 x1 h6 _ hw) qm_M_whoIsOn wm_M_389 wi_M_whoIsOn wl_M_whoIsOn qcls12 g18 rfl rfl rfl ⟨Nat.le_of_ble_eq_true rfl, Nat.le_of_ble_eq_true rfl⟩ ⟨Nat.le_refl 0, Nat.le_refl 0⟩ (Nat.le_of_ble_eq_true rfl) rfl d_M_hanger_77 (fun r19 h20 hw => ?_)
            exact qx_iret X hw (Nat.le_refl 0) (Nat.le_refl 0) rfl d_M_hanger_80
          · have hw := hw.2 q17
            have gx : x2.toInt < 0 ∨ 3 < x2.toInt := by
              have nq7 : x2.toInt ≠ 0 := fun z => q7 (Int32.toInt_inj.mp z)
              have nq11 : x2.toInt ≠ 1 := fun z => q11 (Int32.toInt_inj.mp z)
              have nq14 : x2.toInt ≠ 2 := fun z => q14 (Int32.toInt_inj.mp z)
              have nq17 : x2.toInt ≠ 3 := fun z => q17 (Int32.toInt_inj.mp z)
              omega
            refine qx_tableOut X 81 d_M_hanger_15 gx (by decide) ?_
            refine qx_iconst (v := (-1 : Int32)) X d_M_hanger_81 (by decide) ?_
            exact qx_iret X hw (Nat.le_refl 0) (Nat.le_refl 0) rfl d_M_hanger_82
  · have hw := hw.2 q4
    refine qx_iconst (v := (-1 : Int32)) X d_M_hanger_8 (by decide) ?_
    exact qx_iret X hw (Nat.le_refl 0) (Nat.le_refl 0) rfl d_M_hanger_9
set_option maxRecDepth 4000 in
theorem t_M_person {adK adV : Nat → Nat} (l : Launch) (D : va_G) (cy : Nat → ClassId) (b : Nat) (N : Nat) (x0 : Nat) (x1 : Int32) (x2 : Int32) (h : qH) (Q : Int32 → qH → Prop) (hw : w_M_person N x0 x1 x2 h Q) : Met l y_M_person (Cond.code y_M_person prog_14_method_63_code 3 (some .int) :: qT) (qrm 3 0 0 65) (qPc D cy b adK adV h [qr b x0, .int x1, .int x2]) (qQc D cy b qrI Q) 0 0 (qA b) := by
  refine qmet (L0 := [(0, .inr (.inr (.inl x0))), (1, .inl x1), (2, .inl x2)]) qm_M_person (plainFor_of_name (by decide)) [.inr (.inr (.inl x0)), .inl x1, .inl x2] rfl (Nat.le_of_ble_eq_true rfl) rfl (fun p e s m args below meth c X => ?_)
  unfold w_M_person at hw
  refine qx_aload_n (x := x0) X d_M_person_0 rfl 0 rfl ?_
  refine qx_iload_n (x := x1) X d_M_person_1 rfl 1 rfl ?_
  obtain ⟨g1, hw⟩ := hw
  refine qx_callVI (st := []) (As := [.int x1]) X (t_M_isPerson (adK := adK) (adV := adV) l D cy b N x0 x1 h _ hw) qm_M_isPerson wm_M_392 wi_M_isPerson wl_M_isPerson qcls12 g1 rfl rfl rfl ⟨Nat.le_of_ble_eq_true rfl, Nat.le_of_ble_eq_true rfl⟩ ⟨Nat.le_refl 0, Nat.le_refl 0⟩ (Nat.le_of_ble_eq_true rfl) rfl d_M_person_2 (fun r2 h3 hw => ?_)
  refine qx_if_ne X 10 d_M_person_5 (by decide) (fun q4 => ?_) (fun q4 => ?_)
  · have hw := hw.1 q4
    refine qx_aload_n (x := x0) X d_M_person_10 rfl 0 rfl ?_
    obtain ⟨g5, hw⟩ := hw
    refine qx_callVV (st := []) (As := []) X (t_M_copies (adK := adK) (adV := adV) l D cy b N x0 h3 _ hw) qm_M_copies wm_M_332 wi_M_copies wl_M_copies qcls12 g5 rfl rfl rfl ⟨Nat.le_of_ble_eq_true rfl, Nat.le_of_ble_eq_true rfl⟩ ⟨Nat.le_refl 0, Nat.le_refl 0⟩ (Nat.le_of_ble_eq_true rfl) rfl d_M_person_11 (fun h6 hw => ?_)
    refine qx_iload_n (x := x2) X d_M_person_14 rfl 2 rfl ?_
    by_cases q7 : x2 = (0 : Int32)
    · have hw := hw.1 q7
      refine qx_tableIn (off := (37)) X 52 d_M_person_15 (by rw [q7]; decide) (by rw [q7]; decide) (by rw [q7]; rfl) (by decide) ?_
      refine qx_aload_n (x := x0) X d_M_person_52 rfl 0 rfl ?_
      obtain ⟨g8, hw⟩ := hw
      refine qx_getR X qcls12 g8 50 (by decide) rfl wf_M_116 d_M_person_53 ?_
      refine qx_iload_n (x := x1) X d_M_person_56 rfl 1 rfl ?_
      obtain ⟨g9, hw⟩ := hw
      refine qx_ild X g9 d_M_person_57 ?_
      exact qx_iret X hw (Nat.le_refl 0) (Nat.le_refl 0) rfl d_M_person_58
    · have hw := hw.2 q7
      by_cases q10 : x2 = (1 : Int32)
      · have hw := hw.1 q10
        refine qx_tableIn (off := (44)) X 59 d_M_person_15 (by rw [q10]; decide) (by rw [q10]; decide) (by rw [q10]; rfl) (by decide) ?_
        refine qx_aload_n (x := x0) X d_M_person_59 rfl 0 rfl ?_
        obtain ⟨g11, hw⟩ := hw
        refine qx_getR X qcls12 g11 28 (by decide) rfl wf_M_61 d_M_person_60 ?_
        refine qx_bipush (v := (6 : Int32)) X d_M_person_63 (by decide) ?_
        refine qx_aload_n (x := x0) X d_M_person_65 rfl 0 rfl ?_
        refine qx_getI X qcls12 g11 18 (by decide) rfl wf_M_245 d_M_person_66 ?_
        refine qx_imul X d_M_person_69 ?_
        refine qx_iload_n (x := x1) X d_M_person_70 rfl 1 rfl ?_
        refine qx_iadd X d_M_person_71 ?_
        obtain ⟨g12, hw⟩ := hw
        refine qx_ild X g12 d_M_person_72 ?_
        exact qx_iret X hw (Nat.le_refl 0) (Nat.le_refl 0) rfl d_M_person_73
      · have hw := hw.2 q10
        by_cases q13 : x2 = (2 : Int32)
        · have hw := hw.1 q13
          refine qx_tableIn (off := (59)) X 74 d_M_person_15 (by rw [q13]; decide) (by rw [q13]; decide) (by rw [q13]; rfl) (by decide) ?_
          refine qx_aload_n (x := x0) X d_M_person_74 rfl 0 rfl ?_
          obtain ⟨g14, hw⟩ := hw
          refine qx_getR X qcls12 g14 50 (by decide) rfl wf_M_116 d_M_person_75 ?_
          refine qx_bipush (v := (6 : Int32)) X d_M_person_78 (by decide) ?_
          refine qx_iload_n (x := x1) X d_M_person_80 rfl 1 rfl ?_
          refine qx_iadd X d_M_person_81 ?_
          obtain ⟨g15, hw⟩ := hw
          refine qx_ild X g15 d_M_person_82 ?_
          exact qx_iret X hw (Nat.le_refl 0) (Nat.le_refl 0) rfl d_M_person_83
        · have hw := hw.2 q13
          by_cases q16 : x2 = (3 : Int32)
          · have hw := hw.1 q16
            refine qx_tableIn (off := (69)) X 84 d_M_person_15 (by rw [q16]; decide) (by rw [q16]; decide) (by rw [q16]; rfl) (by decide) ?_
            refine qx_aload_n (x := x0) X d_M_person_84 rfl 0 rfl ?_
            obtain ⟨g17, hw⟩ := hw
            refine qx_getR X qcls12 g17 50 (by decide) rfl wf_M_116 d_M_person_85 ?_
            refine qx_bipush (v := (12 : Int32)) X d_M_person_88 (by decide) ?_
            refine qx_iload_n (x := x1) X d_M_person_90 rfl 1 rfl ?_
            refine qx_iadd X d_M_person_91 ?_
            obtain ⟨g18, hw⟩ := hw
            refine qx_ild X g18 d_M_person_92 ?_
            exact qx_iret X hw (Nat.le_refl 0) (Nat.le_refl 0) rfl d_M_person_93
          · have hw := hw.2 q16
            by_cases q19 : x2 = (4 : Int32)
            · have hw := hw.1 q19
              refine qx_tableIn (off := (79)) X 94 d_M_person_15 (by rw [q19]; decide) (by rw [q19]; decide) (by rw [q19]; rfl) (by decide) ?_
              refine qx_aload_n (x := x0) X d_M_person_94 rfl 0 rfl ?_
              obtain ⟨g20, hw⟩ := hw
              refine qx_getR X qcls12 g20 50 (by decide) rfl wf_M_116 d_M_person_95 ?_
              refine qx_bipush (v := (18 : Int32)) X d_M_person_98 (by decide) ?_
              refine qx_iload_n (x := x1) X d_M_person_100 rfl 1 rfl ?_
              refine qx_iadd X d_M_person_101 ?_
              obtain ⟨g21, hw⟩ := hw
              refine qx_ild X g21 d_M_person_102 ?_
              exact qx_iret X hw (Nat.le_refl 0) (Nat.le_refl 0) rfl d_M_person_103
            · have hw := hw.2 q19
              by_cases q22 : x2 = (5 : Int32)
              · have hw := hw.1 q22
                refine qx_tableIn (off := (89)) X 104 d_M_person_15 (by rw [q22]; decide) (by rw [q22]; decide) (by rw [q22]; rfl) (by decide) ?_
                refine qx_aload_n (x := x0) X d_M_person_104 rfl 0 rfl ?_
                refine qx_iload_n (x := x1) X d_M_person_105 rfl 1 rfl ?_
                obtain ⟨g23, hw⟩ := hw
                refine qx_callVI (st := []) (As := [.int x1]) X (t_M_besideOf (adK := adK) (adV := adV) l D cy b N x0 x1 h6 _ hw) qm_M_besideOf wm_M_357 wi_M_besideOf wl_M_besideOf qcls12 g23 rfl rfl rfl ⟨Nat.le_of_ble_eq_true rfl, Nat.le_of_ble_eq_true rfl⟩ ⟨Nat.le_refl 0, Nat.le_refl 0⟩ (Nat.le_of_ble_eq_true rfl) rfl d_M_person_106 (fun r24 h25 hw => ?_)
                exact qx_iret X hw (Nat.le_refl 0) (Nat.le_refl 0) rfl d_M_person_109
              · have hw := hw.2 q22
                have gx : x2.toInt < 0 ∨ 5 < x2.toInt := by
                  have nq7 : x2.toInt ≠ 0 := fun z => q7 (Int32.toInt_inj.mp z)
                  have nq10 : x2.toInt ≠ 1 := fun z => q10 (Int32.toInt_inj.mp z)
                  have nq13 : x2.toInt ≠ 2 := fun z => q13 (Int32.toInt_inj.mp z)
                  have nq16 : x2.toInt ≠ 3 := fun z => q16 (Int32.toInt_inj.mp z)
                  have nq19 : x2.toInt ≠ 4 := fun z => q19 (Int32.toInt_inj.mp z)
                  have nq22 : x2.toInt ≠ 5 := fun z => q22 (Int32.toInt_inj.mp z)
                  omega
                refine qx_tableOut X 110 d_M_person_15 gx (by decide) ?_
                refine qx_iconst (v := (-1 : Int32)) X d_M_person_110 (by decide) ?_
                exact qx_iret X hw (Nat.le_refl 0) (Nat.le_refl 0) rfl d_M_person_111
  · have hw := hw.2 q4
    refine qx_iconst (v := (-1 : Int32)) X d_M_person_8 (by decide) ?_
    exact qx_iret X hw (Nat.le_refl 0) (Nat.le_refl 0) rfl d_M_person_9
set_option maxRecDepth 4000 in
theorem t_M_tells {adK adV : Nat → Nat} (l : Launch) (D : va_G) (cy : Nat → ClassId) (b : Nat) (N : Nat) (x0 : Nat) (x1 : Int32) (x2 : Int32) (h : qH) (Q : Int32 → qH → Prop) (hw : w_M_tells N x0 x1 x2 h Q) : Met l y_M_tells (Cond.code y_M_tells prog_14_method_64_code 3 (some .int) :: qT) (qrm 4 0 0 87) (qPc D cy b adK adV h [qr b x0, .int x1, .int x2]) (qQc D cy b qrI Q) 0 0 (qA b) := by
  refine qmet (L0 := [(0, .inr (.inr (.inl x0))), (1, .inl x1), (2, .inl x2)]) qm_M_tells (plainFor_of_name (by decide)) [.inr (.inr (.inl x0)), .inl x1, .inl x2] rfl (Nat.le_of_ble_eq_true rfl) rfl (fun p e s m args below meth c X => ?_)
  unfold w_M_tells at hw
  refine qx_aload_n (x := x0) X d_M_tells_0 rfl 0 rfl ?_
  refine qx_iload_n (x := x1) X d_M_tells_1 rfl 1 rfl ?_
  obtain ⟨g1, hw⟩ := hw
  refine qx_callVI (st := []) (As := [.int x1]) X (t_M_isPerson (adK := adK) (adV := adV) l D cy b N x0 x1 h _ hw) qm_M_isPerson wm_M_392 wi_M_isPerson wl_M_isPerson qcls12 g1 rfl rfl rfl ⟨Nat.le_of_ble_eq_true rfl, Nat.le_of_ble_eq_true rfl⟩ ⟨Nat.le_refl 0, Nat.le_refl 0⟩ (Nat.le_of_ble_eq_true rfl) rfl d_M_tells_2 (fun r2 h3 hw => ?_)
  refine qx_if_eq X 17 d_M_tells_5 (by decide) (fun q4 => ?_) (fun q4 => ?_)
  · have hw := hw.1 q4
    refine qx_iconst (v := (-1 : Int32)) X d_M_tells_17 (by decide) ?_
    exact qx_iret X hw (Nat.le_refl 0) (Nat.le_refl 0) rfl d_M_tells_18
  · have hw := hw.2 q4
    refine qx_iload_n (x := x2) X d_M_tells_8 rfl 2 rfl ?_
    refine qx_iconst (v := (0 : Int32)) X d_M_tells_9 (by decide) ?_
    refine qx_iconst (v := (3 : Int32)) X d_M_tells_10 (by decide) ?_
    refine qx_callSI (st := []) (As := [.int x2, .int (0 : Int32), .int (3 : Int32)]) X (t_M_in (adK := adK) (adV := adV) l D cy b N x2 (0 : Int32) (3 : Int32) h3 _ hw) qm_M_in wm_M_322 wi_M_in rfl rfl rfl ⟨Nat.le_of_ble_eq_true rfl, Nat.le_of_ble_eq_true rfl⟩ ⟨Nat.le_refl 0, Nat.le_refl 0⟩ (Nat.le_of_ble_eq_true rfl) rfl d_M_tells_11 (fun r5 h6 hw => ?_)
    refine qx_if_ne X 19 d_M_tells_14 (by decide) (fun q7 => ?_) (fun q7 => ?_)
    · have hw := hw.1 q7
      refine qx_aload_n (x := x0) X d_M_tells_19 rfl 0 rfl ?_
      obtain ⟨g8, hw⟩ := hw
      refine qx_callVV (st := []) (As := []) X (t_M_copies (adK := adK) (adV := adV) l D cy b N x0 h6 _ hw) qm_M_copies wm_M_332 wi_M_copies wl_M_copies qcls12 g8 rfl rfl rfl ⟨Nat.le_of_ble_eq_true rfl, Nat.le_of_ble_eq_true rfl⟩ ⟨Nat.le_refl 0, Nat.le_refl 0⟩ (Nat.le_of_ble_eq_true rfl) rfl d_M_tells_20 (fun h9 hw => ?_)
      refine qx_aload_n (x := x0) X d_M_tells_23 rfl 0 rfl ?_
      refine qx_iload_n (x := x1) X d_M_tells_24 rfl 1 rfl ?_
      obtain ⟨g10, hw⟩ := hw
      refine qx_callVI (st := []) (As := [.int x1]) X (t_M_isUp (adK := adK) (adV := adV) l D cy b N x0 x1 h9 _ hw) qm_M_isUp wm_M_342 wi_M_isUp wl_M_isUp qcls12 g10 rfl rfl rfl ⟨Nat.le_of_ble_eq_true rfl, Nat.le_of_ble_eq_true rfl⟩ ⟨Nat.le_refl 0, Nat.le_refl 0⟩ (Nat.le_of_ble_eq_true rfl) rfl d_M_tells_25 (fun r11 h12 hw => ?_)
      refine qx_if_eq X 40 d_M_tells_28 (by decide) (fun q13 => ?_) (fun q13 => ?_)
      · have hw := hw.1 q13
        refine qx_bipush (v := (-2 : Int32)) X d_M_tells_40 (by decide) ?_
        exact qx_iret X hw (Nat.le_refl 0) (Nat.le_refl 0) rfl d_M_tells_42
      · have hw := hw.2 q13
        refine qx_aload_n (x := x0) X d_M_tells_31 rfl 0 rfl ?_
        refine qx_iload_n (x := x1) X d_M_tells_32 rfl 1 rfl ?_
        refine qx_iload_n (x := x2) X d_M_tells_33 rfl 2 rfl ?_
        obtain ⟨g14, hw⟩ := hw
        refine qx_callVI (st := []) (As := [.int x1, .int x2]) X (t_M_toldOf (adK := adK) (adV := adV) l D cy b N x0 x1 x2 h12 _ hw) qm_M_toldOf wm_M_370 wi_M_toldOf wl_M_toldOf qcls12 g14 rfl rfl rfl ⟨Nat.le_of_ble_eq_true rfl, Nat.le_of_ble_eq_true rfl⟩ ⟨Nat.le_refl 0, Nat.le_refl 0⟩ (Nat.le_of_ble_eq_true rfl) rfl d_M_tells_34 (fun r15 h16 hw => ?_)
        refine qx_goto X 42 d_M_tells_37 (by decide) ?_
        exact qx_iret X hw (Nat.le_refl 0) (Nat.le_refl 0) rfl d_M_tells_42
    · have hw := hw.2 q7
      refine qx_iconst (v := (-1 : Int32)) X d_M_tells_17 (by decide) ?_
      exact qx_iret X hw (Nat.le_refl 0) (Nat.le_refl 0) rfl d_M_tells_18
set_option maxRecDepth 4000 in
theorem t_M_records_51 (X : qX p s m args meth c D cy b adK adV prog_14_method_65_code "CoatHangersModel" 2 (none) "records") (N k : Nat) (x0 : Nat) (x1 : Int32) (h : qH) (Q : qH → Prop) (K83 : Nat → qH → Prop) (hw : w_M_records_51 N k x0 x1 h Q K83) (hK83 : ∀ (x0 : Nat) (h : qH), K83 x0 h → qW p l e (qrm 1 0 0 21) s m args below meth c D cy b 2 0 0 (MQ below (qQc D cy b qrV (fun (_ : Unit) h => Q h)) args s 0 0 (qA b)) 83 [(0, .inr (.inr (.inl x0)))] [] h) : qW p l e (qrm 1 0 0 21) s m args below meth c D cy b 2 0 0 (MQ below (qQc D cy b qrV (fun (_ : Unit) h => Q h)) args s 0 0 (qA b)) 51 [(0, .inr (.inr (.inl x0))), (1, .inl x1)] [] h := by
  induction k generalizing x0 x1 h with
  | zero => exact hw.elim
  | succ k ih =>
    refine qx_iload_n (x := x1) X d_M_records_51 rfl 1 rfl ?_
    refine qx_bipush (v := (32 : Int32)) X d_M_records_52 (by decide) ?_
    refine qx_icmp_ge X 83 d_M_records_54 (by decide) (fun q1 => ?_) (fun q1 => ?_)
    · have hw := hw.1 q1
      refine qx_sub [0] rfl ?_
      exact hK83 x0 h hw
    · have hw := hw.2 q1
      refine qx_aload_n (x := x0) X d_M_records_57 rfl 0 rfl ?_
      obtain ⟨g2, hw⟩ := hw
      refine qx_getR X qcls12 g2 58 (by decide) rfl wf_M_131 d_M_records_58 ?_
      refine qx_bipush (v := (32 : Int32)) X d_M_records_61 (by decide) ?_
      refine qx_aload_n (x := x0) X d_M_records_63 rfl 0 rfl ?_
      refine qx_getI X qcls12 g2 57 (by decide) rfl wf_M_263 d_M_records_64 ?_
      refine qx_imul X d_M_records_67 ?_
      refine qx_iload_n (x := x1) X d_M_records_68 rfl 1 rfl ?_
      refine qx_iadd X d_M_records_69 ?_
      refine qx_aload_n (x := x0) X d_M_records_70 rfl 0 rfl ?_
      refine qx_getR X qcls12 g2 49 (by decide) rfl wf_M_113 d_M_records_71 ?_
      refine qx_iload_n (x := x1) X d_M_records_74 rfl 1 rfl ?_
      obtain ⟨g3, hw⟩ := hw
      refine qx_ild X g3 d_M_records_75 ?_
      obtain ⟨g4, hw⟩ := hw
      refine qx_ist X g4 d_M_records_76 ?_
      refine qx_toph (fun h5 eh5 => ?_)
      have hw := hw h5 eh5
      refine qx_iinc (v := (x1 + (1 : Int32))) (L' := [(1, .inl (x1 + (1 : Int32))), (0, .inr (.inr (.inl x0)))]) X d_M_records_77 1 rfl rfl (by decide) rfl ?_
      refine qx_goto X 51 d_M_records_80 (by decide) ?_
      refine qx_sub [1, 0] rfl ?_
      exact ih x0 (x1 + (1 : Int32)) h5 hw
set_option maxRecDepth 4000 in
theorem t_M_records_49 (X : qX p s m args meth c D cy b adK adV prog_14_method_65_code "CoatHangersModel" 2 (none) "records") (N : Nat) (x0 : Nat) (h : qH) (Q : qH → Prop)  (hw : w_M_records_49 N x0 h Q ) : qW p l e (qrm 1 0 0 21) s m args below meth c D cy b 2 0 0 (MQ below (qQc D cy b qrV (fun (_ : Unit) h => Q h)) args s 0 0 (qA b)) 49 [(0, .inr (.inr (.inl x0)))] [] h := by
  unfold w_M_records_49 at hw
  refine qx_iconst (v := (0 : Int32)) X d_M_records_49 (by decide) ?_
  refine qx_istore_n (L' := [(1, .inl (0 : Int32)), (0, .inr (.inr (.inl x0)))]) X d_M_records_50 rfl (by decide) rfl ?_
  refine qx_sub [1, 0] rfl ?_
  refine t_M_records_51 X N N x0 (0 : Int32) h Q _ hw (fun x1 h2 hw => ?_)
  refine qx_aload_n (x := x1) X d_M_records_83 rfl 0 rfl ?_
  refine qx_dup X (qr_cat _ _) d_M_records_84 ?_
  obtain ⟨g3, hw⟩ := hw
  refine qx_getI X qcls12 g3 57 (by decide) rfl wf_M_263 d_M_records_85 ?_
  refine qx_iconst (v := (1 : Int32)) X d_M_records_88 (by decide) ?_
  refine qx_iadd X d_M_records_89 ?_
  refine qx_putI X qcls12 g3 57 (by decide) rfl wf_M_263 rfl rfl rfl d_M_records_90 ?_
  refine qx_toph (fun h4 eh4 => ?_)
  have hw := hw h4 eh4
  refine qx_aload_n (x := x1) X d_M_records_93 rfl 0 rfl ?_
  obtain ⟨g5, hw⟩ := hw
  refine qx_callVV (st := []) (As := []) X (t_M_keepsRow (adK := adK) (adV := adV) l D cy b N x1 h4 _ hw) qm_M_keepsRow wm_M_175 wi_M_keepsRow wl_M_keepsRow qcls12 g5 rfl rfl rfl ⟨Nat.le_of_ble_eq_true rfl, Nat.le_of_ble_eq_true rfl⟩ ⟨Nat.le_refl 0, Nat.le_refl 0⟩ (Nat.le_of_ble_eq_true rfl) rfl d_M_records_94 (fun h6 hw => ?_)
  exact qx_vret X hw (Nat.le_refl 0) (Nat.le_refl 0) rfl d_M_records_97
set_option maxRecDepth 4000 in
theorem t_M_records_11 (X : qX p s m args meth c D cy b adK adV prog_14_method_65_code "CoatHangersModel" 2 (none) "records") (N k : Nat) (x0 : Nat) (x1 : Int32) (h : qH) (Q : qH → Prop) (K39 : Nat → qH → Prop) (hw : w_M_records_11 N k x0 x1 h Q K39) (hK39 : ∀ (x0 : Nat) (h : qH), K39 x0 h → qW p l e (qrm 1 0 0 21) s m args below meth c D cy b 2 0 0 (MQ below (qQc D cy b qrV (fun (_ : Unit) h => Q h)) args s 0 0 (qA b)) 39 [(0, .inr (.inr (.inl x0)))] [] h) : qW p l e (qrm 1 0 0 21) s m args below meth c D cy b 2 0 0 (MQ below (qQc D cy b qrV (fun (_ : Unit) h => Q h)) args s 0 0 (qA b)) 11 [(0, .inr (.inr (.inl x0))), (1, .inl x1)] [] h := by
  induction k generalizing x0 x1 h with
  | zero => exact hw.elim
  | succ k ih =>
    refine qx_iload_n (x := x1) X d_M_records_11 rfl 1 rfl ?_
    refine qx_sipush (v := (1248 : Int32)) X d_M_records_12 (by decide) ?_
    refine qx_icmp_ge X 39 d_M_records_15 (by decide) (fun q1 => ?_) (fun q1 => ?_)
    · have hw := hw.1 q1
      refine qx_sub [0] rfl ?_
      exact hK39 x0 h hw
    · have hw := hw.2 q1
      refine qx_aload_n (x := x0) X d_M_records_18 rfl 0 rfl ?_
      obtain ⟨g2, hw⟩ := hw
      refine qx_getR X qcls12 g2 58 (by decide) rfl wf_M_131 d_M_records_19 ?_
      refine qx_iload_n (x := x1) X d_M_records_22 rfl 1 rfl ?_
      refine qx_aload_n (x := x0) X d_M_records_23 rfl 0 rfl ?_
      refine qx_getR X qcls12 g2 58 (by decide) rfl wf_M_131 d_M_records_24 ?_
      refine qx_iload_n (x := x1) X d_M_records_27 rfl 1 rfl ?_
      refine qx_bipush (v := (32 : Int32)) X d_M_records_28 (by decide) ?_
      refine qx_iadd X d_M_records_30 ?_
      obtain ⟨g3, hw⟩ := hw
      refine qx_ild X g3 d_M_records_31 ?_
      obtain ⟨g4, hw⟩ := hw
      refine qx_ist X g4 d_M_records_32 ?_
      refine qx_toph (fun h5 eh5 => ?_)
      have hw := hw h5 eh5
      refine qx_iinc (v := (x1 + (1 : Int32))) (L' := [(1, .inl (x1 + (1 : Int32))), (0, .inr (.inr (.inl x0)))]) X d_M_records_33 1 rfl rfl (by decide) rfl ?_
      refine qx_goto X 11 d_M_records_36 (by decide) ?_
      refine qx_sub [1, 0] rfl ?_
      exact ih x0 (x1 + (1 : Int32)) h5 hw
set_option maxRecDepth 4000 in
theorem t_M_records {adK adV : Nat → Nat} (l : Launch) (D : va_G) (cy : Nat → ClassId) (b : Nat) (N : Nat) (x0 : Nat) (h : qH) (Q : qH → Prop) (hw : w_M_records N x0 h Q) : Met l y_M_records (Cond.code y_M_records prog_14_method_65_code 2 (none) :: qT) (qrm 1 0 0 21) (qPc D cy b adK adV h [qr b x0]) (qQc D cy b qrV (fun (_ : Unit) h => Q h)) 0 0 (qA b) := by
  refine qmet (L0 := [(0, .inr (.inr (.inl x0)))]) qm_M_records (plainFor_of_name (by decide)) [.inr (.inr (.inl x0))] rfl (Nat.le_of_ble_eq_true rfl) rfl (fun p e s m args below meth c X => ?_)
  unfold w_M_records at hw
  refine qx_aload_n (x := x0) X d_M_records_0 rfl 0 rfl ?_
  obtain ⟨g1, hw⟩ := hw
  refine qx_getI X qcls12 g1 57 (by decide) rfl wf_M_263 d_M_records_1 ?_
  refine qx_bipush (v := (40 : Int32)) X d_M_records_4 (by decide) ?_
  refine qx_icmp_ne X 49 d_M_records_6 (by decide) (fun q2 => ?_) (fun q2 => ?_)
  · have hw := hw.1 q2
    exact t_M_records_49 X N x0 h Q  hw 
  · have hw := hw.2 q2
    refine qx_iconst (v := (0 : Int32)) X d_M_records_9 (by decide) ?_
    refine qx_istore_n (L' := [(1, .inl (0 : Int32)), (0, .inr (.inr (.inl x0)))]) X d_M_records_10 rfl (by decide) rfl ?_
    refine qx_sub [1, 0] rfl ?_
    refine t_M_records_11 X N N x0 (0 : Int32) h Q _ hw (fun x3 h4 hw => ?_)
    refine qx_aload_n (x := x3) X d_M_records_39 rfl 0 rfl ?_
    refine qx_dup X (qr_cat _ _) d_M_records_40 ?_
    obtain ⟨g5, hw⟩ := hw
    refine qx_getI X qcls12 g5 57 (by decide) rfl wf_M_263 d_M_records_41 ?_
    refine qx_iconst (v := (1 : Int32)) X d_M_records_44 (by decide) ?_
    refine qx_isub X d_M_records_45 ?_
    refine qx_putI X qcls12 g5 57 (by decide) rfl wf_M_263 rfl rfl rfl d_M_records_46 ?_
    refine qx_toph (fun h6 eh6 => ?_)
    have hw := hw h6 eh6
    exact t_M_records_49 X N x3 h6 Q  hw 
set_option maxRecDepth 4000 in
theorem t_M_does {adK adV : Nat → Nat} (l : Launch) (D : va_G) (cy : Nat → ClassId) (b : Nat) (N : Nat) (x0 : Nat) (x1 : Int32) (x2 : Int32) (h : qH) (Q : qH → Prop) (hw : w_M_does N x0 x1 x2 h Q) : Met l y_M_does (Cond.code y_M_does prog_14_method_66_code 3 (none) :: qT) (qrm 2 0 0 42) (qPc D cy b adK adV h [qr b x0, .int x1, .int x2]) (qQc D cy b qrV (fun (_ : Unit) h => Q h)) 0 0 (qA b) := by
  refine qmet (L0 := [(0, .inr (.inr (.inl x0))), (1, .inl x1), (2, .inl x2)]) qm_M_does (plainFor_of_name (by decide)) [.inr (.inr (.inl x0)), .inl x1, .inl x2] rfl (Nat.le_of_ble_eq_true rfl) rfl (fun p e s m args below meth c X => ?_)
  unfold w_M_does at hw
  refine qx_aload_n (x := x0) X d_M_does_0 rfl 0 rfl ?_
  obtain ⟨g1, hw⟩ := hw
  refine qx_callVV (st := []) (As := []) X (t_M_copies (adK := adK) (adV := adV) l D cy b N x0 h _ hw) qm_M_copies wm_M_332 wi_M_copies wl_M_copies qcls12 g1 rfl rfl rfl ⟨Nat.le_of_ble_eq_true rfl, Nat.le_of_ble_eq_true rfl⟩ ⟨Nat.le_refl 0, Nat.le_refl 0⟩ (Nat.le_of_ble_eq_true rfl) rfl d_M_does_1 (fun h2 hw => ?_)
  refine qx_aload_n (x := x0) X d_M_does_4 rfl 0 rfl ?_
  obtain ⟨g3, hw⟩ := hw
  refine qx_getR X qcls12 g3 50 (by decide) rfl wf_M_116 d_M_does_5 ?_
  refine qx_iload_n (x := x1) X d_M_does_8 rfl 1 rfl ?_
  refine qx_iload_n (x := x2) X d_M_does_9 rfl 2 rfl ?_
  obtain ⟨g4, hw⟩ := hw
  refine qx_ist X g4 d_M_does_10 ?_
  refine qx_toph (fun h5 eh5 => ?_)
  have hw := hw h5 eh5
  refine qx_aload_n (x := x0) X d_M_does_11 rfl 0 rfl ?_
  obtain ⟨g6, hw⟩ := hw
  refine qx_callVV (st := []) (As := []) X (t_M_records (adK := adK) (adV := adV) l D cy b N x0 h5 _ hw) qm_M_records wm_M_395 wi_M_records wl_M_records qcls12 g6 rfl rfl rfl ⟨Nat.le_of_ble_eq_true rfl, Nat.le_of_ble_eq_true rfl⟩ ⟨Nat.le_refl 0, Nat.le_refl 0⟩ (Nat.le_of_ble_eq_true rfl) rfl d_M_does_12 (fun h7 hw => ?_)
  exact qx_vret X hw (Nat.le_refl 0) (Nat.le_refl 0) rfl d_M_does_15
set_option maxRecDepth 4000 in
theorem t_M_hang {adK adV : Nat → Nat} (l : Launch) (D : va_G) (cy : Nat → ClassId) (b : Nat) (N : Nat) (x0 : Nat) (x1 : Int32) (x2 : Int32) (h : qH) (Q : Int32 → qH → Prop) (hw : w_M_hang N x0 x1 x2 h Q) : Met l y_M_hang (Cond.code y_M_hang prog_14_method_67_code 3 (some .boolean) :: qT) (qrm 3 0 0 64) (qPc D cy b adK adV h [qr b x0, .int x1, .int x2]) (qQc D cy b qrI Q) 0 0 (qA b) := by
  refine qmet (L0 := [(0, .inr (.inr (.inl x0))), (1, .inl x1), (2, .inl x2)]) qm_M_hang (plainFor_of_name (by decide)) [.inr (.inr (.inl x0)), .inl x1, .inl x2] rfl (Nat.le_of_ble_eq_true rfl) rfl (fun p e s m args below meth c X => ?_)
  unfold w_M_hang at hw
  refine qx_aload_n (x := x0) X d_M_hang_0 rfl 0 rfl ?_
  refine qx_iload_n (x := x1) X d_M_hang_1 rfl 1 rfl ?_
  obtain ⟨g1, hw⟩ := hw
  refine qx_callVI (st := []) (As := [.int x1]) X (t_M_isPerson (adK := adK) (adV := adV) l D cy b N x0 x1 h _ hw) qm_M_isPerson wm_M_392 wi_M_isPerson wl_M_isPerson qcls12 g1 rfl rfl rfl ⟨Nat.le_of_ble_eq_true rfl, Nat.le_of_ble_eq_true rfl⟩ ⟨Nat.le_refl 0, Nat.le_refl 0⟩ (Nat.le_of_ble_eq_true rfl) rfl d_M_hang_2 (fun r2 h3 hw => ?_)
  refine qx_if_eq X 28 d_M_hang_5 (by decide) (fun q4 => ?_) (fun q4 => ?_)
  · have hw := hw.1 q4
    refine qx_iconst (v := (0 : Int32)) X d_M_hang_28 (by decide) ?_
    exact qx_zret X hw (Nat.le_refl 0) (Nat.le_refl 0) rfl d_M_hang_29
  · have hw := hw.2 q4
    refine qx_aload_n (x := x0) X d_M_hang_8 rfl 0 rfl ?_
    refine qx_iload_n (x := x2) X d_M_hang_9 rfl 2 rfl ?_
    obtain ⟨g5, hw⟩ := hw
    refine qx_callVI (st := []) (As := [.int x2]) X (t_M_isHanger (adK := adK) (adV := adV) l D cy b N x0 x2 h3 _ hw) qm_M_isHanger wm_M_386 wi_M_isHanger wl_M_isHanger qcls12 g5 rfl rfl rfl ⟨Nat.le_of_ble_eq_true rfl, Nat.le_of_ble_eq_true rfl⟩ ⟨Nat.le_refl 0, Nat.le_refl 0⟩ (Nat.le_of_ble_eq_true rfl) rfl d_M_hang_10 (fun r6 h7 hw => ?_)
    refine qx_if_eq X 28 d_M_hang_13 (by decide) (fun q8 => ?_) (fun q8 => ?_)
    · have hw := hw.1 q8
      refine qx_iconst (v := (0 : Int32)) X d_M_hang_28 (by decide) ?_
      exact qx_zret X hw (Nat.le_refl 0) (Nat.le_refl 0) rfl d_M_hang_29
    · have hw := hw.2 q8
      refine qx_aload_n (x := x0) X d_M_hang_16 rfl 0 rfl ?_
      obtain ⟨g9, hw⟩ := hw
      refine qx_getR X qcls12 g9 49 (by decide) rfl wf_M_113 d_M_hang_17 ?_
      refine qx_bipush (v := (6 : Int32)) X d_M_hang_20 (by decide) ?_
      refine qx_iload_n (x := x1) X d_M_hang_22 rfl 1 rfl ?_
      refine qx_iadd X d_M_hang_23 ?_
      obtain ⟨g10, hw⟩ := hw
      refine qx_ild X g10 d_M_hang_24 ?_
      refine qx_if_lt X 30 d_M_hang_25 (by decide) (fun q11 => ?_) (fun q11 => ?_)
      · have hw := hw.1 q11
        refine qx_aload_n (x := x0) X d_M_hang_30 rfl 0 rfl ?_
        refine qx_callVV (st := []) (As := []) X (t_M_copies (adK := adK) (adV := adV) l D cy b N x0 h7 _ hw) qm_M_copies wm_M_332 wi_M_copies wl_M_copies qcls12 g9 rfl rfl rfl ⟨Nat.le_of_ble_eq_true rfl, Nat.le_of_ble_eq_true rfl⟩ ⟨Nat.le_refl 0, Nat.le_refl 0⟩ (Nat.le_of_ble_eq_true rfl) rfl d_M_hang_31 (fun h12 hw => ?_)
        refine qx_aload_n (x := x0) X d_M_hang_34 rfl 0 rfl ?_
        refine qx_iload_n (x := x2) X d_M_hang_35 rfl 2 rfl ?_
        obtain ⟨g13, hw⟩ := hw
        refine qx_callVI (st := []) (As := [.int x2]) X (t_M_whoIsOn (adK := adK) (adV := adV) l D cy b N x0 x2 h12 _ hw) qm_M_whoIsOn wm_M_389 wi_M_whoIsOn wl_M_whoIsOn qcls12 g13 rfl rfl rfl ⟨Nat.le_of_ble_eq_true rfl, Nat.le_of_ble_eq_true rfl⟩ ⟨Nat.le_refl 0, Nat.le_refl 0⟩ (Nat.le_of_ble_eq_true rfl) rfl d_M_hang_36 (fun r14 h15 hw => ?_)
        refine qx_if_lt X 44 d_M_hang_39 (by decide) (fun q16 => ?_) (fun q16 => ?_)
        · have hw := hw.1 q16
          refine qx_aload_n (x := x0) X d_M_hang_44 rfl 0 rfl ?_
          refine qx_bipush (v := (6 : Int32)) X d_M_hang_45 (by decide) ?_
          refine qx_iload_n (x := x1) X d_M_hang_47 rfl 1 rfl ?_
          refine qx_iadd X d_M_hang_48 ?_
          refine qx_iload_n (x := x2) X d_M_hang_49 rfl 2 rfl ?_
          obtain ⟨g17, hw⟩ := hw
          refine qx_callVV (st := []) (As := [.int ((6 : Int32) + x1), .int x2]) X (t_M_does (adK := adK) (adV := adV) l D cy b N x0 ((6 : Int32) + x1) x2 h15 _ hw) qm_M_does wm_M_398 wi_M_does wl_M_does qcls12 g17 rfl rfl rfl ⟨Nat.le_of_ble_eq_true rfl, Nat.le_of_ble_eq_true rfl⟩ ⟨Nat.le_refl 0, Nat.le_refl 0⟩ (Nat.le_of_ble_eq_true rfl) rfl d_M_hang_50 (fun h18 hw => ?_)
          refine qx_iconst (v := (1 : Int32)) X d_M_hang_53 (by decide) ?_
          exact qx_zret X hw (Nat.le_refl 0) (Nat.le_refl 0) rfl d_M_hang_54
        · have hw := hw.2 q16
          refine qx_iconst (v := (0 : Int32)) X d_M_hang_42 (by decide) ?_
          exact qx_zret X hw (Nat.le_refl 0) (Nat.le_refl 0) rfl d_M_hang_43
      · have hw := hw.2 q11
        refine qx_iconst (v := (0 : Int32)) X d_M_hang_28 (by decide) ?_
        exact qx_zret X hw (Nat.le_refl 0) (Nat.le_refl 0) rfl d_M_hang_29
set_option maxRecDepth 4000 in
theorem t_M_take {adK adV : Nat → Nat} (l : Launch) (D : va_G) (cy : Nat → ClassId) (b : Nat) (N : Nat) (x0 : Nat) (x1 : Int32) (h : qH) (Q : Int32 → qH → Prop) (hw : w_M_take N x0 x1 h Q) : Met l y_M_take (Cond.code y_M_take prog_14_method_68_code 2 (some .boolean) :: qT) (qrm 3 0 0 64) (qPc D cy b adK adV h [qr b x0, .int x1]) (qQc D cy b qrI Q) 0 0 (qA b) := by
  refine qmet (L0 := [(0, .inr (.inr (.inl x0))), (1, .inl x1)]) qm_M_take (plainFor_of_name (by decide)) [.inr (.inr (.inl x0)), .inl x1] rfl (Nat.le_of_ble_eq_true rfl) rfl (fun p e s m args below meth c X => ?_)
  unfold w_M_take at hw
  refine qx_aload_n (x := x0) X d_M_take_0 rfl 0 rfl ?_
  refine qx_iload_n (x := x1) X d_M_take_1 rfl 1 rfl ?_
  obtain ⟨g1, hw⟩ := hw
  refine qx_callVI (st := []) (As := [.int x1]) X (t_M_isPerson (adK := adK) (adV := adV) l D cy b N x0 x1 h _ hw) qm_M_isPerson wm_M_392 wi_M_isPerson wl_M_isPerson qcls12 g1 rfl rfl rfl ⟨Nat.le_of_ble_eq_true rfl, Nat.le_of_ble_eq_true rfl⟩ ⟨Nat.le_refl 0, Nat.le_refl 0⟩ (Nat.le_of_ble_eq_true rfl) rfl d_M_take_2 (fun r2 h3 hw => ?_)
  refine qx_if_eq X 20 d_M_take_5 (by decide) (fun q4 => ?_) (fun q4 => ?_)
  · have hw := hw.1 q4
    refine qx_iconst (v := (0 : Int32)) X d_M_take_20 (by decide) ?_
    exact qx_zret X hw (Nat.le_refl 0) (Nat.le_refl 0) rfl d_M_take_21
  · have hw := hw.2 q4
    refine qx_aload_n (x := x0) X d_M_take_8 rfl 0 rfl ?_
    obtain ⟨g5, hw⟩ := hw
    refine qx_getR X qcls12 g5 49 (by decide) rfl wf_M_113 d_M_take_9 ?_
    refine qx_bipush (v := (6 : Int32)) X d_M_take_12 (by decide) ?_
    refine qx_iload_n (x := x1) X d_M_take_14 rfl 1 rfl ?_
    refine qx_iadd X d_M_take_15 ?_
    obtain ⟨g6, hw⟩ := hw
    refine qx_ild X g6 d_M_take_16 ?_
    refine qx_if_ge X 22 d_M_take_17 (by decide) (fun q7 => ?_) (fun q7 => ?_)
    · have hw := hw.1 q7
      refine qx_aload_n (x := x0) X d_M_take_22 rfl 0 rfl ?_
      refine qx_bipush (v := (6 : Int32)) X d_M_take_23 (by decide) ?_
      refine qx_iload_n (x := x1) X d_M_take_25 rfl 1 rfl ?_
      refine qx_iadd X d_M_take_26 ?_
      refine qx_bipush (v := (-2 : Int32)) X d_M_take_27 (by decide) ?_
      refine qx_callVV (st := []) (As := [.int ((6 : Int32) + x1), .int (-2 : Int32)]) X (t_M_does (adK := adK) (adV := adV) l D cy b N x0 ((6 : Int32) + x1) (-2 : Int32) h3 _ hw) qm_M_does wm_M_398 wi_M_does wl_M_does qcls12 g5 rfl rfl rfl ⟨Nat.le_of_ble_eq_true rfl, Nat.le_of_ble_eq_true rfl⟩ ⟨Nat.le_refl 0, Nat.le_refl 0⟩ (Nat.le_of_ble_eq_true rfl) rfl d_M_take_29 (fun h8 hw => ?_)
      refine qx_iconst (v := (1 : Int32)) X d_M_take_32 (by decide) ?_
      exact qx_zret X hw (Nat.le_refl 0) (Nat.le_refl 0) rfl d_M_take_33
    · have hw := hw.2 q7
      refine qx_iconst (v := (0 : Int32)) X d_M_take_20 (by decide) ?_
      exact qx_zret X hw (Nat.le_refl 0) (Nat.le_refl 0) rfl d_M_take_21
set_option maxRecDepth 4000 in
theorem t_M_areUp {adK adV : Nat → Nat} (l : Launch) (D : va_G) (cy : Nat → ClassId) (b : Nat) (N : Nat) (x0 : Nat) (x1 : Int32) (x2 : Int32) (h : qH) (Q : Int32 → qH → Prop) (hw : w_M_areUp N x0 x1 x2 h Q) : Met l y_M_areUp (Cond.code y_M_areUp prog_14_method_69_code 3 (some .boolean) :: qT) (qrm 2 0 0 43) (qPc D cy b adK adV h [qr b x0, .int x1, .int x2]) (qQc D cy b qrI Q) 0 0 (qA b) := by
  refine qmet (L0 := [(0, .inr (.inr (.inl x0))), (1, .inl x1), (2, .inl x2)]) qm_M_areUp (plainFor_of_name (by decide)) [.inr (.inr (.inl x0)), .inl x1, .inl x2] rfl (Nat.le_of_ble_eq_true rfl) rfl (fun p e s m args below meth c X => ?_)
  unfold w_M_areUp at hw
  refine qx_aload_n (x := x0) X d_M_areUp_0 rfl 0 rfl ?_
  refine qx_iload_n (x := x1) X d_M_areUp_1 rfl 1 rfl ?_
  obtain ⟨g1, hw⟩ := hw
  refine qx_callVI (st := []) (As := [.int x1]) X (t_M_isPerson (adK := adK) (adV := adV) l D cy b N x0 x1 h _ hw) qm_M_isPerson wm_M_392 wi_M_isPerson wl_M_isPerson qcls12 g1 rfl rfl rfl ⟨Nat.le_of_ble_eq_true rfl, Nat.le_of_ble_eq_true rfl⟩ ⟨Nat.le_refl 0, Nat.le_refl 0⟩ (Nat.le_of_ble_eq_true rfl) rfl d_M_areUp_2 (fun r2 h3 hw => ?_)
  refine qx_if_eq X 49 d_M_areUp_5 (by decide) (fun q4 => ?_) (fun q4 => ?_)
  · have hw := hw.1 q4
    refine qx_iconst (v := (0 : Int32)) X d_M_areUp_49 (by decide) ?_
    exact qx_zret X hw (Nat.le_refl 0) (Nat.le_refl 0) rfl d_M_areUp_50
  · have hw := hw.2 q4
    refine qx_aload_n (x := x0) X d_M_areUp_8 rfl 0 rfl ?_
    refine qx_iload_n (x := x2) X d_M_areUp_9 rfl 2 rfl ?_
    obtain ⟨g5, hw⟩ := hw
    refine qx_callVI (st := []) (As := [.int x2]) X (t_M_isPerson (adK := adK) (adV := adV) l D cy b N x0 x2 h3 _ hw) qm_M_isPerson wm_M_392 wi_M_isPerson wl_M_isPerson qcls12 g5 rfl rfl rfl ⟨Nat.le_of_ble_eq_true rfl, Nat.le_of_ble_eq_true rfl⟩ ⟨Nat.le_refl 0, Nat.le_refl 0⟩ (Nat.le_of_ble_eq_true rfl) rfl d_M_areUp_10 (fun r6 h7 hw => ?_)
    refine qx_if_eq X 49 d_M_areUp_13 (by decide) (fun q8 => ?_) (fun q8 => ?_)
    · have hw := hw.1 q8
      refine qx_iconst (v := (0 : Int32)) X d_M_areUp_49 (by decide) ?_
      exact qx_zret X hw (Nat.le_refl 0) (Nat.le_refl 0) rfl d_M_areUp_50
    · have hw := hw.2 q8
      refine qx_iload_n (x := x1) X d_M_areUp_16 rfl 1 rfl ?_
      refine qx_iload_n (x := x2) X d_M_areUp_17 rfl 2 rfl ?_
      refine qx_icmp_eq X 49 d_M_areUp_18 (by decide) (fun q9 => ?_) (fun q9 => ?_)
      · have hw := hw.1 q9
        refine qx_iconst (v := (0 : Int32)) X d_M_areUp_49 (by decide) ?_
        exact qx_zret X hw (Nat.le_refl 0) (Nat.le_refl 0) rfl d_M_areUp_50
      · have hw := hw.2 q9
        refine qx_aload_n (x := x0) X d_M_areUp_21 rfl 0 rfl ?_
        obtain ⟨g10, hw⟩ := hw
        refine qx_getR X qcls12 g10 49 (by decide) rfl wf_M_113 d_M_areUp_22 ?_
        refine qx_bipush (v := (6 : Int32)) X d_M_areUp_25 (by decide) ?_
        refine qx_iload_n (x := x1) X d_M_areUp_27 rfl 1 rfl ?_
        refine qx_iadd X d_M_areUp_28 ?_
        obtain ⟨g11, hw⟩ := hw
        refine qx_ild X g11 d_M_areUp_29 ?_
        refine qx_if_lt X 49 d_M_areUp_30 (by decide) (fun q12 => ?_) (fun q12 => ?_)
        · have hw := hw.1 q12
          refine qx_iconst (v := (0 : Int32)) X d_M_areUp_49 (by decide) ?_
          exact qx_zret X hw (Nat.le_refl 0) (Nat.le_refl 0) rfl d_M_areUp_50
        · have hw := hw.2 q12
          refine qx_aload_n (x := x0) X d_M_areUp_33 rfl 0 rfl ?_
          refine qx_getR X qcls12 g10 49 (by decide) rfl wf_M_113 d_M_areUp_34 ?_
          refine qx_bipush (v := (6 : Int32)) X d_M_areUp_37 (by decide) ?_
          refine qx_iload_n (x := x2) X d_M_areUp_39 rfl 2 rfl ?_
          refine qx_iadd X d_M_areUp_40 ?_
          obtain ⟨g13, hw⟩ := hw
          refine qx_ild X g13 d_M_areUp_41 ?_
          refine qx_if_lt X 49 d_M_areUp_42 (by decide) (fun q14 => ?_) (fun q14 => ?_)
          · have hw := hw.1 q14
            refine qx_iconst (v := (0 : Int32)) X d_M_areUp_49 (by decide) ?_
            exact qx_zret X hw (Nat.le_refl 0) (Nat.le_refl 0) rfl d_M_areUp_50
          · have hw := hw.2 q14
            refine qx_iconst (v := (1 : Int32)) X d_M_areUp_45 (by decide) ?_
            refine qx_goto X 50 d_M_areUp_46 (by decide) ?_
            exact qx_zret X hw (Nat.le_refl 0) (Nat.le_refl 0) rfl d_M_areUp_50
set_option maxRecDepth 4000 in
theorem t_M_changesFor {adK adV : Nat → Nat} (l : Launch) (D : va_G) (cy : Nat → ClassId) (b : Nat) (N : Nat) (x0 : Nat) (x1 : Int32) (x2 : Int32) (h : qH) (Q : qH → Prop) (hw : w_M_changesFor N x0 x1 x2 h Q) : Met l y_M_changesFor (Cond.code y_M_changesFor prog_14_method_70_code 3 (none) :: qT) (qrm 2 0 0 41) (qPc D cy b adK adV h [qr b x0, .int x1, .int x2]) (qQc D cy b qrV (fun (_ : Unit) h => Q h)) 0 0 (qA b) := by
  refine qmet (L0 := [(0, .inr (.inr (.inl x0))), (1, .inl x1), (2, .inl x2)]) qm_M_changesFor (plainFor_of_name (by decide)) [.inr (.inr (.inl x0)), .inl x1, .inl x2] rfl (Nat.le_of_ble_eq_true rfl) rfl (fun p e s m args below meth c X => ?_)
  unfold w_M_changesFor at hw
  refine qx_aload_n (x := x0) X d_M_changesFor_0 rfl 0 rfl ?_
  obtain ⟨g1, hw⟩ := hw
  refine qx_callVV (st := []) (As := []) X (t_M_copiesStill (adK := adK) (adV := adV) l D cy b N x0 h _ hw) qm_M_copiesStill wm_M_401 wi_M_copiesStill wl_M_copiesStill qcls12 g1 rfl rfl rfl ⟨Nat.le_of_ble_eq_true rfl, Nat.le_of_ble_eq_true rfl⟩ ⟨Nat.le_refl 0, Nat.le_refl 0⟩ (Nat.le_of_ble_eq_true rfl) rfl d_M_changesFor_1 (fun h2 hw => ?_)
  refine qx_aload_n (x := x0) X d_M_changesFor_4 rfl 0 rfl ?_
  obtain ⟨g3, hw⟩ := hw
  refine qx_getR X qcls12 g3 50 (by decide) rfl wf_M_116 d_M_changesFor_5 ?_
  refine qx_bipush (v := (6 : Int32)) X d_M_changesFor_8 (by decide) ?_
  refine qx_iload_n (x := x1) X d_M_changesFor_10 rfl 1 rfl ?_
  refine qx_iadd X d_M_changesFor_11 ?_
  refine qx_aload_n (x := x0) X d_M_changesFor_12 rfl 0 rfl ?_
  refine qx_getR X qcls12 g3 49 (by decide) rfl wf_M_113 d_M_changesFor_13 ?_
  refine qx_bipush (v := (6 : Int32)) X d_M_changesFor_16 (by decide) ?_
  refine qx_iload_n (x := x2) X d_M_changesFor_18 rfl 2 rfl ?_
  refine qx_iadd X d_M_changesFor_19 ?_
  obtain ⟨g4, hw⟩ := hw
  refine qx_ild X g4 d_M_changesFor_20 ?_
  obtain ⟨g5, hw⟩ := hw
  refine qx_ist X g5 d_M_changesFor_21 ?_
  refine qx_toph (fun h6 eh6 => ?_)
  have hw := hw h6 eh6
  refine qx_aload_n (x := x0) X d_M_changesFor_22 rfl 0 rfl ?_
  obtain ⟨g7, hw⟩ := hw
  refine qx_getR X qcls12 g7 50 (by decide) rfl wf_M_116 d_M_changesFor_23 ?_
  refine qx_bipush (v := (6 : Int32)) X d_M_changesFor_26 (by decide) ?_
  refine qx_iload_n (x := x2) X d_M_changesFor_28 rfl 2 rfl ?_
  refine qx_iadd X d_M_changesFor_29 ?_
  refine qx_aload_n (x := x0) X d_M_changesFor_30 rfl 0 rfl ?_
  refine qx_getR X qcls12 g7 49 (by decide) rfl wf_M_113 d_M_changesFor_31 ?_
  refine qx_bipush (v := (6 : Int32)) X d_M_changesFor_34 (by decide) ?_
  refine qx_iload_n (x := x1) X d_M_changesFor_36 rfl 1 rfl ?_
  refine qx_iadd X d_M_changesFor_37 ?_
  obtain ⟨g8, hw⟩ := hw
  refine qx_ild X g8 d_M_changesFor_38 ?_
  obtain ⟨g9, hw⟩ := hw
  refine qx_ist X g9 d_M_changesFor_39 ?_
  refine qx_toph (fun h10 eh10 => ?_)
  have hw := hw h10 eh10
  exact qx_vret X hw (Nat.le_refl 0) (Nat.le_refl 0) rfl d_M_changesFor_40
set_option maxRecDepth 4000 in
theorem t_M_change {adK adV : Nat → Nat} (l : Launch) (D : va_G) (cy : Nat → ClassId) (b : Nat) (N : Nat) (x0 : Nat) (x1 : Int32) (x2 : Int32) (h : qH) (Q : Int32 → qH → Prop) (hw : w_M_change N x0 x1 x2 h Q) : Met l y_M_change (Cond.code y_M_change prog_14_method_71_code 3 (some .boolean) :: qT) (qrm 3 0 0 65) (qPc D cy b adK adV h [qr b x0, .int x1, .int x2]) (qQc D cy b qrI Q) 0 0 (qA b) := by
  refine qmet (L0 := [(0, .inr (.inr (.inl x0))), (1, .inl x1), (2, .inl x2)]) qm_M_change (plainFor_of_name (by decide)) [.inr (.inr (.inl x0)), .inl x1, .inl x2] rfl (Nat.le_of_ble_eq_true rfl) rfl (fun p e s m args below meth c X => ?_)
  unfold w_M_change at hw
  refine qx_aload_n (x := x0) X d_M_change_0 rfl 0 rfl ?_
  refine qx_iload_n (x := x1) X d_M_change_1 rfl 1 rfl ?_
  refine qx_iload_n (x := x2) X d_M_change_2 rfl 2 rfl ?_
  obtain ⟨g1, hw⟩ := hw
  refine qx_callVI (st := []) (As := [.int x1, .int x2]) X (t_M_areUp (adK := adK) (adV := adV) l D cy b N x0 x1 x2 h _ hw) qm_M_areUp wm_M_404 wi_M_areUp wl_M_areUp qcls12 g1 rfl rfl rfl ⟨Nat.le_of_ble_eq_true rfl, Nat.le_of_ble_eq_true rfl⟩ ⟨Nat.le_refl 0, Nat.le_refl 0⟩ (Nat.le_of_ble_eq_true rfl) rfl d_M_change_3 (fun r2 h3 hw => ?_)
  refine qx_if_ne X 11 d_M_change_6 (by decide) (fun q4 => ?_) (fun q4 => ?_)
  · have hw := hw.1 q4
    refine qx_aload_n (x := x0) X d_M_change_11 rfl 0 rfl ?_
    refine qx_iload_n (x := x1) X d_M_change_12 rfl 1 rfl ?_
    refine qx_iload_n (x := x2) X d_M_change_13 rfl 2 rfl ?_
    obtain ⟨g5, hw⟩ := hw
    refine qx_callVV (st := []) (As := [.int x1, .int x2]) X (t_M_changesFor (adK := adK) (adV := adV) l D cy b N x0 x1 x2 h3 _ hw) qm_M_changesFor wm_M_408 wi_M_changesFor wl_M_changesFor qcls12 g5 rfl rfl rfl ⟨Nat.le_of_ble_eq_true rfl, Nat.le_of_ble_eq_true rfl⟩ ⟨Nat.le_refl 0, Nat.le_refl 0⟩ (Nat.le_of_ble_eq_true rfl) rfl d_M_change_14 (fun h6 hw => ?_)
    refine qx_aload_n (x := x0) X d_M_change_17 rfl 0 rfl ?_
    obtain ⟨g7, hw⟩ := hw
    refine qx_callVV (st := []) (As := []) X (t_M_records (adK := adK) (adV := adV) l D cy b N x0 h6 _ hw) qm_M_records wm_M_395 wi_M_records wl_M_records qcls12 g7 rfl rfl rfl ⟨Nat.le_of_ble_eq_true rfl, Nat.le_of_ble_eq_true rfl⟩ ⟨Nat.le_refl 0, Nat.le_refl 0⟩ (Nat.le_of_ble_eq_true rfl) rfl d_M_change_18 (fun h8 hw => ?_)
    refine qx_iconst (v := (1 : Int32)) X d_M_change_21 (by decide) ?_
    exact qx_zret X hw (Nat.le_refl 0) (Nat.le_refl 0) rfl d_M_change_22
  · have hw := hw.2 q4
    refine qx_iconst (v := (0 : Int32)) X d_M_change_9 (by decide) ?_
    exact qx_zret X hw (Nat.le_refl 0) (Nat.le_refl 0) rfl d_M_change_10
set_option maxRecDepth 4000 in
theorem t_M_straighten {adK adV : Nat → Nat} (l : Launch) (D : va_G) (cy : Nat → ClassId) (b : Nat) (N : Nat) (x0 : Nat) (x1 : Int32) (h : qH) (Q : Int32 → qH → Prop) (hw : w_M_straighten N x0 x1 h Q) : Met l y_M_straighten (Cond.code y_M_straighten prog_14_method_72_code 2 (some .boolean) :: qT) (qrm 3 0 0 64) (qPc D cy b adK adV h [qr b x0, .int x1]) (qQc D cy b qrI Q) 0 0 (qA b) := by
  refine qmet (L0 := [(0, .inr (.inr (.inl x0))), (1, .inl x1)]) qm_M_straighten (plainFor_of_name (by decide)) [.inr (.inr (.inl x0)), .inl x1] rfl (Nat.le_of_ble_eq_true rfl) rfl (fun p e s m args below meth c X => ?_)
  unfold w_M_straighten at hw
  refine qx_aload_n (x := x0) X d_M_straighten_0 rfl 0 rfl ?_
  refine qx_iload_n (x := x1) X d_M_straighten_1 rfl 1 rfl ?_
  obtain ⟨g1, hw⟩ := hw
  refine qx_callVI (st := []) (As := [.int x1]) X (t_M_isHanger (adK := adK) (adV := adV) l D cy b N x0 x1 h _ hw) qm_M_isHanger wm_M_386 wi_M_isHanger wl_M_isHanger qcls12 g1 rfl rfl rfl ⟨Nat.le_of_ble_eq_true rfl, Nat.le_of_ble_eq_true rfl⟩ ⟨Nat.le_refl 0, Nat.le_refl 0⟩ (Nat.le_of_ble_eq_true rfl) rfl d_M_straighten_2 (fun r2 h3 hw => ?_)
  refine qx_if_eq X 20 d_M_straighten_5 (by decide) (fun q4 => ?_) (fun q4 => ?_)
  · have hw := hw.1 q4
    refine qx_iconst (v := (0 : Int32)) X d_M_straighten_20 (by decide) ?_
    exact qx_zret X hw (Nat.le_refl 0) (Nat.le_refl 0) rfl d_M_straighten_21
  · have hw := hw.2 q4
    refine qx_aload_n (x := x0) X d_M_straighten_8 rfl 0 rfl ?_
    obtain ⟨g5, hw⟩ := hw
    refine qx_getR X qcls12 g5 49 (by decide) rfl wf_M_113 d_M_straighten_9 ?_
    refine qx_bipush (v := (24 : Int32)) X d_M_straighten_12 (by decide) ?_
    refine qx_iload_n (x := x1) X d_M_straighten_14 rfl 1 rfl ?_
    refine qx_iadd X d_M_straighten_15 ?_
    obtain ⟨g6, hw⟩ := hw
    refine qx_ild X g6 d_M_straighten_16 ?_
    refine qx_if_ne X 22 d_M_straighten_17 (by decide) (fun q7 => ?_) (fun q7 => ?_)
    · have hw := hw.1 q7
      refine qx_aload_n (x := x0) X d_M_straighten_22 rfl 0 rfl ?_
      refine qx_callVV (st := []) (As := []) X (t_M_copies (adK := adK) (adV := adV) l D cy b N x0 h3 _ hw) qm_M_copies wm_M_332 wi_M_copies wl_M_copies qcls12 g5 rfl rfl rfl ⟨Nat.le_of_ble_eq_true rfl, Nat.le_of_ble_eq_true rfl⟩ ⟨Nat.le_refl 0, Nat.le_refl 0⟩ (Nat.le_of_ble_eq_true rfl) rfl d_M_straighten_23 (fun h8 hw => ?_)
      refine qx_aload_n (x := x0) X d_M_straighten_26 rfl 0 rfl ?_
      refine qx_iload_n (x := x1) X d_M_straighten_27 rfl 1 rfl ?_
      obtain ⟨g9, hw⟩ := hw
      refine qx_callVI (st := []) (As := [.int x1]) X (t_M_whoIsOn (adK := adK) (adV := adV) l D cy b N x0 x1 h8 _ hw) qm_M_whoIsOn wm_M_389 wi_M_whoIsOn wl_M_whoIsOn qcls12 g9 rfl rfl rfl ⟨Nat.le_of_ble_eq_true rfl, Nat.le_of_ble_eq_true rfl⟩ ⟨Nat.le_refl 0, Nat.le_refl 0⟩ (Nat.le_of_ble_eq_true rfl) rfl d_M_straighten_28 (fun r10 h11 hw => ?_)
      refine qx_if_lt X 36 d_M_straighten_31 (by decide) (fun q12 => ?_) (fun q12 => ?_)
      · have hw := hw.1 q12
        refine qx_aload_n (x := x0) X d_M_straighten_36 rfl 0 rfl ?_
        refine qx_bipush (v := (24 : Int32)) X d_M_straighten_37 (by decide) ?_
        refine qx_iload_n (x := x1) X d_M_straighten_39 rfl 1 rfl ?_
        refine qx_iadd X d_M_straighten_40 ?_
        refine qx_iconst (v := (0 : Int32)) X d_M_straighten_41 (by decide) ?_
        obtain ⟨g13, hw⟩ := hw
        refine qx_callVV (st := []) (As := [.int ((24 : Int32) + x1), .int (0 : Int32)]) X (t_M_does (adK := adK) (adV := adV) l D cy b N x0 ((24 : Int32) + x1) (0 : Int32) h11 _ hw) qm_M_does wm_M_398 wi_M_does wl_M_does qcls12 g13 rfl rfl rfl ⟨Nat.le_of_ble_eq_true rfl, Nat.le_of_ble_eq_true rfl⟩ ⟨Nat.le_refl 0, Nat.le_refl 0⟩ (Nat.le_of_ble_eq_true rfl) rfl d_M_straighten_42 (fun h14 hw => ?_)
        refine qx_iconst (v := (1 : Int32)) X d_M_straighten_45 (by decide) ?_
        exact qx_zret X hw (Nat.le_refl 0) (Nat.le_refl 0) rfl d_M_straighten_46
      · have hw := hw.2 q12
        refine qx_iconst (v := (0 : Int32)) X d_M_straighten_34 (by decide) ?_
        exact qx_zret X hw (Nat.le_refl 0) (Nat.le_refl 0) rfl d_M_straighten_35
    · have hw := hw.2 q7
      refine qx_iconst (v := (0 : Int32)) X d_M_straighten_20 (by decide) ?_
      exact qx_zret X hw (Nat.le_refl 0) (Nat.le_refl 0) rfl d_M_straighten_21
set_option maxRecDepth 4000 in
theorem t_M_isLong {adK adV : Nat → Nat} (l : Launch) (D : va_G) (cy : Nat → ClassId) (b : Nat) (N : Nat) (x0 : Int32) (h : qH) (Q : Int32 → qH → Prop) (hw : w_M_isLong N x0 h Q) : Met l y_M_isLong (Cond.code y_M_isLong prog_14_method_73_code 1 (some .boolean) :: qT) (qrm 1 0 0 22) (qPc D cy b adK adV h [.int x0]) (qQc D cy b qrI Q) 0 0 (qA b) := by
  refine qmet (L0 := [(0, .inl x0)]) qm_M_isLong (plainFor_of_name (by decide)) [.inl x0] rfl (Nat.le_of_ble_eq_true rfl) rfl (fun p e s m args below meth c X => ?_)
  unfold w_M_isLong at hw
  refine qx_iload_n (x := x0) X d_M_isLong_0 rfl 0 rfl ?_
  refine qx_iconst (v := (0 : Int32)) X d_M_isLong_1 (by decide) ?_
  refine qx_bipush (v := (60 : Int32)) X d_M_isLong_2 (by decide) ?_
  refine qx_callSI (st := []) (As := [.int x0, .int (0 : Int32), .int (60 : Int32)]) X (t_M_in (adK := adK) (adV := adV) l D cy b N x0 (0 : Int32) (60 : Int32) h _ hw) qm_M_in wm_M_322 wi_M_in rfl rfl rfl ⟨Nat.le_of_ble_eq_true rfl, Nat.le_of_ble_eq_true rfl⟩ ⟨Nat.le_refl 0, Nat.le_refl 0⟩ (Nat.le_of_ble_eq_true rfl) rfl d_M_isLong_4 (fun r1 h2 hw => ?_)
  exact qx_zret X hw (Nat.le_refl 0) (Nat.le_refl 0) rfl d_M_isLong_7
set_option maxRecDepth 4000 in
theorem t_M_nights {adK adV : Nat → Nat} (l : Launch) (D : va_G) (cy : Nat → ClassId) (b : Nat) (N : Nat) (x0 : Nat) (x1 : Int32) (h : qH) (Q : Int32 → qH → Prop) (hw : w_M_nights N x0 x1 h Q) : Met l y_M_nights (Cond.code y_M_nights prog_14_method_74_code 2 (some .int) :: qT) (qrm 6 0 0 131) (qPc D cy b adK adV h [qr b x0, .int x1]) (qQc D cy b qrI Q) 0 0 (qA b) := by
  refine qmet (L0 := [(0, .inr (.inr (.inl x0))), (1, .inl x1)]) qm_M_nights (plainFor_of_name (by decide)) [.inr (.inr (.inl x0)), .inl x1] rfl (Nat.le_of_ble_eq_true rfl) rfl (fun p e s m args below meth c X => ?_)
  unfold w_M_nights at hw
  refine qx_iload_n (x := x1) X d_M_nights_0 rfl 1 rfl ?_
  refine qx_callSI (st := []) (As := [.int x1]) X (t_M_isLong (adK := adK) (adV := adV) l D cy b N x1 h _ hw) qm_M_isLong wm_M_411 wi_M_isLong rfl rfl rfl ⟨Nat.le_of_ble_eq_true rfl, Nat.le_of_ble_eq_true rfl⟩ ⟨Nat.le_refl 0, Nat.le_refl 0⟩ (Nat.le_of_ble_eq_true rfl) rfl d_M_nights_1 (fun r1 h2 hw => ?_)
  refine qx_if_ne X 9 d_M_nights_4 (by decide) (fun q3 => ?_) (fun q3 => ?_)
  · have hw := hw.1 q3
    refine qx_iload_n (x := x1) X d_M_nights_9 rfl 1 rfl ?_
    refine qx_if_ne X 21 d_M_nights_10 (by decide) (fun q4 => ?_) (fun q4 => ?_)
    · have hw := hw.1 q4
      refine qx_aload_n (x := x0) X d_M_nights_21 rfl 0 rfl ?_
      obtain ⟨g5, hw⟩ := hw
      refine qx_callVV (st := []) (As := []) X (t_M_copies (adK := adK) (adV := adV) l D cy b N x0 h2 _ hw) qm_M_copies wm_M_332 wi_M_copies wl_M_copies qcls12 g5 rfl rfl rfl ⟨Nat.le_of_ble_eq_true rfl, Nat.le_of_ble_eq_true rfl⟩ ⟨Nat.le_refl 0, Nat.le_refl 0⟩ (Nat.le_of_ble_eq_true rfl) rfl d_M_nights_22 (fun h6 hw => ?_)
      refine qx_aload_n (x := x0) X d_M_nights_25 rfl 0 rfl ?_
      refine qx_iload_n (x := x1) X d_M_nights_26 rfl 1 rfl ?_
      obtain ⟨g7, hw⟩ := hw
      refine qx_callVV (st := []) (As := [.int x1]) X (t_M_goes (adK := adK) (adV := adV) l D cy b N x0 x1 h6 _ hw) qm_M_goes wm_M_414 wi_M_goes wl_M_goes qcls12 g7 rfl rfl rfl ⟨Nat.le_of_ble_eq_true rfl, Nat.le_of_ble_eq_true rfl⟩ ⟨Nat.le_refl 0, Nat.le_refl 0⟩ (Nat.le_of_ble_eq_true rfl) rfl d_M_nights_27 (fun h8 hw => ?_)
      refine qx_aload_n (x := x0) X d_M_nights_30 rfl 0 rfl ?_
      obtain ⟨g9, hw⟩ := hw
      refine qx_callVV (st := []) (As := []) X (t_M_records (adK := adK) (adV := adV) l D cy b N x0 h8 _ hw) qm_M_records wm_M_395 wi_M_records wl_M_records qcls12 g9 rfl rfl rfl ⟨Nat.le_of_ble_eq_true rfl, Nat.le_of_ble_eq_true rfl⟩ ⟨Nat.le_refl 0, Nat.le_refl 0⟩ (Nat.le_of_ble_eq_true rfl) rfl d_M_nights_31 (fun h10 hw => ?_)
      refine qx_aload_n (x := x0) X d_M_nights_34 rfl 0 rfl ?_
      obtain ⟨g11, hw⟩ := hw
      refine qx_getR X qcls12 g11 49 (by decide) rfl wf_M_113 d_M_nights_35 ?_
      refine qx_bipush (v := (31 : Int32)) X d_M_nights_38 (by decide) ?_
      obtain ⟨g12, hw⟩ := hw
      refine qx_ild X g12 d_M_nights_40 ?_
      exact qx_iret X hw (Nat.le_refl 0) (Nat.le_refl 0) rfl d_M_nights_41
    · have hw := hw.2 q4
      refine qx_aload_n (x := x0) X d_M_nights_13 rfl 0 rfl ?_
      obtain ⟨g13, hw⟩ := hw
      refine qx_getR X qcls12 g13 49 (by decide) rfl wf_M_113 d_M_nights_14 ?_
      refine qx_bipush (v := (31 : Int32)) X d_M_nights_17 (by decide) ?_
      obtain ⟨g14, hw⟩ := hw
      refine qx_ild X g14 d_M_nights_19 ?_
      exact qx_iret X hw (Nat.le_refl 0) (Nat.le_refl 0) rfl d_M_nights_20
  · have hw := hw.2 q3
    refine qx_iconst (v := (-1 : Int32)) X d_M_nights_7 (by decide) ?_
    exact qx_iret X hw (Nat.le_refl 0) (Nat.le_refl 0) rfl d_M_nights_8
set_option maxRecDepth 4000 in
theorem t_M_undo_21 (X : qX p s m args meth c D cy b adK adV prog_14_method_75_code "CoatHangersModel" 2 (some .boolean) "undo") (N k : Nat) (x0 : Nat) (x1 : Int32) (h : qH) (Q : Int32 → qH → Prop)  (hw : w_M_undo_21 N k x0 x1 h Q ) : qW p l e (qrm 0 0 0 0) s m args below meth c D cy b 2 0 0 (MQ below (qQc D cy b qrI Q) args s 0 0 (qA b)) 21 [(0, .inr (.inr (.inl x0))), (1, .inl x1)] [] h := by
  induction k generalizing x0 x1 h with
  | zero => exact hw.elim
  | succ k ih =>
    refine qx_iload_n (x := x1) X d_M_undo_21 rfl 1 rfl ?_
    refine qx_bipush (v := (32 : Int32)) X d_M_undo_22 (by decide) ?_
    refine qx_icmp_ge X 53 d_M_undo_24 (by decide) (fun q1 => ?_) (fun q1 => ?_)
    · have hw := hw.1 q1
      refine qx_iconst (v := (1 : Int32)) X d_M_undo_53 (by decide) ?_
      exact qx_zret X hw (Nat.le_refl 0) (Nat.le_refl 0) rfl d_M_undo_54
    · have hw := hw.2 q1
      refine qx_aload_n (x := x0) X d_M_undo_27 rfl 0 rfl ?_
      obtain ⟨g2, hw⟩ := hw
      refine qx_getR X qcls12 g2 49 (by decide) rfl wf_M_113 d_M_undo_28 ?_
      refine qx_iload_n (x := x1) X d_M_undo_31 rfl 1 rfl ?_
      refine qx_aload_n (x := x0) X d_M_undo_32 rfl 0 rfl ?_
      refine qx_getR X qcls12 g2 58 (by decide) rfl wf_M_131 d_M_undo_33 ?_
      refine qx_bipush (v := (32 : Int32)) X d_M_undo_36 (by decide) ?_
      refine qx_aload_n (x := x0) X d_M_undo_38 rfl 0 rfl ?_
      refine qx_getI X qcls12 g2 57 (by decide) rfl wf_M_263 d_M_undo_39 ?_
      refine qx_imul X d_M_undo_42 ?_
      refine qx_iload_n (x := x1) X d_M_undo_43 rfl 1 rfl ?_
      refine qx_iadd X d_M_undo_44 ?_
      obtain ⟨g3, hw⟩ := hw
      refine qx_ild X g3 d_M_undo_45 ?_
      obtain ⟨g4, hw⟩ := hw
      refine qx_ist X g4 d_M_undo_46 ?_
      refine qx_toph (fun h5 eh5 => ?_)
      have hw := hw h5 eh5
      refine qx_iinc (v := (x1 + (1 : Int32))) (L' := [(1, .inl (x1 + (1 : Int32))), (0, .inr (.inr (.inl x0)))]) X d_M_undo_47 1 rfl rfl (by decide) rfl ?_
      refine qx_goto X 21 d_M_undo_50 (by decide) ?_
      refine qx_sub [1, 0] rfl ?_
      exact ih x0 (x1 + (1 : Int32)) h5 hw
set_option maxRecDepth 4000 in
theorem t_M_undo {adK adV : Nat → Nat} (l : Launch) (D : va_G) (cy : Nat → ClassId) (b : Nat) (N : Nat) (x0 : Nat) (h : qH) (Q : Int32 → qH → Prop) (hw : w_M_undo N x0 h Q) : Met l y_M_undo (Cond.code y_M_undo prog_14_method_75_code 2 (some .boolean) :: qT) (qrm 0 0 0 0) (qPc D cy b adK adV h [qr b x0]) (qQc D cy b qrI Q) 0 0 (qA b) := by
  refine qmet (L0 := [(0, .inr (.inr (.inl x0)))]) qm_M_undo (plainFor_of_name (by decide)) [.inr (.inr (.inl x0))] rfl (Nat.le_of_ble_eq_true rfl) rfl (fun p e s m args below meth c X => ?_)
  unfold w_M_undo at hw
  refine qx_aload_n (x := x0) X d_M_undo_0 rfl 0 rfl ?_
  obtain ⟨g1, hw⟩ := hw
  refine qx_getI X qcls12 g1 57 (by decide) rfl wf_M_263 d_M_undo_1 ?_
  refine qx_if_ne X 9 d_M_undo_4 (by decide) (fun q2 => ?_) (fun q2 => ?_)
  · have hw := hw.1 q2
    refine qx_aload_n (x := x0) X d_M_undo_9 rfl 0 rfl ?_
    refine qx_dup X (qr_cat _ _) d_M_undo_10 ?_
    refine qx_getI X qcls12 g1 57 (by decide) rfl wf_M_263 d_M_undo_11 ?_
    refine qx_iconst (v := (1 : Int32)) X d_M_undo_14 (by decide) ?_
    refine qx_isub X d_M_undo_15 ?_
    refine qx_putI X qcls12 g1 57 (by decide) rfl wf_M_263 rfl rfl rfl d_M_undo_16 ?_
    refine qx_toph (fun h3 eh3 => ?_)
    have hw := hw h3 eh3
    refine qx_iconst (v := (0 : Int32)) X d_M_undo_19 (by decide) ?_
    refine qx_istore_n (L' := [(1, .inl (0 : Int32)), (0, .inr (.inr (.inl x0)))]) X d_M_undo_20 rfl (by decide) rfl ?_
    refine qx_sub [1, 0] rfl ?_
    exact t_M_undo_21 X N N x0 (0 : Int32) h3 Q  hw 
  · have hw := hw.2 q2
    refine qx_iconst (v := (0 : Int32)) X d_M_undo_7 (by decide) ?_
    exact qx_zret X hw (Nat.le_refl 0) (Nat.le_refl 0) rfl d_M_undo_8
set_option maxRecDepth 4000 in
theorem t_M_fillsTable_21 (X : qX p s m args meth c D cy b adK adV prog_14_method_76_code "CoatHangersModel" 3 (none) "fillsTable") (N k : Nat) (x0 : Nat) (x1 : Int32) (x2 : Int32) (h : qH) (Q : qH → Prop) (K57 : Nat → Int32 → qH → Prop) (hw : w_M_fillsTable_21 N k x0 x1 x2 h Q K57) (hK57 : ∀ (x0 : Nat) (x1 : Int32) (h : qH), K57 x0 x1 h → qW p l e (qrm 3 0 0 75) s m args below meth c D cy b 3 0 0 (MQ below (qQc D cy b qrV (fun (_ : Unit) h => Q h)) args s 0 0 (qA b)) 57 [(0, .inr (.inr (.inl x0))), (1, .inl x1)] [] h) : qW p l e (qrm 3 0 0 75) s m args below meth c D cy b 3 0 0 (MQ below (qQc D cy b qrV (fun (_ : Unit) h => Q h)) args s 0 0 (qA b)) 21 [(0, .inr (.inr (.inl x0))), (1, .inl x1), (2, .inl x2)] [] h := by
  induction k generalizing x0 x1 x2 h with
  | zero => exact hw.elim
  | succ k ih =>
    refine qx_iload_n (x := x2) X d_M_fillsTable_21 rfl 2 rfl ?_
    refine qx_aload_n (x := x0) X d_M_fillsTable_22 rfl 0 rfl ?_
    obtain ⟨g1, hw⟩ := hw
    refine qx_getR X qcls12 g1 23 (by decide) rfl wf_M_46 d_M_fillsTable_23 ?_
    refine qx_aload_n (x := x0) X d_M_fillsTable_26 rfl 0 rfl ?_
    refine qx_getI X qcls12 g1 18 (by decide) rfl wf_M_245 d_M_fillsTable_27 ?_
    obtain ⟨g2, hw⟩ := hw
    refine qx_ild X g2 d_M_fillsTable_30 ?_
    refine qx_icmp_ge X 57 d_M_fillsTable_31 (by decide) (fun q3 => ?_) (fun q3 => ?_)
    · have hw := hw.1 q3
      refine qx_sub [0, 1] rfl ?_
      exact hK57 x0 x1 h hw
    · have hw := hw.2 q3
      refine qx_aload_n (x := x0) X d_M_fillsTable_34 rfl 0 rfl ?_
      refine qx_getR X qcls12 g1 60 (by decide) rfl wf_M_137 d_M_fillsTable_35 ?_
      refine qx_bipush (v := (7 : Int32)) X d_M_fillsTable_38 (by decide) ?_
      refine qx_iload_n (x := x1) X d_M_fillsTable_40 rfl 1 rfl ?_
      refine qx_imul X d_M_fillsTable_41 ?_
      refine qx_iload_n (x := x2) X d_M_fillsTable_42 rfl 2 rfl ?_
      refine qx_iadd X d_M_fillsTable_43 ?_
      refine qx_aload_n (x := x0) X d_M_fillsTable_44 rfl 0 rfl ?_
      refine qx_iload_n (x := x1) X d_M_fillsTable_45 rfl 1 rfl ?_
      refine qx_iload_n (x := x2) X d_M_fillsTable_46 rfl 2 rfl ?_
      refine qx_callVI (st := [.int (((7 : Int32) * x1) + x2), qr b (qR h x0 60)]) (As := [.int x1, .int x2]) X (t_M_costsAt (adK := adK) (adV := adV) l D cy b N x0 x1 x2 h _ hw) qm_M_costsAt wm_M_417 wi_M_costsAt wl_M_costsAt qcls12 g1 rfl rfl rfl ⟨Nat.le_of_ble_eq_true rfl, Nat.le_of_ble_eq_true rfl⟩ ⟨Nat.le_refl 0, Nat.le_refl 0⟩ (Nat.le_of_ble_eq_true rfl) rfl d_M_fillsTable_47 (fun r4 h5 hw => ?_)
      obtain ⟨g6, hw⟩ := hw
      refine qx_ist X g6 d_M_fillsTable_50 ?_
      refine qx_toph (fun h7 eh7 => ?_)
      have hw := hw h7 eh7
      refine qx_iinc (v := (x2 + (1 : Int32))) (L' := [(2, .inl (x2 + (1 : Int32))), (0, .inr (.inr (.inl x0))), (1, .inl x1)]) X d_M_fillsTable_51 2 rfl rfl (by decide) rfl ?_
      refine qx_goto X 21 d_M_fillsTable_54 (by decide) ?_
      refine qx_sub [1, 2, 0] rfl ?_
      exact ih x0 x1 (x2 + (1 : Int32)) h7 hw
set_option maxRecDepth 4000 in
theorem t_M_fillsTable_6 (X : qX p s m args meth c D cy b adK adV prog_14_method_76_code "CoatHangersModel" 3 (none) "fillsTable") (N k : Nat) (x0 : Nat) (x1 : Int32) (h : qH) (Q : qH → Prop)  (hw : w_M_fillsTable_6 N k x0 x1 h Q ) : qW p l e (qrm 3 0 0 75) s m args below meth c D cy b 3 0 0 (MQ below (qQc D cy b qrV (fun (_ : Unit) h => Q h)) args s 0 0 (qA b)) 6 [(0, .inr (.inr (.inl x0))), (1, .inl x1)] [] h := by
  induction k generalizing x0 x1 h with
  | zero => exact hw.elim
  | succ k ih =>
    refine qx_iload_n (x := x1) X d_M_fillsTable_6 rfl 1 rfl ?_
    refine qx_aload_n (x := x0) X d_M_fillsTable_7 rfl 0 rfl ?_
    obtain ⟨g1, hw⟩ := hw
    refine qx_getR X qcls12 g1 26 (by decide) rfl wf_M_55 d_M_fillsTable_8 ?_
    refine qx_aload_n (x := x0) X d_M_fillsTable_11 rfl 0 rfl ?_
    refine qx_getI X qcls12 g1 18 (by decide) rfl wf_M_245 d_M_fillsTable_12 ?_
    obtain ⟨g2, hw⟩ := hw
    refine qx_ild X g2 d_M_fillsTable_15 ?_
    refine qx_icmp_ge X 63 d_M_fillsTable_16 (by decide) (fun q3 => ?_) (fun q3 => ?_)
    · have hw := hw.1 q3
      exact qx_vret X hw (Nat.le_refl 0) (Nat.le_refl 0) rfl d_M_fillsTable_63
    · have hw := hw.2 q3
      refine qx_iconst (v := (0 : Int32)) X d_M_fillsTable_19 (by decide) ?_
      refine qx_istore_n (L' := [(2, .inl (0 : Int32)), (0, .inr (.inr (.inl x0))), (1, .inl x1)]) X d_M_fillsTable_20 rfl (by decide) rfl ?_
      refine qx_sub [1, 2, 0] rfl ?_
      refine t_M_fillsTable_21 X N N x0 x1 (0 : Int32) h Q _ hw (fun x4 x5 h6 hw => ?_)
      refine qx_iinc (v := (x5 + (1 : Int32))) (L' := [(1, .inl (x5 + (1 : Int32))), (0, .inr (.inr (.inl x4)))]) X d_M_fillsTable_57 1 rfl rfl (by decide) rfl ?_
      refine qx_goto X 6 d_M_fillsTable_60 (by decide) ?_
      refine qx_sub [1, 0] rfl ?_
      exact ih x4 (x5 + (1 : Int32)) h6 hw
set_option maxRecDepth 4000 in
theorem t_M_fillsTable {adK adV : Nat → Nat} (l : Launch) (D : va_G) (cy : Nat → ClassId) (b : Nat) (N : Nat) (x0 : Nat) (h : qH) (Q : qH → Prop) (hw : w_M_fillsTable N x0 h Q) : Met l y_M_fillsTable (Cond.code y_M_fillsTable prog_14_method_76_code 3 (none) :: qT) (qrm 3 0 0 75) (qPc D cy b adK adV h [qr b x0]) (qQc D cy b qrV (fun (_ : Unit) h => Q h)) 0 0 (qA b) := by
  refine qmet (L0 := [(0, .inr (.inr (.inl x0)))]) qm_M_fillsTable (plainFor_of_name (by decide)) [.inr (.inr (.inl x0))] rfl (Nat.le_of_ble_eq_true rfl) rfl (fun p e s m args below meth c X => ?_)
  unfold w_M_fillsTable at hw
  refine qx_aload_n (x := x0) X d_M_fillsTable_0 rfl 0 rfl ?_
  obtain ⟨g1, hw⟩ := hw
  refine qx_callVV (st := []) (As := []) X (t_M_copies (adK := adK) (adV := adV) l D cy b N x0 h _ hw) qm_M_copies wm_M_332 wi_M_copies wl_M_copies qcls12 g1 rfl rfl rfl ⟨Nat.le_of_ble_eq_true rfl, Nat.le_of_ble_eq_true rfl⟩ ⟨Nat.le_refl 0, Nat.le_refl 0⟩ (Nat.le_of_ble_eq_true rfl) rfl d_M_fillsTable_1 (fun h2 hw => ?_)
  refine qx_iconst (v := (0 : Int32)) X d_M_fillsTable_4 (by decide) ?_
  refine qx_istore_n (L' := [(1, .inl (0 : Int32)), (0, .inr (.inr (.inl x0)))]) X d_M_fillsTable_5 rfl (by decide) rfl ?_
  refine qx_sub [1, 0] rfl ?_
  exact t_M_fillsTable_6 X N N x0 (0 : Int32) h2 Q  hw 
end QG
