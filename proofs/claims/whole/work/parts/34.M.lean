/-! the reference, part 4: written by wip/whole/emit.py out of the bytecode -/
def y_M_bitOf : MethodName := ⟨"CoatHangersModel", "bitOf", "(I)I"⟩
theorem qm_M_bitOf : qMt y_M_bitOf prog_14_method_77_code 2 (some .int) 1 := ⟨qT_8 (i := 59) (by decide +kernel) rfl, qT_1 (i := 17) (by decide +kernel) rfl, by decide, by decide, by decide +kernel⟩
theorem wi_M_bitOf : Cond.instanceMethod y_M_bitOf ∈ qT := qT_8 (i := 58) (by decide +kernel) rfl
theorem wl_M_bitOf : Cond.selects y_M_bitOf.cls y_M_bitOf y_M_bitOf ∈ qT := qT_s (i := 106) (by decide +kernel) rfl
def y_M_with : MethodName := ⟨"CoatHangersModel", "with", "(III)I"⟩
theorem qm_M_with : qMt y_M_with prog_14_method_78_code 4 (some .int) 3 := ⟨qT_8 (i := 63) (by decide +kernel) rfl, qT_1 (i := 17) (by decide +kernel) rfl, by decide, by decide, by decide +kernel⟩
theorem wi_M_with : Cond.instanceMethod y_M_with ∈ qT := qT_8 (i := 62) (by decide +kernel) rfl
theorem wl_M_with : Cond.selects y_M_with.cls y_M_with y_M_with ∈ qT := qT_s (i := 107) (by decide +kernel) rfl
def y_M_fillsLeast : MethodName := ⟨"CoatHangersModel", "fillsLeast", "(Z)V"⟩
theorem qm_M_fillsLeast : qMt y_M_fillsLeast prog_14_method_79_code 6 (none) 1 := ⟨qT_8 (i := 47) (by decide +kernel) rfl, qT_1 (i := 17) (by decide +kernel) rfl, by decide, by decide, by decide +kernel⟩
theorem wi_M_fillsLeast : Cond.instanceMethod y_M_fillsLeast ∈ qT := qT_8 (i := 46) (by decide +kernel) rfl
theorem wl_M_fillsLeast : Cond.selects y_M_fillsLeast.cls y_M_fillsLeast y_M_fillsLeast ∈ qT := qT_s (i := 103) (by decide +kernel) rfl
def y_M_lowestFor : MethodName := ⟨"CoatHangersModel", "lowestFor", "(II)I"⟩
theorem qm_M_lowestFor : qMt y_M_lowestFor prog_14_method_80_code 4 (some .int) 2 := ⟨qT_8 (i := 70) (by decide +kernel) rfl, qT_1 (i := 17) (by decide +kernel) rfl, by decide, by decide, by decide +kernel⟩
theorem wi_M_lowestFor : Cond.instanceMethod y_M_lowestFor ∈ qT := qT_8 (i := 69) (by decide +kernel) rfl
theorem wl_M_lowestFor : Cond.selects y_M_lowestFor.cls y_M_lowestFor y_M_lowestFor ∈ qT := qT_s (i := 108) (by decide +kernel) rfl
def y_M_costOf : MethodName := ⟨"CoatHangersModel", "costOf", "(I)I"⟩
theorem qm_M_costOf : qMt y_M_costOf prog_14_method_81_code 2 (some .int) 1 := ⟨qT_8 (i := 66) (by decide +kernel) rfl, qT_1 (i := 17) (by decide +kernel) rfl, by decide, by decide, by decide +kernel⟩
theorem wi_M_costOf : Cond.static y_M_costOf ∈ qT := qT_8 (i := 65) (by decide +kernel) rfl
def y_M_hangs : MethodName := ⟨"CoatHangersModel", "hangs", "(IZ)I"⟩
theorem qm_M_hangs : qMt y_M_hangs prog_14_method_82_code 6 (some .int) 2 := ⟨qT_8 (i := 43) (by decide +kernel) rfl, qT_1 (i := 17) (by decide +kernel) rfl, by decide, by decide, by decide +kernel⟩
theorem wi_M_hangs : Cond.instanceMethod y_M_hangs ∈ qT := qT_8 (i := 42) (by decide +kernel) rfl
theorem wl_M_hangs : Cond.selects y_M_hangs.cls y_M_hangs y_M_hangs ∈ qT := qT_s (i := 102) (by decide +kernel) rfl
def y_M_hanging : MethodName := ⟨"CoatHangersModel", "hanging", "(I)I"⟩
theorem qm_M_hanging : qMt y_M_hanging prog_14_method_83_code 2 (some .int) 1 := ⟨qT_8 (i := 39) (by decide +kernel) rfl, qT_1 (i := 17) (by decide +kernel) rfl, by decide, by decide, by decide +kernel⟩
theorem wi_M_hanging : Cond.instanceMethod y_M_hanging ∈ qT := qT_8 (i := 37) (by decide +kernel) rfl
theorem wl_M_hanging : Cond.selects y_M_hanging.cls y_M_hanging y_M_hanging ∈ qT := qT_8 (i := 38) (by decide +kernel) rfl
def y_M_apart : MethodName := ⟨"CoatHangersModel", "apart", "(I)I"⟩
theorem qm_M_apart : qMt y_M_apart prog_14_method_84_code 2 (some .int) 1 := ⟨qT_8 (i := 74) (by decide +kernel) rfl, qT_1 (i := 17) (by decide +kernel) rfl, by decide, by decide, by decide +kernel⟩
theorem wi_M_apart : Cond.instanceMethod y_M_apart ∈ qT := qT_8 (i := 72) (by decide +kernel) rfl
theorem wl_M_apart : Cond.selects y_M_apart.cls y_M_apart y_M_apart ∈ qT := qT_8 (i := 73) (by decide +kernel) rfl
def y_M_missed : MethodName := ⟨"CoatHangersModel", "missed", "(I)I"⟩
theorem qm_M_missed : qMt y_M_missed prog_14_method_85_code 6 (some .int) 1 := ⟨qT_8 (i := 78) (by decide +kernel) rfl, qT_1 (i := 17) (by decide +kernel) rfl, by decide, by decide, by decide +kernel⟩
theorem wi_M_missed : Cond.instanceMethod y_M_missed ∈ qT := qT_8 (i := 76) (by decide +kernel) rfl
theorem wl_M_missed : Cond.selects y_M_missed.cls y_M_missed y_M_missed ∈ qT := qT_8 (i := 77) (by decide +kernel) rfl
def y_M_ways : MethodName := ⟨"CoatHangersModel", "ways", "(I)I"⟩
theorem qm_M_ways : qMt y_M_ways prog_14_method_86_code 7 (some .int) 1 := ⟨qT_8 (i := 82) (by decide +kernel) rfl, qT_1 (i := 17) (by decide +kernel) rfl, by decide, by decide, by decide +kernel⟩
theorem wi_M_ways : Cond.instanceMethod y_M_ways ∈ qT := qT_8 (i := 80) (by decide +kernel) rfl
theorem wl_M_ways : Cond.selects y_M_ways.cls y_M_ways y_M_ways ∈ qT := qT_8 (i := 81) (by decide +kernel) rfl
def y_M_sets : MethodName := ⟨"CoatHangersModel", "sets", "()I"⟩
theorem qm_M_sets : qMt y_M_sets prog_14_method_87_code 5 (some .int) 0 := ⟨qT_8 (i := 86) (by decide +kernel) rfl, qT_1 (i := 17) (by decide +kernel) rfl, by decide, by decide, by decide +kernel⟩
theorem wi_M_sets : Cond.instanceMethod y_M_sets ∈ qT := qT_8 (i := 84) (by decide +kernel) rfl
theorem wl_M_sets : Cond.selects y_M_sets.cls y_M_sets y_M_sets ∈ qT := qT_8 (i := 85) (by decide +kernel) rfl
def y_M_changes : MethodName := ⟨"CoatHangersModel", "changes", "()I"⟩
theorem qm_M_changes : qMt y_M_changes prog_14_method_88_code 1 (some .int) 0 := ⟨qT_8 (i := 90) (by decide +kernel) rfl, qT_1 (i := 17) (by decide +kernel) rfl, by decide, by decide, by decide +kernel⟩
theorem wi_M_changes : Cond.instanceMethod y_M_changes ∈ qT := qT_8 (i := 88) (by decide +kernel) rfl
theorem wl_M_changes : Cond.selects y_M_changes.cls y_M_changes y_M_changes ∈ qT := qT_8 (i := 89) (by decide +kernel) rfl
def y_M_ownBits : MethodName := ⟨"CoatHangersModel", "ownBits", "()I"⟩
theorem qm_M_ownBits : qMt y_M_ownBits prog_14_method_89_code 3 (some .int) 0 := ⟨qT_8 (i := 99) (by decide +kernel) rfl, qT_1 (i := 17) (by decide +kernel) rfl, by decide, by decide, by decide +kernel⟩
theorem wi_M_ownBits : Cond.instanceMethod y_M_ownBits ∈ qT := qT_8 (i := 98) (by decide +kernel) rfl
theorem wl_M_ownBits : Cond.selects y_M_ownBits.cls y_M_ownBits y_M_ownBits ∈ qT := qT_s (i := 109) (by decide +kernel) rfl
def y_M_themselves : MethodName := ⟨"CoatHangersModel", "themselves", "()I"⟩
theorem qm_M_themselves : qMt y_M_themselves prog_14_method_90_code 2 (some .int) 0 := ⟨qT_8 (i := 95) (by decide +kernel) rfl, qT_1 (i := 17) (by decide +kernel) rfl, by decide, by decide, by decide +kernel⟩
theorem wi_M_themselves : Cond.instanceMethod y_M_themselves ∈ qT := qT_8 (i := 93) (by decide +kernel) rfl
theorem wl_M_themselves : Cond.selects y_M_themselves.cls y_M_themselves y_M_themselves ∈ qT := qT_8 (i := 94) (by decide +kernel) rfl
def y_M_day : MethodName := ⟨"CoatHangersModel", "day", "(I)I"⟩
theorem qm_M_day : qMt y_M_day prog_14_method_91_code 3 (some .int) 1 := ⟨qT_8 (i := 103) (by decide +kernel) rfl, qT_1 (i := 17) (by decide +kernel) rfl, by decide, by decide, by decide +kernel⟩
theorem wi_M_day : Cond.instanceMethod y_M_day ∈ qT := qT_8 (i := 101) (by decide +kernel) rfl
theorem wl_M_day : Cond.selects y_M_day.cls y_M_day y_M_day ∈ qT := qT_8 (i := 102) (by decide +kernel) rfl
def y_M_areAsNow : MethodName := ⟨"CoatHangersModel", "areAsNow", "()Z"⟩
theorem qm_M_areAsNow : qMt y_M_areAsNow prog_14_method_92_code 2 (some .boolean) 0 := ⟨qT_8 (i := 111) (by decide +kernel) rfl, qT_1 (i := 17) (by decide +kernel) rfl, by decide, by decide, by decide +kernel⟩
theorem wi_M_areAsNow : Cond.instanceMethod y_M_areAsNow ∈ qT := qT_8 (i := 110) (by decide +kernel) rfl
theorem wl_M_areAsNow : Cond.selects y_M_areAsNow.cls y_M_areAsNow y_M_areAsNow ∈ qT := qT_s (i := 110) (by decide +kernel) rfl
def y_M_round : MethodName := ⟨"CoatHangersModel", "round", "()I"⟩
theorem qm_M_round : qMt y_M_round prog_14_method_93_code 2 (some .int) 0 := ⟨qT_8 (i := 107) (by decide +kernel) rfl, qT_1 (i := 17) (by decide +kernel) rfl, by decide, by decide, by decide +kernel⟩
theorem wi_M_round : Cond.instanceMethod y_M_round ∈ qT := qT_8 (i := 105) (by decide +kernel) rfl
theorem wl_M_round : Cond.selects y_M_round.cls y_M_round y_M_round ∈ qT := qT_8 (i := 106) (by decide +kernel) rfl
def y_M_crossed : MethodName := ⟨"CoatHangersModel", "crossed", "(I)I"⟩
theorem qm_M_crossed : qMt y_M_crossed prog_14_method_94_code 6 (some .int) 1 := ⟨qT_8 (i := 115) (by decide +kernel) rfl, qT_1 (i := 17) (by decide +kernel) rfl, by decide, by decide, by decide +kernel⟩
theorem wi_M_crossed : Cond.instanceMethod y_M_crossed ∈ qT := qT_8 (i := 113) (by decide +kernel) rfl
theorem wl_M_crossed : Cond.selects y_M_crossed.cls y_M_crossed y_M_crossed ∈ qT := qT_8 (i := 114) (by decide +kernel) rfl
def y_M_holder : MethodName := ⟨"CoatHangersModel", "holder", "(I)I"⟩
theorem qm_M_holder : qMt y_M_holder prog_14_method_95_code 3 (some .int) 1 := ⟨qT_8 (i := 119) (by decide +kernel) rfl, qT_1 (i := 17) (by decide +kernel) rfl, by decide, by decide, by decide +kernel⟩
theorem wi_M_holder : Cond.instanceMethod y_M_holder ∈ qT := qT_8 (i := 117) (by decide +kernel) rfl
theorem wl_M_holder : Cond.selects y_M_holder.cls y_M_holder y_M_holder ∈ qT := qT_8 (i := 118) (by decide +kernel) rfl
def y_M_fit : MethodName := ⟨"CoatHangersModel", "fit", "(II)I"⟩
theorem qm_M_fit : qMt y_M_fit prog_14_method_96_code 5 (some .int) 2 := ⟨qT_8 (i := 123) (by decide +kernel) rfl, qT_1 (i := 17) (by decide +kernel) rfl, by decide, by decide, by decide +kernel⟩
theorem wi_M_fit : Cond.instanceMethod y_M_fit ∈ qT := qT_8 (i := 121) (by decide +kernel) rfl
theorem wl_M_fit : Cond.selects y_M_fit.cls y_M_fit y_M_fit ∈ qT := qT_8 (i := 122) (by decide +kernel) rfl
theorem wf_M_420 : Cond.fieldLink "CoatHangersModel" 420 "CoatHangersModel" "byNails" "Z" ∈ qT := qT_6 (i := 105) (by decide +kernel) rfl
theorem wf_M_134 : Cond.fieldLink "CoatHangersModel" 134 "CoatHangersModel" "leastFrom" "[I" ∈ qT := qT_6 (i := 103) (by decide +kernel) rfl
theorem wm_M_423 : Cond.methodLink "CoatHangersModel" 423 y_M_bitOf ∈ qT := qT_8 (i := 56) (by decide +kernel) rfl
theorem wm_M_426 : Cond.methodLink "CoatHangersModel" 426 y_M_fillsTable ∈ qT := qT_8 (i := 48) (by decide +kernel) rfl
theorem wm_M_429 : Cond.methodLink "CoatHangersModel" 429 y_M_with ∈ qT := qT_8 (i := 60) (by decide +kernel) rfl
theorem wm_M_432 : Cond.methodLink "CoatHangersModel" 432 y_M_fillsLeast ∈ qT := qT_8 (i := 44) (by decide +kernel) rfl
theorem wm_M_438 : Cond.methodLink "CoatHangersModel" 438 y_M_lowestFor ∈ qT := qT_8 (i := 67) (by decide +kernel) rfl
theorem wm_M_435 : Cond.methodLink "CoatHangersModel" 435 y_M_costOf ∈ qT := qT_8 (i := 64) (by decide +kernel) rfl
theorem wm_M_441 : Cond.methodLink "CoatHangersModel" 441 y_M_hangs ∈ qT := qT_8 (i := 40) (by decide +kernel) rfl
theorem wf_M_140 : Cond.fieldLink "CoatHangersModel" 140 "CoatHangersModel" "waysFrom" "[I" ∈ qT := qT_6 (i := 106) (by decide +kernel) rfl
theorem wm_M_445 : Cond.methodLink "CoatHangersModel" 445 y_M_sets ∈ qT := qT_8 (i := 91) (by decide +kernel) rfl
theorem wm_M_448 : Cond.methodLink "CoatHangersModel" 448 y_M_ownBits ∈ qT := qT_8 (i := 96) (by decide +kernel) rfl
theorem wm_M_451 : Cond.methodLink "CoatHangersModel" 451 y_M_areAsNow ∈ qT := qT_8 (i := 108) (by decide +kernel) rfl
theorem d_M_bitOf_0 : decode prog_14_method_77_code 0 = .ok (.iconst 1, 1) := by decide +kernel
theorem d_M_bitOf_1 : decode prog_14_method_77_code 1 = .ok (.aload_n 0, 1) := by decide +kernel
theorem d_M_bitOf_2 : decode prog_14_method_77_code 2 = .ok (.getfield 420, 3) := by decide +kernel
theorem d_M_bitOf_5 : decode prog_14_method_77_code 5 = .ok (.ifCond .eq 11, 3) := by decide +kernel
theorem d_M_bitOf_8 : decode prog_14_method_77_code 8 = .ok (.aload_n 0, 1) := by decide +kernel
theorem d_M_bitOf_9 : decode prog_14_method_77_code 9 = .ok (.iload_n 1, 1) := by decide +kernel
theorem d_M_bitOf_10 : decode prog_14_method_77_code 10 = .ok (.invokevirtual 345, 3) := by decide +kernel
theorem d_M_bitOf_13 : decode prog_14_method_77_code 13 = .ok (.goto 4, 3) := by decide +kernel
theorem d_M_bitOf_16 : decode prog_14_method_77_code 16 = .ok (.iload_n 1, 1) := by decide +kernel
theorem d_M_bitOf_17 : decode prog_14_method_77_code 17 = .ok (.ishl, 1) := by decide +kernel
theorem d_M_bitOf_18 : decode prog_14_method_77_code 18 = .ok (.ireturn, 1) := by decide +kernel
theorem d_M_with_0 : decode prog_14_method_78_code 0 = .ok (.aload_n 0, 1) := by decide +kernel
theorem d_M_with_1 : decode prog_14_method_78_code 1 = .ok (.getfield 137, 3) := by decide +kernel
theorem d_M_with_4 : decode prog_14_method_78_code 4 = .ok (.bipush 7, 2) := by decide +kernel
theorem d_M_with_6 : decode prog_14_method_78_code 6 = .ok (.iload_n 1, 1) := by decide +kernel
theorem d_M_with_7 : decode prog_14_method_78_code 7 = .ok (.imul, 1) := by decide +kernel
theorem d_M_with_8 : decode prog_14_method_78_code 8 = .ok (.iload_n 2, 1) := by decide +kernel
theorem d_M_with_9 : decode prog_14_method_78_code 9 = .ok (.iadd, 1) := by decide +kernel
theorem d_M_with_10 : decode prog_14_method_78_code 10 = .ok (.iaload, 1) := by decide +kernel
theorem d_M_with_11 : decode prog_14_method_78_code 11 = .ok (.sipush 10000, 3) := by decide +kernel
theorem d_M_with_14 : decode prog_14_method_78_code 14 = .ok (.isub, 1) := by decide +kernel
theorem d_M_with_15 : decode prog_14_method_78_code 15 = .ok (.aload_n 0, 1) := by decide +kernel
theorem d_M_with_16 : decode prog_14_method_78_code 16 = .ok (.getfield 134, 3) := by decide +kernel
theorem d_M_with_19 : decode prog_14_method_78_code 19 = .ok (.sipush 128, 3) := by decide +kernel
theorem d_M_with_22 : decode prog_14_method_78_code 22 = .ok (.iload_n 1, 1) := by decide +kernel
theorem d_M_with_23 : decode prog_14_method_78_code 23 = .ok (.imul, 1) := by decide +kernel
theorem d_M_with_24 : decode prog_14_method_78_code 24 = .ok (.sipush 128, 3) := by decide +kernel
theorem d_M_with_27 : decode prog_14_method_78_code 27 = .ok (.iadd, 1) := by decide +kernel
theorem d_M_with_28 : decode prog_14_method_78_code 28 = .ok (.iload_n 3, 1) := by decide +kernel
theorem d_M_with_29 : decode prog_14_method_78_code 29 = .ok (.aload_n 0, 1) := by decide +kernel
theorem d_M_with_30 : decode prog_14_method_78_code 30 = .ok (.iload_n 2, 1) := by decide +kernel
theorem d_M_with_31 : decode prog_14_method_78_code 31 = .ok (.invokevirtual 423, 3) := by decide +kernel
theorem d_M_with_34 : decode prog_14_method_78_code 34 = .ok (.ior, 1) := by decide +kernel
theorem d_M_with_35 : decode prog_14_method_78_code 35 = .ok (.iadd, 1) := by decide +kernel
theorem d_M_with_36 : decode prog_14_method_78_code 36 = .ok (.iaload, 1) := by decide +kernel
theorem d_M_with_37 : decode prog_14_method_78_code 37 = .ok (.iadd, 1) := by decide +kernel
theorem d_M_with_38 : decode prog_14_method_78_code 38 = .ok (.ireturn, 1) := by decide +kernel
theorem d_M_fillsLeast_0 : decode prog_14_method_79_code 0 = .ok (.aload_n 0, 1) := by decide +kernel
theorem d_M_fillsLeast_1 : decode prog_14_method_79_code 1 = .ok (.iload_n 1, 1) := by decide +kernel
theorem d_M_fillsLeast_2 : decode prog_14_method_79_code 2 = .ok (.putfield 420, 3) := by decide +kernel
theorem d_M_fillsLeast_5 : decode prog_14_method_79_code 5 = .ok (.aload_n 0, 1) := by decide +kernel
theorem d_M_fillsLeast_6 : decode prog_14_method_79_code 6 = .ok (.invokevirtual 426, 3) := by decide +kernel
theorem d_M_fillsLeast_9 : decode prog_14_method_79_code 9 = .ok (.iconst 0, 1) := by decide +kernel
theorem d_M_fillsLeast_10 : decode prog_14_method_79_code 10 = .ok (.istore_n 2, 1) := by decide +kernel
theorem d_M_fillsLeast_11 : decode prog_14_method_79_code 11 = .ok (.iload_n 2, 1) := by decide +kernel
theorem d_M_fillsLeast_12 : decode prog_14_method_79_code 12 = .ok (.sipush 128, 3) := by decide +kernel
theorem d_M_fillsLeast_15 : decode prog_14_method_79_code 15 = .ok (.if_icmp .ge 30, 3) := by decide +kernel
theorem d_M_fillsLeast_18 : decode prog_14_method_79_code 18 = .ok (.aload_n 0, 1) := by decide +kernel
theorem d_M_fillsLeast_19 : decode prog_14_method_79_code 19 = .ok (.getfield 134, 3) := by decide +kernel
theorem d_M_fillsLeast_22 : decode prog_14_method_79_code 22 = .ok (.sipush 128, 3) := by decide +kernel
theorem d_M_fillsLeast_25 : decode prog_14_method_79_code 25 = .ok (.aload_n 0, 1) := by decide +kernel
theorem d_M_fillsLeast_26 : decode prog_14_method_79_code 26 = .ok (.getfield 55, 3) := by decide +kernel
theorem d_M_fillsLeast_29 : decode prog_14_method_79_code 29 = .ok (.aload_n 0, 1) := by decide +kernel
theorem d_M_fillsLeast_30 : decode prog_14_method_79_code 30 = .ok (.getfield 245, 3) := by decide +kernel
theorem d_M_fillsLeast_33 : decode prog_14_method_79_code 33 = .ok (.iaload, 1) := by decide +kernel
theorem d_M_fillsLeast_34 : decode prog_14_method_79_code 34 = .ok (.imul, 1) := by decide +kernel
theorem d_M_fillsLeast_35 : decode prog_14_method_79_code 35 = .ok (.iload_n 2, 1) := by decide +kernel
theorem d_M_fillsLeast_36 : decode prog_14_method_79_code 36 = .ok (.iadd, 1) := by decide +kernel
theorem d_M_fillsLeast_37 : decode prog_14_method_79_code 37 = .ok (.iconst 0, 1) := by decide +kernel
theorem d_M_fillsLeast_38 : decode prog_14_method_79_code 38 = .ok (.iastore, 1) := by decide +kernel
theorem d_M_fillsLeast_39 : decode prog_14_method_79_code 39 = .ok (.iinc 2 1, 3) := by decide +kernel
theorem d_M_fillsLeast_42 : decode prog_14_method_79_code 42 = .ok (.goto (-31), 3) := by decide +kernel
theorem d_M_fillsLeast_45 : decode prog_14_method_79_code 45 = .ok (.aload_n 0, 1) := by decide +kernel
theorem d_M_fillsLeast_46 : decode prog_14_method_79_code 46 = .ok (.getfield 55, 3) := by decide +kernel
theorem d_M_fillsLeast_49 : decode prog_14_method_79_code 49 = .ok (.aload_n 0, 1) := by decide +kernel
theorem d_M_fillsLeast_50 : decode prog_14_method_79_code 50 = .ok (.getfield 245, 3) := by decide +kernel
theorem d_M_fillsLeast_53 : decode prog_14_method_79_code 53 = .ok (.iaload, 1) := by decide +kernel
theorem d_M_fillsLeast_54 : decode prog_14_method_79_code 54 = .ok (.iconst 1, 1) := by decide +kernel
theorem d_M_fillsLeast_55 : decode prog_14_method_79_code 55 = .ok (.isub, 1) := by decide +kernel
theorem d_M_fillsLeast_56 : decode prog_14_method_79_code 56 = .ok (.istore_n 2, 1) := by decide +kernel
theorem d_M_fillsLeast_57 : decode prog_14_method_79_code 57 = .ok (.iload_n 2, 1) := by decide +kernel
theorem d_M_fillsLeast_58 : decode prog_14_method_79_code 58 = .ok (.ifCond .lt 113, 3) := by decide +kernel
theorem d_M_fillsLeast_61 : decode prog_14_method_79_code 61 = .ok (.iconst 0, 1) := by decide +kernel
theorem d_M_fillsLeast_62 : decode prog_14_method_79_code 62 = .ok (.istore_n 3, 1) := by decide +kernel
theorem d_M_fillsLeast_63 : decode prog_14_method_79_code 63 = .ok (.iload_n 3, 1) := by decide +kernel
theorem d_M_fillsLeast_64 : decode prog_14_method_79_code 64 = .ok (.sipush 128, 3) := by decide +kernel
theorem d_M_fillsLeast_67 : decode prog_14_method_79_code 67 = .ok (.if_icmp .ge 98, 3) := by decide +kernel
theorem d_M_fillsLeast_70 : decode prog_14_method_79_code 70 = .ok (.aload_n 0, 1) := by decide +kernel
theorem d_M_fillsLeast_71 : decode prog_14_method_79_code 71 = .ok (.getfield 134, 3) := by decide +kernel
theorem d_M_fillsLeast_74 : decode prog_14_method_79_code 74 = .ok (.sipush 128, 3) := by decide +kernel
theorem d_M_fillsLeast_77 : decode prog_14_method_79_code 77 = .ok (.iload_n 2, 1) := by decide +kernel
theorem d_M_fillsLeast_78 : decode prog_14_method_79_code 78 = .ok (.imul, 1) := by decide +kernel
theorem d_M_fillsLeast_79 : decode prog_14_method_79_code 79 = .ok (.sipush 128, 3) := by decide +kernel
theorem d_M_fillsLeast_82 : decode prog_14_method_79_code 82 = .ok (.iadd, 1) := by decide +kernel
theorem d_M_fillsLeast_83 : decode prog_14_method_79_code 83 = .ok (.iload_n 3, 1) := by decide +kernel
theorem d_M_fillsLeast_84 : decode prog_14_method_79_code 84 = .ok (.iadd, 1) := by decide +kernel
theorem d_M_fillsLeast_85 : decode prog_14_method_79_code 85 = .ok (.iaload, 1) := by decide +kernel
theorem d_M_fillsLeast_86 : decode prog_14_method_79_code 86 = .ok (.istore 4, 2) := by decide +kernel
theorem d_M_fillsLeast_88 : decode prog_14_method_79_code 88 = .ok (.iconst 0, 1) := by decide +kernel
theorem d_M_fillsLeast_89 : decode prog_14_method_79_code 89 = .ok (.istore 5, 2) := by decide +kernel
theorem d_M_fillsLeast_91 : decode prog_14_method_79_code 91 = .ok (.iload 5, 2) := by decide +kernel
theorem d_M_fillsLeast_93 : decode prog_14_method_79_code 93 = .ok (.aload_n 0, 1) := by decide +kernel
theorem d_M_fillsLeast_94 : decode prog_14_method_79_code 94 = .ok (.getfield 46, 3) := by decide +kernel
theorem d_M_fillsLeast_97 : decode prog_14_method_79_code 97 = .ok (.aload_n 0, 1) := by decide +kernel
theorem d_M_fillsLeast_98 : decode prog_14_method_79_code 98 = .ok (.getfield 245, 3) := by decide +kernel
theorem d_M_fillsLeast_101 : decode prog_14_method_79_code 101 = .ok (.iaload, 1) := by decide +kernel
theorem d_M_fillsLeast_102 : decode prog_14_method_79_code 102 = .ok (.if_icmp .ge 43, 3) := by decide +kernel
theorem d_M_fillsLeast_105 : decode prog_14_method_79_code 105 = .ok (.iload_n 3, 1) := by decide +kernel
theorem d_M_fillsLeast_106 : decode prog_14_method_79_code 106 = .ok (.aload_n 0, 1) := by decide +kernel
theorem d_M_fillsLeast_107 : decode prog_14_method_79_code 107 = .ok (.iload 5, 2) := by decide +kernel
theorem d_M_fillsLeast_109 : decode prog_14_method_79_code 109 = .ok (.invokevirtual 423, 3) := by decide +kernel
theorem d_M_fillsLeast_112 : decode prog_14_method_79_code 112 = .ok (.iand, 1) := by decide +kernel
theorem d_M_fillsLeast_113 : decode prog_14_method_79_code 113 = .ok (.ifCond .ne 26, 3) := by decide +kernel
theorem d_M_fillsLeast_116 : decode prog_14_method_79_code 116 = .ok (.aload_n 0, 1) := by decide +kernel
theorem d_M_fillsLeast_117 : decode prog_14_method_79_code 117 = .ok (.iload_n 2, 1) := by decide +kernel
theorem d_M_fillsLeast_118 : decode prog_14_method_79_code 118 = .ok (.iload 5, 2) := by decide +kernel
theorem d_M_fillsLeast_120 : decode prog_14_method_79_code 120 = .ok (.iload_n 3, 1) := by decide +kernel
theorem d_M_fillsLeast_121 : decode prog_14_method_79_code 121 = .ok (.invokevirtual 429, 3) := by decide +kernel
theorem d_M_fillsLeast_124 : decode prog_14_method_79_code 124 = .ok (.iload 4, 2) := by decide +kernel
theorem d_M_fillsLeast_126 : decode prog_14_method_79_code 126 = .ok (.if_icmp .ge 13, 3) := by decide +kernel
theorem d_M_fillsLeast_129 : decode prog_14_method_79_code 129 = .ok (.aload_n 0, 1) := by decide +kernel
theorem d_M_fillsLeast_130 : decode prog_14_method_79_code 130 = .ok (.iload_n 2, 1) := by decide +kernel
theorem d_M_fillsLeast_131 : decode prog_14_method_79_code 131 = .ok (.iload 5, 2) := by decide +kernel
theorem d_M_fillsLeast_133 : decode prog_14_method_79_code 133 = .ok (.iload_n 3, 1) := by decide +kernel
theorem d_M_fillsLeast_134 : decode prog_14_method_79_code 134 = .ok (.invokevirtual 429, 3) := by decide +kernel
theorem d_M_fillsLeast_137 : decode prog_14_method_79_code 137 = .ok (.istore 4, 2) := by decide +kernel
theorem d_M_fillsLeast_139 : decode prog_14_method_79_code 139 = .ok (.iinc 5 1, 3) := by decide +kernel
theorem d_M_fillsLeast_142 : decode prog_14_method_79_code 142 = .ok (.goto (-51), 3) := by decide +kernel
theorem d_M_fillsLeast_145 : decode prog_14_method_79_code 145 = .ok (.aload_n 0, 1) := by decide +kernel
theorem d_M_fillsLeast_146 : decode prog_14_method_79_code 146 = .ok (.getfield 134, 3) := by decide +kernel
theorem d_M_fillsLeast_149 : decode prog_14_method_79_code 149 = .ok (.sipush 128, 3) := by decide +kernel
theorem d_M_fillsLeast_152 : decode prog_14_method_79_code 152 = .ok (.iload_n 2, 1) := by decide +kernel
theorem d_M_fillsLeast_153 : decode prog_14_method_79_code 153 = .ok (.imul, 1) := by decide +kernel
theorem d_M_fillsLeast_154 : decode prog_14_method_79_code 154 = .ok (.iload_n 3, 1) := by decide +kernel
theorem d_M_fillsLeast_155 : decode prog_14_method_79_code 155 = .ok (.iadd, 1) := by decide +kernel
theorem d_M_fillsLeast_156 : decode prog_14_method_79_code 156 = .ok (.iload 4, 2) := by decide +kernel
theorem d_M_fillsLeast_158 : decode prog_14_method_79_code 158 = .ok (.iastore, 1) := by decide +kernel
theorem d_M_fillsLeast_159 : decode prog_14_method_79_code 159 = .ok (.iinc 3 1, 3) := by decide +kernel
theorem d_M_fillsLeast_162 : decode prog_14_method_79_code 162 = .ok (.goto (-99), 3) := by decide +kernel
theorem d_M_fillsLeast_165 : decode prog_14_method_79_code 165 = .ok (.iinc 2 (-1), 3) := by decide +kernel
theorem d_M_fillsLeast_168 : decode prog_14_method_79_code 168 = .ok (.goto (-111), 3) := by decide +kernel
theorem d_M_fillsLeast_171 : decode prog_14_method_79_code 171 = .ok (.return_, 1) := by decide +kernel
theorem d_M_lowestFor_0 : decode prog_14_method_80_code 0 = .ok (.iconst 0, 1) := by decide +kernel
theorem d_M_lowestFor_1 : decode prog_14_method_80_code 1 = .ok (.istore_n 3, 1) := by decide +kernel
theorem d_M_lowestFor_2 : decode prog_14_method_80_code 2 = .ok (.iload_n 3, 1) := by decide +kernel
theorem d_M_lowestFor_3 : decode prog_14_method_80_code 3 = .ok (.aload_n 0, 1) := by decide +kernel
theorem d_M_lowestFor_4 : decode prog_14_method_80_code 4 = .ok (.getfield 46, 3) := by decide +kernel
theorem d_M_lowestFor_7 : decode prog_14_method_80_code 7 = .ok (.aload_n 0, 1) := by decide +kernel
theorem d_M_lowestFor_8 : decode prog_14_method_80_code 8 = .ok (.getfield 245, 3) := by decide +kernel
theorem d_M_lowestFor_11 : decode prog_14_method_80_code 11 = .ok (.iaload, 1) := by decide +kernel
theorem d_M_lowestFor_12 : decode prog_14_method_80_code 12 = .ok (.if_icmp .ge 43, 3) := by decide +kernel
theorem d_M_lowestFor_15 : decode prog_14_method_80_code 15 = .ok (.iload_n 2, 1) := by decide +kernel
theorem d_M_lowestFor_16 : decode prog_14_method_80_code 16 = .ok (.aload_n 0, 1) := by decide +kernel
theorem d_M_lowestFor_17 : decode prog_14_method_80_code 17 = .ok (.iload_n 3, 1) := by decide +kernel
theorem d_M_lowestFor_18 : decode prog_14_method_80_code 18 = .ok (.invokevirtual 423, 3) := by decide +kernel
theorem d_M_lowestFor_21 : decode prog_14_method_80_code 21 = .ok (.iand, 1) := by decide +kernel
theorem d_M_lowestFor_22 : decode prog_14_method_80_code 22 = .ok (.ifCond .ne 27, 3) := by decide +kernel
theorem d_M_lowestFor_25 : decode prog_14_method_80_code 25 = .ok (.aload_n 0, 1) := by decide +kernel
theorem d_M_lowestFor_26 : decode prog_14_method_80_code 26 = .ok (.iload_n 1, 1) := by decide +kernel
theorem d_M_lowestFor_27 : decode prog_14_method_80_code 27 = .ok (.iload_n 3, 1) := by decide +kernel
theorem d_M_lowestFor_28 : decode prog_14_method_80_code 28 = .ok (.iload_n 2, 1) := by decide +kernel
theorem d_M_lowestFor_29 : decode prog_14_method_80_code 29 = .ok (.invokevirtual 429, 3) := by decide +kernel
theorem d_M_lowestFor_32 : decode prog_14_method_80_code 32 = .ok (.aload_n 0, 1) := by decide +kernel
theorem d_M_lowestFor_33 : decode prog_14_method_80_code 33 = .ok (.getfield 134, 3) := by decide +kernel
theorem d_M_lowestFor_36 : decode prog_14_method_80_code 36 = .ok (.sipush 128, 3) := by decide +kernel
theorem d_M_lowestFor_39 : decode prog_14_method_80_code 39 = .ok (.iload_n 1, 1) := by decide +kernel
theorem d_M_lowestFor_40 : decode prog_14_method_80_code 40 = .ok (.imul, 1) := by decide +kernel
theorem d_M_lowestFor_41 : decode prog_14_method_80_code 41 = .ok (.iload_n 2, 1) := by decide +kernel
theorem d_M_lowestFor_42 : decode prog_14_method_80_code 42 = .ok (.iadd, 1) := by decide +kernel
theorem d_M_lowestFor_43 : decode prog_14_method_80_code 43 = .ok (.iaload, 1) := by decide +kernel
theorem d_M_lowestFor_44 : decode prog_14_method_80_code 44 = .ok (.if_icmp .ne 5, 3) := by decide +kernel
theorem d_M_lowestFor_47 : decode prog_14_method_80_code 47 = .ok (.iload_n 3, 1) := by decide +kernel
theorem d_M_lowestFor_48 : decode prog_14_method_80_code 48 = .ok (.ireturn, 1) := by decide +kernel
theorem d_M_lowestFor_49 : decode prog_14_method_80_code 49 = .ok (.iinc 3 1, 3) := by decide +kernel
theorem d_M_lowestFor_52 : decode prog_14_method_80_code 52 = .ok (.goto (-50), 3) := by decide +kernel
theorem d_M_lowestFor_55 : decode prog_14_method_80_code 55 = .ok (.bipush (-2), 2) := by decide +kernel
theorem d_M_lowestFor_57 : decode prog_14_method_80_code 57 = .ok (.ireturn, 1) := by decide +kernel
theorem d_M_costOf_0 : decode prog_14_method_81_code 0 = .ok (.iload_n 0, 1) := by decide +kernel
theorem d_M_costOf_1 : decode prog_14_method_81_code 1 = .ok (.istore_n 1, 1) := by decide +kernel
theorem d_M_costOf_2 : decode prog_14_method_81_code 2 = .ok (.iload_n 1, 1) := by decide +kernel
theorem d_M_costOf_3 : decode prog_14_method_81_code 3 = .ok (.ifCond .ge 12, 3) := by decide +kernel
theorem d_M_costOf_6 : decode prog_14_method_81_code 6 = .ok (.iinc 1 10000, 6) := by decide +kernel
theorem d_M_costOf_12 : decode prog_14_method_81_code 12 = .ok (.goto (-10), 3) := by decide +kernel
theorem d_M_costOf_15 : decode prog_14_method_81_code 15 = .ok (.iload_n 1, 1) := by decide +kernel
theorem d_M_costOf_16 : decode prog_14_method_81_code 16 = .ok (.ireturn, 1) := by decide +kernel
theorem d_M_hangs_0 : decode prog_14_method_82_code 0 = .ok (.iload_n 1, 1) := by decide +kernel
theorem d_M_hangs_1 : decode prog_14_method_82_code 1 = .ok (.iconst (-1), 1) := by decide +kernel
theorem d_M_hangs_2 : decode prog_14_method_82_code 2 = .ok (.if_icmp .eq 13, 3) := by decide +kernel
theorem d_M_hangs_5 : decode prog_14_method_82_code 5 = .ok (.aload_n 0, 1) := by decide +kernel
theorem d_M_hangs_6 : decode prog_14_method_82_code 6 = .ok (.iload_n 1, 1) := by decide +kernel
theorem d_M_hangs_7 : decode prog_14_method_82_code 7 = .ok (.invokevirtual 392, 3) := by decide +kernel
theorem d_M_hangs_10 : decode prog_14_method_82_code 10 = .ok (.ifCond .ne 5, 3) := by decide +kernel
theorem d_M_hangs_13 : decode prog_14_method_82_code 13 = .ok (.iconst (-1), 1) := by decide +kernel
theorem d_M_hangs_14 : decode prog_14_method_82_code 14 = .ok (.ireturn, 1) := by decide +kernel
theorem d_M_hangs_15 : decode prog_14_method_82_code 15 = .ok (.aload_n 0, 1) := by decide +kernel
theorem d_M_hangs_16 : decode prog_14_method_82_code 16 = .ok (.iload_n 2, 1) := by decide +kernel
theorem d_M_hangs_17 : decode prog_14_method_82_code 17 = .ok (.invokevirtual 432, 3) := by decide +kernel
theorem d_M_hangs_20 : decode prog_14_method_82_code 20 = .ok (.iload_n 1, 1) := by decide +kernel
theorem d_M_hangs_21 : decode prog_14_method_82_code 21 = .ok (.iconst (-1), 1) := by decide +kernel
theorem d_M_hangs_22 : decode prog_14_method_82_code 22 = .ok (.if_icmp .ne 13, 3) := by decide +kernel
theorem d_M_hangs_25 : decode prog_14_method_82_code 25 = .ok (.aload_n 0, 1) := by decide +kernel
theorem d_M_hangs_26 : decode prog_14_method_82_code 26 = .ok (.getfield 134, 3) := by decide +kernel
theorem d_M_hangs_29 : decode prog_14_method_82_code 29 = .ok (.iconst 0, 1) := by decide +kernel
theorem d_M_hangs_30 : decode prog_14_method_82_code 30 = .ok (.iaload, 1) := by decide +kernel
theorem d_M_hangs_31 : decode prog_14_method_82_code 31 = .ok (.invokestatic 435, 3) := by decide +kernel
theorem d_M_hangs_34 : decode prog_14_method_82_code 34 = .ok (.ireturn, 1) := by decide +kernel
theorem d_M_hangs_35 : decode prog_14_method_82_code 35 = .ok (.iconst 0, 1) := by decide +kernel
theorem d_M_hangs_36 : decode prog_14_method_82_code 36 = .ok (.istore_n 3, 1) := by decide +kernel
theorem d_M_hangs_37 : decode prog_14_method_82_code 37 = .ok (.iconst 0, 1) := by decide +kernel
theorem d_M_hangs_38 : decode prog_14_method_82_code 38 = .ok (.istore 4, 2) := by decide +kernel
theorem d_M_hangs_40 : decode prog_14_method_82_code 40 = .ok (.iload 4, 2) := by decide +kernel
theorem d_M_hangs_42 : decode prog_14_method_82_code 42 = .ok (.iload_n 1, 1) := by decide +kernel
theorem d_M_hangs_43 : decode prog_14_method_82_code 43 = .ok (.if_icmp .ge 32, 3) := by decide +kernel
theorem d_M_hangs_46 : decode prog_14_method_82_code 46 = .ok (.aload_n 0, 1) := by decide +kernel
theorem d_M_hangs_47 : decode prog_14_method_82_code 47 = .ok (.iload 4, 2) := by decide +kernel
theorem d_M_hangs_49 : decode prog_14_method_82_code 49 = .ok (.iload_n 3, 1) := by decide +kernel
theorem d_M_hangs_50 : decode prog_14_method_82_code 50 = .ok (.invokevirtual 438, 3) := by decide +kernel
theorem d_M_hangs_53 : decode prog_14_method_82_code 53 = .ok (.istore 5, 2) := by decide +kernel
theorem d_M_hangs_55 : decode prog_14_method_82_code 55 = .ok (.iload 5, 2) := by decide +kernel
theorem d_M_hangs_57 : decode prog_14_method_82_code 57 = .ok (.ifCond .lt 12, 3) := by decide +kernel
theorem d_M_hangs_60 : decode prog_14_method_82_code 60 = .ok (.iload_n 3, 1) := by decide +kernel
theorem d_M_hangs_61 : decode prog_14_method_82_code 61 = .ok (.aload_n 0, 1) := by decide +kernel
theorem d_M_hangs_62 : decode prog_14_method_82_code 62 = .ok (.iload 5, 2) := by decide +kernel
theorem d_M_hangs_64 : decode prog_14_method_82_code 64 = .ok (.invokevirtual 423, 3) := by decide +kernel
theorem d_M_hangs_67 : decode prog_14_method_82_code 67 = .ok (.ior, 1) := by decide +kernel
theorem d_M_hangs_68 : decode prog_14_method_82_code 68 = .ok (.istore_n 3, 1) := by decide +kernel
theorem d_M_hangs_69 : decode prog_14_method_82_code 69 = .ok (.iinc 4 1, 3) := by decide +kernel
theorem d_M_hangs_72 : decode prog_14_method_82_code 72 = .ok (.goto (-32), 3) := by decide +kernel
theorem d_M_hangs_75 : decode prog_14_method_82_code 75 = .ok (.aload_n 0, 1) := by decide +kernel
theorem d_M_hangs_76 : decode prog_14_method_82_code 76 = .ok (.iload_n 1, 1) := by decide +kernel
theorem d_M_hangs_77 : decode prog_14_method_82_code 77 = .ok (.iload_n 3, 1) := by decide +kernel
theorem d_M_hangs_78 : decode prog_14_method_82_code 78 = .ok (.invokevirtual 438, 3) := by decide +kernel
theorem d_M_hangs_81 : decode prog_14_method_82_code 81 = .ok (.ireturn, 1) := by decide +kernel
theorem d_M_hanging_0 : decode prog_14_method_83_code 0 = .ok (.aload_n 0, 1) := by decide +kernel
theorem d_M_hanging_1 : decode prog_14_method_83_code 1 = .ok (.iload_n 1, 1) := by decide +kernel
theorem d_M_hanging_2 : decode prog_14_method_83_code 2 = .ok (.iconst 0, 1) := by decide +kernel
theorem d_M_hanging_3 : decode prog_14_method_83_code 3 = .ok (.invokevirtual 441, 3) := by decide +kernel
theorem d_M_hanging_6 : decode prog_14_method_83_code 6 = .ok (.ireturn, 1) := by decide +kernel
theorem d_M_apart_0 : decode prog_14_method_84_code 0 = .ok (.aload_n 0, 1) := by decide +kernel
theorem d_M_apart_1 : decode prog_14_method_84_code 1 = .ok (.iload_n 1, 1) := by decide +kernel
theorem d_M_apart_2 : decode prog_14_method_84_code 2 = .ok (.iconst 1, 1) := by decide +kernel
theorem d_M_apart_3 : decode prog_14_method_84_code 3 = .ok (.invokevirtual 441, 3) := by decide +kernel
theorem d_M_apart_6 : decode prog_14_method_84_code 6 = .ok (.ireturn, 1) := by decide +kernel
theorem d_M_missed_0 : decode prog_14_method_85_code 0 = .ok (.iload_n 1, 1) := by decide +kernel
theorem d_M_missed_1 : decode prog_14_method_85_code 1 = .ok (.iconst 0, 1) := by decide +kernel
theorem d_M_missed_2 : decode prog_14_method_85_code 2 = .ok (.iconst 1, 1) := by decide +kernel
theorem d_M_missed_3 : decode prog_14_method_85_code 3 = .ok (.invokestatic 322, 3) := by decide +kernel
theorem d_M_missed_6 : decode prog_14_method_85_code 6 = .ok (.ifCond .ne 5, 3) := by decide +kernel
theorem d_M_missed_9 : decode prog_14_method_85_code 9 = .ok (.iconst (-1), 1) := by decide +kernel
theorem d_M_missed_10 : decode prog_14_method_85_code 10 = .ok (.ireturn, 1) := by decide +kernel
theorem d_M_missed_11 : decode prog_14_method_85_code 11 = .ok (.aload_n 0, 1) := by decide +kernel
theorem d_M_missed_12 : decode prog_14_method_85_code 12 = .ok (.iconst 0, 1) := by decide +kernel
theorem d_M_missed_13 : decode prog_14_method_85_code 13 = .ok (.invokevirtual 432, 3) := by decide +kernel
theorem d_M_missed_16 : decode prog_14_method_85_code 16 = .ok (.bipush (-2), 2) := by decide +kernel
theorem d_M_missed_18 : decode prog_14_method_85_code 18 = .ok (.istore_n 2, 1) := by decide +kernel
theorem d_M_missed_19 : decode prog_14_method_85_code 19 = .ok (.bipush (-2), 2) := by decide +kernel
theorem d_M_missed_21 : decode prog_14_method_85_code 21 = .ok (.istore_n 3, 1) := by decide +kernel
theorem d_M_missed_22 : decode prog_14_method_85_code 22 = .ok (.iconst 0, 1) := by decide +kernel
theorem d_M_missed_23 : decode prog_14_method_85_code 23 = .ok (.istore 4, 2) := by decide +kernel
theorem d_M_missed_25 : decode prog_14_method_85_code 25 = .ok (.iload 4, 2) := by decide +kernel
theorem d_M_missed_27 : decode prog_14_method_85_code 27 = .ok (.aload_n 0, 1) := by decide +kernel
theorem d_M_missed_28 : decode prog_14_method_85_code 28 = .ok (.getfield 46, 3) := by decide +kernel
theorem d_M_missed_31 : decode prog_14_method_85_code 31 = .ok (.aload_n 0, 1) := by decide +kernel
theorem d_M_missed_32 : decode prog_14_method_85_code 32 = .ok (.getfield 245, 3) := by decide +kernel
theorem d_M_missed_35 : decode prog_14_method_85_code 35 = .ok (.iaload, 1) := by decide +kernel
theorem d_M_missed_36 : decode prog_14_method_85_code 36 = .ok (.if_icmp .ge 38, 3) := by decide +kernel
theorem d_M_missed_39 : decode prog_14_method_85_code 39 = .ok (.aload_n 0, 1) := by decide +kernel
theorem d_M_missed_40 : decode prog_14_method_85_code 40 = .ok (.getfield 134, 3) := by decide +kernel
theorem d_M_missed_43 : decode prog_14_method_85_code 43 = .ok (.iconst 1, 1) := by decide +kernel
theorem d_M_missed_44 : decode prog_14_method_85_code 44 = .ok (.iload 4, 2) := by decide +kernel
theorem d_M_missed_46 : decode prog_14_method_85_code 46 = .ok (.ishl, 1) := by decide +kernel
theorem d_M_missed_47 : decode prog_14_method_85_code 47 = .ok (.iaload, 1) := by decide +kernel
theorem d_M_missed_48 : decode prog_14_method_85_code 48 = .ok (.invokestatic 435, 3) := by decide +kernel
theorem d_M_missed_51 : decode prog_14_method_85_code 51 = .ok (.istore 5, 2) := by decide +kernel
theorem d_M_missed_53 : decode prog_14_method_85_code 53 = .ok (.iload 5, 2) := by decide +kernel
theorem d_M_missed_55 : decode prog_14_method_85_code 55 = .ok (.iload_n 3, 1) := by decide +kernel
theorem d_M_missed_56 : decode prog_14_method_85_code 56 = .ok (.if_icmp .gt 6, 3) := by decide +kernel
theorem d_M_missed_59 : decode prog_14_method_85_code 59 = .ok (.goto 9, 3) := by decide +kernel
theorem d_M_missed_62 : decode prog_14_method_85_code 62 = .ok (.iload 4, 2) := by decide +kernel
theorem d_M_missed_64 : decode prog_14_method_85_code 64 = .ok (.istore_n 2, 1) := by decide +kernel
theorem d_M_missed_65 : decode prog_14_method_85_code 65 = .ok (.iload 5, 2) := by decide +kernel
theorem d_M_missed_67 : decode prog_14_method_85_code 67 = .ok (.istore_n 3, 1) := by decide +kernel
theorem d_M_missed_68 : decode prog_14_method_85_code 68 = .ok (.iinc 4 1, 3) := by decide +kernel
theorem d_M_missed_71 : decode prog_14_method_85_code 71 = .ok (.goto (-46), 3) := by decide +kernel
theorem d_M_missed_74 : decode prog_14_method_85_code 74 = .ok (.iload_n 1, 1) := by decide +kernel
theorem d_M_missed_75 : decode prog_14_method_85_code 75 = .ok (.ifCond .ne 7, 3) := by decide +kernel
theorem d_M_missed_78 : decode prog_14_method_85_code 78 = .ok (.iload_n 2, 1) := by decide +kernel
theorem d_M_missed_79 : decode prog_14_method_85_code 79 = .ok (.goto 4, 3) := by decide +kernel
theorem d_M_missed_82 : decode prog_14_method_85_code 82 = .ok (.iload_n 3, 1) := by decide +kernel
theorem d_M_missed_83 : decode prog_14_method_85_code 83 = .ok (.ireturn, 1) := by decide +kernel
theorem d_M_ways_0 : decode prog_14_method_86_code 0 = .ok (.iload_n 1, 1) := by decide +kernel
theorem d_M_ways_1 : decode prog_14_method_86_code 1 = .ok (.iconst 0, 1) := by decide +kernel
theorem d_M_ways_2 : decode prog_14_method_86_code 2 = .ok (.bipush 99, 2) := by decide +kernel
theorem d_M_ways_4 : decode prog_14_method_86_code 4 = .ok (.invokestatic 322, 3) := by decide +kernel
theorem d_M_ways_7 : decode prog_14_method_86_code 7 = .ok (.ifCond .ne 5, 3) := by decide +kernel
theorem d_M_ways_10 : decode prog_14_method_86_code 10 = .ok (.iconst (-1), 1) := by decide +kernel
theorem d_M_ways_11 : decode prog_14_method_86_code 11 = .ok (.ireturn, 1) := by decide +kernel
theorem d_M_ways_12 : decode prog_14_method_86_code 12 = .ok (.aload_n 0, 1) := by decide +kernel
theorem d_M_ways_13 : decode prog_14_method_86_code 13 = .ok (.invokevirtual 426, 3) := by decide +kernel
theorem d_M_ways_16 : decode prog_14_method_86_code 16 = .ok (.iconst 0, 1) := by decide +kernel
theorem d_M_ways_17 : decode prog_14_method_86_code 17 = .ok (.istore_n 2, 1) := by decide +kernel
theorem d_M_ways_18 : decode prog_14_method_86_code 18 = .ok (.iload_n 2, 1) := by decide +kernel
theorem d_M_ways_19 : decode prog_14_method_86_code 19 = .ok (.bipush 32, 2) := by decide +kernel
theorem d_M_ways_21 : decode prog_14_method_86_code 21 = .ok (.if_icmp .ge 29, 3) := by decide +kernel
theorem d_M_ways_24 : decode prog_14_method_86_code 24 = .ok (.aload_n 0, 1) := by decide +kernel
theorem d_M_ways_25 : decode prog_14_method_86_code 25 = .ok (.getfield 140, 3) := by decide +kernel
theorem d_M_ways_28 : decode prog_14_method_86_code 28 = .ok (.bipush 32, 2) := by decide +kernel
theorem d_M_ways_30 : decode prog_14_method_86_code 30 = .ok (.aload_n 0, 1) := by decide +kernel
theorem d_M_ways_31 : decode prog_14_method_86_code 31 = .ok (.getfield 55, 3) := by decide +kernel
theorem d_M_ways_34 : decode prog_14_method_86_code 34 = .ok (.aload_n 0, 1) := by decide +kernel
theorem d_M_ways_35 : decode prog_14_method_86_code 35 = .ok (.getfield 245, 3) := by decide +kernel
theorem d_M_ways_38 : decode prog_14_method_86_code 38 = .ok (.iaload, 1) := by decide +kernel
theorem d_M_ways_39 : decode prog_14_method_86_code 39 = .ok (.imul, 1) := by decide +kernel
theorem d_M_ways_40 : decode prog_14_method_86_code 40 = .ok (.iload_n 2, 1) := by decide +kernel
theorem d_M_ways_41 : decode prog_14_method_86_code 41 = .ok (.iadd, 1) := by decide +kernel
theorem d_M_ways_42 : decode prog_14_method_86_code 42 = .ok (.iconst 1, 1) := by decide +kernel
theorem d_M_ways_43 : decode prog_14_method_86_code 43 = .ok (.iastore, 1) := by decide +kernel
theorem d_M_ways_44 : decode prog_14_method_86_code 44 = .ok (.iinc 2 1, 3) := by decide +kernel
theorem d_M_ways_47 : decode prog_14_method_86_code 47 = .ok (.goto (-29), 3) := by decide +kernel
theorem d_M_ways_50 : decode prog_14_method_86_code 50 = .ok (.aload_n 0, 1) := by decide +kernel
theorem d_M_ways_51 : decode prog_14_method_86_code 51 = .ok (.getfield 55, 3) := by decide +kernel
theorem d_M_ways_54 : decode prog_14_method_86_code 54 = .ok (.aload_n 0, 1) := by decide +kernel
theorem d_M_ways_55 : decode prog_14_method_86_code 55 = .ok (.getfield 245, 3) := by decide +kernel
theorem d_M_ways_58 : decode prog_14_method_86_code 58 = .ok (.iaload, 1) := by decide +kernel
theorem d_M_ways_59 : decode prog_14_method_86_code 59 = .ok (.iconst 1, 1) := by decide +kernel
theorem d_M_ways_60 : decode prog_14_method_86_code 60 = .ok (.isub, 1) := by decide +kernel
theorem d_M_ways_61 : decode prog_14_method_86_code 61 = .ok (.istore_n 2, 1) := by decide +kernel
theorem d_M_ways_62 : decode prog_14_method_86_code 62 = .ok (.iload_n 2, 1) := by decide +kernel
theorem d_M_ways_63 : decode prog_14_method_86_code 63 = .ok (.ifCond .lt 117, 3) := by decide +kernel
theorem d_M_ways_66 : decode prog_14_method_86_code 66 = .ok (.iconst 0, 1) := by decide +kernel
theorem d_M_ways_67 : decode prog_14_method_86_code 67 = .ok (.istore_n 3, 1) := by decide +kernel
theorem d_M_ways_68 : decode prog_14_method_86_code 68 = .ok (.iload_n 3, 1) := by decide +kernel
theorem d_M_ways_69 : decode prog_14_method_86_code 69 = .ok (.bipush 32, 2) := by decide +kernel
theorem d_M_ways_71 : decode prog_14_method_86_code 71 = .ok (.if_icmp .ge 103, 3) := by decide +kernel
theorem d_M_ways_74 : decode prog_14_method_86_code 74 = .ok (.iconst 0, 1) := by decide +kernel
theorem d_M_ways_75 : decode prog_14_method_86_code 75 = .ok (.istore 4, 2) := by decide +kernel
theorem d_M_ways_77 : decode prog_14_method_86_code 77 = .ok (.iconst 0, 1) := by decide +kernel
theorem d_M_ways_78 : decode prog_14_method_86_code 78 = .ok (.istore 5, 2) := by decide +kernel
theorem d_M_ways_80 : decode prog_14_method_86_code 80 = .ok (.iload 5, 2) := by decide +kernel
theorem d_M_ways_82 : decode prog_14_method_86_code 82 = .ok (.aload_n 0, 1) := by decide +kernel
theorem d_M_ways_83 : decode prog_14_method_86_code 83 = .ok (.getfield 46, 3) := by decide +kernel
theorem d_M_ways_86 : decode prog_14_method_86_code 86 = .ok (.aload_n 0, 1) := by decide +kernel
theorem d_M_ways_87 : decode prog_14_method_86_code 87 = .ok (.getfield 245, 3) := by decide +kernel
theorem d_M_ways_90 : decode prog_14_method_86_code 90 = .ok (.iaload, 1) := by decide +kernel
theorem d_M_ways_91 : decode prog_14_method_86_code 91 = .ok (.if_icmp .ge 64, 3) := by decide +kernel
theorem d_M_ways_94 : decode prog_14_method_86_code 94 = .ok (.iconst 1, 1) := by decide +kernel
theorem d_M_ways_95 : decode prog_14_method_86_code 95 = .ok (.aload_n 0, 1) := by decide +kernel
theorem d_M_ways_96 : decode prog_14_method_86_code 96 = .ok (.iload 5, 2) := by decide +kernel
theorem d_M_ways_98 : decode prog_14_method_86_code 98 = .ok (.invokevirtual 345, 3) := by decide +kernel
theorem d_M_ways_101 : decode prog_14_method_86_code 101 = .ok (.ishl, 1) := by decide +kernel
theorem d_M_ways_102 : decode prog_14_method_86_code 102 = .ok (.istore 6, 2) := by decide +kernel
theorem d_M_ways_104 : decode prog_14_method_86_code 104 = .ok (.iload_n 3, 1) := by decide +kernel
theorem d_M_ways_105 : decode prog_14_method_86_code 105 = .ok (.iload 6, 2) := by decide +kernel
theorem d_M_ways_107 : decode prog_14_method_86_code 107 = .ok (.iand, 1) := by decide +kernel
theorem d_M_ways_108 : decode prog_14_method_86_code 108 = .ok (.ifCond .ne 41, 3) := by decide +kernel
theorem d_M_ways_111 : decode prog_14_method_86_code 111 = .ok (.aload_n 0, 1) := by decide +kernel
theorem d_M_ways_112 : decode prog_14_method_86_code 112 = .ok (.getfield 137, 3) := by decide +kernel
theorem d_M_ways_115 : decode prog_14_method_86_code 115 = .ok (.bipush 7, 2) := by decide +kernel
theorem d_M_ways_117 : decode prog_14_method_86_code 117 = .ok (.iload_n 2, 1) := by decide +kernel
theorem d_M_ways_118 : decode prog_14_method_86_code 118 = .ok (.imul, 1) := by decide +kernel
theorem d_M_ways_119 : decode prog_14_method_86_code 119 = .ok (.iload 5, 2) := by decide +kernel
theorem d_M_ways_121 : decode prog_14_method_86_code 121 = .ok (.iadd, 1) := by decide +kernel
theorem d_M_ways_122 : decode prog_14_method_86_code 122 = .ok (.iaload, 1) := by decide +kernel
theorem d_M_ways_123 : decode prog_14_method_86_code 123 = .ok (.iload_n 1, 1) := by decide +kernel
theorem d_M_ways_124 : decode prog_14_method_86_code 124 = .ok (.if_icmp .gt 25, 3) := by decide +kernel
theorem d_M_ways_127 : decode prog_14_method_86_code 127 = .ok (.iload 4, 2) := by decide +kernel
theorem d_M_ways_129 : decode prog_14_method_86_code 129 = .ok (.aload_n 0, 1) := by decide +kernel
theorem d_M_ways_130 : decode prog_14_method_86_code 130 = .ok (.getfield 140, 3) := by decide +kernel
theorem d_M_ways_133 : decode prog_14_method_86_code 133 = .ok (.bipush 32, 2) := by decide +kernel
theorem d_M_ways_135 : decode prog_14_method_86_code 135 = .ok (.iload_n 2, 1) := by decide +kernel
theorem d_M_ways_136 : decode prog_14_method_86_code 136 = .ok (.imul, 1) := by decide +kernel
theorem d_M_ways_137 : decode prog_14_method_86_code 137 = .ok (.bipush 32, 2) := by decide +kernel
theorem d_M_ways_139 : decode prog_14_method_86_code 139 = .ok (.iadd, 1) := by decide +kernel
theorem d_M_ways_140 : decode prog_14_method_86_code 140 = .ok (.iload_n 3, 1) := by decide +kernel
theorem d_M_ways_141 : decode prog_14_method_86_code 141 = .ok (.iload 6, 2) := by decide +kernel
theorem d_M_ways_143 : decode prog_14_method_86_code 143 = .ok (.ior, 1) := by decide +kernel
theorem d_M_ways_144 : decode prog_14_method_86_code 144 = .ok (.iadd, 1) := by decide +kernel
theorem d_M_ways_145 : decode prog_14_method_86_code 145 = .ok (.iaload, 1) := by decide +kernel
theorem d_M_ways_146 : decode prog_14_method_86_code 146 = .ok (.iadd, 1) := by decide +kernel
theorem d_M_ways_147 : decode prog_14_method_86_code 147 = .ok (.istore 4, 2) := by decide +kernel
theorem d_M_ways_149 : decode prog_14_method_86_code 149 = .ok (.iinc 5 1, 3) := by decide +kernel
theorem d_M_ways_152 : decode prog_14_method_86_code 152 = .ok (.goto (-72), 3) := by decide +kernel
theorem d_M_ways_155 : decode prog_14_method_86_code 155 = .ok (.aload_n 0, 1) := by decide +kernel
theorem d_M_ways_156 : decode prog_14_method_86_code 156 = .ok (.getfield 140, 3) := by decide +kernel
theorem d_M_ways_159 : decode prog_14_method_86_code 159 = .ok (.bipush 32, 2) := by decide +kernel
theorem d_M_ways_161 : decode prog_14_method_86_code 161 = .ok (.iload_n 2, 1) := by decide +kernel
theorem d_M_ways_162 : decode prog_14_method_86_code 162 = .ok (.imul, 1) := by decide +kernel
theorem d_M_ways_163 : decode prog_14_method_86_code 163 = .ok (.iload_n 3, 1) := by decide +kernel
theorem d_M_ways_164 : decode prog_14_method_86_code 164 = .ok (.iadd, 1) := by decide +kernel
theorem d_M_ways_165 : decode prog_14_method_86_code 165 = .ok (.iload 4, 2) := by decide +kernel
theorem d_M_ways_167 : decode prog_14_method_86_code 167 = .ok (.iastore, 1) := by decide +kernel
theorem d_M_ways_168 : decode prog_14_method_86_code 168 = .ok (.iinc 3 1, 3) := by decide +kernel
theorem d_M_ways_171 : decode prog_14_method_86_code 171 = .ok (.goto (-103), 3) := by decide +kernel
theorem d_M_ways_174 : decode prog_14_method_86_code 174 = .ok (.iinc 2 (-1), 3) := by decide +kernel
theorem d_M_ways_177 : decode prog_14_method_86_code 177 = .ok (.goto (-115), 3) := by decide +kernel
theorem d_M_ways_180 : decode prog_14_method_86_code 180 = .ok (.aload_n 0, 1) := by decide +kernel
theorem d_M_ways_181 : decode prog_14_method_86_code 181 = .ok (.getfield 140, 3) := by decide +kernel
theorem d_M_ways_184 : decode prog_14_method_86_code 184 = .ok (.iconst 0, 1) := by decide +kernel
theorem d_M_ways_185 : decode prog_14_method_86_code 185 = .ok (.iaload, 1) := by decide +kernel
theorem d_M_ways_186 : decode prog_14_method_86_code 186 = .ok (.ireturn, 1) := by decide +kernel
theorem d_M_sets_0 : decode prog_14_method_87_code 0 = .ok (.iconst 0, 1) := by decide +kernel
theorem d_M_sets_1 : decode prog_14_method_87_code 1 = .ok (.istore_n 1, 1) := by decide +kernel
theorem d_M_sets_2 : decode prog_14_method_87_code 2 = .ok (.iconst 0, 1) := by decide +kernel
theorem d_M_sets_3 : decode prog_14_method_87_code 3 = .ok (.istore_n 2, 1) := by decide +kernel
theorem d_M_sets_4 : decode prog_14_method_87_code 4 = .ok (.iconst 0, 1) := by decide +kernel
theorem d_M_sets_5 : decode prog_14_method_87_code 5 = .ok (.istore_n 3, 1) := by decide +kernel
theorem d_M_sets_6 : decode prog_14_method_87_code 6 = .ok (.iload_n 3, 1) := by decide +kernel
theorem d_M_sets_7 : decode prog_14_method_87_code 7 = .ok (.aload_n 0, 1) := by decide +kernel
theorem d_M_sets_8 : decode prog_14_method_87_code 8 = .ok (.getfield 55, 3) := by decide +kernel
theorem d_M_sets_11 : decode prog_14_method_87_code 11 = .ok (.aload_n 0, 1) := by decide +kernel
theorem d_M_sets_12 : decode prog_14_method_87_code 12 = .ok (.getfield 245, 3) := by decide +kernel
theorem d_M_sets_15 : decode prog_14_method_87_code 15 = .ok (.iaload, 1) := by decide +kernel
theorem d_M_sets_16 : decode prog_14_method_87_code 16 = .ok (.if_icmp .ge 58, 3) := by decide +kernel
theorem d_M_sets_19 : decode prog_14_method_87_code 19 = .ok (.iload_n 1, 1) := by decide +kernel
theorem d_M_sets_20 : decode prog_14_method_87_code 20 = .ok (.iload_n 3, 1) := by decide +kernel
theorem d_M_sets_21 : decode prog_14_method_87_code 21 = .ok (.ishr, 1) := by decide +kernel
theorem d_M_sets_22 : decode prog_14_method_87_code 22 = .ok (.iconst 1, 1) := by decide +kernel
theorem d_M_sets_23 : decode prog_14_method_87_code 23 = .ok (.iand, 1) := by decide +kernel
theorem d_M_sets_24 : decode prog_14_method_87_code 24 = .ok (.iconst 1, 1) := by decide +kernel
theorem d_M_sets_25 : decode prog_14_method_87_code 25 = .ok (.if_icmp .ne 6, 3) := by decide +kernel
theorem d_M_sets_28 : decode prog_14_method_87_code 28 = .ok (.goto 40, 3) := by decide +kernel
theorem d_M_sets_31 : decode prog_14_method_87_code 31 = .ok (.iinc 2 1, 3) := by decide +kernel
theorem d_M_sets_34 : decode prog_14_method_87_code 34 = .ok (.iload_n 3, 1) := by decide +kernel
theorem d_M_sets_35 : decode prog_14_method_87_code 35 = .ok (.istore 4, 2) := by decide +kernel
theorem d_M_sets_37 : decode prog_14_method_87_code 37 = .ok (.iload_n 1, 1) := by decide +kernel
theorem d_M_sets_38 : decode prog_14_method_87_code 38 = .ok (.iload 4, 2) := by decide +kernel
theorem d_M_sets_40 : decode prog_14_method_87_code 40 = .ok (.ishr, 1) := by decide +kernel
theorem d_M_sets_41 : decode prog_14_method_87_code 41 = .ok (.iconst 1, 1) := by decide +kernel
theorem d_M_sets_42 : decode prog_14_method_87_code 42 = .ok (.iand, 1) := by decide +kernel
theorem d_M_sets_43 : decode prog_14_method_87_code 43 = .ok (.ifCond .ne 25, 3) := by decide +kernel
theorem d_M_sets_46 : decode prog_14_method_87_code 46 = .ok (.iload_n 1, 1) := by decide +kernel
theorem d_M_sets_47 : decode prog_14_method_87_code 47 = .ok (.iconst 1, 1) := by decide +kernel
theorem d_M_sets_48 : decode prog_14_method_87_code 48 = .ok (.iload 4, 2) := by decide +kernel
theorem d_M_sets_50 : decode prog_14_method_87_code 50 = .ok (.ishl, 1) := by decide +kernel
theorem d_M_sets_51 : decode prog_14_method_87_code 51 = .ok (.ior, 1) := by decide +kernel
theorem d_M_sets_52 : decode prog_14_method_87_code 52 = .ok (.istore_n 1, 1) := by decide +kernel
theorem d_M_sets_53 : decode prog_14_method_87_code 53 = .ok (.aload_n 0, 1) := by decide +kernel
theorem d_M_sets_54 : decode prog_14_method_87_code 54 = .ok (.getfield 113, 3) := by decide +kernel
theorem d_M_sets_57 : decode prog_14_method_87_code 57 = .ok (.bipush 12, 2) := by decide +kernel
theorem d_M_sets_59 : decode prog_14_method_87_code 59 = .ok (.iload 4, 2) := by decide +kernel
theorem d_M_sets_61 : decode prog_14_method_87_code 61 = .ok (.iadd, 1) := by decide +kernel
theorem d_M_sets_62 : decode prog_14_method_87_code 62 = .ok (.iaload, 1) := by decide +kernel
theorem d_M_sets_63 : decode prog_14_method_87_code 63 = .ok (.istore 4, 2) := by decide +kernel
theorem d_M_sets_65 : decode prog_14_method_87_code 65 = .ok (.goto (-28), 3) := by decide +kernel
theorem d_M_sets_68 : decode prog_14_method_87_code 68 = .ok (.iinc 3 1, 3) := by decide +kernel
theorem d_M_sets_71 : decode prog_14_method_87_code 71 = .ok (.goto (-65), 3) := by decide +kernel
theorem d_M_sets_74 : decode prog_14_method_87_code 74 = .ok (.iload_n 2, 1) := by decide +kernel
theorem d_M_sets_75 : decode prog_14_method_87_code 75 = .ok (.ireturn, 1) := by decide +kernel
theorem d_M_changes_0 : decode prog_14_method_88_code 0 = .ok (.aload_n 0, 1) := by decide +kernel
theorem d_M_changes_1 : decode prog_14_method_88_code 1 = .ok (.getfield 55, 3) := by decide +kernel
theorem d_M_changes_4 : decode prog_14_method_88_code 4 = .ok (.aload_n 0, 1) := by decide +kernel
theorem d_M_changes_5 : decode prog_14_method_88_code 5 = .ok (.getfield 245, 3) := by decide +kernel
theorem d_M_changes_8 : decode prog_14_method_88_code 8 = .ok (.iaload, 1) := by decide +kernel
theorem d_M_changes_9 : decode prog_14_method_88_code 9 = .ok (.aload_n 0, 1) := by decide +kernel
theorem d_M_changes_10 : decode prog_14_method_88_code 10 = .ok (.invokevirtual 445, 3) := by decide +kernel
theorem d_M_changes_13 : decode prog_14_method_88_code 13 = .ok (.isub, 1) := by decide +kernel
theorem d_M_changes_14 : decode prog_14_method_88_code 14 = .ok (.ireturn, 1) := by decide +kernel
theorem d_M_ownBits_0 : decode prog_14_method_89_code 0 = .ok (.iconst 0, 1) := by decide +kernel
theorem d_M_ownBits_1 : decode prog_14_method_89_code 1 = .ok (.istore_n 1, 1) := by decide +kernel
theorem d_M_ownBits_2 : decode prog_14_method_89_code 2 = .ok (.iconst 0, 1) := by decide +kernel
theorem d_M_ownBits_3 : decode prog_14_method_89_code 3 = .ok (.istore_n 2, 1) := by decide +kernel
theorem d_M_ownBits_4 : decode prog_14_method_89_code 4 = .ok (.iload_n 2, 1) := by decide +kernel
theorem d_M_ownBits_5 : decode prog_14_method_89_code 5 = .ok (.aload_n 0, 1) := by decide +kernel
theorem d_M_ownBits_6 : decode prog_14_method_89_code 6 = .ok (.getfield 55, 3) := by decide +kernel
theorem d_M_ownBits_9 : decode prog_14_method_89_code 9 = .ok (.aload_n 0, 1) := by decide +kernel
theorem d_M_ownBits_10 : decode prog_14_method_89_code 10 = .ok (.getfield 245, 3) := by decide +kernel
theorem d_M_ownBits_13 : decode prog_14_method_89_code 13 = .ok (.iaload, 1) := by decide +kernel
theorem d_M_ownBits_14 : decode prog_14_method_89_code 14 = .ok (.if_icmp .ge 28, 3) := by decide +kernel
theorem d_M_ownBits_17 : decode prog_14_method_89_code 17 = .ok (.aload_n 0, 1) := by decide +kernel
theorem d_M_ownBits_18 : decode prog_14_method_89_code 18 = .ok (.getfield 116, 3) := by decide +kernel
theorem d_M_ownBits_21 : decode prog_14_method_89_code 21 = .ok (.bipush 12, 2) := by decide +kernel
theorem d_M_ownBits_23 : decode prog_14_method_89_code 23 = .ok (.iload_n 2, 1) := by decide +kernel
theorem d_M_ownBits_24 : decode prog_14_method_89_code 24 = .ok (.iadd, 1) := by decide +kernel
theorem d_M_ownBits_25 : decode prog_14_method_89_code 25 = .ok (.iaload, 1) := by decide +kernel
theorem d_M_ownBits_26 : decode prog_14_method_89_code 26 = .ok (.iload_n 2, 1) := by decide +kernel
theorem d_M_ownBits_27 : decode prog_14_method_89_code 27 = .ok (.if_icmp .ne 9, 3) := by decide +kernel
theorem d_M_ownBits_30 : decode prog_14_method_89_code 30 = .ok (.iload_n 1, 1) := by decide +kernel
theorem d_M_ownBits_31 : decode prog_14_method_89_code 31 = .ok (.iconst 1, 1) := by decide +kernel
theorem d_M_ownBits_32 : decode prog_14_method_89_code 32 = .ok (.iload_n 2, 1) := by decide +kernel
theorem d_M_ownBits_33 : decode prog_14_method_89_code 33 = .ok (.ishl, 1) := by decide +kernel
theorem d_M_ownBits_34 : decode prog_14_method_89_code 34 = .ok (.ior, 1) := by decide +kernel
theorem d_M_ownBits_35 : decode prog_14_method_89_code 35 = .ok (.istore_n 1, 1) := by decide +kernel
theorem d_M_ownBits_36 : decode prog_14_method_89_code 36 = .ok (.iinc 2 1, 3) := by decide +kernel
theorem d_M_ownBits_39 : decode prog_14_method_89_code 39 = .ok (.goto (-35), 3) := by decide +kernel
theorem d_M_ownBits_42 : decode prog_14_method_89_code 42 = .ok (.iload_n 1, 1) := by decide +kernel
theorem d_M_ownBits_43 : decode prog_14_method_89_code 43 = .ok (.ireturn, 1) := by decide +kernel
theorem d_M_themselves_0 : decode prog_14_method_90_code 0 = .ok (.aload_n 0, 1) := by decide +kernel
theorem d_M_themselves_1 : decode prog_14_method_90_code 1 = .ok (.invokevirtual 401, 3) := by decide +kernel
theorem d_M_themselves_4 : decode prog_14_method_90_code 4 = .ok (.iconst 0, 1) := by decide +kernel
theorem d_M_themselves_5 : decode prog_14_method_90_code 5 = .ok (.istore_n 1, 1) := by decide +kernel
theorem d_M_themselves_6 : decode prog_14_method_90_code 6 = .ok (.iload_n 1, 1) := by decide +kernel
theorem d_M_themselves_7 : decode prog_14_method_90_code 7 = .ok (.sipush 240, 3) := by decide +kernel
theorem d_M_themselves_10 : decode prog_14_method_90_code 10 = .ok (.if_icmp .gt 35, 3) := by decide +kernel
theorem d_M_themselves_13 : decode prog_14_method_90_code 13 = .ok (.aload_n 0, 1) := by decide +kernel
theorem d_M_themselves_14 : decode prog_14_method_90_code 14 = .ok (.invokevirtual 448, 3) := by decide +kernel
theorem d_M_themselves_17 : decode prog_14_method_90_code 17 = .ok (.iconst 1, 1) := by decide +kernel
theorem d_M_themselves_18 : decode prog_14_method_90_code 18 = .ok (.aload_n 0, 1) := by decide +kernel
theorem d_M_themselves_19 : decode prog_14_method_90_code 19 = .ok (.getfield 55, 3) := by decide +kernel
theorem d_M_themselves_22 : decode prog_14_method_90_code 22 = .ok (.aload_n 0, 1) := by decide +kernel
theorem d_M_themselves_23 : decode prog_14_method_90_code 23 = .ok (.getfield 245, 3) := by decide +kernel
theorem d_M_themselves_26 : decode prog_14_method_90_code 26 = .ok (.iaload, 1) := by decide +kernel
theorem d_M_themselves_27 : decode prog_14_method_90_code 27 = .ok (.ishl, 1) := by decide +kernel
theorem d_M_themselves_28 : decode prog_14_method_90_code 28 = .ok (.iconst 1, 1) := by decide +kernel
theorem d_M_themselves_29 : decode prog_14_method_90_code 29 = .ok (.isub, 1) := by decide +kernel
theorem d_M_themselves_30 : decode prog_14_method_90_code 30 = .ok (.if_icmp .ne 5, 3) := by decide +kernel
theorem d_M_themselves_33 : decode prog_14_method_90_code 33 = .ok (.iload_n 1, 1) := by decide +kernel
theorem d_M_themselves_34 : decode prog_14_method_90_code 34 = .ok (.ireturn, 1) := by decide +kernel
theorem d_M_themselves_35 : decode prog_14_method_90_code 35 = .ok (.aload_n 0, 1) := by decide +kernel
theorem d_M_themselves_36 : decode prog_14_method_90_code 36 = .ok (.invokevirtual 383, 3) := by decide +kernel
theorem d_M_themselves_39 : decode prog_14_method_90_code 39 = .ok (.iinc 1 1, 3) := by decide +kernel
theorem d_M_themselves_42 : decode prog_14_method_90_code 42 = .ok (.goto (-36), 3) := by decide +kernel
theorem d_M_themselves_45 : decode prog_14_method_90_code 45 = .ok (.bipush (-2), 2) := by decide +kernel
theorem d_M_themselves_47 : decode prog_14_method_90_code 47 = .ok (.ireturn, 1) := by decide +kernel
theorem d_M_day_0 : decode prog_14_method_91_code 0 = .ok (.aload_n 0, 1) := by decide +kernel
theorem d_M_day_1 : decode prog_14_method_91_code 1 = .ok (.iload_n 1, 1) := by decide +kernel
theorem d_M_day_2 : decode prog_14_method_91_code 2 = .ok (.invokevirtual 392, 3) := by decide +kernel
theorem d_M_day_5 : decode prog_14_method_91_code 5 = .ok (.ifCond .ne 5, 3) := by decide +kernel
theorem d_M_day_8 : decode prog_14_method_91_code 8 = .ok (.iconst (-1), 1) := by decide +kernel
theorem d_M_day_9 : decode prog_14_method_91_code 9 = .ok (.ireturn, 1) := by decide +kernel
theorem d_M_day_10 : decode prog_14_method_91_code 10 = .ok (.aload_n 0, 1) := by decide +kernel
theorem d_M_day_11 : decode prog_14_method_91_code 11 = .ok (.invokevirtual 401, 3) := by decide +kernel
theorem d_M_day_14 : decode prog_14_method_91_code 14 = .ok (.iconst 0, 1) := by decide +kernel
theorem d_M_day_15 : decode prog_14_method_91_code 15 = .ok (.istore_n 2, 1) := by decide +kernel
theorem d_M_day_16 : decode prog_14_method_91_code 16 = .ok (.iload_n 2, 1) := by decide +kernel
theorem d_M_day_17 : decode prog_14_method_91_code 17 = .ok (.sipush 240, 3) := by decide +kernel
theorem d_M_day_20 : decode prog_14_method_91_code 20 = .ok (.if_icmp .gt 28, 3) := by decide +kernel
theorem d_M_day_23 : decode prog_14_method_91_code 23 = .ok (.aload_n 0, 1) := by decide +kernel
theorem d_M_day_24 : decode prog_14_method_91_code 24 = .ok (.getfield 116, 3) := by decide +kernel
theorem d_M_day_27 : decode prog_14_method_91_code 27 = .ok (.bipush 12, 2) := by decide +kernel
theorem d_M_day_29 : decode prog_14_method_91_code 29 = .ok (.iload_n 1, 1) := by decide +kernel
theorem d_M_day_30 : decode prog_14_method_91_code 30 = .ok (.iadd, 1) := by decide +kernel
theorem d_M_day_31 : decode prog_14_method_91_code 31 = .ok (.iaload, 1) := by decide +kernel
theorem d_M_day_32 : decode prog_14_method_91_code 32 = .ok (.iload_n 1, 1) := by decide +kernel
theorem d_M_day_33 : decode prog_14_method_91_code 33 = .ok (.if_icmp .ne 5, 3) := by decide +kernel
theorem d_M_day_36 : decode prog_14_method_91_code 36 = .ok (.iload_n 2, 1) := by decide +kernel
theorem d_M_day_37 : decode prog_14_method_91_code 37 = .ok (.ireturn, 1) := by decide +kernel
theorem d_M_day_38 : decode prog_14_method_91_code 38 = .ok (.aload_n 0, 1) := by decide +kernel
theorem d_M_day_39 : decode prog_14_method_91_code 39 = .ok (.invokevirtual 383, 3) := by decide +kernel
theorem d_M_day_42 : decode prog_14_method_91_code 42 = .ok (.iinc 2 1, 3) := by decide +kernel
theorem d_M_day_45 : decode prog_14_method_91_code 45 = .ok (.goto (-29), 3) := by decide +kernel
theorem d_M_day_48 : decode prog_14_method_91_code 48 = .ok (.bipush (-2), 2) := by decide +kernel
theorem d_M_day_50 : decode prog_14_method_91_code 50 = .ok (.ireturn, 1) := by decide +kernel
theorem d_M_areAsNow_0 : decode prog_14_method_92_code 0 = .ok (.iconst 0, 1) := by decide +kernel
theorem d_M_areAsNow_1 : decode prog_14_method_92_code 1 = .ok (.istore_n 1, 1) := by decide +kernel
theorem d_M_areAsNow_2 : decode prog_14_method_92_code 2 = .ok (.iload_n 1, 1) := by decide +kernel
theorem d_M_areAsNow_3 : decode prog_14_method_92_code 3 = .ok (.aload_n 0, 1) := by decide +kernel
theorem d_M_areAsNow_4 : decode prog_14_method_92_code 4 = .ok (.getfield 55, 3) := by decide +kernel
theorem d_M_areAsNow_7 : decode prog_14_method_92_code 7 = .ok (.aload_n 0, 1) := by decide +kernel
theorem d_M_areAsNow_8 : decode prog_14_method_92_code 8 = .ok (.getfield 245, 3) := by decide +kernel
theorem d_M_areAsNow_11 : decode prog_14_method_92_code 11 = .ok (.iaload, 1) := by decide +kernel
theorem d_M_areAsNow_12 : decode prog_14_method_92_code 12 = .ok (.if_icmp .ge 32, 3) := by decide +kernel
theorem d_M_areAsNow_15 : decode prog_14_method_92_code 15 = .ok (.aload_n 0, 1) := by decide +kernel
theorem d_M_areAsNow_16 : decode prog_14_method_92_code 16 = .ok (.getfield 116, 3) := by decide +kernel
theorem d_M_areAsNow_19 : decode prog_14_method_92_code 19 = .ok (.bipush 12, 2) := by decide +kernel
theorem d_M_areAsNow_21 : decode prog_14_method_92_code 21 = .ok (.iload_n 1, 1) := by decide +kernel
theorem d_M_areAsNow_22 : decode prog_14_method_92_code 22 = .ok (.iadd, 1) := by decide +kernel
theorem d_M_areAsNow_23 : decode prog_14_method_92_code 23 = .ok (.iaload, 1) := by decide +kernel
theorem d_M_areAsNow_24 : decode prog_14_method_92_code 24 = .ok (.aload_n 0, 1) := by decide +kernel
theorem d_M_areAsNow_25 : decode prog_14_method_92_code 25 = .ok (.getfield 113, 3) := by decide +kernel
theorem d_M_areAsNow_28 : decode prog_14_method_92_code 28 = .ok (.bipush 12, 2) := by decide +kernel
theorem d_M_areAsNow_30 : decode prog_14_method_92_code 30 = .ok (.iload_n 1, 1) := by decide +kernel
theorem d_M_areAsNow_31 : decode prog_14_method_92_code 31 = .ok (.iadd, 1) := by decide +kernel
theorem d_M_areAsNow_32 : decode prog_14_method_92_code 32 = .ok (.iaload, 1) := by decide +kernel
theorem d_M_areAsNow_33 : decode prog_14_method_92_code 33 = .ok (.if_icmp .eq 5, 3) := by decide +kernel
theorem d_M_areAsNow_36 : decode prog_14_method_92_code 36 = .ok (.iconst 0, 1) := by decide +kernel
theorem d_M_areAsNow_37 : decode prog_14_method_92_code 37 = .ok (.ireturn, 1) := by decide +kernel
theorem d_M_areAsNow_38 : decode prog_14_method_92_code 38 = .ok (.iinc 1 1, 3) := by decide +kernel
theorem d_M_areAsNow_41 : decode prog_14_method_92_code 41 = .ok (.goto (-39), 3) := by decide +kernel
theorem d_M_areAsNow_44 : decode prog_14_method_92_code 44 = .ok (.iconst 1, 1) := by decide +kernel
theorem d_M_areAsNow_45 : decode prog_14_method_92_code 45 = .ok (.ireturn, 1) := by decide +kernel
theorem d_M_round_0 : decode prog_14_method_93_code 0 = .ok (.aload_n 0, 1) := by decide +kernel
theorem d_M_round_1 : decode prog_14_method_93_code 1 = .ok (.invokevirtual 401, 3) := by decide +kernel
theorem d_M_round_4 : decode prog_14_method_93_code 4 = .ok (.iconst 1, 1) := by decide +kernel
theorem d_M_round_5 : decode prog_14_method_93_code 5 = .ok (.istore_n 1, 1) := by decide +kernel
theorem d_M_round_6 : decode prog_14_method_93_code 6 = .ok (.iload_n 1, 1) := by decide +kernel
theorem d_M_round_7 : decode prog_14_method_93_code 7 = .ok (.sipush 240, 3) := by decide +kernel
theorem d_M_round_10 : decode prog_14_method_93_code 10 = .ok (.if_icmp .gt 22, 3) := by decide +kernel
theorem d_M_round_13 : decode prog_14_method_93_code 13 = .ok (.aload_n 0, 1) := by decide +kernel
theorem d_M_round_14 : decode prog_14_method_93_code 14 = .ok (.invokevirtual 383, 3) := by decide +kernel
theorem d_M_round_17 : decode prog_14_method_93_code 17 = .ok (.aload_n 0, 1) := by decide +kernel
theorem d_M_round_18 : decode prog_14_method_93_code 18 = .ok (.invokevirtual 451, 3) := by decide +kernel
theorem d_M_round_21 : decode prog_14_method_93_code 21 = .ok (.ifCond .eq 5, 3) := by decide +kernel
theorem d_M_round_24 : decode prog_14_method_93_code 24 = .ok (.iload_n 1, 1) := by decide +kernel
theorem d_M_round_25 : decode prog_14_method_93_code 25 = .ok (.ireturn, 1) := by decide +kernel
theorem d_M_round_26 : decode prog_14_method_93_code 26 = .ok (.iinc 1 1, 3) := by decide +kernel
theorem d_M_round_29 : decode prog_14_method_93_code 29 = .ok (.goto (-23), 3) := by decide +kernel
theorem d_M_round_32 : decode prog_14_method_93_code 32 = .ok (.bipush (-2), 2) := by decide +kernel
theorem d_M_round_34 : decode prog_14_method_93_code 34 = .ok (.ireturn, 1) := by decide +kernel
theorem d_M_crossed_0 : decode prog_14_method_94_code 0 = .ok (.iload_n 1, 1) := by decide +kernel
theorem d_M_crossed_1 : decode prog_14_method_94_code 1 = .ok (.iconst 0, 1) := by decide +kernel
theorem d_M_crossed_2 : decode prog_14_method_94_code 2 = .ok (.iconst 1, 1) := by decide +kernel
theorem d_M_crossed_3 : decode prog_14_method_94_code 3 = .ok (.invokestatic 322, 3) := by decide +kernel
theorem d_M_crossed_6 : decode prog_14_method_94_code 6 = .ok (.ifCond .ne 5, 3) := by decide +kernel
theorem d_M_crossed_9 : decode prog_14_method_94_code 9 = .ok (.iconst (-1), 1) := by decide +kernel
theorem d_M_crossed_10 : decode prog_14_method_94_code 10 = .ok (.ireturn, 1) := by decide +kernel
theorem d_M_crossed_11 : decode prog_14_method_94_code 11 = .ok (.iconst 0, 1) := by decide +kernel
theorem d_M_crossed_12 : decode prog_14_method_94_code 12 = .ok (.istore_n 2, 1) := by decide +kernel
theorem d_M_crossed_13 : decode prog_14_method_94_code 13 = .ok (.bipush (-2), 2) := by decide +kernel
theorem d_M_crossed_15 : decode prog_14_method_94_code 15 = .ok (.istore_n 3, 1) := by decide +kernel
theorem d_M_crossed_16 : decode prog_14_method_94_code 16 = .ok (.iconst 0, 1) := by decide +kernel
theorem d_M_crossed_17 : decode prog_14_method_94_code 17 = .ok (.istore 4, 2) := by decide +kernel
theorem d_M_crossed_19 : decode prog_14_method_94_code 19 = .ok (.iload 4, 2) := by decide +kernel
theorem d_M_crossed_21 : decode prog_14_method_94_code 21 = .ok (.aload_n 0, 1) := by decide +kernel
theorem d_M_crossed_22 : decode prog_14_method_94_code 22 = .ok (.getfield 55, 3) := by decide +kernel
theorem d_M_crossed_25 : decode prog_14_method_94_code 25 = .ok (.aload_n 0, 1) := by decide +kernel
theorem d_M_crossed_26 : decode prog_14_method_94_code 26 = .ok (.getfield 245, 3) := by decide +kernel
theorem d_M_crossed_29 : decode prog_14_method_94_code 29 = .ok (.iaload, 1) := by decide +kernel
theorem d_M_crossed_30 : decode prog_14_method_94_code 30 = .ok (.if_icmp .ge 84, 3) := by decide +kernel
theorem d_M_crossed_33 : decode prog_14_method_94_code 33 = .ok (.iload 4, 2) := by decide +kernel
theorem d_M_crossed_35 : decode prog_14_method_94_code 35 = .ok (.iconst 1, 1) := by decide +kernel
theorem d_M_crossed_36 : decode prog_14_method_94_code 36 = .ok (.iadd, 1) := by decide +kernel
theorem d_M_crossed_37 : decode prog_14_method_94_code 37 = .ok (.istore 5, 2) := by decide +kernel
theorem d_M_crossed_39 : decode prog_14_method_94_code 39 = .ok (.iload 5, 2) := by decide +kernel
theorem d_M_crossed_41 : decode prog_14_method_94_code 41 = .ok (.aload_n 0, 1) := by decide +kernel
theorem d_M_crossed_42 : decode prog_14_method_94_code 42 = .ok (.getfield 55, 3) := by decide +kernel
theorem d_M_crossed_45 : decode prog_14_method_94_code 45 = .ok (.aload_n 0, 1) := by decide +kernel
theorem d_M_crossed_46 : decode prog_14_method_94_code 46 = .ok (.getfield 245, 3) := by decide +kernel
theorem d_M_crossed_49 : decode prog_14_method_94_code 49 = .ok (.iaload, 1) := by decide +kernel
theorem d_M_crossed_50 : decode prog_14_method_94_code 50 = .ok (.if_icmp .ge 58, 3) := by decide +kernel
theorem d_M_crossed_53 : decode prog_14_method_94_code 53 = .ok (.aload_n 0, 1) := by decide +kernel
theorem d_M_crossed_54 : decode prog_14_method_94_code 54 = .ok (.getfield 113, 3) := by decide +kernel
theorem d_M_crossed_57 : decode prog_14_method_94_code 57 = .ok (.bipush 12, 2) := by decide +kernel
theorem d_M_crossed_59 : decode prog_14_method_94_code 59 = .ok (.iload 4, 2) := by decide +kernel
theorem d_M_crossed_61 : decode prog_14_method_94_code 61 = .ok (.iadd, 1) := by decide +kernel
theorem d_M_crossed_62 : decode prog_14_method_94_code 62 = .ok (.iaload, 1) := by decide +kernel
theorem d_M_crossed_63 : decode prog_14_method_94_code 63 = .ok (.iload 5, 2) := by decide +kernel
theorem d_M_crossed_65 : decode prog_14_method_94_code 65 = .ok (.if_icmp .ne 37, 3) := by decide +kernel
theorem d_M_crossed_68 : decode prog_14_method_94_code 68 = .ok (.aload_n 0, 1) := by decide +kernel
theorem d_M_crossed_69 : decode prog_14_method_94_code 69 = .ok (.getfield 113, 3) := by decide +kernel
theorem d_M_crossed_72 : decode prog_14_method_94_code 72 = .ok (.bipush 12, 2) := by decide +kernel
theorem d_M_crossed_74 : decode prog_14_method_94_code 74 = .ok (.iload 5, 2) := by decide +kernel
theorem d_M_crossed_76 : decode prog_14_method_94_code 76 = .ok (.iadd, 1) := by decide +kernel
theorem d_M_crossed_77 : decode prog_14_method_94_code 77 = .ok (.iaload, 1) := by decide +kernel
theorem d_M_crossed_78 : decode prog_14_method_94_code 78 = .ok (.iload 4, 2) := by decide +kernel
theorem d_M_crossed_80 : decode prog_14_method_94_code 80 = .ok (.if_icmp .eq 6, 3) := by decide +kernel
theorem d_M_crossed_83 : decode prog_14_method_94_code 83 = .ok (.goto 19, 3) := by decide +kernel
theorem d_M_crossed_86 : decode prog_14_method_94_code 86 = .ok (.iload_n 2, 1) := by decide +kernel
theorem d_M_crossed_87 : decode prog_14_method_94_code 87 = .ok (.ifCond .ne 12, 3) := by decide +kernel
theorem d_M_crossed_90 : decode prog_14_method_94_code 90 = .ok (.bipush 10, 2) := by decide +kernel
theorem d_M_crossed_92 : decode prog_14_method_94_code 92 = .ok (.iload 4, 2) := by decide +kernel
theorem d_M_crossed_94 : decode prog_14_method_94_code 94 = .ok (.imul, 1) := by decide +kernel
theorem d_M_crossed_95 : decode prog_14_method_94_code 95 = .ok (.iload 5, 2) := by decide +kernel
theorem d_M_crossed_97 : decode prog_14_method_94_code 97 = .ok (.iadd, 1) := by decide +kernel
theorem d_M_crossed_98 : decode prog_14_method_94_code 98 = .ok (.istore_n 3, 1) := by decide +kernel
theorem d_M_crossed_99 : decode prog_14_method_94_code 99 = .ok (.iinc 2 1, 3) := by decide +kernel
theorem d_M_crossed_102 : decode prog_14_method_94_code 102 = .ok (.iinc 5 1, 3) := by decide +kernel
theorem d_M_crossed_105 : decode prog_14_method_94_code 105 = .ok (.goto (-66), 3) := by decide +kernel
theorem d_M_crossed_108 : decode prog_14_method_94_code 108 = .ok (.iinc 4 1, 3) := by decide +kernel
theorem d_M_crossed_111 : decode prog_14_method_94_code 111 = .ok (.goto (-92), 3) := by decide +kernel
theorem d_M_crossed_114 : decode prog_14_method_94_code 114 = .ok (.iload_n 1, 1) := by decide +kernel
theorem d_M_crossed_115 : decode prog_14_method_94_code 115 = .ok (.ifCond .ne 7, 3) := by decide +kernel
theorem d_M_crossed_118 : decode prog_14_method_94_code 118 = .ok (.iload_n 2, 1) := by decide +kernel
theorem d_M_crossed_119 : decode prog_14_method_94_code 119 = .ok (.goto 4, 3) := by decide +kernel
theorem d_M_crossed_122 : decode prog_14_method_94_code 122 = .ok (.iload_n 3, 1) := by decide +kernel
theorem d_M_crossed_123 : decode prog_14_method_94_code 123 = .ok (.ireturn, 1) := by decide +kernel
theorem d_M_holder_0 : decode prog_14_method_95_code 0 = .ok (.aload_n 0, 1) := by decide +kernel
theorem d_M_holder_1 : decode prog_14_method_95_code 1 = .ok (.iload_n 1, 1) := by decide +kernel
theorem d_M_holder_2 : decode prog_14_method_95_code 2 = .ok (.invokevirtual 392, 3) := by decide +kernel
theorem d_M_holder_5 : decode prog_14_method_95_code 5 = .ok (.ifCond .ne 5, 3) := by decide +kernel
theorem d_M_holder_8 : decode prog_14_method_95_code 8 = .ok (.iconst (-1), 1) := by decide +kernel
theorem d_M_holder_9 : decode prog_14_method_95_code 9 = .ok (.ireturn, 1) := by decide +kernel
theorem d_M_holder_10 : decode prog_14_method_95_code 10 = .ok (.iconst 0, 1) := by decide +kernel
theorem d_M_holder_11 : decode prog_14_method_95_code 11 = .ok (.istore_n 2, 1) := by decide +kernel
theorem d_M_holder_12 : decode prog_14_method_95_code 12 = .ok (.iload_n 2, 1) := by decide +kernel
theorem d_M_holder_13 : decode prog_14_method_95_code 13 = .ok (.aload_n 0, 1) := by decide +kernel
theorem d_M_holder_14 : decode prog_14_method_95_code 14 = .ok (.getfield 55, 3) := by decide +kernel
theorem d_M_holder_17 : decode prog_14_method_95_code 17 = .ok (.aload_n 0, 1) := by decide +kernel
theorem d_M_holder_18 : decode prog_14_method_95_code 18 = .ok (.getfield 245, 3) := by decide +kernel
theorem d_M_holder_21 : decode prog_14_method_95_code 21 = .ok (.iaload, 1) := by decide +kernel
theorem d_M_holder_22 : decode prog_14_method_95_code 22 = .ok (.if_icmp .ge 24, 3) := by decide +kernel
theorem d_M_holder_25 : decode prog_14_method_95_code 25 = .ok (.aload_n 0, 1) := by decide +kernel
theorem d_M_holder_26 : decode prog_14_method_95_code 26 = .ok (.getfield 113, 3) := by decide +kernel
theorem d_M_holder_29 : decode prog_14_method_95_code 29 = .ok (.bipush 12, 2) := by decide +kernel
theorem d_M_holder_31 : decode prog_14_method_95_code 31 = .ok (.iload_n 2, 1) := by decide +kernel
theorem d_M_holder_32 : decode prog_14_method_95_code 32 = .ok (.iadd, 1) := by decide +kernel
theorem d_M_holder_33 : decode prog_14_method_95_code 33 = .ok (.iaload, 1) := by decide +kernel
theorem d_M_holder_34 : decode prog_14_method_95_code 34 = .ok (.iload_n 1, 1) := by decide +kernel
theorem d_M_holder_35 : decode prog_14_method_95_code 35 = .ok (.if_icmp .ne 5, 3) := by decide +kernel
theorem d_M_holder_38 : decode prog_14_method_95_code 38 = .ok (.iload_n 2, 1) := by decide +kernel
theorem d_M_holder_39 : decode prog_14_method_95_code 39 = .ok (.ireturn, 1) := by decide +kernel
theorem d_M_holder_40 : decode prog_14_method_95_code 40 = .ok (.iinc 2 1, 3) := by decide +kernel
theorem d_M_holder_43 : decode prog_14_method_95_code 43 = .ok (.goto (-31), 3) := by decide +kernel
theorem d_M_holder_46 : decode prog_14_method_95_code 46 = .ok (.iconst (-1), 1) := by decide +kernel
theorem d_M_holder_47 : decode prog_14_method_95_code 47 = .ok (.ireturn, 1) := by decide +kernel
theorem d_M_fit_0 : decode prog_14_method_96_code 0 = .ok (.aload_n 0, 1) := by decide +kernel
theorem d_M_fit_1 : decode prog_14_method_96_code 1 = .ok (.iload_n 1, 1) := by decide +kernel
theorem d_M_fit_2 : decode prog_14_method_96_code 2 = .ok (.invokevirtual 392, 3) := by decide +kernel
theorem d_M_fit_5 : decode prog_14_method_96_code 5 = .ok (.ifCond .eq 12, 3) := by decide +kernel
theorem d_M_fit_8 : decode prog_14_method_96_code 8 = .ok (.iload_n 2, 1) := by decide +kernel
theorem d_M_fit_9 : decode prog_14_method_96_code 9 = .ok (.iconst 0, 1) := by decide +kernel
theorem d_M_fit_10 : decode prog_14_method_96_code 10 = .ok (.iconst 1, 1) := by decide +kernel
theorem d_M_fit_11 : decode prog_14_method_96_code 11 = .ok (.invokestatic 322, 3) := by decide +kernel
theorem d_M_fit_14 : decode prog_14_method_96_code 14 = .ok (.ifCond .ne 5, 3) := by decide +kernel
theorem d_M_fit_17 : decode prog_14_method_96_code 17 = .ok (.iconst (-1), 1) := by decide +kernel
theorem d_M_fit_18 : decode prog_14_method_96_code 18 = .ok (.ireturn, 1) := by decide +kernel
theorem d_M_fit_19 : decode prog_14_method_96_code 19 = .ok (.aload_n 0, 1) := by decide +kernel
theorem d_M_fit_20 : decode prog_14_method_96_code 20 = .ok (.invokevirtual 332, 3) := by decide +kernel
theorem d_M_fit_23 : decode prog_14_method_96_code 23 = .ok (.bipush (-2), 2) := by decide +kernel
theorem d_M_fit_25 : decode prog_14_method_96_code 25 = .ok (.istore_n 3, 1) := by decide +kernel
theorem d_M_fit_26 : decode prog_14_method_96_code 26 = .ok (.iconst 0, 1) := by decide +kernel
theorem d_M_fit_27 : decode prog_14_method_96_code 27 = .ok (.istore 4, 2) := by decide +kernel
theorem d_M_fit_29 : decode prog_14_method_96_code 29 = .ok (.iload 4, 2) := by decide +kernel
theorem d_M_fit_31 : decode prog_14_method_96_code 31 = .ok (.aload_n 0, 1) := by decide +kernel
theorem d_M_fit_32 : decode prog_14_method_96_code 32 = .ok (.getfield 46, 3) := by decide +kernel
theorem d_M_fit_35 : decode prog_14_method_96_code 35 = .ok (.aload_n 0, 1) := by decide +kernel
theorem d_M_fit_36 : decode prog_14_method_96_code 36 = .ok (.getfield 245, 3) := by decide +kernel
theorem d_M_fit_39 : decode prog_14_method_96_code 39 = .ok (.iaload, 1) := by decide +kernel
theorem d_M_fit_40 : decode prog_14_method_96_code 40 = .ok (.if_icmp .ge 32, 3) := by decide +kernel
theorem d_M_fit_43 : decode prog_14_method_96_code 43 = .ok (.iload_n 3, 1) := by decide +kernel
theorem d_M_fit_44 : decode prog_14_method_96_code 44 = .ok (.ifCond .lt 19, 3) := by decide +kernel
theorem d_M_fit_47 : decode prog_14_method_96_code 47 = .ok (.aload_n 0, 1) := by decide +kernel
theorem d_M_fit_48 : decode prog_14_method_96_code 48 = .ok (.iload_n 1, 1) := by decide +kernel
theorem d_M_fit_49 : decode prog_14_method_96_code 49 = .ok (.iload 4, 2) := by decide +kernel
theorem d_M_fit_51 : decode prog_14_method_96_code 51 = .ok (.invokevirtual 417, 3) := by decide +kernel
theorem d_M_fit_54 : decode prog_14_method_96_code 54 = .ok (.aload_n 0, 1) := by decide +kernel
theorem d_M_fit_55 : decode prog_14_method_96_code 55 = .ok (.iload_n 1, 1) := by decide +kernel
theorem d_M_fit_56 : decode prog_14_method_96_code 56 = .ok (.iload_n 3, 1) := by decide +kernel
theorem d_M_fit_57 : decode prog_14_method_96_code 57 = .ok (.invokevirtual 417, 3) := by decide +kernel
theorem d_M_fit_60 : decode prog_14_method_96_code 60 = .ok (.if_icmp .ge 6, 3) := by decide +kernel
theorem d_M_fit_63 : decode prog_14_method_96_code 63 = .ok (.iload 4, 2) := by decide +kernel
theorem d_M_fit_65 : decode prog_14_method_96_code 65 = .ok (.istore_n 3, 1) := by decide +kernel
theorem d_M_fit_66 : decode prog_14_method_96_code 66 = .ok (.iinc 4 1, 3) := by decide +kernel
theorem d_M_fit_69 : decode prog_14_method_96_code 69 = .ok (.goto (-40), 3) := by decide +kernel
theorem d_M_fit_72 : decode prog_14_method_96_code 72 = .ok (.iload_n 3, 1) := by decide +kernel
theorem d_M_fit_73 : decode prog_14_method_96_code 73 = .ok (.ifCond .lt 7, 3) := by decide +kernel
theorem d_M_fit_76 : decode prog_14_method_96_code 76 = .ok (.iload_n 2, 1) := by decide +kernel
theorem d_M_fit_77 : decode prog_14_method_96_code 77 = .ok (.ifCond .ne 7, 3) := by decide +kernel
theorem d_M_fit_80 : decode prog_14_method_96_code 80 = .ok (.iload_n 3, 1) := by decide +kernel
theorem d_M_fit_81 : decode prog_14_method_96_code 81 = .ok (.goto 9, 3) := by decide +kernel
theorem d_M_fit_84 : decode prog_14_method_96_code 84 = .ok (.aload_n 0, 1) := by decide +kernel
theorem d_M_fit_85 : decode prog_14_method_96_code 85 = .ok (.iload_n 1, 1) := by decide +kernel
theorem d_M_fit_86 : decode prog_14_method_96_code 86 = .ok (.iload_n 3, 1) := by decide +kernel
theorem d_M_fit_87 : decode prog_14_method_96_code 87 = .ok (.invokevirtual 417, 3) := by decide +kernel
theorem d_M_fit_90 : decode prog_14_method_96_code 90 = .ok (.ireturn, 1) := by decide +kernel
def w_M_bitOf (N : Nat) (x0 : Nat) (x1 : Int32) (h : qH) (Q : Int32 → qH → Prop) : Prop := (qS h x0 = .inl 12 ∧ (((qI h x0 61) = 0 → Q ((1 : Int32) <<< (x1 &&& 31)) h) ∧ (¬ (qI h x0 61) = 0 → (w_M_nailAt N x0 x1 h (fun r3 h4 => Q ((1 : Int32) <<< (r3 &&& 31)) h4)))))
def w_M_with (N : Nat) (x0 : Nat) (x1 : Int32) (x2 : Int32) (x3 : Int32) (h : qH) (Q : Int32 → qH → Prop) : Prop := (qS h x0 = .inl 12 ∧ (qok h (qR h x0 60) 0 (((7 : Int32) * x1) + x2) ∧ (w_M_bitOf N x0 x2 h (fun r3 h4 => (qok h4 (qR h x0 59) 0 ((((128 : Int32) * x1) + (128 : Int32)) + (x3 ||| r3)) ∧ Q (((qI h (qR h x0 60) ((((7 : Int32) * x1) + x2)).toNatClampNeg) - (10000 : Int32)) + (qI h4 (qR h x0 59) (((((128 : Int32) * x1) + (128 : Int32)) + (x3 ||| r3))).toNatClampNeg)) h4)))))
def w_M_fillsLeast_11 (N : Nat) : Nat → Nat → Int32 → qH → (qH → Prop) → (Nat → qH → Prop) → Prop
  | 0 => fun _ _ _ _ _ => False
  | k + 1 => fun x0 x2 h Q K45 => (((128 : Int32) ≤ x2 → (K45 x0 h)) ∧ (¬ (128 : Int32) ≤ x2 → (qS h x0 = .inl 12 ∧ (qok h (qR h x0 26) 0 (qI h x0 18) ∧ (qok h (qR h x0 59) 0 (((128 : Int32) * (qI h (qR h x0 26) ((qI h x0 18)).toNatClampNeg)) + x2) ∧ ∀ h5 : qH, h5 = qsI h (qR h x0 59) ((((128 : Int32) * (qI h (qR h x0 26) ((qI h x0 18)).toNatClampNeg)) + x2)).toNatClampNeg (0 : Int32) → (w_M_fillsLeast_11 N k x0 (x2 + (1 : Int32)) h5 Q K45))))))
def w_M_fillsLeast_91 (N : Nat) : Nat → Nat → Int32 → Int32 → Int32 → Int32 → qH → (qH → Prop) → (Nat → Int32 → Int32 → Int32 → qH → Prop) → Prop
  | 0 => fun _ _ _ _ _ _ _ _ => False
  | k + 1 => fun x0 x2 x3 x4 x5 h Q K145 => (qS h x0 = .inl 12 ∧ (qok h (qR h x0 23) 0 (qI h x0 18) ∧ (((qI h (qR h x0 23) ((qI h x0 18)).toNatClampNeg) ≤ x5 → (K145 x0 x2 x3 x4 h)) ∧ (¬ (qI h (qR h x0 23) ((qI h x0 18)).toNatClampNeg) ≤ x5 → (w_M_bitOf N x0 x5 h (fun r4 h5 => ((¬ (x3 &&& r4) = 0 → (w_M_fillsLeast_91 N k x0 x2 x3 x4 (x5 + (1 : Int32)) h5 Q K145)) ∧ ((x3 &&& r4) = 0 → (qS h5 x0 = .inl 12 ∧ w_M_with N x0 x2 x5 x3 h5 (fun r8 h9 => ((x4 ≤ r8 → (w_M_fillsLeast_91 N k x0 x2 x3 x4 (x5 + (1 : Int32)) h9 Q K145)) ∧ (¬ x4 ≤ r8 → (qS h9 x0 = .inl 12 ∧ w_M_with N x0 x2 x5 x3 h9 (fun r12 h13 => (w_M_fillsLeast_91 N k x0 x2 x3 r12 (x5 + (1 : Int32)) h13 Q K145)))))))))))))))
def w_M_fillsLeast_63 (N : Nat) : Nat → Nat → Int32 → Int32 → qH → (qH → Prop) → (Nat → Int32 → qH → Prop) → Prop
  | 0 => fun _ _ _ _ _ _ => False
  | k + 1 => fun x0 x2 x3 h Q K165 => (((128 : Int32) ≤ x3 → (K165 x0 x2 h)) ∧ (¬ (128 : Int32) ≤ x3 → (qS h x0 = .inl 12 ∧ (qok h (qR h x0 59) 0 ((((128 : Int32) * x2) + (128 : Int32)) + x3) ∧ (∀ y4 : Int32, y4 = (qI h (qR h x0 59) (((((128 : Int32) * x2) + (128 : Int32)) + x3)).toNatClampNeg) → (w_M_fillsLeast_91 N N x0 x2 x3 y4 (0 : Int32) h Q (fun x5 x6 x7 x8 h9 => (qS h9 x5 = .inl 12 ∧ (qok h9 (qR h9 x5 59) 0 (((128 : Int32) * x6) + x7) ∧ ∀ h12 : qH, h12 = qsI h9 (qR h9 x5 59) ((((128 : Int32) * x6) + x7)).toNatClampNeg x8 → (w_M_fillsLeast_63 N k x5 x6 (x7 + (1 : Int32)) h12 Q K165))))))))))
def w_M_fillsLeast_57 (N : Nat) : Nat → Nat → Int32 → qH → (qH → Prop) → Prop
  | 0 => fun _ _ _ _ => False
  | k + 1 => fun x0 x2 h Q => ((x2 < 0 → Q h) ∧ (¬ x2 < 0 → (w_M_fillsLeast_63 N N x0 x2 (0 : Int32) h Q (fun x2 x3 h4 => (w_M_fillsLeast_57 N k x2 (x3 + (-1 : Int32)) h4 Q)))))
def w_M_fillsLeast (N : Nat) (x0 : Nat) (x1 : Int32) (h : qH) (Q : qH → Prop) : Prop := (qS h x0 = .inl 12 ∧ qzb x1 ∧ ∀ h3 : qH, h3 = qsI h x0 61 x1 → (qS h3 x0 = .inl 12 ∧ w_M_fillsTable N x0 h3 (fun h5 => (w_M_fillsLeast_11 N N x0 (0 : Int32) h5 Q (fun x6 h7 => (qS h7 x6 = .inl 12 ∧ (qok h7 (qR h7 x6 26) 0 (qI h7 x6 18) ∧ (∀ y10 : Int32, y10 = ((qI h7 (qR h7 x6 26) ((qI h7 x6 18)).toNatClampNeg) - (1 : Int32)) → (w_M_fillsLeast_57 N N x6 y10 h7 Q )))))))))
def w_M_lowestFor_2 (N : Nat) : Nat → Nat → Int32 → Int32 → Int32 → qH → (Int32 → qH → Prop) → Prop
  | 0 => fun _ _ _ _ _ _ => False
  | k + 1 => fun x0 x1 x2 x3 h Q => (qS h x0 = .inl 12 ∧ (qok h (qR h x0 23) 0 (qI h x0 18) ∧ (((qI h (qR h x0 23) ((qI h x0 18)).toNatClampNeg) ≤ x3 → Q (-2 : Int32) h) ∧ (¬ (qI h (qR h x0 23) ((qI h x0 18)).toNatClampNeg) ≤ x3 → (w_M_bitOf N x0 x3 h (fun r4 h5 => ((¬ (x2 &&& r4) = 0 → (w_M_lowestFor_2 N k x0 x1 x2 (x3 + (1 : Int32)) h5 Q)) ∧ ((x2 &&& r4) = 0 → (qS h5 x0 = .inl 12 ∧ w_M_with N x0 x1 x3 x2 h5 (fun r8 h9 => (qS h9 x0 = .inl 12 ∧ (qok h9 (qR h9 x0 59) 0 (((128 : Int32) * x1) + x2) ∧ ((¬ r8 = (qI h9 (qR h9 x0 59) ((((128 : Int32) * x1) + x2)).toNatClampNeg) → (w_M_lowestFor_2 N k x0 x1 x2 (x3 + (1 : Int32)) h9 Q)) ∧ (r8 = (qI h9 (qR h9 x0 59) ((((128 : Int32) * x1) + x2)).toNatClampNeg) → Q x3 h9))))))))))))))
def w_M_lowestFor (N : Nat) (x0 : Nat) (x1 : Int32) (x2 : Int32) (h : qH) (Q : Int32 → qH → Prop) : Prop := (w_M_lowestFor_2 N N x0 x1 x2 (0 : Int32) h Q )
def w_M_costOf_2 (N : Nat) : Nat → Int32 → qH → (Int32 → qH → Prop) → Prop
  | 0 => fun _ _ _ => False
  | k + 1 => fun x1 h Q => ((0 ≤ x1 → Q x1 h) ∧ (¬ 0 ≤ x1 → (w_M_costOf_2 N k (x1 + (10000 : Int32)) h Q)))
def w_M_costOf (N : Nat) (x0 : Int32) (h : qH) (Q : Int32 → qH → Prop) : Prop := (w_M_costOf_2 N N x0 h Q )
def w_M_hangs_40 (N : Nat) : Nat → Nat → Int32 → Int32 → Int32 → qH → (Int32 → qH → Prop) → Prop
  | 0 => fun _ _ _ _ _ _ => False
  | k + 1 => fun x0 x1 x3 x4 h Q => ((x1 ≤ x4 → (qS h x0 = .inl 12 ∧ w_M_lowestFor N x0 x1 x3 h (fun r3 h4 => Q r3 h4))) ∧ (¬ x1 ≤ x4 → (qS h x0 = .inl 12 ∧ w_M_lowestFor N x0 x4 x3 h (fun r6 h7 => ((r6 < 0 → (w_M_hangs_40 N k x0 x1 x3 (x4 + (1 : Int32)) h7 Q)) ∧ (¬ r6 < 0 → (qS h7 x0 = .inl 12 ∧ w_M_bitOf N x0 r6 h7 (fun r10 h11 => (∀ y12 : Int32, y12 = (x3 ||| r10) → (w_M_hangs_40 N k x0 x1 y12 (x4 + (1 : Int32)) h11 Q))))))))))
def w_M_hangs_15 (N : Nat) (x0 : Nat) (x1 : Int32) (x2 : Int32) (h : qH) (Q : Int32 → qH → Prop)  : Prop := (qS h x0 = .inl 12 ∧ w_M_fillsLeast N x0 x2 h (fun h2 => ((¬ x1 = (-1 : Int32) → (w_M_hangs_40 N N x0 x1 (0 : Int32) (0 : Int32) h2 Q )) ∧ (x1 = (-1 : Int32) → (qS h2 x0 = .inl 12 ∧ (qok h2 (qR h2 x0 59) 0 (0 : Int32) ∧ (w_M_costOf N (qI h2 (qR h2 x0 59) ((0 : Int32)).toNatClampNeg) h2 (fun r6 h7 => Q r6 h7))))))))
def w_M_hangs (N : Nat) (x0 : Nat) (x1 : Int32) (x2 : Int32) (h : qH) (Q : Int32 → qH → Prop) : Prop := ((x1 = (-1 : Int32) → (w_M_hangs_15 N x0 x1 x2 h Q )) ∧ (¬ x1 = (-1 : Int32) → (qS h x0 = .inl 12 ∧ w_M_isPerson N x0 x1 h (fun r3 h4 => ((¬ r3 = 0 → (w_M_hangs_15 N x0 x1 x2 h4 Q )) ∧ (r3 = 0 → Q (-1 : Int32) h4))))))
def w_M_hanging (N : Nat) (x0 : Nat) (x1 : Int32) (h : qH) (Q : Int32 → qH → Prop) : Prop := (qS h x0 = .inl 12 ∧ w_M_hangs N x0 x1 (0 : Int32) h (fun r2 h3 => Q r2 h3))
def w_M_apart (N : Nat) (x0 : Nat) (x1 : Int32) (h : qH) (Q : Int32 → qH → Prop) : Prop := (qS h x0 = .inl 12 ∧ w_M_hangs N x0 x1 (1 : Int32) h (fun r2 h3 => Q r2 h3))
def w_M_missed_25 (N : Nat) : Nat → Nat → Int32 → Int32 → Int32 → Int32 → qH → (Int32 → qH → Prop) → Prop
  | 0 => fun _ _ _ _ _ _ _ => False
  | k + 1 => fun x0 x1 x2 x3 x4 h Q => (qS h x0 = .inl 12 ∧ (qok h (qR h x0 23) 0 (qI h x0 18) ∧ (((qI h (qR h x0 23) ((qI h x0 18)).toNatClampNeg) ≤ x4 → ((¬ x1 = 0 → Q x3 h) ∧ (x1 = 0 → Q x2 h))) ∧ (¬ (qI h (qR h x0 23) ((qI h x0 18)).toNatClampNeg) ≤ x4 → (qok h (qR h x0 59) 0 ((1 : Int32) <<< (x4 &&& 31)) ∧ (w_M_costOf N (qI h (qR h x0 59) (((1 : Int32) <<< (x4 &&& 31))).toNatClampNeg) h (fun r6 h7 => ((x3 < r6 → (w_M_missed_25 N k x0 x1 x4 r6 (x4 + (1 : Int32)) h7 Q)) ∧ (¬ x3 < r6 → (w_M_missed_25 N k x0 x1 x2 x3 (x4 + (1 : Int32)) h7 Q))))))))))
def w_M_missed (N : Nat) (x0 : Nat) (x1 : Int32) (h : qH) (Q : Int32 → qH → Prop) : Prop := (w_M_in N x1 (0 : Int32) (1 : Int32) h (fun r1 h2 => ((¬ r1 = 0 → (qS h2 x0 = .inl 12 ∧ w_M_fillsLeast N x0 (0 : Int32) h2 (fun h5 => (w_M_missed_25 N N x0 x1 (-2 : Int32) (-2 : Int32) (0 : Int32) h5 Q )))) ∧ (r1 = 0 → Q (-1 : Int32) h2))))
def w_M_ways_18 (N : Nat) : Nat → Nat → Int32 → Int32 → qH → (Int32 → qH → Prop) → (Nat → Int32 → qH → Prop) → Prop
  | 0 => fun _ _ _ _ _ _ => False
  | k + 1 => fun x0 x1 x2 h Q K50 => (((32 : Int32) ≤ x2 → (K50 x0 x1 h)) ∧ (¬ (32 : Int32) ≤ x2 → (qS h x0 = .inl 12 ∧ (qok h (qR h x0 26) 0 (qI h x0 18) ∧ (qok h (qR h x0 62) 0 (((32 : Int32) * (qI h (qR h x0 26) ((qI h x0 18)).toNatClampNeg)) + x2) ∧ ∀ h5 : qH, h5 = qsI h (qR h x0 62) ((((32 : Int32) * (qI h (qR h x0 26) ((qI h x0 18)).toNatClampNeg)) + x2)).toNatClampNeg (1 : Int32) → (w_M_ways_18 N k x0 x1 (x2 + (1 : Int32)) h5 Q K50))))))
def w_M_ways_80 (N : Nat) : Nat → Nat → Int32 → Int32 → Int32 → Int32 → Int32 → qH → (Int32 → qH → Prop) → (Nat → Int32 → Int32 → Int32 → Int32 → qH → Prop) → Prop
  | 0 => fun _ _ _ _ _ _ _ _ _ => False
  | k + 1 => fun x0 x1 x2 x3 x4 x5 h Q K155 => (qS h x0 = .inl 12 ∧ (qok h (qR h x0 23) 0 (qI h x0 18) ∧ (((qI h (qR h x0 23) ((qI h x0 18)).toNatClampNeg) ≤ x5 → (K155 x0 x1 x2 x3 x4 h)) ∧ (¬ (qI h (qR h x0 23) ((qI h x0 18)).toNatClampNeg) ≤ x5 → (w_M_nailAt N x0 x5 h (fun r4 h5 => (∀ y6 : Int32, y6 = ((1 : Int32) <<< (r4 &&& 31)) → ((¬ (x3 &&& y6) = 0 → (w_M_ways_80 N k x0 x1 x2 x3 x4 (x5 + (1 : Int32)) h5 Q K155)) ∧ ((x3 &&& y6) = 0 → (qS h5 x0 = .inl 12 ∧ (qok h5 (qR h5 x0 60) 0 (((7 : Int32) * x2) + x5) ∧ ((x1 < (qI h5 (qR h5 x0 60) ((((7 : Int32) * x2) + x5)).toNatClampNeg) → (w_M_ways_80 N k x0 x1 x2 x3 x4 (x5 + (1 : Int32)) h5 Q K155)) ∧ (¬ x1 < (qI h5 (qR h5 x0 60) ((((7 : Int32) * x2) + x5)).toNatClampNeg) → (qok h5 (qR h5 x0 62) 0 ((((32 : Int32) * x2) + (32 : Int32)) + (x3 ||| y6)) ∧ (∀ y12 : Int32, y12 = (x4 + (qI h5 (qR h5 x0 62) (((((32 : Int32) * x2) + (32 : Int32)) + (x3 ||| y6))).toNatClampNeg)) → (w_M_ways_80 N k x0 x1 x2 x3 y12 (x5 + (1 : Int32)) h5 Q K155))))))))))))))))
def w_M_ways_68 (N : Nat) : Nat → Nat → Int32 → Int32 → Int32 → qH → (Int32 → qH → Prop) → (Nat → Int32 → Int32 → qH → Prop) → Prop
  | 0 => fun _ _ _ _ _ _ _ => False
  | k + 1 => fun x0 x1 x2 x3 h Q K174 => (((32 : Int32) ≤ x3 → (K174 x0 x1 x2 h)) ∧ (¬ (32 : Int32) ≤ x3 → (w_M_ways_80 N N x0 x1 x2 x3 (0 : Int32) (0 : Int32) h Q (fun x2 x3 x4 x5 x6 h7 => (qS h7 x2 = .inl 12 ∧ (qok h7 (qR h7 x2 62) 0 (((32 : Int32) * x4) + x5) ∧ ∀ h10 : qH, h10 = qsI h7 (qR h7 x2 62) ((((32 : Int32) * x4) + x5)).toNatClampNeg x6 → (w_M_ways_68 N k x2 x3 x4 (x5 + (1 : Int32)) h10 Q K174)))))))
def w_M_ways_62 (N : Nat) : Nat → Nat → Int32 → Int32 → qH → (Int32 → qH → Prop) → Prop
  | 0 => fun _ _ _ _ _ => False
  | k + 1 => fun x0 x1 x2 h Q => ((x2 < 0 → (qS h x0 = .inl 12 ∧ (qok h (qR h x0 62) 0 (0 : Int32) ∧ Q (qI h (qR h x0 62) ((0 : Int32)).toNatClampNeg) h))) ∧ (¬ x2 < 0 → (w_M_ways_68 N N x0 x1 x2 (0 : Int32) h Q (fun x4 x5 x6 h7 => (w_M_ways_62 N k x4 x5 (x6 + (-1 : Int32)) h7 Q)))))
def w_M_ways (N : Nat) (x0 : Nat) (x1 : Int32) (h : qH) (Q : Int32 → qH → Prop) : Prop := (w_M_in N x1 (0 : Int32) (99 : Int32) h (fun r1 h2 => ((¬ r1 = 0 → (qS h2 x0 = .inl 12 ∧ w_M_fillsTable N x0 h2 (fun h5 => (w_M_ways_18 N N x0 x1 (0 : Int32) h5 Q (fun x6 x7 h8 => (qS h8 x6 = .inl 12 ∧ (qok h8 (qR h8 x6 26) 0 (qI h8 x6 18) ∧ (∀ y11 : Int32, y11 = ((qI h8 (qR h8 x6 26) ((qI h8 x6 18)).toNatClampNeg) - (1 : Int32)) → (w_M_ways_62 N N x6 x7 y11 h8 Q ))))))))) ∧ (r1 = 0 → Q (-1 : Int32) h2))))
def w_M_sets_37 (N : Nat) : Nat → Nat → Int32 → Int32 → Int32 → Int32 → qH → (Int32 → qH → Prop) → (Nat → Int32 → Int32 → Int32 → qH → Prop) → Prop
  | 0 => fun _ _ _ _ _ _ _ _ => False
  | k + 1 => fun x0 x1 x2 x3 x4 h Q K68 => ((¬ ((x1 >>> (x4 &&& 31)) &&& (1 : Int32)) = 0 → (K68 x0 x1 x2 x3 h)) ∧ (((x1 >>> (x4 &&& 31)) &&& (1 : Int32)) = 0 → (∀ y2 : Int32, y2 = (x1 ||| ((1 : Int32) <<< (x4 &&& 31))) → (qS h x0 = .inl 12 ∧ (qok h (qR h x0 49) 0 ((12 : Int32) + x4) ∧ (∀ y5 : Int32, y5 = (qI h (qR h x0 49) (((12 : Int32) + x4)).toNatClampNeg) → (w_M_sets_37 N k x0 y2 x2 x3 y5 h Q K68)))))))
def w_M_sets_6 (N : Nat) : Nat → Nat → Int32 → Int32 → Int32 → qH → (Int32 → qH → Prop) → Prop
  | 0 => fun _ _ _ _ _ _ => False
  | k + 1 => fun x0 x1 x2 x3 h Q => (qS h x0 = .inl 12 ∧ (qok h (qR h x0 26) 0 (qI h x0 18) ∧ (((qI h (qR h x0 26) ((qI h x0 18)).toNatClampNeg) ≤ x3 → Q x2 h) ∧ (¬ (qI h (qR h x0 26) ((qI h x0 18)).toNatClampNeg) ≤ x3 → ((¬ ((x1 >>> (x3 &&& 31)) &&& (1 : Int32)) = (1 : Int32) → (w_M_sets_37 N N x0 x1 (x2 + (1 : Int32)) x3 x3 h Q (fun x5 x6 x7 x8 h9 => (w_M_sets_6 N k x5 x6 x7 (x8 + (1 : Int32)) h9 Q)))) ∧ (((x1 >>> (x3 &&& 31)) &&& (1 : Int32)) = (1 : Int32) → (w_M_sets_6 N k x0 x1 x2 (x3 + (1 : Int32)) h Q)))))))
def w_M_sets (N : Nat) (x0 : Nat) (h : qH) (Q : Int32 → qH → Prop) : Prop := (w_M_sets_6 N N x0 (0 : Int32) (0 : Int32) (0 : Int32) h Q )
def w_M_changes (N : Nat) (x0 : Nat) (h : qH) (Q : Int32 → qH → Prop) : Prop := (qS h x0 = .inl 12 ∧ (qok h (qR h x0 26) 0 (qI h x0 18) ∧ (w_M_sets N x0 h (fun r3 h4 => Q ((qI h (qR h x0 26) ((qI h x0 18)).toNatClampNeg) - r3) h4))))
def w_M_ownBits_4 (N : Nat) : Nat → Nat → Int32 → Int32 → qH → (Int32 → qH → Prop) → Prop
  | 0 => fun _ _ _ _ _ => False
  | k + 1 => fun x0 x1 x2 h Q => (qS h x0 = .inl 12 ∧ (qok h (qR h x0 26) 0 (qI h x0 18) ∧ (((qI h (qR h x0 26) ((qI h x0 18)).toNatClampNeg) ≤ x2 → Q x1 h) ∧ (¬ (qI h (qR h x0 26) ((qI h x0 18)).toNatClampNeg) ≤ x2 → (qok h (qR h x0 50) 0 ((12 : Int32) + x2) ∧ ((¬ (qI h (qR h x0 50) (((12 : Int32) + x2)).toNatClampNeg) = x2 → (w_M_ownBits_4 N k x0 x1 (x2 + (1 : Int32)) h Q)) ∧ ((qI h (qR h x0 50) (((12 : Int32) + x2)).toNatClampNeg) = x2 → (∀ y6 : Int32, y6 = (x1 ||| ((1 : Int32) <<< (x2 &&& 31))) → (w_M_ownBits_4 N k x0 y6 (x2 + (1 : Int32)) h Q)))))))))
def w_M_ownBits (N : Nat) (x0 : Nat) (h : qH) (Q : Int32 → qH → Prop) : Prop := (w_M_ownBits_4 N N x0 (0 : Int32) (0 : Int32) h Q )
def w_M_themselves_6 (N : Nat) : Nat → Nat → Int32 → qH → (Int32 → qH → Prop) → Prop
  | 0 => fun _ _ _ _ => False
  | k + 1 => fun x0 x1 h Q => (((240 : Int32) < x1 → Q (-2 : Int32) h) ∧ (¬ (240 : Int32) < x1 → (qS h x0 = .inl 12 ∧ w_M_ownBits N x0 h (fun r3 h4 => (qS h4 x0 = .inl 12 ∧ (qok h4 (qR h4 x0 26) 0 (qI h4 x0 18) ∧ ((¬ r3 = (((1 : Int32) <<< ((qI h4 (qR h4 x0 26) ((qI h4 x0 18)).toNatClampNeg) &&& 31)) - (1 : Int32)) → (w_M_nightGoes N x0 h4 (fun h8 => (w_M_themselves_6 N k x0 (x1 + (1 : Int32)) h8 Q)))) ∧ (r3 = (((1 : Int32) <<< ((qI h4 (qR h4 x0 26) ((qI h4 x0 18)).toNatClampNeg) &&& 31)) - (1 : Int32)) → Q x1 h4))))))))
def w_M_themselves (N : Nat) (x0 : Nat) (h : qH) (Q : Int32 → qH → Prop) : Prop := (qS h x0 = .inl 12 ∧ w_M_copiesStill N x0 h (fun h2 => (w_M_themselves_6 N N x0 (0 : Int32) h2 Q )))
def w_M_day_16 (N : Nat) : Nat → Nat → Int32 → Int32 → qH → (Int32 → qH → Prop) → Prop
  | 0 => fun _ _ _ _ _ => False
  | k + 1 => fun x0 x1 x2 h Q => (((240 : Int32) < x2 → Q (-2 : Int32) h) ∧ (¬ (240 : Int32) < x2 → (qS h x0 = .inl 12 ∧ (qok h (qR h x0 50) 0 ((12 : Int32) + x1) ∧ ((¬ (qI h (qR h x0 50) (((12 : Int32) + x1)).toNatClampNeg) = x1 → (w_M_nightGoes N x0 h (fun h5 => (w_M_day_16 N k x0 x1 (x2 + (1 : Int32)) h5 Q)))) ∧ ((qI h (qR h x0 50) (((12 : Int32) + x1)).toNatClampNeg) = x1 → Q x2 h))))))
def w_M_day (N : Nat) (x0 : Nat) (x1 : Int32) (h : qH) (Q : Int32 → qH → Prop) : Prop := (qS h x0 = .inl 12 ∧ w_M_isPerson N x0 x1 h (fun r2 h3 => ((¬ r2 = 0 → (qS h3 x0 = .inl 12 ∧ w_M_copiesStill N x0 h3 (fun h6 => (w_M_day_16 N N x0 x1 (0 : Int32) h6 Q )))) ∧ (r2 = 0 → Q (-1 : Int32) h3))))
def w_M_areAsNow_2 (N : Nat) : Nat → Nat → Int32 → qH → (Int32 → qH → Prop) → Prop
  | 0 => fun _ _ _ _ => False
  | k + 1 => fun x0 x1 h Q => (qS h x0 = .inl 12 ∧ (qok h (qR h x0 26) 0 (qI h x0 18) ∧ (((qI h (qR h x0 26) ((qI h x0 18)).toNatClampNeg) ≤ x1 → (qzb (1 : Int32) ∧ Q (1 : Int32) h)) ∧ (¬ (qI h (qR h x0 26) ((qI h x0 18)).toNatClampNeg) ≤ x1 → (qok h (qR h x0 50) 0 ((12 : Int32) + x1) ∧ (qok h (qR h x0 49) 0 ((12 : Int32) + x1) ∧ (((qI h (qR h x0 50) (((12 : Int32) + x1)).toNatClampNeg) = (qI h (qR h x0 49) (((12 : Int32) + x1)).toNatClampNeg) → (w_M_areAsNow_2 N k x0 (x1 + (1 : Int32)) h Q)) ∧ (¬ (qI h (qR h x0 50) (((12 : Int32) + x1)).toNatClampNeg) = (qI h (qR h x0 49) (((12 : Int32) + x1)).toNatClampNeg) → (qzb (0 : Int32) ∧ Q (0 : Int32) h)))))))))
def w_M_areAsNow (N : Nat) (x0 : Nat) (h : qH) (Q : Int32 → qH → Prop) : Prop := (w_M_areAsNow_2 N N x0 (0 : Int32) h Q )
def w_M_round_6 (N : Nat) : Nat → Nat → Int32 → qH → (Int32 → qH → Prop) → Prop
  | 0 => fun _ _ _ _ => False
  | k + 1 => fun x0 x1 h Q => (((240 : Int32) < x1 → Q (-2 : Int32) h) ∧ (¬ (240 : Int32) < x1 → (qS h x0 = .inl 12 ∧ w_M_nightGoes N x0 h (fun h3 => (qS h3 x0 = .inl 12 ∧ w_M_areAsNow N x0 h3 (fun r5 h6 => ((r5 = 0 → (w_M_round_6 N k x0 (x1 + (1 : Int32)) h6 Q)) ∧ (¬ r5 = 0 → Q x1 h6))))))))
def w_M_round (N : Nat) (x0 : Nat) (h : qH) (Q : Int32 → qH → Prop) : Prop := (qS h x0 = .inl 12 ∧ w_M_copiesStill N x0 h (fun h2 => (w_M_round_6 N N x0 (1 : Int32) h2 Q )))
def w_M_crossed_39 (N : Nat) : Nat → Nat → Int32 → Int32 → Int32 → Int32 → Int32 → qH → (Int32 → qH → Prop) → (Nat → Int32 → Int32 → Int32 → Int32 → qH → Prop) → Prop
  | 0 => fun _ _ _ _ _ _ _ _ _ => False
  | k + 1 => fun x0 x1 x2 x3 x4 x5 h Q K108 => (qS h x0 = .inl 12 ∧ (qok h (qR h x0 26) 0 (qI h x0 18) ∧ (((qI h (qR h x0 26) ((qI h x0 18)).toNatClampNeg) ≤ x5 → (K108 x0 x1 x2 x3 x4 h)) ∧ (¬ (qI h (qR h x0 26) ((qI h x0 18)).toNatClampNeg) ≤ x5 → (qok h (qR h x0 49) 0 ((12 : Int32) + x4) ∧ ((¬ (qI h (qR h x0 49) (((12 : Int32) + x4)).toNatClampNeg) = x5 → (w_M_crossed_39 N k x0 x1 x2 x3 x4 (x5 + (1 : Int32)) h Q K108)) ∧ ((qI h (qR h x0 49) (((12 : Int32) + x4)).toNatClampNeg) = x5 → (qok h (qR h x0 49) 0 ((12 : Int32) + x5) ∧ (((qI h (qR h x0 49) (((12 : Int32) + x5)).toNatClampNeg) = x4 → ((¬ x2 = 0 → (w_M_crossed_39 N k x0 x1 (x2 + (1 : Int32)) x3 x4 (x5 + (1 : Int32)) h Q K108)) ∧ (x2 = 0 → (∀ y9 : Int32, y9 = (((10 : Int32) * x4) + x5) → (w_M_crossed_39 N k x0 x1 (x2 + (1 : Int32)) y9 x4 (x5 + (1 : Int32)) h Q K108))))) ∧ (¬ (qI h (qR h x0 49) (((12 : Int32) + x5)).toNatClampNeg) = x4 → (w_M_crossed_39 N k x0 x1 x2 x3 x4 (x5 + (1 : Int32)) h Q K108)))))))))))
def w_M_crossed_19 (N : Nat) : Nat → Nat → Int32 → Int32 → Int32 → Int32 → qH → (Int32 → qH → Prop) → Prop
  | 0 => fun _ _ _ _ _ _ _ => False
  | k + 1 => fun x0 x1 x2 x3 x4 h Q => (qS h x0 = .inl 12 ∧ (qok h (qR h x0 26) 0 (qI h x0 18) ∧ (((qI h (qR h x0 26) ((qI h x0 18)).toNatClampNeg) ≤ x4 → ((¬ x1 = 0 → Q x3 h) ∧ (x1 = 0 → Q x2 h))) ∧ (¬ (qI h (qR h x0 26) ((qI h x0 18)).toNatClampNeg) ≤ x4 → (∀ y5 : Int32, y5 = (x4 + (1 : Int32)) → (w_M_crossed_39 N N x0 x1 x2 x3 x4 y5 h Q (fun x6 x7 x8 x9 x10 h11 => (w_M_crossed_19 N k x6 x7 x8 x9 (x10 + (1 : Int32)) h11 Q))))))))
def w_M_crossed (N : Nat) (x0 : Nat) (x1 : Int32) (h : qH) (Q : Int32 → qH → Prop) : Prop := (w_M_in N x1 (0 : Int32) (1 : Int32) h (fun r1 h2 => ((¬ r1 = 0 → (w_M_crossed_19 N N x0 x1 (0 : Int32) (-2 : Int32) (0 : Int32) h2 Q )) ∧ (r1 = 0 → Q (-1 : Int32) h2))))
def w_M_holder_12 (N : Nat) : Nat → Nat → Int32 → Int32 → qH → (Int32 → qH → Prop) → Prop
  | 0 => fun _ _ _ _ _ => False
  | k + 1 => fun x0 x1 x2 h Q => (qS h x0 = .inl 12 ∧ (qok h (qR h x0 26) 0 (qI h x0 18) ∧ (((qI h (qR h x0 26) ((qI h x0 18)).toNatClampNeg) ≤ x2 → Q (-1 : Int32) h) ∧ (¬ (qI h (qR h x0 26) ((qI h x0 18)).toNatClampNeg) ≤ x2 → (qok h (qR h x0 49) 0 ((12 : Int32) + x2) ∧ ((¬ (qI h (qR h x0 49) (((12 : Int32) + x2)).toNatClampNeg) = x1 → (w_M_holder_12 N k x0 x1 (x2 + (1 : Int32)) h Q)) ∧ ((qI h (qR h x0 49) (((12 : Int32) + x2)).toNatClampNeg) = x1 → Q x2 h)))))))
def w_M_holder (N : Nat) (x0 : Nat) (x1 : Int32) (h : qH) (Q : Int32 → qH → Prop) : Prop := (qS h x0 = .inl 12 ∧ w_M_isPerson N x0 x1 h (fun r2 h3 => ((¬ r2 = 0 → (w_M_holder_12 N N x0 x1 (0 : Int32) h3 Q )) ∧ (r2 = 0 → Q (-1 : Int32) h3))))
def w_M_fit_29 (N : Nat) : Nat → Nat → Int32 → Int32 → Int32 → Int32 → qH → (Int32 → qH → Prop) → (Nat → Int32 → Int32 → Int32 → qH → Prop) → Prop
  | 0 => fun _ _ _ _ _ _ _ _ => False
  | k + 1 => fun x0 x1 x2 x3 x4 h Q K72 => (qS h x0 = .inl 12 ∧ (qok h (qR h x0 23) 0 (qI h x0 18) ∧ (((qI h (qR h x0 23) ((qI h x0 18)).toNatClampNeg) ≤ x4 → (K72 x0 x1 x2 x3 h)) ∧ (¬ (qI h (qR h x0 23) ((qI h x0 18)).toNatClampNeg) ≤ x4 → ((x3 < 0 → (w_M_fit_29 N k x0 x1 x2 x4 (x4 + (1 : Int32)) h Q K72)) ∧ (¬ x3 < 0 → (w_M_costsAt N x0 x1 x4 h (fun r5 h6 => (qS h6 x0 = .inl 12 ∧ w_M_costsAt N x0 x1 x3 h6 (fun r8 h9 => ((r8 ≤ r5 → (w_M_fit_29 N k x0 x1 x2 x3 (x4 + (1 : Int32)) h9 Q K72)) ∧ (¬ r8 ≤ r5 → (w_M_fit_29 N k x0 x1 x2 x4 (x4 + (1 : Int32)) h9 Q K72)))))))))))))
def w_M_fit (N : Nat) (x0 : Nat) (x1 : Int32) (x2 : Int32) (h : qH) (Q : Int32 → qH → Prop) : Prop := (qS h x0 = .inl 12 ∧ w_M_isPerson N x0 x1 h (fun r2 h3 => ((r2 = 0 → Q (-1 : Int32) h3) ∧ (¬ r2 = 0 → (w_M_in N x2 (0 : Int32) (1 : Int32) h3 (fun r5 h6 => ((¬ r5 = 0 → (qS h6 x0 = .inl 12 ∧ w_M_copies N x0 h6 (fun h9 => (w_M_fit_29 N N x0 x1 x2 (-2 : Int32) (0 : Int32) h9 Q (fun x10 x11 x12 x13 h14 => ((x13 < 0 → Q x13 h14) ∧ (¬ x13 < 0 → ((¬ x12 = 0 → (qS h14 x10 = .inl 12 ∧ w_M_costsAt N x10 x11 x13 h14 (fun r18 h19 => Q r18 h19))) ∧ (x12 = 0 → Q x13 h14))))))))) ∧ (r5 = 0 → Q (-1 : Int32) h6))))))))
section QG
variable {p : Program} {l : Launch} {e : Env} {s : State} {m : MethodId} {args : Array Value} {below : List Frame} {meth : Method} {c : Code} {D : va_G} {cy : Nat → ClassId} {b : Nat} {adK adV : Nat → Nat}

set_option maxRecDepth 4000 in
theorem t_M_bitOf {adK adV : Nat → Nat} (l : Launch) (D : va_G) (cy : Nat → ClassId) (b : Nat) (N : Nat) (x0 : Nat) (x1 : Int32) (h : qH) (Q : Int32 → qH → Prop) (hw : w_M_bitOf N x0 x1 h Q) : Met l y_M_bitOf (Cond.code y_M_bitOf prog_14_method_77_code 2 (some .int) :: qT) (qrm 1 0 0 21) (qPc D cy b adK adV h [qr b x0, .int x1]) (qQc D cy b qrI Q) 0 0 (qA b) := by
  refine qmet (L0 := [(0, .inr (.inr (.inl x0))), (1, .inl x1)]) qm_M_bitOf (plainFor_of_name (by decide)) [.inr (.inr (.inl x0)), .inl x1] rfl (Nat.le_of_ble_eq_true rfl) rfl (fun p e s m args below meth c X => ?_)
  unfold w_M_bitOf at hw
  refine qx_iconst (v := (1 : Int32)) X d_M_bitOf_0 (by decide) ?_
  refine qx_aload_n (x := x0) X d_M_bitOf_1 rfl 0 rfl ?_
  obtain ⟨g1, hw⟩ := hw
  refine qx_getI X qcls12 g1 61 (by decide) rfl wf_M_420 d_M_bitOf_2 ?_
  refine qx_if_eq X 16 d_M_bitOf_5 (by decide) (fun q2 => ?_) (fun q2 => ?_)
  · have hw := hw.1 q2
    refine qx_iload_n (x := x1) X d_M_bitOf_16 rfl 1 rfl ?_
    refine qx_ishl X d_M_bitOf_17 ?_
    exact qx_iret X hw (Nat.le_refl 0) (Nat.le_refl 0) rfl d_M_bitOf_18
  · have hw := hw.2 q2
    refine qx_aload_n (x := x0) X d_M_bitOf_8 rfl 0 rfl ?_
    refine qx_iload_n (x := x1) X d_M_bitOf_9 rfl 1 rfl ?_
    refine qx_callVI (st := [.int (1 : Int32)]) (As := [.int x1]) X (t_M_nailAt (adK := adK) (adV := adV) l D cy b N x0 x1 h _ hw) qm_M_nailAt wm_M_345 wi_M_nailAt wl_M_nailAt qcls12 g1 rfl rfl rfl ⟨Nat.le_of_ble_eq_true rfl, Nat.le_of_ble_eq_true rfl⟩ ⟨Nat.le_refl 0, Nat.le_refl 0⟩ (Nat.le_of_ble_eq_true rfl) rfl d_M_bitOf_10 (fun r3 h4 hw => ?_)
    refine qx_goto X 17 d_M_bitOf_13 (by decide) ?_
    refine qx_ishl X d_M_bitOf_17 ?_
    exact qx_iret X hw (Nat.le_refl 0) (Nat.le_refl 0) rfl d_M_bitOf_18
set_option maxRecDepth 4000 in
theorem t_M_with {adK adV : Nat → Nat} (l : Launch) (D : va_G) (cy : Nat → ClassId) (b : Nat) (N : Nat) (x0 : Nat) (x1 : Int32) (x2 : Int32) (x3 : Int32) (h : qH) (Q : Int32 → qH → Prop) (hw : w_M_with N x0 x1 x2 x3 h Q) : Met l y_M_with (Cond.code y_M_with prog_14_method_78_code 4 (some .int) :: qT) (qrm 2 0 0 42) (qPc D cy b adK adV h [qr b x0, .int x1, .int x2, .int x3]) (qQc D cy b qrI Q) 0 0 (qA b) := by
  refine qmet (L0 := [(0, .inr (.inr (.inl x0))), (1, .inl x1), (2, .inl x2), (3, .inl x3)]) qm_M_with (plainFor_of_name (by decide)) [.inr (.inr (.inl x0)), .inl x1, .inl x2, .inl x3] rfl (Nat.le_of_ble_eq_true rfl) rfl (fun p e s m args below meth c X => ?_)
  unfold w_M_with at hw
  refine qx_aload_n (x := x0) X d_M_with_0 rfl 0 rfl ?_
  obtain ⟨g1, hw⟩ := hw
  refine qx_getR X qcls12 g1 60 (by decide) rfl wf_M_137 d_M_with_1 ?_
  refine qx_bipush (v := (7 : Int32)) X d_M_with_4 (by decide) ?_
  refine qx_iload_n (x := x1) X d_M_with_6 rfl 1 rfl ?_
  refine qx_imul X d_M_with_7 ?_
  refine qx_iload_n (x := x2) X d_M_with_8 rfl 2 rfl ?_
  refine qx_iadd X d_M_with_9 ?_
  obtain ⟨g2, hw⟩ := hw
  refine qx_ild X g2 d_M_with_10 ?_
  refine qx_sipush (v := (10000 : Int32)) X d_M_with_11 (by decide) ?_
  refine qx_isub X d_M_with_14 ?_
  refine qx_aload_n (x := x0) X d_M_with_15 rfl 0 rfl ?_
  refine qx_getR X qcls12 g1 59 (by decide) rfl wf_M_134 d_M_with_16 ?_
  refine qx_sipush (v := (128 : Int32)) X d_M_with_19 (by decide) ?_
  refine qx_iload_n (x := x1) X d_M_with_22 rfl 1 rfl ?_
  refine qx_imul X d_M_with_23 ?_
  refine qx_sipush (v := (128 : Int32)) X d_M_with_24 (by decide) ?_
  refine qx_iadd X d_M_with_27 ?_
  refine qx_iload_n (x := x3) X d_M_with_28 rfl 3 rfl ?_
  refine qx_aload_n (x := x0) X d_M_with_29 rfl 0 rfl ?_
  refine qx_iload_n (x := x2) X d_M_with_30 rfl 2 rfl ?_
  refine qx_callVI (st := [.int x3, .int (((128 : Int32) * x1) + (128 : Int32)), qr b (qR h x0 59), .int ((qI h (qR h x0 60) ((((7 : Int32) * x1) + x2)).toNatClampNeg) - (10000 : Int32))]) (As := [.int x2]) X (t_M_bitOf (adK := adK) (adV := adV) l D cy b N x0 x2 h _ hw) qm_M_bitOf wm_M_423 wi_M_bitOf wl_M_bitOf qcls12 g1 rfl rfl rfl ⟨Nat.le_of_ble_eq_true rfl, Nat.le_of_ble_eq_true rfl⟩ ⟨Nat.le_refl 0, Nat.le_refl 0⟩ (Nat.le_of_ble_eq_true rfl) rfl d_M_with_31 (fun r3 h4 hw => ?_)
  refine qx_ior X d_M_with_34 ?_
  refine qx_iadd X d_M_with_35 ?_
  obtain ⟨g5, hw⟩ := hw
  refine qx_ild X g5 d_M_with_36 ?_
  refine qx_iadd X d_M_with_37 ?_
  exact qx_iret X hw (Nat.le_refl 0) (Nat.le_refl 0) rfl d_M_with_38
set_option maxRecDepth 4000 in
theorem t_M_fillsLeast_11 (X : qX p s m args meth c D cy b adK adV prog_14_method_79_code "CoatHangersModel" 6 (none) "fillsLeast") (N k : Nat) (x0 : Nat) (x2 : Int32) (h : qH) (Q : qH → Prop) (K45 : Nat → qH → Prop) (hw : w_M_fillsLeast_11 N k x0 x2 h Q K45) (hK45 : ∀ (x0 : Nat) (h : qH), K45 x0 h → qW p l e (qrm 4 0 0 97) s m args below meth c D cy b 6 0 0 (MQ below (qQc D cy b qrV (fun (_ : Unit) h => Q h)) args s 0 0 (qA b)) 45 [(0, .inr (.inr (.inl x0)))] [] h) : qW p l e (qrm 4 0 0 97) s m args below meth c D cy b 6 0 0 (MQ below (qQc D cy b qrV (fun (_ : Unit) h => Q h)) args s 0 0 (qA b)) 11 [(0, .inr (.inr (.inl x0))), (2, .inl x2)] [] h := by
  induction k generalizing x0 x2 h with
  | zero => exact hw.elim
  | succ k ih =>
    refine qx_iload_n (x := x2) X d_M_fillsLeast_11 rfl 1 rfl ?_
    refine qx_sipush (v := (128 : Int32)) X d_M_fillsLeast_12 (by decide) ?_
    refine qx_icmp_ge X 45 d_M_fillsLeast_15 (by decide) (fun q1 => ?_) (fun q1 => ?_)
    · have hw := hw.1 q1
      refine qx_sub [0] rfl ?_
      exact hK45 x0 h hw
    · have hw := hw.2 q1
      refine qx_aload_n (x := x0) X d_M_fillsLeast_18 rfl 0 rfl ?_
      obtain ⟨g2, hw⟩ := hw
      refine qx_getR X qcls12 g2 59 (by decide) rfl wf_M_134 d_M_fillsLeast_19 ?_
      refine qx_sipush (v := (128 : Int32)) X d_M_fillsLeast_22 (by decide) ?_
      refine qx_aload_n (x := x0) X d_M_fillsLeast_25 rfl 0 rfl ?_
      refine qx_getR X qcls12 g2 26 (by decide) rfl wf_M_55 d_M_fillsLeast_26 ?_
      refine qx_aload_n (x := x0) X d_M_fillsLeast_29 rfl 0 rfl ?_
      refine qx_getI X qcls12 g2 18 (by decide) rfl wf_M_245 d_M_fillsLeast_30 ?_
      obtain ⟨g3, hw⟩ := hw
      refine qx_ild X g3 d_M_fillsLeast_33 ?_
      refine qx_imul X d_M_fillsLeast_34 ?_
      refine qx_iload_n (x := x2) X d_M_fillsLeast_35 rfl 1 rfl ?_
      refine qx_iadd X d_M_fillsLeast_36 ?_
      refine qx_iconst (v := (0 : Int32)) X d_M_fillsLeast_37 (by decide) ?_
      obtain ⟨g4, hw⟩ := hw
      refine qx_ist X g4 d_M_fillsLeast_38 ?_
      refine qx_toph (fun h5 eh5 => ?_)
      have hw := hw h5 eh5
      refine qx_iinc (v := (x2 + (1 : Int32))) (L' := [(2, .inl (x2 + (1 : Int32))), (0, .inr (.inr (.inl x0)))]) X d_M_fillsLeast_39 1 rfl rfl (by decide) rfl ?_
      refine qx_goto X 11 d_M_fillsLeast_42 (by decide) ?_
      refine qx_sub [1, 0] rfl ?_
      exact ih x0 (x2 + (1 : Int32)) h5 hw
set_option maxRecDepth 4000 in
theorem t_M_fillsLeast_91 (X : qX p s m args meth c D cy b adK adV prog_14_method_79_code "CoatHangersModel" 6 (none) "fillsLeast") (N k : Nat) (x0 : Nat) (x2 : Int32) (x3 : Int32) (x4 : Int32) (x5 : Int32) (h : qH) (Q : qH → Prop) (K145 : Nat → Int32 → Int32 → Int32 → qH → Prop) (hw : w_M_fillsLeast_91 N k x0 x2 x3 x4 x5 h Q K145) (hK145 : ∀ (x0 : Nat) (x2 : Int32) (x3 : Int32) (x4 : Int32) (h : qH), K145 x0 x2 x3 x4 h → qW p l e (qrm 4 0 0 97) s m args below meth c D cy b 6 0 0 (MQ below (qQc D cy b qrV (fun (_ : Unit) h => Q h)) args s 0 0 (qA b)) 145 [(0, .inr (.inr (.inl x0))), (2, .inl x2), (3, .inl x3), (4, .inl x4)] [] h) : qW p l e (qrm 4 0 0 97) s m args below meth c D cy b 6 0 0 (MQ below (qQc D cy b qrV (fun (_ : Unit) h => Q h)) args s 0 0 (qA b)) 91 [(0, .inr (.inr (.inl x0))), (2, .inl x2), (3, .inl x3), (4, .inl x4), (5, .inl x5)] [] h := by
  induction k generalizing x0 x2 x3 x4 x5 h with
  | zero => exact hw.elim
  | succ k ih =>
    refine qx_iload (x := x5) X d_M_fillsLeast_91 4 rfl ?_
    refine qx_aload_n (x := x0) X d_M_fillsLeast_93 rfl 0 rfl ?_
    obtain ⟨g1, hw⟩ := hw
    refine qx_getR X qcls12 g1 23 (by decide) rfl wf_M_46 d_M_fillsLeast_94 ?_
    refine qx_aload_n (x := x0) X d_M_fillsLeast_97 rfl 0 rfl ?_
    refine qx_getI X qcls12 g1 18 (by decide) rfl wf_M_245 d_M_fillsLeast_98 ?_
    obtain ⟨g2, hw⟩ := hw
    refine qx_ild X g2 d_M_fillsLeast_101 ?_
    refine qx_icmp_ge X 145 d_M_fillsLeast_102 (by decide) (fun q3 => ?_) (fun q3 => ?_)
    · have hw := hw.1 q3
      refine qx_sub [0, 1, 2, 3] rfl ?_
      exact hK145 x0 x2 x3 x4 h hw
    · have hw := hw.2 q3
      refine qx_iload_n (x := x3) X d_M_fillsLeast_105 rfl 2 rfl ?_
      refine qx_aload_n (x := x0) X d_M_fillsLeast_106 rfl 0 rfl ?_
      refine qx_iload (x := x5) X d_M_fillsLeast_107 4 rfl ?_
      refine qx_callVI (st := [.int x3]) (As := [.int x5]) X (t_M_bitOf (adK := adK) (adV := adV) l D cy b N x0 x5 h _ hw) qm_M_bitOf wm_M_423 wi_M_bitOf wl_M_bitOf qcls12 g1 rfl rfl rfl ⟨Nat.le_of_ble_eq_true rfl, Nat.le_of_ble_eq_true rfl⟩ ⟨Nat.le_refl 0, Nat.le_refl 0⟩ (Nat.le_of_ble_eq_true rfl) rfl d_M_fillsLeast_109 (fun r4 h5 hw => ?_)
      refine qx_iand X d_M_fillsLeast_112 ?_
      refine qx_if_ne X 139 d_M_fillsLeast_113 (by decide) (fun q6 => ?_) (fun q6 => ?_)
      · have hw := hw.1 q6
        refine qx_iinc (v := (x5 + (1 : Int32))) (L' := [(5, .inl (x5 + (1 : Int32))), (0, .inr (.inr (.inl x0))), (2, .inl x2), (3, .inl x3), (4, .inl x4)]) X d_M_fillsLeast_139 4 rfl rfl (by decide) rfl ?_
        refine qx_goto X 91 d_M_fillsLeast_142 (by decide) ?_
        refine qx_sub [1, 2, 3, 4, 0] rfl ?_
        exact ih x0 x2 x3 x4 (x5 + (1 : Int32)) h5 hw
      · have hw := hw.2 q6
        refine qx_aload_n (x := x0) X d_M_fillsLeast_116 rfl 0 rfl ?_
        refine qx_iload_n (x := x2) X d_M_fillsLeast_117 rfl 1 rfl ?_
        refine qx_iload (x := x5) X d_M_fillsLeast_118 4 rfl ?_
        refine qx_iload_n (x := x3) X d_M_fillsLeast_120 rfl 2 rfl ?_
        obtain ⟨g7, hw⟩ := hw
        refine qx_callVI (st := []) (As := [.int x2, .int x5, .int x3]) X (t_M_with (adK := adK) (adV := adV) l D cy b N x0 x2 x5 x3 h5 _ hw) qm_M_with wm_M_429 wi_M_with wl_M_with qcls12 g7 rfl rfl rfl ⟨Nat.le_of_ble_eq_true rfl, Nat.le_of_ble_eq_true rfl⟩ ⟨Nat.le_refl 0, Nat.le_refl 0⟩ (Nat.le_of_ble_eq_true rfl) rfl d_M_fillsLeast_121 (fun r8 h9 hw => ?_)
        refine qx_iload (x := x4) X d_M_fillsLeast_124 3 rfl ?_
        refine qx_icmp_ge X 139 d_M_fillsLeast_126 (by decide) (fun q10 => ?_) (fun q10 => ?_)
        · have hw := hw.1 q10
          refine qx_iinc (v := (x5 + (1 : Int32))) (L' := [(5, .inl (x5 + (1 : Int32))), (0, .inr (.inr (.inl x0))), (2, .inl x2), (3, .inl x3), (4, .inl x4)]) X d_M_fillsLeast_139 4 rfl rfl (by decide) rfl ?_
          refine qx_goto X 91 d_M_fillsLeast_142 (by decide) ?_
          refine qx_sub [1, 2, 3, 4, 0] rfl ?_
          exact ih x0 x2 x3 x4 (x5 + (1 : Int32)) h9 hw
        · have hw := hw.2 q10
          refine qx_aload_n (x := x0) X d_M_fillsLeast_129 rfl 0 rfl ?_
          refine qx_iload_n (x := x2) X d_M_fillsLeast_130 rfl 1 rfl ?_
          refine qx_iload (x := x5) X d_M_fillsLeast_131 4 rfl ?_
          refine qx_iload_n (x := x3) X d_M_fillsLeast_133 rfl 2 rfl ?_
          obtain ⟨g11, hw⟩ := hw
          refine qx_callVI (st := []) (As := [.int x2, .int x5, .int x3]) X (t_M_with (adK := adK) (adV := adV) l D cy b N x0 x2 x5 x3 h9 _ hw) qm_M_with wm_M_429 wi_M_with wl_M_with qcls12 g11 rfl rfl rfl ⟨Nat.le_of_ble_eq_true rfl, Nat.le_of_ble_eq_true rfl⟩ ⟨Nat.le_refl 0, Nat.le_refl 0⟩ (Nat.le_of_ble_eq_true rfl) rfl d_M_fillsLeast_134 (fun r12 h13 hw => ?_)
          refine qx_istore (L' := [(4, .inl r12), (0, .inr (.inr (.inl x0))), (2, .inl x2), (3, .inl x3), (5, .inl x5)]) X d_M_fillsLeast_137 (by decide) rfl ?_
          refine qx_iinc (v := (x5 + (1 : Int32))) (L' := [(5, .inl (x5 + (1 : Int32))), (4, .inl r12), (0, .inr (.inr (.inl x0))), (2, .inl x2), (3, .inl x3)]) X d_M_fillsLeast_139 4 rfl rfl (by decide) rfl ?_
          refine qx_goto X 91 d_M_fillsLeast_142 (by decide) ?_
          refine qx_sub [2, 3, 4, 1, 0] rfl ?_
          exact ih x0 x2 x3 r12 (x5 + (1 : Int32)) h13 hw
set_option maxRecDepth 4000 in
theorem t_M_fillsLeast_63 (X : qX p s m args meth c D cy b adK adV prog_14_method_79_code "CoatHangersModel" 6 (none) "fillsLeast") (N k : Nat) (x0 : Nat) (x2 : Int32) (x3 : Int32) (h : qH) (Q : qH → Prop) (K165 : Nat → Int32 → qH → Prop) (hw : w_M_fillsLeast_63 N k x0 x2 x3 h Q K165) (hK165 : ∀ (x0 : Nat) (x2 : Int32) (h : qH), K165 x0 x2 h → qW p l e (qrm 4 0 0 97) s m args below meth c D cy b 6 0 0 (MQ below (qQc D cy b qrV (fun (_ : Unit) h => Q h)) args s 0 0 (qA b)) 165 [(0, .inr (.inr (.inl x0))), (2, .inl x2)] [] h) : qW p l e (qrm 4 0 0 97) s m args below meth c D cy b 6 0 0 (MQ below (qQc D cy b qrV (fun (_ : Unit) h => Q h)) args s 0 0 (qA b)) 63 [(0, .inr (.inr (.inl x0))), (2, .inl x2), (3, .inl x3)] [] h := by
  induction k generalizing x0 x2 x3 h with
  | zero => exact hw.elim
  | succ k ih =>
    refine qx_iload_n (x := x3) X d_M_fillsLeast_63 rfl 2 rfl ?_
    refine qx_sipush (v := (128 : Int32)) X d_M_fillsLeast_64 (by decide) ?_
    refine qx_icmp_ge X 165 d_M_fillsLeast_67 (by decide) (fun q1 => ?_) (fun q1 => ?_)
    · have hw := hw.1 q1
      refine qx_sub [0, 1] rfl ?_
      exact hK165 x0 x2 h hw
    · have hw := hw.2 q1
      refine qx_aload_n (x := x0) X d_M_fillsLeast_70 rfl 0 rfl ?_
      obtain ⟨g2, hw⟩ := hw
      refine qx_getR X qcls12 g2 59 (by decide) rfl wf_M_134 d_M_fillsLeast_71 ?_
      refine qx_sipush (v := (128 : Int32)) X d_M_fillsLeast_74 (by decide) ?_
      refine qx_iload_n (x := x2) X d_M_fillsLeast_77 rfl 1 rfl ?_
      refine qx_imul X d_M_fillsLeast_78 ?_
      refine qx_sipush (v := (128 : Int32)) X d_M_fillsLeast_79 (by decide) ?_
      refine qx_iadd X d_M_fillsLeast_82 ?_
      refine qx_iload_n (x := x3) X d_M_fillsLeast_83 rfl 2 rfl ?_
      refine qx_iadd X d_M_fillsLeast_84 ?_
      obtain ⟨g3, hw⟩ := hw
      refine qx_ild X g3 d_M_fillsLeast_85 ?_
      refine qx_topi (fun y4 ey4 => ?_)
      have hw := hw y4 ey4
      refine qx_istore (L' := [(4, .inl y4), (0, .inr (.inr (.inl x0))), (2, .inl x2), (3, .inl x3)]) X d_M_fillsLeast_86 (by decide) rfl ?_
      refine qx_iconst (v := (0 : Int32)) X d_M_fillsLeast_88 (by decide) ?_
      refine qx_istore (L' := [(5, .inl (0 : Int32)), (4, .inl y4), (0, .inr (.inr (.inl x0))), (2, .inl x2), (3, .inl x3)]) X d_M_fillsLeast_89 (by decide) rfl ?_
      refine qx_sub [2, 3, 4, 1, 0] rfl ?_
      refine t_M_fillsLeast_91 X N N x0 x2 x3 y4 (0 : Int32) h Q _ hw (fun x5 x6 x7 x8 h9 hw => ?_)
      refine qx_aload_n (x := x5) X d_M_fillsLeast_145 rfl 0 rfl ?_
      obtain ⟨g10, hw⟩ := hw
      refine qx_getR X qcls12 g10 59 (by decide) rfl wf_M_134 d_M_fillsLeast_146 ?_
      refine qx_sipush (v := (128 : Int32)) X d_M_fillsLeast_149 (by decide) ?_
      refine qx_iload_n (x := x6) X d_M_fillsLeast_152 rfl 1 rfl ?_
      refine qx_imul X d_M_fillsLeast_153 ?_
      refine qx_iload_n (x := x7) X d_M_fillsLeast_154 rfl 2 rfl ?_
      refine qx_iadd X d_M_fillsLeast_155 ?_
      refine qx_iload (x := x8) X d_M_fillsLeast_156 3 rfl ?_
      obtain ⟨g11, hw⟩ := hw
      refine qx_ist X g11 d_M_fillsLeast_158 ?_
      refine qx_toph (fun h12 eh12 => ?_)
      have hw := hw h12 eh12
      refine qx_iinc (v := (x7 + (1 : Int32))) (L' := [(3, .inl (x7 + (1 : Int32))), (0, .inr (.inr (.inl x5))), (2, .inl x6), (4, .inl x8)]) X d_M_fillsLeast_159 2 rfl rfl (by decide) rfl ?_
      refine qx_goto X 63 d_M_fillsLeast_162 (by decide) ?_
      refine qx_sub [1, 2, 0] rfl ?_
      exact ih x5 x6 (x7 + (1 : Int32)) h12 hw
set_option maxRecDepth 4000 in
theorem t_M_fillsLeast_57 (X : qX p s m args meth c D cy b adK adV prog_14_method_79_code "CoatHangersModel" 6 (none) "fillsLeast") (N k : Nat) (x0 : Nat) (x2 : Int32) (h : qH) (Q : qH → Prop)  (hw : w_M_fillsLeast_57 N k x0 x2 h Q ) : qW p l e (qrm 4 0 0 97) s m args below meth c D cy b 6 0 0 (MQ below (qQc D cy b qrV (fun (_ : Unit) h => Q h)) args s 0 0 (qA b)) 57 [(0, .inr (.inr (.inl x0))), (2, .inl x2)] [] h := by
  induction k generalizing x0 x2 h with
  | zero => exact hw.elim
  | succ k ih =>
    refine qx_iload_n (x := x2) X d_M_fillsLeast_57 rfl 1 rfl ?_
    refine qx_if_lt X 171 d_M_fillsLeast_58 (by decide) (fun q1 => ?_) (fun q1 => ?_)
    · have hw := hw.1 q1
      exact qx_vret X hw (Nat.le_refl 0) (Nat.le_refl 0) rfl d_M_fillsLeast_171
    · have hw := hw.2 q1
      refine qx_iconst (v := (0 : Int32)) X d_M_fillsLeast_61 (by decide) ?_
      refine qx_istore_n (L' := [(3, .inl (0 : Int32)), (0, .inr (.inr (.inl x0))), (2, .inl x2)]) X d_M_fillsLeast_62 rfl (by decide) rfl ?_
      refine qx_sub [1, 2, 0] rfl ?_
      refine t_M_fillsLeast_63 X N N x0 x2 (0 : Int32) h Q _ hw (fun x2 x3 h4 hw => ?_)
      refine qx_iinc (v := (x3 + (-1 : Int32))) (L' := [(2, .inl (x3 + (-1 : Int32))), (0, .inr (.inr (.inl x2)))]) X d_M_fillsLeast_165 1 rfl rfl (by decide) rfl ?_
      refine qx_goto X 57 d_M_fillsLeast_168 (by decide) ?_
      refine qx_sub [1, 0] rfl ?_
      exact ih x2 (x3 + (-1 : Int32)) h4 hw
set_option maxRecDepth 4000 in
theorem t_M_fillsLeast {adK adV : Nat → Nat} (l : Launch) (D : va_G) (cy : Nat → ClassId) (b : Nat) (N : Nat) (x0 : Nat) (x1 : Int32) (h : qH) (Q : qH → Prop) (hw : w_M_fillsLeast N x0 x1 h Q) : Met l y_M_fillsLeast (Cond.code y_M_fillsLeast prog_14_method_79_code 6 (none) :: qT) (qrm 4 0 0 97) (qPc D cy b adK adV h [qr b x0, .int x1]) (qQc D cy b qrV (fun (_ : Unit) h => Q h)) 0 0 (qA b) := by
  refine qmet (L0 := [(0, .inr (.inr (.inl x0))), (1, .inl x1)]) qm_M_fillsLeast (plainFor_of_name (by decide)) [.inr (.inr (.inl x0)), .inl x1] rfl (Nat.le_of_ble_eq_true rfl) rfl (fun p e s m args below meth c X => ?_)
  unfold w_M_fillsLeast at hw
  refine qx_aload_n (x := x0) X d_M_fillsLeast_0 rfl 0 rfl ?_
  refine qx_iload_n (x := x1) X d_M_fillsLeast_1 rfl 1 rfl ?_
  obtain ⟨g1, hw⟩ := hw
  obtain ⟨g2, hw⟩ := hw
  refine qx_putI X qcls12 g1 61 (by decide) rfl wf_M_420 rfl (qzb_nar g2) (qzb_fit g2) d_M_fillsLeast_2 ?_
  refine qx_toph (fun h3 eh3 => ?_)
  have hw := hw h3 eh3
  refine qx_aload_n (x := x0) X d_M_fillsLeast_5 rfl 0 rfl ?_
  obtain ⟨g4, hw⟩ := hw
  refine qx_callVV (st := []) (As := []) X (t_M_fillsTable (adK := adK) (adV := adV) l D cy b N x0 h3 _ hw) qm_M_fillsTable wm_M_426 wi_M_fillsTable wl_M_fillsTable qcls12 g4 rfl rfl rfl ⟨Nat.le_of_ble_eq_true rfl, Nat.le_of_ble_eq_true rfl⟩ ⟨Nat.le_refl 0, Nat.le_refl 0⟩ (Nat.le_of_ble_eq_true rfl) rfl d_M_fillsLeast_6 (fun h5 hw => ?_)
  refine qx_iconst (v := (0 : Int32)) X d_M_fillsLeast_9 (by decide) ?_
  refine qx_istore_n (L' := [(2, .inl (0 : Int32)), (0, .inr (.inr (.inl x0))), (1, .inl x1)]) X d_M_fillsLeast_10 rfl (by decide) rfl ?_
  refine qx_sub [1, 0] rfl ?_
  refine t_M_fillsLeast_11 X N N x0 (0 : Int32) h5 Q _ hw (fun x6 h7 hw => ?_)
  refine qx_aload_n (x := x6) X d_M_fillsLeast_45 rfl 0 rfl ?_
  obtain ⟨g8, hw⟩ := hw
  refine qx_getR X qcls12 g8 26 (by decide) rfl wf_M_55 d_M_fillsLeast_46 ?_
  refine qx_aload_n (x := x6) X d_M_fillsLeast_49 rfl 0 rfl ?_
  refine qx_getI X qcls12 g8 18 (by decide) rfl wf_M_245 d_M_fillsLeast_50 ?_
  obtain ⟨g9, hw⟩ := hw
  refine qx_ild X g9 d_M_fillsLeast_53 ?_
  refine qx_iconst (v := (1 : Int32)) X d_M_fillsLeast_54 (by decide) ?_
  refine qx_isub X d_M_fillsLeast_55 ?_
  refine qx_topi (fun y10 ey10 => ?_)
  have hw := hw y10 ey10
  refine qx_istore_n (L' := [(2, .inl y10), (0, .inr (.inr (.inl x6)))]) X d_M_fillsLeast_56 rfl (by decide) rfl ?_
  refine qx_sub [1, 0] rfl ?_
  exact t_M_fillsLeast_57 X N N x6 y10 h7 Q  hw 
set_option maxRecDepth 4000 in
theorem t_M_lowestFor_2 (X : qX p s m args meth c D cy b adK adV prog_14_method_80_code "CoatHangersModel" 4 (some .int) "lowestFor") (N k : Nat) (x0 : Nat) (x1 : Int32) (x2 : Int32) (x3 : Int32) (h : qH) (Q : Int32 → qH → Prop)  (hw : w_M_lowestFor_2 N k x0 x1 x2 x3 h Q ) : qW p l e (qrm 3 0 0 65) s m args below meth c D cy b 4 0 0 (MQ below (qQc D cy b qrI Q) args s 0 0 (qA b)) 2 [(0, .inr (.inr (.inl x0))), (1, .inl x1), (2, .inl x2), (3, .inl x3)] [] h := by
  induction k generalizing x0 x1 x2 x3 h with
  | zero => exact hw.elim
  | succ k ih =>
    refine qx_iload_n (x := x3) X d_M_lowestFor_2 rfl 3 rfl ?_
    refine qx_aload_n (x := x0) X d_M_lowestFor_3 rfl 0 rfl ?_
    obtain ⟨g1, hw⟩ := hw
    refine qx_getR X qcls12 g1 23 (by decide) rfl wf_M_46 d_M_lowestFor_4 ?_
    refine qx_aload_n (x := x0) X d_M_lowestFor_7 rfl 0 rfl ?_
    refine qx_getI X qcls12 g1 18 (by decide) rfl wf_M_245 d_M_lowestFor_8 ?_
    obtain ⟨g2, hw⟩ := hw
    refine qx_ild X g2 d_M_lowestFor_11 ?_
    refine qx_icmp_ge X 55 d_M_lowestFor_12 (by decide) (fun q3 => ?_) (fun q3 => ?_)
    · have hw := hw.1 q3
      refine qx_bipush (v := (-2 : Int32)) X d_M_lowestFor_55 (by decide) ?_
      exact qx_iret X hw (Nat.le_refl 0) (Nat.le_refl 0) rfl d_M_lowestFor_57
    · have hw := hw.2 q3
      refine qx_iload_n (x := x2) X d_M_lowestFor_15 rfl 2 rfl ?_
      refine qx_aload_n (x := x0) X d_M_lowestFor_16 rfl 0 rfl ?_
      refine qx_iload_n (x := x3) X d_M_lowestFor_17 rfl 3 rfl ?_
      refine qx_callVI (st := [.int x2]) (As := [.int x3]) X (t_M_bitOf (adK := adK) (adV := adV) l D cy b N x0 x3 h _ hw) qm_M_bitOf wm_M_423 wi_M_bitOf wl_M_bitOf qcls12 g1 rfl rfl rfl ⟨Nat.le_of_ble_eq_true rfl, Nat.le_of_ble_eq_true rfl⟩ ⟨Nat.le_refl 0, Nat.le_refl 0⟩ (Nat.le_of_ble_eq_true rfl) rfl d_M_lowestFor_18 (fun r4 h5 hw => ?_)
      refine qx_iand X d_M_lowestFor_21 ?_
      refine qx_if_ne X 49 d_M_lowestFor_22 (by decide) (fun q6 => ?_) (fun q6 => ?_)
      · have hw := hw.1 q6
        refine qx_iinc (v := (x3 + (1 : Int32))) (L' := [(3, .inl (x3 + (1 : Int32))), (0, .inr (.inr (.inl x0))), (1, .inl x1), (2, .inl x2)]) X d_M_lowestFor_49 3 rfl rfl (by decide) rfl ?_
        refine qx_goto X 2 d_M_lowestFor_52 (by decide) ?_
        refine qx_sub [1, 2, 3, 0] rfl ?_
        exact ih x0 x1 x2 (x3 + (1 : Int32)) h5 hw
      · have hw := hw.2 q6
        refine qx_aload_n (x := x0) X d_M_lowestFor_25 rfl 0 rfl ?_
        refine qx_iload_n (x := x1) X d_M_lowestFor_26 rfl 1 rfl ?_
        refine qx_iload_n (x := x3) X d_M_lowestFor_27 rfl 3 rfl ?_
        refine qx_iload_n (x := x2) X d_M_lowestFor_28 rfl 2 rfl ?_
        obtain ⟨g7, hw⟩ := hw
        refine qx_callVI (st := []) (As := [.int x1, .int x3, .int x2]) X (t_M_with (adK := adK) (adV := adV) l D cy b N x0 x1 x3 x2 h5 _ hw) qm_M_with wm_M_429 wi_M_with wl_M_with qcls12 g7 rfl rfl rfl ⟨Nat.le_of_ble_eq_true rfl, Nat.le_of_ble_eq_true rfl⟩ ⟨Nat.le_refl 0, Nat.le_refl 0⟩ (Nat.le_of_ble_eq_true rfl) rfl d_M_lowestFor_29 (fun r8 h9 hw => ?_)
        refine qx_aload_n (x := x0) X d_M_lowestFor_32 rfl 0 rfl ?_
        obtain ⟨g10, hw⟩ := hw
        refine qx_getR X qcls12 g10 59 (by decide) rfl wf_M_134 d_M_lowestFor_33 ?_
        refine qx_sipush (v := (128 : Int32)) X d_M_lowestFor_36 (by decide) ?_
        refine qx_iload_n (x := x1) X d_M_lowestFor_39 rfl 1 rfl ?_
        refine qx_imul X d_M_lowestFor_40 ?_
        refine qx_iload_n (x := x2) X d_M_lowestFor_41 rfl 2 rfl ?_
        refine qx_iadd X d_M_lowestFor_42 ?_
        obtain ⟨g11, hw⟩ := hw
        refine qx_ild X g11 d_M_lowestFor_43 ?_
        refine qx_icmp_ne X 49 d_M_lowestFor_44 (by decide) (fun q12 => ?_) (fun q12 => ?_)
        · have hw := hw.1 q12
          refine qx_iinc (v := (x3 + (1 : Int32))) (L' := [(3, .inl (x3 + (1 : Int32))), (0, .inr (.inr (.inl x0))), (1, .inl x1), (2, .inl x2)]) X d_M_lowestFor_49 3 rfl rfl (by decide) rfl ?_
          refine qx_goto X 2 d_M_lowestFor_52 (by decide) ?_
          refine qx_sub [1, 2, 3, 0] rfl ?_
          exact ih x0 x1 x2 (x3 + (1 : Int32)) h9 hw
        · have hw := hw.2 q12
          refine qx_iload_n (x := x3) X d_M_lowestFor_47 rfl 3 rfl ?_
          exact qx_iret X hw (Nat.le_refl 0) (Nat.le_refl 0) rfl d_M_lowestFor_48
set_option maxRecDepth 4000 in
theorem t_M_lowestFor {adK adV : Nat → Nat} (l : Launch) (D : va_G) (cy : Nat → ClassId) (b : Nat) (N : Nat) (x0 : Nat) (x1 : Int32) (x2 : Int32) (h : qH) (Q : Int32 → qH → Prop) (hw : w_M_lowestFor N x0 x1 x2 h Q) : Met l y_M_lowestFor (Cond.code y_M_lowestFor prog_14_method_80_code 4 (some .int) :: qT) (qrm 3 0 0 65) (qPc D cy b adK adV h [qr b x0, .int x1, .int x2]) (qQc D cy b qrI Q) 0 0 (qA b) := by
  refine qmet (L0 := [(0, .inr (.inr (.inl x0))), (1, .inl x1), (2, .inl x2)]) qm_M_lowestFor (plainFor_of_name (by decide)) [.inr (.inr (.inl x0)), .inl x1, .inl x2] rfl (Nat.le_of_ble_eq_true rfl) rfl (fun p e s m args below meth c X => ?_)
  unfold w_M_lowestFor at hw
  refine qx_iconst (v := (0 : Int32)) X d_M_lowestFor_0 (by decide) ?_
  refine qx_istore_n (L' := [(3, .inl (0 : Int32)), (0, .inr (.inr (.inl x0))), (1, .inl x1), (2, .inl x2)]) X d_M_lowestFor_1 rfl (by decide) rfl ?_
  refine qx_sub [1, 2, 3, 0] rfl ?_
  exact t_M_lowestFor_2 X N N x0 x1 x2 (0 : Int32) h Q  hw 
set_option maxRecDepth 4000 in
theorem t_M_costOf_2 (X : qX p s m args meth c D cy b adK adV prog_14_method_81_code "CoatHangersModel" 2 (some .int) "costOf") (N k : Nat) (x1 : Int32) (h : qH) (Q : Int32 → qH → Prop)  (hw : w_M_costOf_2 N k x1 h Q ) : qW p l e (qrm 0 0 0 0) s m args below meth c D cy b 2 0 0 (MQ below (qQc D cy b qrI Q) args s 0 0 (qA b)) 2 [(1, .inl x1)] [] h := by
  induction k generalizing x1 h with
  | zero => exact hw.elim
  | succ k ih =>
    refine qx_iload_n (x := x1) X d_M_costOf_2 rfl 0 rfl ?_
    refine qx_if_ge X 15 d_M_costOf_3 (by decide) (fun q1 => ?_) (fun q1 => ?_)
    · have hw := hw.1 q1
      refine qx_iload_n (x := x1) X d_M_costOf_15 rfl 0 rfl ?_
      exact qx_iret X hw (Nat.le_refl 0) (Nat.le_refl 0) rfl d_M_costOf_16
    · have hw := hw.2 q1
      refine qx_iincW (v := (x1 + (10000 : Int32))) (L' := [(1, .inl (x1 + (10000 : Int32)))]) X d_M_costOf_6 0 rfl rfl (by decide) rfl ?_
      refine qx_goto X 2 d_M_costOf_12 (by decide) ?_
      exact ih (x1 + (10000 : Int32)) h hw
set_option maxRecDepth 4000 in
theorem t_M_costOf {adK adV : Nat → Nat} (l : Launch) (D : va_G) (cy : Nat → ClassId) (b : Nat) (N : Nat) (x0 : Int32) (h : qH) (Q : Int32 → qH → Prop) (hw : w_M_costOf N x0 h Q) : Met l y_M_costOf (Cond.code y_M_costOf prog_14_method_81_code 2 (some .int) :: qT) (qrm 0 0 0 0) (qPc D cy b adK adV h [.int x0]) (qQc D cy b qrI Q) 0 0 (qA b) := by
  refine qmet (L0 := [(0, .inl x0)]) qm_M_costOf (plainFor_of_name (by decide)) [.inl x0] rfl (Nat.le_of_ble_eq_true rfl) rfl (fun p e s m args below meth c X => ?_)
  unfold w_M_costOf at hw
  refine qx_iload_n (x := x0) X d_M_costOf_0 rfl 0 rfl ?_
  refine qx_istore_n (L' := [(1, .inl x0), (0, .inl x0)]) X d_M_costOf_1 rfl (by decide) rfl ?_
  refine qx_sub [0] rfl ?_
  exact t_M_costOf_2 X N N x0 h Q  hw 
set_option maxRecDepth 4000 in
theorem t_M_hangs_40 (X : qX p s m args meth c D cy b adK adV prog_14_method_82_code "CoatHangersModel" 6 (some .int) "hangs") (N k : Nat) (x0 : Nat) (x1 : Int32) (x3 : Int32) (x4 : Int32) (h : qH) (Q : Int32 → qH → Prop)  (hw : w_M_hangs_40 N k x0 x1 x3 x4 h Q ) : qW p l e (qrm 5 0 0 122) s m args below meth c D cy b 6 0 0 (MQ below (qQc D cy b qrI Q) args s 0 0 (qA b)) 40 [(0, .inr (.inr (.inl x0))), (1, .inl x1), (3, .inl x3), (4, .inl x4)] [] h := by
  induction k generalizing x0 x1 x3 x4 h with
  | zero => exact hw.elim
  | succ k ih =>
    refine qx_iload (x := x4) X d_M_hangs_40 3 rfl ?_
    refine qx_iload_n (x := x1) X d_M_hangs_42 rfl 1 rfl ?_
    refine qx_icmp_ge X 75 d_M_hangs_43 (by decide) (fun q1 => ?_) (fun q1 => ?_)
    · have hw := hw.1 q1
      refine qx_aload_n (x := x0) X d_M_hangs_75 rfl 0 rfl ?_
      refine qx_iload_n (x := x1) X d_M_hangs_76 rfl 1 rfl ?_
      refine qx_iload_n (x := x3) X d_M_hangs_77 rfl 2 rfl ?_
      obtain ⟨g2, hw⟩ := hw
      refine qx_callVI (st := []) (As := [.int x1, .int x3]) X (t_M_lowestFor (adK := adK) (adV := adV) l D cy b N x0 x1 x3 h _ hw) qm_M_lowestFor wm_M_438 wi_M_lowestFor wl_M_lowestFor qcls12 g2 rfl rfl rfl ⟨Nat.le_of_ble_eq_true rfl, Nat.le_of_ble_eq_true rfl⟩ ⟨Nat.le_refl 0, Nat.le_refl 0⟩ (Nat.le_of_ble_eq_true rfl) rfl d_M_hangs_78 (fun r3 h4 hw => ?_)
      exact qx_iret X hw (Nat.le_refl 0) (Nat.le_refl 0) rfl d_M_hangs_81
    · have hw := hw.2 q1
      refine qx_aload_n (x := x0) X d_M_hangs_46 rfl 0 rfl ?_
      refine qx_iload (x := x4) X d_M_hangs_47 3 rfl ?_
      refine qx_iload_n (x := x3) X d_M_hangs_49 rfl 2 rfl ?_
      obtain ⟨g5, hw⟩ := hw
      refine qx_callVI (st := []) (As := [.int x4, .int x3]) X (t_M_lowestFor (adK := adK) (adV := adV) l D cy b N x0 x4 x3 h _ hw) qm_M_lowestFor wm_M_438 wi_M_lowestFor wl_M_lowestFor qcls12 g5 rfl rfl rfl ⟨Nat.le_of_ble_eq_true rfl, Nat.le_of_ble_eq_true rfl⟩ ⟨Nat.le_refl 0, Nat.le_refl 0⟩ (Nat.le_of_ble_eq_true rfl) rfl d_M_hangs_50 (fun r6 h7 hw => ?_)
      refine qx_istore (L' := [(5, .inl r6), (0, .inr (.inr (.inl x0))), (1, .inl x1), (3, .inl x3), (4, .inl x4)]) X d_M_hangs_53 (by decide) rfl ?_
      refine qx_iload (x := r6) X d_M_hangs_55 0 rfl ?_
      refine qx_if_lt X 69 d_M_hangs_57 (by decide) (fun q8 => ?_) (fun q8 => ?_)
      · have hw := hw.1 q8
        refine qx_iinc (v := (x4 + (1 : Int32))) (L' := [(4, .inl (x4 + (1 : Int32))), (5, .inl r6), (0, .inr (.inr (.inl x0))), (1, .inl x1), (3, .inl x3)]) X d_M_hangs_69 4 rfl rfl (by decide) rfl ?_
        refine qx_goto X 40 d_M_hangs_72 (by decide) ?_
        refine qx_sub [2, 3, 4, 0] rfl ?_
        exact ih x0 x1 x3 (x4 + (1 : Int32)) h7 hw
      · have hw := hw.2 q8
        refine qx_iload_n (x := x3) X d_M_hangs_60 rfl 3 rfl ?_
        refine qx_aload_n (x := x0) X d_M_hangs_61 rfl 1 rfl ?_
        refine qx_iload (x := r6) X d_M_hangs_62 0 rfl ?_
        obtain ⟨g9, hw⟩ := hw
        refine qx_callVI (st := [.int x3]) (As := [.int r6]) X (t_M_bitOf (adK := adK) (adV := adV) l D cy b N x0 r6 h7 _ hw) qm_M_bitOf wm_M_423 wi_M_bitOf wl_M_bitOf qcls12 g9 rfl rfl rfl ⟨Nat.le_of_ble_eq_true rfl, Nat.le_of_ble_eq_true rfl⟩ ⟨Nat.le_refl 0, Nat.le_refl 0⟩ (Nat.le_of_ble_eq_true rfl) rfl d_M_hangs_64 (fun r10 h11 hw => ?_)
        refine qx_ior X d_M_hangs_67 ?_
        refine qx_topi (fun y12 ey12 => ?_)
        have hw := hw y12 ey12
        refine qx_istore_n (L' := [(3, .inl y12), (5, .inl r6), (0, .inr (.inr (.inl x0))), (1, .inl x1), (4, .inl x4)]) X d_M_hangs_68 rfl (by decide) rfl ?_
        refine qx_iinc (v := (x4 + (1 : Int32))) (L' := [(4, .inl (x4 + (1 : Int32))), (3, .inl y12), (5, .inl r6), (0, .inr (.inr (.inl x0))), (1, .inl x1)]) X d_M_hangs_69 4 rfl rfl (by decide) rfl ?_
        refine qx_goto X 40 d_M_hangs_72 (by decide) ?_
        refine qx_sub [3, 4, 1, 0] rfl ?_
        exact ih x0 x1 y12 (x4 + (1 : Int32)) h11 hw
set_option maxRecDepth 4000 in
theorem t_M_hangs_15 (X : qX p s m args meth c D cy b adK adV prog_14_method_82_code "CoatHangersModel" 6 (some .int) "hangs") (N : Nat) (x0 : Nat) (x1 : Int32) (x2 : Int32) (h : qH) (Q : Int32 → qH → Prop)  (hw : w_M_hangs_15 N x0 x1 x2 h Q ) : qW p l e (qrm 5 0 0 122) s m args below meth c D cy b 6 0 0 (MQ below (qQc D cy b qrI Q) args s 0 0 (qA b)) 15 [(0, .inr (.inr (.inl x0))), (1, .inl x1), (2, .inl x2)] [] h := by
  unfold w_M_hangs_15 at hw
  refine qx_aload_n (x := x0) X d_M_hangs_15 rfl 0 rfl ?_
  refine qx_iload_n (x := x2) X d_M_hangs_16 rfl 2 rfl ?_
  obtain ⟨g1, hw⟩ := hw
  refine qx_callVV (st := []) (As := [.int x2]) X (t_M_fillsLeast (adK := adK) (adV := adV) l D cy b N x0 x2 h _ hw) qm_M_fillsLeast wm_M_432 wi_M_fillsLeast wl_M_fillsLeast qcls12 g1 rfl rfl rfl ⟨Nat.le_of_ble_eq_true rfl, Nat.le_of_ble_eq_true rfl⟩ ⟨Nat.le_refl 0, Nat.le_refl 0⟩ (Nat.le_of_ble_eq_true rfl) rfl d_M_hangs_17 (fun h2 hw => ?_)
  refine qx_iload_n (x := x1) X d_M_hangs_20 rfl 1 rfl ?_
  refine qx_iconst (v := (-1 : Int32)) X d_M_hangs_21 (by decide) ?_
  refine qx_icmp_ne X 35 d_M_hangs_22 (by decide) (fun q3 => ?_) (fun q3 => ?_)
  · have hw := hw.1 q3
    refine qx_iconst (v := (0 : Int32)) X d_M_hangs_35 (by decide) ?_
    refine qx_istore_n (L' := [(3, .inl (0 : Int32)), (0, .inr (.inr (.inl x0))), (1, .inl x1), (2, .inl x2)]) X d_M_hangs_36 rfl (by decide) rfl ?_
    refine qx_iconst (v := (0 : Int32)) X d_M_hangs_37 (by decide) ?_
    refine qx_istore (L' := [(4, .inl (0 : Int32)), (3, .inl (0 : Int32)), (0, .inr (.inr (.inl x0))), (1, .inl x1), (2, .inl x2)]) X d_M_hangs_38 (by decide) rfl ?_
    refine qx_sub [2, 3, 1, 0] rfl ?_
    exact t_M_hangs_40 X N N x0 x1 (0 : Int32) (0 : Int32) h2 Q  hw 
  · have hw := hw.2 q3
    refine qx_aload_n (x := x0) X d_M_hangs_25 rfl 0 rfl ?_
    obtain ⟨g4, hw⟩ := hw
    refine qx_getR X qcls12 g4 59 (by decide) rfl wf_M_134 d_M_hangs_26 ?_
    refine qx_iconst (v := (0 : Int32)) X d_M_hangs_29 (by decide) ?_
    obtain ⟨g5, hw⟩ := hw
    refine qx_ild X g5 d_M_hangs_30 ?_
    refine qx_callSI (st := []) (As := [.int (qI h2 (qR h2 x0 59) ((0 : Int32)).toNatClampNeg)]) X (t_M_costOf (adK := adK) (adV := adV) l D cy b N (qI h2 (qR h2 x0 59) ((0 : Int32)).toNatClampNeg) h2 _ hw) qm_M_costOf wm_M_435 wi_M_costOf rfl rfl rfl ⟨Nat.le_of_ble_eq_true rfl, Nat.le_of_ble_eq_true rfl⟩ ⟨Nat.le_refl 0, Nat.le_refl 0⟩ (Nat.le_of_ble_eq_true rfl) rfl d_M_hangs_31 (fun r6 h7 hw => ?_)
    exact qx_iret X hw (Nat.le_refl 0) (Nat.le_refl 0) rfl d_M_hangs_34
set_option maxRecDepth 4000 in
theorem t_M_hangs {adK adV : Nat → Nat} (l : Launch) (D : va_G) (cy : Nat → ClassId) (b : Nat) (N : Nat) (x0 : Nat) (x1 : Int32) (x2 : Int32) (h : qH) (Q : Int32 → qH → Prop) (hw : w_M_hangs N x0 x1 x2 h Q) : Met l y_M_hangs (Cond.code y_M_hangs prog_14_method_82_code 6 (some .int) :: qT) (qrm 5 0 0 122) (qPc D cy b adK adV h [qr b x0, .int x1, .int x2]) (qQc D cy b qrI Q) 0 0 (qA b) := by
  refine qmet (L0 := [(0, .inr (.inr (.inl x0))), (1, .inl x1), (2, .inl x2)]) qm_M_hangs (plainFor_of_name (by decide)) [.inr (.inr (.inl x0)), .inl x1, .inl x2] rfl (Nat.le_of_ble_eq_true rfl) rfl (fun p e s m args below meth c X => ?_)
  unfold w_M_hangs at hw
  refine qx_iload_n (x := x1) X d_M_hangs_0 rfl 1 rfl ?_
  refine qx_iconst (v := (-1 : Int32)) X d_M_hangs_1 (by decide) ?_
  refine qx_icmp_eq X 15 d_M_hangs_2 (by decide) (fun q1 => ?_) (fun q1 => ?_)
  · have hw := hw.1 q1
    exact t_M_hangs_15 X N x0 x1 x2 h Q  hw 
  · have hw := hw.2 q1
    refine qx_aload_n (x := x0) X d_M_hangs_5 rfl 0 rfl ?_
    refine qx_iload_n (x := x1) X d_M_hangs_6 rfl 1 rfl ?_
    obtain ⟨g2, hw⟩ := hw
    refine qx_callVI (st := []) (As := [.int x1]) X (t_M_isPerson (adK := adK) (adV := adV) l D cy b N x0 x1 h _ hw) qm_M_isPerson wm_M_392 wi_M_isPerson wl_M_isPerson qcls12 g2 rfl rfl rfl ⟨Nat.le_of_ble_eq_true rfl, Nat.le_of_ble_eq_true rfl⟩ ⟨Nat.le_refl 0, Nat.le_refl 0⟩ (Nat.le_of_ble_eq_true rfl) rfl d_M_hangs_7 (fun r3 h4 hw => ?_)
    refine qx_if_ne X 15 d_M_hangs_10 (by decide) (fun q5 => ?_) (fun q5 => ?_)
    · have hw := hw.1 q5
      exact t_M_hangs_15 X N x0 x1 x2 h4 Q  hw 
    · have hw := hw.2 q5
      refine qx_iconst (v := (-1 : Int32)) X d_M_hangs_13 (by decide) ?_
      exact qx_iret X hw (Nat.le_refl 0) (Nat.le_refl 0) rfl d_M_hangs_14
set_option maxRecDepth 4000 in
theorem t_M_hanging {adK adV : Nat → Nat} (l : Launch) (D : va_G) (cy : Nat → ClassId) (b : Nat) (N : Nat) (x0 : Nat) (x1 : Int32) (h : qH) (Q : Int32 → qH → Prop) (hw : w_M_hanging N x0 x1 h Q) : Met l y_M_hanging (Cond.code y_M_hanging prog_14_method_83_code 2 (some .int) :: qT) (qrm 6 0 0 147) (qPc D cy b adK adV h [qr b x0, .int x1]) (qQc D cy b qrI Q) 0 0 (qA b) := by
  refine qmet (L0 := [(0, .inr (.inr (.inl x0))), (1, .inl x1)]) qm_M_hanging (plainFor_of_name (by decide)) [.inr (.inr (.inl x0)), .inl x1] rfl (Nat.le_of_ble_eq_true rfl) rfl (fun p e s m args below meth c X => ?_)
  unfold w_M_hanging at hw
  refine qx_aload_n (x := x0) X d_M_hanging_0 rfl 0 rfl ?_
  refine qx_iload_n (x := x1) X d_M_hanging_1 rfl 1 rfl ?_
  refine qx_iconst (v := (0 : Int32)) X d_M_hanging_2 (by decide) ?_
  obtain ⟨g1, hw⟩ := hw
  refine qx_callVI (st := []) (As := [.int x1, .int (0 : Int32)]) X (t_M_hangs (adK := adK) (adV := adV) l D cy b N x0 x1 (0 : Int32) h _ hw) qm_M_hangs wm_M_441 wi_M_hangs wl_M_hangs qcls12 g1 rfl rfl rfl ⟨Nat.le_of_ble_eq_true rfl, Nat.le_of_ble_eq_true rfl⟩ ⟨Nat.le_refl 0, Nat.le_refl 0⟩ (Nat.le_of_ble_eq_true rfl) rfl d_M_hanging_3 (fun r2 h3 hw => ?_)
  exact qx_iret X hw (Nat.le_refl 0) (Nat.le_refl 0) rfl d_M_hanging_6
set_option maxRecDepth 4000 in
theorem t_M_apart {adK adV : Nat → Nat} (l : Launch) (D : va_G) (cy : Nat → ClassId) (b : Nat) (N : Nat) (x0 : Nat) (x1 : Int32) (h : qH) (Q : Int32 → qH → Prop) (hw : w_M_apart N x0 x1 h Q) : Met l y_M_apart (Cond.code y_M_apart prog_14_method_84_code 2 (some .int) :: qT) (qrm 6 0 0 147) (qPc D cy b adK adV h [qr b x0, .int x1]) (qQc D cy b qrI Q) 0 0 (qA b) := by
  refine qmet (L0 := [(0, .inr (.inr (.inl x0))), (1, .inl x1)]) qm_M_apart (plainFor_of_name (by decide)) [.inr (.inr (.inl x0)), .inl x1] rfl (Nat.le_of_ble_eq_true rfl) rfl (fun p e s m args below meth c X => ?_)
  unfold w_M_apart at hw
  refine qx_aload_n (x := x0) X d_M_apart_0 rfl 0 rfl ?_
  refine qx_iload_n (x := x1) X d_M_apart_1 rfl 1 rfl ?_
  refine qx_iconst (v := (1 : Int32)) X d_M_apart_2 (by decide) ?_
  obtain ⟨g1, hw⟩ := hw
  refine qx_callVI (st := []) (As := [.int x1, .int (1 : Int32)]) X (t_M_hangs (adK := adK) (adV := adV) l D cy b N x0 x1 (1 : Int32) h _ hw) qm_M_hangs wm_M_441 wi_M_hangs wl_M_hangs qcls12 g1 rfl rfl rfl ⟨Nat.le_of_ble_eq_true rfl, Nat.le_of_ble_eq_true rfl⟩ ⟨Nat.le_refl 0, Nat.le_refl 0⟩ (Nat.le_of_ble_eq_true rfl) rfl d_M_apart_3 (fun r2 h3 hw => ?_)
  exact qx_iret X hw (Nat.le_refl 0) (Nat.le_refl 0) rfl d_M_apart_6
set_option maxRecDepth 4000 in
theorem t_M_missed_25 (X : qX p s m args meth c D cy b adK adV prog_14_method_85_code "CoatHangersModel" 6 (some .int) "missed") (N k : Nat) (x0 : Nat) (x1 : Int32) (x2 : Int32) (x3 : Int32) (x4 : Int32) (h : qH) (Q : Int32 → qH → Prop)  (hw : w_M_missed_25 N k x0 x1 x2 x3 x4 h Q ) : qW p l e (qrm 5 0 0 122) s m args below meth c D cy b 6 0 0 (MQ below (qQc D cy b qrI Q) args s 0 0 (qA b)) 25 [(0, .inr (.inr (.inl x0))), (1, .inl x1), (2, .inl x2), (3, .inl x3), (4, .inl x4)] [] h := by
  induction k generalizing x0 x1 x2 x3 x4 h with
  | zero => exact hw.elim
  | succ k ih =>
    refine qx_iload (x := x4) X d_M_missed_25 4 rfl ?_
    refine qx_aload_n (x := x0) X d_M_missed_27 rfl 0 rfl ?_
    obtain ⟨g1, hw⟩ := hw
    refine qx_getR X qcls12 g1 23 (by decide) rfl wf_M_46 d_M_missed_28 ?_
    refine qx_aload_n (x := x0) X d_M_missed_31 rfl 0 rfl ?_
    refine qx_getI X qcls12 g1 18 (by decide) rfl wf_M_245 d_M_missed_32 ?_
    obtain ⟨g2, hw⟩ := hw
    refine qx_ild X g2 d_M_missed_35 ?_
    refine qx_icmp_ge X 74 d_M_missed_36 (by decide) (fun q3 => ?_) (fun q3 => ?_)
    · have hw := hw.1 q3
      refine qx_iload_n (x := x1) X d_M_missed_74 rfl 1 rfl ?_
      refine qx_if_ne X 82 d_M_missed_75 (by decide) (fun q4 => ?_) (fun q4 => ?_)
      · have hw := hw.1 q4
        refine qx_iload_n (x := x3) X d_M_missed_82 rfl 3 rfl ?_
        exact qx_iret X hw (Nat.le_refl 0) (Nat.le_refl 0) rfl d_M_missed_83
      · have hw := hw.2 q4
        refine qx_iload_n (x := x2) X d_M_missed_78 rfl 2 rfl ?_
        refine qx_goto X 83 d_M_missed_79 (by decide) ?_
        exact qx_iret X hw (Nat.le_refl 0) (Nat.le_refl 0) rfl d_M_missed_83
    · have hw := hw.2 q3
      refine qx_aload_n (x := x0) X d_M_missed_39 rfl 0 rfl ?_
      refine qx_getR X qcls12 g1 59 (by decide) rfl wf_M_134 d_M_missed_40 ?_
      refine qx_iconst (v := (1 : Int32)) X d_M_missed_43 (by decide) ?_
      refine qx_iload (x := x4) X d_M_missed_44 4 rfl ?_
      refine qx_ishl X d_M_missed_46 ?_
      obtain ⟨g5, hw⟩ := hw
      refine qx_ild X g5 d_M_missed_47 ?_
      refine qx_callSI (st := []) (As := [.int (qI h (qR h x0 59) (((1 : Int32) <<< (x4 &&& 31))).toNatClampNeg)]) X (t_M_costOf (adK := adK) (adV := adV) l D cy b N (qI h (qR h x0 59) (((1 : Int32) <<< (x4 &&& 31))).toNatClampNeg) h _ hw) qm_M_costOf wm_M_435 wi_M_costOf rfl rfl rfl ⟨Nat.le_of_ble_eq_true rfl, Nat.le_of_ble_eq_true rfl⟩ ⟨Nat.le_refl 0, Nat.le_refl 0⟩ (Nat.le_of_ble_eq_true rfl) rfl d_M_missed_48 (fun r6 h7 hw => ?_)
      refine qx_istore (L' := [(5, .inl r6), (0, .inr (.inr (.inl x0))), (1, .inl x1), (2, .inl x2), (3, .inl x3), (4, .inl x4)]) X d_M_missed_51 (by decide) rfl ?_
      refine qx_iload (x := r6) X d_M_missed_53 0 rfl ?_
      refine qx_iload_n (x := x3) X d_M_missed_55 rfl 4 rfl ?_
      refine qx_icmp_gt X 62 d_M_missed_56 (by decide) (fun q8 => ?_) (fun q8 => ?_)
      · have hw := hw.1 q8
        refine qx_iload (x := x4) X d_M_missed_62 5 rfl ?_
        refine qx_istore_n (L' := [(2, .inl x4), (5, .inl r6), (0, .inr (.inr (.inl x0))), (1, .inl x1), (3, .inl x3), (4, .inl x4)]) X d_M_missed_64 rfl (by decide) rfl ?_
        refine qx_iload (x := r6) X d_M_missed_65 1 rfl ?_
        refine qx_istore_n (L' := [(3, .inl r6), (2, .inl x4), (5, .inl r6), (0, .inr (.inr (.inl x0))), (1, .inl x1), (4, .inl x4)]) X d_M_missed_67 rfl (by decide) rfl ?_
        refine qx_iinc (v := (x4 + (1 : Int32))) (L' := [(4, .inl (x4 + (1 : Int32))), (3, .inl r6), (2, .inl x4), (5, .inl r6), (0, .inr (.inr (.inl x0))), (1, .inl x1)]) X d_M_missed_68 5 rfl rfl (by decide) rfl ?_
        refine qx_goto X 25 d_M_missed_71 (by decide) ?_
        refine qx_sub [4, 5, 2, 1, 0] rfl ?_
        exact ih x0 x1 x4 r6 (x4 + (1 : Int32)) h7 hw
      · have hw := hw.2 q8
        refine qx_goto X 68 d_M_missed_59 (by decide) ?_
        refine qx_iinc (v := (x4 + (1 : Int32))) (L' := [(4, .inl (x4 + (1 : Int32))), (5, .inl r6), (0, .inr (.inr (.inl x0))), (1, .inl x1), (2, .inl x2), (3, .inl x3)]) X d_M_missed_68 5 rfl rfl (by decide) rfl ?_
        refine qx_goto X 25 d_M_missed_71 (by decide) ?_
        refine qx_sub [2, 3, 4, 5, 0] rfl ?_
        exact ih x0 x1 x2 x3 (x4 + (1 : Int32)) h7 hw
set_option maxRecDepth 4000 in
theorem t_M_missed {adK adV : Nat → Nat} (l : Launch) (D : va_G) (cy : Nat → ClassId) (b : Nat) (N : Nat) (x0 : Nat) (x1 : Int32) (h : qH) (Q : Int32 → qH → Prop) (hw : w_M_missed N x0 x1 h Q) : Met l y_M_missed (Cond.code y_M_missed prog_14_method_85_code 6 (some .int) :: qT) (qrm 5 0 0 122) (qPc D cy b adK adV h [qr b x0, .int x1]) (qQc D cy b qrI Q) 0 0 (qA b) := by
  refine qmet (L0 := [(0, .inr (.inr (.inl x0))), (1, .inl x1)]) qm_M_missed (plainFor_of_name (by decide)) [.inr (.inr (.inl x0)), .inl x1] rfl (Nat.le_of_ble_eq_true rfl) rfl (fun p e s m args below meth c X => ?_)
  unfold w_M_missed at hw
  refine qx_iload_n (x := x1) X d_M_missed_0 rfl 1 rfl ?_
  refine qx_iconst (v := (0 : Int32)) X d_M_missed_1 (by decide) ?_
  refine qx_iconst (v := (1 : Int32)) X d_M_missed_2 (by decide) ?_
  refine qx_callSI (st := []) (As := [.int x1, .int (0 : Int32), .int (1 : Int32)]) X (t_M_in (adK := adK) (adV := adV) l D cy b N x1 (0 : Int32) (1 : Int32) h _ hw) qm_M_in wm_M_322 wi_M_in rfl rfl rfl ⟨Nat.le_of_ble_eq_true rfl, Nat.le_of_ble_eq_true rfl⟩ ⟨Nat.le_refl 0, Nat.le_refl 0⟩ (Nat.le_of_ble_eq_true rfl) rfl d_M_missed_3 (fun r1 h2 hw => ?_)
  refine qx_if_ne X 11 d_M_missed_6 (by decide) (fun q3 => ?_) (fun q3 => ?_)
  · have hw := hw.1 q3
    refine qx_aload_n (x := x0) X d_M_missed_11 rfl 0 rfl ?_
    refine qx_iconst (v := (0 : Int32)) X d_M_missed_12 (by decide) ?_
    obtain ⟨g4, hw⟩ := hw
    refine qx_callVV (st := []) (As := [.int (0 : Int32)]) X (t_M_fillsLeast (adK := adK) (adV := adV) l D cy b N x0 (0 : Int32) h2 _ hw) qm_M_fillsLeast wm_M_432 wi_M_fillsLeast wl_M_fillsLeast qcls12 g4 rfl rfl rfl ⟨Nat.le_of_ble_eq_true rfl, Nat.le_of_ble_eq_true rfl⟩ ⟨Nat.le_refl 0, Nat.le_refl 0⟩ (Nat.le_of_ble_eq_true rfl) rfl d_M_missed_13 (fun h5 hw => ?_)
    refine qx_bipush (v := (-2 : Int32)) X d_M_missed_16 (by decide) ?_
    refine qx_istore_n (L' := [(2, .inl (-2 : Int32)), (0, .inr (.inr (.inl x0))), (1, .inl x1)]) X d_M_missed_18 rfl (by decide) rfl ?_
    refine qx_bipush (v := (-2 : Int32)) X d_M_missed_19 (by decide) ?_
    refine qx_istore_n (L' := [(3, .inl (-2 : Int32)), (2, .inl (-2 : Int32)), (0, .inr (.inr (.inl x0))), (1, .inl x1)]) X d_M_missed_21 rfl (by decide) rfl ?_
    refine qx_iconst (v := (0 : Int32)) X d_M_missed_22 (by decide) ?_
    refine qx_istore (L' := [(4, .inl (0 : Int32)), (3, .inl (-2 : Int32)), (2, .inl (-2 : Int32)), (0, .inr (.inr (.inl x0))), (1, .inl x1)]) X d_M_missed_23 (by decide) rfl ?_
    refine qx_sub [3, 4, 2, 1, 0] rfl ?_
    exact t_M_missed_25 X N N x0 x1 (-2 : Int32) (-2 : Int32) (0 : Int32) h5 Q  hw 
  · have hw := hw.2 q3
    refine qx_iconst (v := (-1 : Int32)) X d_M_missed_9 (by decide) ?_
    exact qx_iret X hw (Nat.le_refl 0) (Nat.le_refl 0) rfl d_M_missed_10
set_option maxRecDepth 4000 in
theorem t_M_ways_18 (X : qX p s m args meth c D cy b adK adV prog_14_method_86_code "CoatHangersModel" 7 (some .int) "ways") (N k : Nat) (x0 : Nat) (x1 : Int32) (x2 : Int32) (h : qH) (Q : Int32 → qH → Prop) (K50 : Nat → Int32 → qH → Prop) (hw : w_M_ways_18 N k x0 x1 x2 h Q K50) (hK50 : ∀ (x0 : Nat) (x1 : Int32) (h : qH), K50 x0 x1 h → qW p l e (qrm 4 0 0 97) s m args below meth c D cy b 7 0 0 (MQ below (qQc D cy b qrI Q) args s 0 0 (qA b)) 50 [(0, .inr (.inr (.inl x0))), (1, .inl x1)] [] h) : qW p l e (qrm 4 0 0 97) s m args below meth c D cy b 7 0 0 (MQ below (qQc D cy b qrI Q) args s 0 0 (qA b)) 18 [(0, .inr (.inr (.inl x0))), (1, .inl x1), (2, .inl x2)] [] h := by
  induction k generalizing x0 x1 x2 h with
  | zero => exact hw.elim
  | succ k ih =>
    refine qx_iload_n (x := x2) X d_M_ways_18 rfl 2 rfl ?_
    refine qx_bipush (v := (32 : Int32)) X d_M_ways_19 (by decide) ?_
    refine qx_icmp_ge X 50 d_M_ways_21 (by decide) (fun q1 => ?_) (fun q1 => ?_)
    · have hw := hw.1 q1
      refine qx_sub [0, 1] rfl ?_
      exact hK50 x0 x1 h hw
    · have hw := hw.2 q1
      refine qx_aload_n (x := x0) X d_M_ways_24 rfl 0 rfl ?_
      obtain ⟨g2, hw⟩ := hw
      refine qx_getR X qcls12 g2 62 (by decide) rfl wf_M_140 d_M_ways_25 ?_
      refine qx_bipush (v := (32 : Int32)) X d_M_ways_28 (by decide) ?_
      refine qx_aload_n (x := x0) X d_M_ways_30 rfl 0 rfl ?_
      refine qx_getR X qcls12 g2 26 (by decide) rfl wf_M_55 d_M_ways_31 ?_
      refine qx_aload_n (x := x0) X d_M_ways_34 rfl 0 rfl ?_
      refine qx_getI X qcls12 g2 18 (by decide) rfl wf_M_245 d_M_ways_35 ?_
      obtain ⟨g3, hw⟩ := hw
      refine qx_ild X g3 d_M_ways_38 ?_
      refine qx_imul X d_M_ways_39 ?_
      refine qx_iload_n (x := x2) X d_M_ways_40 rfl 2 rfl ?_
      refine qx_iadd X d_M_ways_41 ?_
      refine qx_iconst (v := (1 : Int32)) X d_M_ways_42 (by decide) ?_
      obtain ⟨g4, hw⟩ := hw
      refine qx_ist X g4 d_M_ways_43 ?_
      refine qx_toph (fun h5 eh5 => ?_)
      have hw := hw h5 eh5
      refine qx_iinc (v := (x2 + (1 : Int32))) (L' := [(2, .inl (x2 + (1 : Int32))), (0, .inr (.inr (.inl x0))), (1, .inl x1)]) X d_M_ways_44 2 rfl rfl (by decide) rfl ?_
      refine qx_goto X 18 d_M_ways_47 (by decide) ?_
      refine qx_sub [1, 2, 0] rfl ?_
      exact ih x0 x1 (x2 + (1 : Int32)) h5 hw
set_option maxRecDepth 4000 in
theorem t_M_ways_80 (X : qX p s m args meth c D cy b adK adV prog_14_method_86_code "CoatHangersModel" 7 (some .int) "ways") (N k : Nat) (x0 : Nat) (x1 : Int32) (x2 : Int32) (x3 : Int32) (x4 : Int32) (x5 : Int32) (h : qH) (Q : Int32 → qH → Prop) (K155 : Nat → Int32 → Int32 → Int32 → Int32 → qH → Prop) (hw : w_M_ways_80 N k x0 x1 x2 x3 x4 x5 h Q K155) (hK155 : ∀ (x0 : Nat) (x1 : Int32) (x2 : Int32) (x3 : Int32) (x4 : Int32) (h : qH), K155 x0 x1 x2 x3 x4 h → qW p l e (qrm 4 0 0 97) s m args below meth c D cy b 7 0 0 (MQ below (qQc D cy b qrI Q) args s 0 0 (qA b)) 155 [(0, .inr (.inr (.inl x0))), (1, .inl x1), (2, .inl x2), (3, .inl x3), (4, .inl x4)] [] h) : qW p l e (qrm 4 0 0 97) s m args below meth c D cy b 7 0 0 (MQ below (qQc D cy b qrI Q) args s 0 0 (qA b)) 80 [(0, .inr (.inr (.inl x0))), (1, .inl x1), (2, .inl x2), (3, .inl x3), (4, .inl x4), (5, .inl x5)] [] h := by
  induction k generalizing x0 x1 x2 x3 x4 x5 h with
  | zero => exact hw.elim
  | succ k ih =>
    refine qx_iload (x := x5) X d_M_ways_80 5 rfl ?_
    refine qx_aload_n (x := x0) X d_M_ways_82 rfl 0 rfl ?_
    obtain ⟨g1, hw⟩ := hw
    refine qx_getR X qcls12 g1 23 (by decide) rfl wf_M_46 d_M_ways_83 ?_
    refine qx_aload_n (x := x0) X d_M_ways_86 rfl 0 rfl ?_
    refine qx_getI X qcls12 g1 18 (by decide) rfl wf_M_245 d_M_ways_87 ?_
    obtain ⟨g2, hw⟩ := hw
    refine qx_ild X g2 d_M_ways_90 ?_
    refine qx_icmp_ge X 155 d_M_ways_91 (by decide) (fun q3 => ?_) (fun q3 => ?_)
    · have hw := hw.1 q3
      refine qx_sub [0, 1, 2, 3, 4] rfl ?_
      exact hK155 x0 x1 x2 x3 x4 h hw
    · have hw := hw.2 q3
      refine qx_iconst (v := (1 : Int32)) X d_M_ways_94 (by decide) ?_
      refine qx_aload_n (x := x0) X d_M_ways_95 rfl 0 rfl ?_
      refine qx_iload (x := x5) X d_M_ways_96 5 rfl ?_
      refine qx_callVI (st := [.int (1 : Int32)]) (As := [.int x5]) X (t_M_nailAt (adK := adK) (adV := adV) l D cy b N x0 x5 h _ hw) qm_M_nailAt wm_M_345 wi_M_nailAt wl_M_nailAt qcls12 g1 rfl rfl rfl ⟨Nat.le_of_ble_eq_true rfl, Nat.le_of_ble_eq_true rfl⟩ ⟨Nat.le_refl 0, Nat.le_refl 0⟩ (Nat.le_of_ble_eq_true rfl) rfl d_M_ways_98 (fun r4 h5 hw => ?_)
      refine qx_ishl X d_M_ways_101 ?_
      refine qx_topi (fun y6 ey6 => ?_)
      have hw := hw y6 ey6
      refine qx_istore (L' := [(6, .inl y6), (0, .inr (.inr (.inl x0))), (1, .inl x1), (2, .inl x2), (3, .inl x3), (4, .inl x4), (5, .inl x5)]) X d_M_ways_102 (by decide) rfl ?_
      refine qx_iload_n (x := x3) X d_M_ways_104 rfl 4 rfl ?_
      refine qx_iload (x := y6) X d_M_ways_105 0 rfl ?_
      refine qx_iand X d_M_ways_107 ?_
      refine qx_if_ne X 149 d_M_ways_108 (by decide) (fun q7 => ?_) (fun q7 => ?_)
      · have hw := hw.1 q7
        refine qx_iinc (v := (x5 + (1 : Int32))) (L' := [(5, .inl (x5 + (1 : Int32))), (6, .inl y6), (0, .inr (.inr (.inl x0))), (1, .inl x1), (2, .inl x2), (3, .inl x3), (4, .inl x4)]) X d_M_ways_149 6 rfl rfl (by decide) rfl ?_
        refine qx_goto X 80 d_M_ways_152 (by decide) ?_
        refine qx_sub [2, 3, 4, 5, 6, 0] rfl ?_
        exact ih x0 x1 x2 x3 x4 (x5 + (1 : Int32)) h5 hw
      · have hw := hw.2 q7
        refine qx_aload_n (x := x0) X d_M_ways_111 rfl 1 rfl ?_
        obtain ⟨g8, hw⟩ := hw
        refine qx_getR X qcls12 g8 60 (by decide) rfl wf_M_137 d_M_ways_112 ?_
        refine qx_bipush (v := (7 : Int32)) X d_M_ways_115 (by decide) ?_
        refine qx_iload_n (x := x2) X d_M_ways_117 rfl 3 rfl ?_
        refine qx_imul X d_M_ways_118 ?_
        refine qx_iload (x := x5) X d_M_ways_119 6 rfl ?_
        refine qx_iadd X d_M_ways_121 ?_
        obtain ⟨g9, hw⟩ := hw
        refine qx_ild X g9 d_M_ways_122 ?_
        refine qx_iload_n (x := x1) X d_M_ways_123 rfl 2 rfl ?_
        refine qx_icmp_gt X 149 d_M_ways_124 (by decide) (fun q10 => ?_) (fun q10 => ?_)
        · have hw := hw.1 q10
          refine qx_iinc (v := (x5 + (1 : Int32))) (L' := [(5, .inl (x5 + (1 : Int32))), (6, .inl y6), (0, .inr (.inr (.inl x0))), (1, .inl x1), (2, .inl x2), (3, .inl x3), (4, .inl x4)]) X d_M_ways_149 6 rfl rfl (by decide) rfl ?_
          refine qx_goto X 80 d_M_ways_152 (by decide) ?_
          refine qx_sub [2, 3, 4, 5, 6, 0] rfl ?_
          exact ih x0 x1 x2 x3 x4 (x5 + (1 : Int32)) h5 hw
        · have hw := hw.2 q10
          refine qx_iload (x := x4) X d_M_ways_127 5 rfl ?_
          refine qx_aload_n (x := x0) X d_M_ways_129 rfl 1 rfl ?_
          refine qx_getR X qcls12 g8 62 (by decide) rfl wf_M_140 d_M_ways_130 ?_
          refine qx_bipush (v := (32 : Int32)) X d_M_ways_133 (by decide) ?_
          refine qx_iload_n (x := x2) X d_M_ways_135 rfl 3 rfl ?_
          refine qx_imul X d_M_ways_136 ?_
          refine qx_bipush (v := (32 : Int32)) X d_M_ways_137 (by decide) ?_
          refine qx_iadd X d_M_ways_139 ?_
          refine qx_iload_n (x := x3) X d_M_ways_140 rfl 4 rfl ?_
          refine qx_iload (x := y6) X d_M_ways_141 0 rfl ?_
          refine qx_ior X d_M_ways_143 ?_
          refine qx_iadd X d_M_ways_144 ?_
          obtain ⟨g11, hw⟩ := hw
          refine qx_ild X g11 d_M_ways_145 ?_
          refine qx_iadd X d_M_ways_146 ?_
          refine qx_topi (fun y12 ey12 => ?_)
          have hw := hw y12 ey12
          refine qx_istore (L' := [(4, .inl y12), (6, .inl y6), (0, .inr (.inr (.inl x0))), (1, .inl x1), (2, .inl x2), (3, .inl x3), (5, .inl x5)]) X d_M_ways_147 (by decide) rfl ?_
          refine qx_iinc (v := (x5 + (1 : Int32))) (L' := [(5, .inl (x5 + (1 : Int32))), (4, .inl y12), (6, .inl y6), (0, .inr (.inr (.inl x0))), (1, .inl x1), (2, .inl x2), (3, .inl x3)]) X d_M_ways_149 6 rfl rfl (by decide) rfl ?_
          refine qx_goto X 80 d_M_ways_152 (by decide) ?_
          refine qx_sub [3, 4, 5, 6, 1, 0] rfl ?_
          exact ih x0 x1 x2 x3 y12 (x5 + (1 : Int32)) h5 hw
set_option maxRecDepth 4000 in
theorem t_M_ways_68 (X : qX p s m args meth c D cy b adK adV prog_14_method_86_code "CoatHangersModel" 7 (some .int) "ways") (N k : Nat) (x0 : Nat) (x1 : Int32) (x2 : Int32) (x3 : Int32) (h : qH) (Q : Int32 → qH → Prop) (K174 : Nat → Int32 → Int32 → qH → Prop) (hw : w_M_ways_68 N k x0 x1 x2 x3 h Q K174) (hK174 : ∀ (x0 : Nat) (x1 : Int32) (x2 : Int32) (h : qH), K174 x0 x1 x2 h → qW p l e (qrm 4 0 0 97) s m args below meth c D cy b 7 0 0 (MQ below (qQc D cy b qrI Q) args s 0 0 (qA b)) 174 [(0, .inr (.inr (.inl x0))), (1, .inl x1), (2, .inl x2)] [] h) : qW p l e (qrm 4 0 0 97) s m args below meth c D cy b 7 0 0 (MQ below (qQc D cy b qrI Q) args s 0 0 (qA b)) 68 [(0, .inr (.inr (.inl x0))), (1, .inl x1), (2, .inl x2), (3, .inl x3)] [] h := by
  induction k generalizing x0 x1 x2 x3 h with
  | zero => exact hw.elim
  | succ k ih =>
    refine qx_iload_n (x := x3) X d_M_ways_68 rfl 3 rfl ?_
    refine qx_bipush (v := (32 : Int32)) X d_M_ways_69 (by decide) ?_
    refine qx_icmp_ge X 174 d_M_ways_71 (by decide) (fun q1 => ?_) (fun q1 => ?_)
    · have hw := hw.1 q1
      refine qx_sub [0, 1, 2] rfl ?_
      exact hK174 x0 x1 x2 h hw
    · have hw := hw.2 q1
      refine qx_iconst (v := (0 : Int32)) X d_M_ways_74 (by decide) ?_
      refine qx_istore (L' := [(4, .inl (0 : Int32)), (0, .inr (.inr (.inl x0))), (1, .inl x1), (2, .inl x2), (3, .inl x3)]) X d_M_ways_75 (by decide) rfl ?_
      refine qx_iconst (v := (0 : Int32)) X d_M_ways_77 (by decide) ?_
      refine qx_istore (L' := [(5, .inl (0 : Int32)), (4, .inl (0 : Int32)), (0, .inr (.inr (.inl x0))), (1, .inl x1), (2, .inl x2), (3, .inl x3)]) X d_M_ways_78 (by decide) rfl ?_
      refine qx_sub [2, 3, 4, 5, 1, 0] rfl ?_
      refine t_M_ways_80 X N N x0 x1 x2 x3 (0 : Int32) (0 : Int32) h Q _ hw (fun x2 x3 x4 x5 x6 h7 hw => ?_)
      refine qx_aload_n (x := x2) X d_M_ways_155 rfl 0 rfl ?_
      obtain ⟨g8, hw⟩ := hw
      refine qx_getR X qcls12 g8 62 (by decide) rfl wf_M_140 d_M_ways_156 ?_
      refine qx_bipush (v := (32 : Int32)) X d_M_ways_159 (by decide) ?_
      refine qx_iload_n (x := x4) X d_M_ways_161 rfl 2 rfl ?_
      refine qx_imul X d_M_ways_162 ?_
      refine qx_iload_n (x := x5) X d_M_ways_163 rfl 3 rfl ?_
      refine qx_iadd X d_M_ways_164 ?_
      refine qx_iload (x := x6) X d_M_ways_165 4 rfl ?_
      obtain ⟨g9, hw⟩ := hw
      refine qx_ist X g9 d_M_ways_167 ?_
      refine qx_toph (fun h10 eh10 => ?_)
      have hw := hw h10 eh10
      refine qx_iinc (v := (x5 + (1 : Int32))) (L' := [(3, .inl (x5 + (1 : Int32))), (0, .inr (.inr (.inl x2))), (1, .inl x3), (2, .inl x4), (4, .inl x6)]) X d_M_ways_168 3 rfl rfl (by decide) rfl ?_
      refine qx_goto X 68 d_M_ways_171 (by decide) ?_
      refine qx_sub [1, 2, 3, 0] rfl ?_
      exact ih x2 x3 x4 (x5 + (1 : Int32)) h10 hw
set_option maxRecDepth 4000 in
theorem t_M_ways_62 (X : qX p s m args meth c D cy b adK adV prog_14_method_86_code "CoatHangersModel" 7 (some .int) "ways") (N k : Nat) (x0 : Nat) (x1 : Int32) (x2 : Int32) (h : qH) (Q : Int32 → qH → Prop)  (hw : w_M_ways_62 N k x0 x1 x2 h Q ) : qW p l e (qrm 4 0 0 97) s m args below meth c D cy b 7 0 0 (MQ below (qQc D cy b qrI Q) args s 0 0 (qA b)) 62 [(0, .inr (.inr (.inl x0))), (1, .inl x1), (2, .inl x2)] [] h := by
  induction k generalizing x0 x1 x2 h with
  | zero => exact hw.elim
  | succ k ih =>
    refine qx_iload_n (x := x2) X d_M_ways_62 rfl 2 rfl ?_
    refine qx_if_lt X 180 d_M_ways_63 (by decide) (fun q1 => ?_) (fun q1 => ?_)
    · have hw := hw.1 q1
      refine qx_aload_n (x := x0) X d_M_ways_180 rfl 0 rfl ?_
      obtain ⟨g2, hw⟩ := hw
      refine qx_getR X qcls12 g2 62 (by decide) rfl wf_M_140 d_M_ways_181 ?_
      refine qx_iconst (v := (0 : Int32)) X d_M_ways_184 (by decide) ?_
      obtain ⟨g3, hw⟩ := hw
      refine qx_ild X g3 d_M_ways_185 ?_
      exact qx_iret X hw (Nat.le_refl 0) (Nat.le_refl 0) rfl d_M_ways_186
    · have hw := hw.2 q1
      refine qx_iconst (v := (0 : Int32)) X d_M_ways_66 (by decide) ?_
      refine qx_istore_n (L' := [(3, .inl (0 : Int32)), (0, .inr (.inr (.inl x0))), (1, .inl x1), (2, .inl x2)]) X d_M_ways_67 rfl (by decide) rfl ?_
      refine qx_sub [1, 2, 3, 0] rfl ?_
      refine t_M_ways_68 X N N x0 x1 x2 (0 : Int32) h Q _ hw (fun x4 x5 x6 h7 hw => ?_)
      refine qx_iinc (v := (x6 + (-1 : Int32))) (L' := [(2, .inl (x6 + (-1 : Int32))), (0, .inr (.inr (.inl x4))), (1, .inl x5)]) X d_M_ways_174 2 rfl rfl (by decide) rfl ?_
      refine qx_goto X 62 d_M_ways_177 (by decide) ?_
      refine qx_sub [1, 2, 0] rfl ?_
      exact ih x4 x5 (x6 + (-1 : Int32)) h7 hw
set_option maxRecDepth 4000 in
theorem t_M_ways {adK adV : Nat → Nat} (l : Launch) (D : va_G) (cy : Nat → ClassId) (b : Nat) (N : Nat) (x0 : Nat) (x1 : Int32) (h : qH) (Q : Int32 → qH → Prop) (hw : w_M_ways N x0 x1 h Q) : Met l y_M_ways (Cond.code y_M_ways prog_14_method_86_code 7 (some .int) :: qT) (qrm 4 0 0 97) (qPc D cy b adK adV h [qr b x0, .int x1]) (qQc D cy b qrI Q) 0 0 (qA b) := by
  refine qmet (L0 := [(0, .inr (.inr (.inl x0))), (1, .inl x1)]) qm_M_ways (plainFor_of_name (by decide)) [.inr (.inr (.inl x0)), .inl x1] rfl (Nat.le_of_ble_eq_true rfl) rfl (fun p e s m args below meth c X => ?_)
  unfold w_M_ways at hw
  refine qx_iload_n (x := x1) X d_M_ways_0 rfl 1 rfl ?_
  refine qx_iconst (v := (0 : Int32)) X d_M_ways_1 (by decide) ?_
  refine qx_bipush (v := (99 : Int32)) X d_M_ways_2 (by decide) ?_
  refine qx_callSI (st := []) (As := [.int x1, .int (0 : Int32), .int (99 : Int32)]) X (t_M_in (adK := adK) (adV := adV) l D cy b N x1 (0 : Int32) (99 : Int32) h _ hw) qm_M_in wm_M_322 wi_M_in rfl rfl rfl ⟨Nat.le_of_ble_eq_true rfl, Nat.le_of_ble_eq_true rfl⟩ ⟨Nat.le_refl 0, Nat.le_refl 0⟩ (Nat.le_of_ble_eq_true rfl) rfl d_M_ways_4 (fun r1 h2 hw => ?_)
  refine qx_if_ne X 12 d_M_ways_7 (by decide) (fun q3 => ?_) (fun q3 => ?_)
  · have hw := hw.1 q3
    refine qx_aload_n (x := x0) X d_M_ways_12 rfl 0 rfl ?_
    obtain ⟨g4, hw⟩ := hw
    refine qx_callVV (st := []) (As := []) X (t_M_fillsTable (adK := adK) (adV := adV) l D cy b N x0 h2 _ hw) qm_M_fillsTable wm_M_426 wi_M_fillsTable wl_M_fillsTable qcls12 g4 rfl rfl rfl ⟨Nat.le_of_ble_eq_true rfl, Nat.le_of_ble_eq_true rfl⟩ ⟨Nat.le_refl 0, Nat.le_refl 0⟩ (Nat.le_of_ble_eq_true rfl) rfl d_M_ways_13 (fun h5 hw => ?_)
    refine qx_iconst (v := (0 : Int32)) X d_M_ways_16 (by decide) ?_
    refine qx_istore_n (L' := [(2, .inl (0 : Int32)), (0, .inr (.inr (.inl x0))), (1, .inl x1)]) X d_M_ways_17 rfl (by decide) rfl ?_
    refine qx_sub [1, 2, 0] rfl ?_
    refine t_M_ways_18 X N N x0 x1 (0 : Int32) h5 Q _ hw (fun x6 x7 h8 hw => ?_)
    refine qx_aload_n (x := x6) X d_M_ways_50 rfl 0 rfl ?_
    obtain ⟨g9, hw⟩ := hw
    refine qx_getR X qcls12 g9 26 (by decide) rfl wf_M_55 d_M_ways_51 ?_
    refine qx_aload_n (x := x6) X d_M_ways_54 rfl 0 rfl ?_
    refine qx_getI X qcls12 g9 18 (by decide) rfl wf_M_245 d_M_ways_55 ?_
    obtain ⟨g10, hw⟩ := hw
    refine qx_ild X g10 d_M_ways_58 ?_
    refine qx_iconst (v := (1 : Int32)) X d_M_ways_59 (by decide) ?_
    refine qx_isub X d_M_ways_60 ?_
    refine qx_topi (fun y11 ey11 => ?_)
    have hw := hw y11 ey11
    refine qx_istore_n (L' := [(2, .inl y11), (0, .inr (.inr (.inl x6))), (1, .inl x7)]) X d_M_ways_61 rfl (by decide) rfl ?_
    refine qx_sub [1, 2, 0] rfl ?_
    exact t_M_ways_62 X N N x6 x7 y11 h8 Q  hw 
  · have hw := hw.2 q3
    refine qx_iconst (v := (-1 : Int32)) X d_M_ways_10 (by decide) ?_
    exact qx_iret X hw (Nat.le_refl 0) (Nat.le_refl 0) rfl d_M_ways_11
set_option maxRecDepth 4000 in
theorem t_M_sets_37 (X : qX p s m args meth c D cy b adK adV prog_14_method_87_code "CoatHangersModel" 5 (some .int) "sets") (N k : Nat) (x0 : Nat) (x1 : Int32) (x2 : Int32) (x3 : Int32) (x4 : Int32) (h : qH) (Q : Int32 → qH → Prop) (K68 : Nat → Int32 → Int32 → Int32 → qH → Prop) (hw : w_M_sets_37 N k x0 x1 x2 x3 x4 h Q K68) (hK68 : ∀ (x0 : Nat) (x1 : Int32) (x2 : Int32) (x3 : Int32) (h : qH), K68 x0 x1 x2 x3 h → qW p l e (qrm 0 0 0 0) s m args below meth c D cy b 5 0 0 (MQ below (qQc D cy b qrI Q) args s 0 0 (qA b)) 68 [(0, .inr (.inr (.inl x0))), (1, .inl x1), (2, .inl x2), (3, .inl x3)] [] h) : qW p l e (qrm 0 0 0 0) s m args below meth c D cy b 5 0 0 (MQ below (qQc D cy b qrI Q) args s 0 0 (qA b)) 37 [(0, .inr (.inr (.inl x0))), (1, .inl x1), (2, .inl x2), (3, .inl x3), (4, .inl x4)] [] h := by
  induction k generalizing x0 x1 x2 x3 x4 h with
  | zero => exact hw.elim
  | succ k ih =>
    refine qx_iload_n (x := x1) X d_M_sets_37 rfl 1 rfl ?_
    refine qx_iload (x := x4) X d_M_sets_38 4 rfl ?_
    refine qx_ishr X d_M_sets_40 ?_
    refine qx_iconst (v := (1 : Int32)) X d_M_sets_41 (by decide) ?_
    refine qx_iand X d_M_sets_42 ?_
    refine qx_if_ne X 68 d_M_sets_43 (by decide) (fun q1 => ?_) (fun q1 => ?_)
    · have hw := hw.1 q1
      refine qx_sub [0, 1, 2, 3] rfl ?_
      exact hK68 x0 x1 x2 x3 h hw
    · have hw := hw.2 q1
      refine qx_iload_n (x := x1) X d_M_sets_46 rfl 1 rfl ?_
      refine qx_iconst (v := (1 : Int32)) X d_M_sets_47 (by decide) ?_
      refine qx_iload (x := x4) X d_M_sets_48 4 rfl ?_
      refine qx_ishl X d_M_sets_50 ?_
      refine qx_ior X d_M_sets_51 ?_
      refine qx_topi (fun y2 ey2 => ?_)
      have hw := hw y2 ey2
      refine qx_istore_n (L' := [(1, .inl y2), (0, .inr (.inr (.inl x0))), (2, .inl x2), (3, .inl x3), (4, .inl x4)]) X d_M_sets_52 rfl (by decide) rfl ?_
      refine qx_aload_n (x := x0) X d_M_sets_53 rfl 1 rfl ?_
      obtain ⟨g3, hw⟩ := hw
      refine qx_getR X qcls12 g3 49 (by decide) rfl wf_M_113 d_M_sets_54 ?_
      refine qx_bipush (v := (12 : Int32)) X d_M_sets_57 (by decide) ?_
      refine qx_iload (x := x4) X d_M_sets_59 4 rfl ?_
      refine qx_iadd X d_M_sets_61 ?_
      obtain ⟨g4, hw⟩ := hw
      refine qx_ild X g4 d_M_sets_62 ?_
      refine qx_topi (fun y5 ey5 => ?_)
      have hw := hw y5 ey5
      refine qx_istore (L' := [(4, .inl y5), (1, .inl y2), (0, .inr (.inr (.inl x0))), (2, .inl x2), (3, .inl x3)]) X d_M_sets_63 (by decide) rfl ?_
      refine qx_goto X 37 d_M_sets_65 (by decide) ?_
      refine qx_sub [2, 1, 3, 4, 0] rfl ?_
      exact ih x0 y2 x2 x3 y5 h hw
set_option maxRecDepth 4000 in
theorem t_M_sets_6 (X : qX p s m args meth c D cy b adK adV prog_14_method_87_code "CoatHangersModel" 5 (some .int) "sets") (N k : Nat) (x0 : Nat) (x1 : Int32) (x2 : Int32) (x3 : Int32) (h : qH) (Q : Int32 → qH → Prop)  (hw : w_M_sets_6 N k x0 x1 x2 x3 h Q ) : qW p l e (qrm 0 0 0 0) s m args below meth c D cy b 5 0 0 (MQ below (qQc D cy b qrI Q) args s 0 0 (qA b)) 6 [(0, .inr (.inr (.inl x0))), (1, .inl x1), (2, .inl x2), (3, .inl x3)] [] h := by
  induction k generalizing x0 x1 x2 x3 h with
  | zero => exact hw.elim
  | succ k ih =>
    refine qx_iload_n (x := x3) X d_M_sets_6 rfl 3 rfl ?_
    refine qx_aload_n (x := x0) X d_M_sets_7 rfl 0 rfl ?_
    obtain ⟨g1, hw⟩ := hw
    refine qx_getR X qcls12 g1 26 (by decide) rfl wf_M_55 d_M_sets_8 ?_
    refine qx_aload_n (x := x0) X d_M_sets_11 rfl 0 rfl ?_
    refine qx_getI X qcls12 g1 18 (by decide) rfl wf_M_245 d_M_sets_12 ?_
    obtain ⟨g2, hw⟩ := hw
    refine qx_ild X g2 d_M_sets_15 ?_
    refine qx_icmp_ge X 74 d_M_sets_16 (by decide) (fun q3 => ?_) (fun q3 => ?_)
    · have hw := hw.1 q3
      refine qx_iload_n (x := x2) X d_M_sets_74 rfl 2 rfl ?_
      exact qx_iret X hw (Nat.le_refl 0) (Nat.le_refl 0) rfl d_M_sets_75
    · have hw := hw.2 q3
      refine qx_iload_n (x := x1) X d_M_sets_19 rfl 1 rfl ?_
      refine qx_iload_n (x := x3) X d_M_sets_20 rfl 3 rfl ?_
      refine qx_ishr X d_M_sets_21 ?_
      refine qx_iconst (v := (1 : Int32)) X d_M_sets_22 (by decide) ?_
      refine qx_iand X d_M_sets_23 ?_
      refine qx_iconst (v := (1 : Int32)) X d_M_sets_24 (by decide) ?_
      refine qx_icmp_ne X 31 d_M_sets_25 (by decide) (fun q4 => ?_) (fun q4 => ?_)
      · have hw := hw.1 q4
        refine qx_iinc (v := (x2 + (1 : Int32))) (L' := [(2, .inl (x2 + (1 : Int32))), (0, .inr (.inr (.inl x0))), (1, .inl x1), (3, .inl x3)]) X d_M_sets_31 2 rfl rfl (by decide) rfl ?_
        refine qx_iload_n (x := x3) X d_M_sets_34 rfl 3 rfl ?_
        refine qx_istore (L' := [(4, .inl x3), (2, .inl (x2 + (1 : Int32))), (0, .inr (.inr (.inl x0))), (1, .inl x1), (3, .inl x3)]) X d_M_sets_35 (by decide) rfl ?_
        refine qx_sub [2, 3, 1, 4, 0] rfl ?_
        refine t_M_sets_37 X N N x0 x1 (x2 + (1 : Int32)) x3 x3 h Q _ hw (fun x5 x6 x7 x8 h9 hw => ?_)
        refine qx_iinc (v := (x8 + (1 : Int32))) (L' := [(3, .inl (x8 + (1 : Int32))), (0, .inr (.inr (.inl x5))), (1, .inl x6), (2, .inl x7)]) X d_M_sets_68 3 rfl rfl (by decide) rfl ?_
        refine qx_goto X 6 d_M_sets_71 (by decide) ?_
        refine qx_sub [1, 2, 3, 0] rfl ?_
        exact ih x5 x6 x7 (x8 + (1 : Int32)) h9 hw
      · have hw := hw.2 q4
        refine qx_goto X 68 d_M_sets_28 (by decide) ?_
        refine qx_iinc (v := (x3 + (1 : Int32))) (L' := [(3, .inl (x3 + (1 : Int32))), (0, .inr (.inr (.inl x0))), (1, .inl x1), (2, .inl x2)]) X d_M_sets_68 3 rfl rfl (by decide) rfl ?_
        refine qx_goto X 6 d_M_sets_71 (by decide) ?_
        refine qx_sub [1, 2, 3, 0] rfl ?_
        exact ih x0 x1 x2 (x3 + (1 : Int32)) h hw
set_option maxRecDepth 4000 in
theorem t_M_sets {adK adV : Nat → Nat} (l : Launch) (D : va_G) (cy : Nat → ClassId) (b : Nat) (N : Nat) (x0 : Nat) (h : qH) (Q : Int32 → qH → Prop) (hw : w_M_sets N x0 h Q) : Met l y_M_sets (Cond.code y_M_sets prog_14_method_87_code 5 (some .int) :: qT) (qrm 0 0 0 0) (qPc D cy b adK adV h [qr b x0]) (qQc D cy b qrI Q) 0 0 (qA b) := by
  refine qmet (L0 := [(0, .inr (.inr (.inl x0)))]) qm_M_sets (plainFor_of_name (by decide)) [.inr (.inr (.inl x0))] rfl (Nat.le_of_ble_eq_true rfl) rfl (fun p e s m args below meth c X => ?_)
  unfold w_M_sets at hw
  refine qx_iconst (v := (0 : Int32)) X d_M_sets_0 (by decide) ?_
  refine qx_istore_n (L' := [(1, .inl (0 : Int32)), (0, .inr (.inr (.inl x0)))]) X d_M_sets_1 rfl (by decide) rfl ?_
  refine qx_iconst (v := (0 : Int32)) X d_M_sets_2 (by decide) ?_
  refine qx_istore_n (L' := [(2, .inl (0 : Int32)), (1, .inl (0 : Int32)), (0, .inr (.inr (.inl x0)))]) X d_M_sets_3 rfl (by decide) rfl ?_
  refine qx_iconst (v := (0 : Int32)) X d_M_sets_4 (by decide) ?_
  refine qx_istore_n (L' := [(3, .inl (0 : Int32)), (2, .inl (0 : Int32)), (1, .inl (0 : Int32)), (0, .inr (.inr (.inl x0)))]) X d_M_sets_5 rfl (by decide) rfl ?_
  refine qx_sub [3, 2, 1, 0] rfl ?_
  exact t_M_sets_6 X N N x0 (0 : Int32) (0 : Int32) (0 : Int32) h Q  hw 
set_option maxRecDepth 4000 in
theorem t_M_changes {adK adV : Nat → Nat} (l : Launch) (D : va_G) (cy : Nat → ClassId) (b : Nat) (N : Nat) (x0 : Nat) (h : qH) (Q : Int32 → qH → Prop) (hw : w_M_changes N x0 h Q) : Met l y_M_changes (Cond.code y_M_changes prog_14_method_88_code 1 (some .int) :: qT) (qrm 1 0 0 24) (qPc D cy b adK adV h [qr b x0]) (qQc D cy b qrI Q) 0 0 (qA b) := by
  refine qmet (L0 := [(0, .inr (.inr (.inl x0)))]) qm_M_changes (plainFor_of_name (by decide)) [.inr (.inr (.inl x0))] rfl (Nat.le_of_ble_eq_true rfl) rfl (fun p e s m args below meth c X => ?_)
  unfold w_M_changes at hw
  refine qx_aload_n (x := x0) X d_M_changes_0 rfl 0 rfl ?_
  obtain ⟨g1, hw⟩ := hw
  refine qx_getR X qcls12 g1 26 (by decide) rfl wf_M_55 d_M_changes_1 ?_
  refine qx_aload_n (x := x0) X d_M_changes_4 rfl 0 rfl ?_
  refine qx_getI X qcls12 g1 18 (by decide) rfl wf_M_245 d_M_changes_5 ?_
  obtain ⟨g2, hw⟩ := hw
  refine qx_ild X g2 d_M_changes_8 ?_
  refine qx_aload_n (x := x0) X d_M_changes_9 rfl 0 rfl ?_
  refine qx_callVI (st := [.int (qI h (qR h x0 26) ((qI h x0 18)).toNatClampNeg)]) (As := []) X (t_M_sets (adK := adK) (adV := adV) l D cy b N x0 h _ hw) qm_M_sets wm_M_445 wi_M_sets wl_M_sets qcls12 g1 rfl rfl rfl ⟨Nat.le_of_ble_eq_true rfl, Nat.le_of_ble_eq_true rfl⟩ ⟨Nat.le_refl 0, Nat.le_refl 0⟩ (Nat.le_of_ble_eq_true rfl) rfl d_M_changes_10 (fun r3 h4 hw => ?_)
  refine qx_isub X d_M_changes_13 ?_
  exact qx_iret X hw (Nat.le_refl 0) (Nat.le_refl 0) rfl d_M_changes_14
set_option maxRecDepth 4000 in
theorem t_M_ownBits_4 (X : qX p s m args meth c D cy b adK adV prog_14_method_89_code "CoatHangersModel" 3 (some .int) "ownBits") (N k : Nat) (x0 : Nat) (x1 : Int32) (x2 : Int32) (h : qH) (Q : Int32 → qH → Prop)  (hw : w_M_ownBits_4 N k x0 x1 x2 h Q ) : qW p l e (qrm 0 0 0 0) s m args below meth c D cy b 3 0 0 (MQ below (qQc D cy b qrI Q) args s 0 0 (qA b)) 4 [(0, .inr (.inr (.inl x0))), (1, .inl x1), (2, .inl x2)] [] h := by
  induction k generalizing x0 x1 x2 h with
  | zero => exact hw.elim
  | succ k ih =>
    refine qx_iload_n (x := x2) X d_M_ownBits_4 rfl 2 rfl ?_
    refine qx_aload_n (x := x0) X d_M_ownBits_5 rfl 0 rfl ?_
    obtain ⟨g1, hw⟩ := hw
    refine qx_getR X qcls12 g1 26 (by decide) rfl wf_M_55 d_M_ownBits_6 ?_
    refine qx_aload_n (x := x0) X d_M_ownBits_9 rfl 0 rfl ?_
    refine qx_getI X qcls12 g1 18 (by decide) rfl wf_M_245 d_M_ownBits_10 ?_
    obtain ⟨g2, hw⟩ := hw
    refine qx_ild X g2 d_M_ownBits_13 ?_
    refine qx_icmp_ge X 42 d_M_ownBits_14 (by decide) (fun q3 => ?_) (fun q3 => ?_)
    · have hw := hw.1 q3
      refine qx_iload_n (x := x1) X d_M_ownBits_42 rfl 1 rfl ?_
      exact qx_iret X hw (Nat.le_refl 0) (Nat.le_refl 0) rfl d_M_ownBits_43
    · have hw := hw.2 q3
      refine qx_aload_n (x := x0) X d_M_ownBits_17 rfl 0 rfl ?_
      refine qx_getR X qcls12 g1 50 (by decide) rfl wf_M_116 d_M_ownBits_18 ?_
      refine qx_bipush (v := (12 : Int32)) X d_M_ownBits_21 (by decide) ?_
      refine qx_iload_n (x := x2) X d_M_ownBits_23 rfl 2 rfl ?_
      refine qx_iadd X d_M_ownBits_24 ?_
      obtain ⟨g4, hw⟩ := hw
      refine qx_ild X g4 d_M_ownBits_25 ?_
      refine qx_iload_n (x := x2) X d_M_ownBits_26 rfl 2 rfl ?_
      refine qx_icmp_ne X 36 d_M_ownBits_27 (by decide) (fun q5 => ?_) (fun q5 => ?_)
      · have hw := hw.1 q5
        refine qx_iinc (v := (x2 + (1 : Int32))) (L' := [(2, .inl (x2 + (1 : Int32))), (0, .inr (.inr (.inl x0))), (1, .inl x1)]) X d_M_ownBits_36 2 rfl rfl (by decide) rfl ?_
        refine qx_goto X 4 d_M_ownBits_39 (by decide) ?_
        refine qx_sub [1, 2, 0] rfl ?_
        exact ih x0 x1 (x2 + (1 : Int32)) h hw
      · have hw := hw.2 q5
        refine qx_iload_n (x := x1) X d_M_ownBits_30 rfl 1 rfl ?_
        refine qx_iconst (v := (1 : Int32)) X d_M_ownBits_31 (by decide) ?_
        refine qx_iload_n (x := x2) X d_M_ownBits_32 rfl 2 rfl ?_
        refine qx_ishl X d_M_ownBits_33 ?_
        refine qx_ior X d_M_ownBits_34 ?_
        refine qx_topi (fun y6 ey6 => ?_)
        have hw := hw y6 ey6
        refine qx_istore_n (L' := [(1, .inl y6), (0, .inr (.inr (.inl x0))), (2, .inl x2)]) X d_M_ownBits_35 rfl (by decide) rfl ?_
        refine qx_iinc (v := (x2 + (1 : Int32))) (L' := [(2, .inl (x2 + (1 : Int32))), (1, .inl y6), (0, .inr (.inr (.inl x0)))]) X d_M_ownBits_36 2 rfl rfl (by decide) rfl ?_
        refine qx_goto X 4 d_M_ownBits_39 (by decide) ?_
        refine qx_sub [2, 1, 0] rfl ?_
        exact ih x0 y6 (x2 + (1 : Int32)) h hw
set_option maxRecDepth 4000 in
theorem t_M_ownBits {adK adV : Nat → Nat} (l : Launch) (D : va_G) (cy : Nat → ClassId) (b : Nat) (N : Nat) (x0 : Nat) (h : qH) (Q : Int32 → qH → Prop) (hw : w_M_ownBits N x0 h Q) : Met l y_M_ownBits (Cond.code y_M_ownBits prog_14_method_89_code 3 (some .int) :: qT) (qrm 0 0 0 0) (qPc D cy b adK adV h [qr b x0]) (qQc D cy b qrI Q) 0 0 (qA b) := by
  refine qmet (L0 := [(0, .inr (.inr (.inl x0)))]) qm_M_ownBits (plainFor_of_name (by decide)) [.inr (.inr (.inl x0))] rfl (Nat.le_of_ble_eq_true rfl) rfl (fun p e s m args below meth c X => ?_)
  unfold w_M_ownBits at hw
  refine qx_iconst (v := (0 : Int32)) X d_M_ownBits_0 (by decide) ?_
  refine qx_istore_n (L' := [(1, .inl (0 : Int32)), (0, .inr (.inr (.inl x0)))]) X d_M_ownBits_1 rfl (by decide) rfl ?_
  refine qx_iconst (v := (0 : Int32)) X d_M_ownBits_2 (by decide) ?_
  refine qx_istore_n (L' := [(2, .inl (0 : Int32)), (1, .inl (0 : Int32)), (0, .inr (.inr (.inl x0)))]) X d_M_ownBits_3 rfl (by decide) rfl ?_
  refine qx_sub [2, 1, 0] rfl ?_
  exact t_M_ownBits_4 X N N x0 (0 : Int32) (0 : Int32) h Q  hw 
set_option maxRecDepth 4000 in
theorem t_M_themselves_6 (X : qX p s m args meth c D cy b adK adV prog_14_method_90_code "CoatHangersModel" 2 (some .int) "themselves") (N k : Nat) (x0 : Nat) (x1 : Int32) (h : qH) (Q : Int32 → qH → Prop)  (hw : w_M_themselves_6 N k x0 x1 h Q ) : qW p l e (qrm 5 0 0 109) s m args below meth c D cy b 2 0 0 (MQ below (qQc D cy b qrI Q) args s 0 0 (qA b)) 6 [(0, .inr (.inr (.inl x0))), (1, .inl x1)] [] h := by
  induction k generalizing x0 x1 h with
  | zero => exact hw.elim
  | succ k ih =>
    refine qx_iload_n (x := x1) X d_M_themselves_6 rfl 1 rfl ?_
    refine qx_sipush (v := (240 : Int32)) X d_M_themselves_7 (by decide) ?_
    refine qx_icmp_gt X 45 d_M_themselves_10 (by decide) (fun q1 => ?_) (fun q1 => ?_)
    · have hw := hw.1 q1
      refine qx_bipush (v := (-2 : Int32)) X d_M_themselves_45 (by decide) ?_
      exact qx_iret X hw (Nat.le_refl 0) (Nat.le_refl 0) rfl d_M_themselves_47
    · have hw := hw.2 q1
      refine qx_aload_n (x := x0) X d_M_themselves_13 rfl 0 rfl ?_
      obtain ⟨g2, hw⟩ := hw
      refine qx_callVI (st := []) (As := []) X (t_M_ownBits (adK := adK) (adV := adV) l D cy b N x0 h _ hw) qm_M_ownBits wm_M_448 wi_M_ownBits wl_M_ownBits qcls12 g2 rfl rfl rfl ⟨Nat.le_of_ble_eq_true rfl, Nat.le_of_ble_eq_true rfl⟩ ⟨Nat.le_refl 0, Nat.le_refl 0⟩ (Nat.le_of_ble_eq_true rfl) rfl d_M_themselves_14 (fun r3 h4 hw => ?_)
      refine qx_iconst (v := (1 : Int32)) X d_M_themselves_17 (by decide) ?_
      refine qx_aload_n (x := x0) X d_M_themselves_18 rfl 0 rfl ?_
      obtain ⟨g5, hw⟩ := hw
      refine qx_getR X qcls12 g5 26 (by decide) rfl wf_M_55 d_M_themselves_19 ?_
      refine qx_aload_n (x := x0) X d_M_themselves_22 rfl 0 rfl ?_
      refine qx_getI X qcls12 g5 18 (by decide) rfl wf_M_245 d_M_themselves_23 ?_
      obtain ⟨g6, hw⟩ := hw
      refine qx_ild X g6 d_M_themselves_26 ?_
      refine qx_ishl X d_M_themselves_27 ?_
      refine qx_iconst (v := (1 : Int32)) X d_M_themselves_28 (by decide) ?_
      refine qx_isub X d_M_themselves_29 ?_
      refine qx_icmp_ne X 35 d_M_themselves_30 (by decide) (fun q7 => ?_) (fun q7 => ?_)
      · have hw := hw.1 q7
        refine qx_aload_n (x := x0) X d_M_themselves_35 rfl 0 rfl ?_
        refine qx_callVV (st := []) (As := []) X (t_M_nightGoes (adK := adK) (adV := adV) l D cy b N x0 h4 _ hw) qm_M_nightGoes wm_M_383 wi_M_nightGoes wl_M_nightGoes qcls12 g5 rfl rfl rfl ⟨Nat.le_of_ble_eq_true rfl, Nat.le_of_ble_eq_true rfl⟩ ⟨Nat.le_refl 0, Nat.le_refl 0⟩ (Nat.le_of_ble_eq_true rfl) rfl d_M_themselves_36 (fun h8 hw => ?_)
        refine qx_iinc (v := (x1 + (1 : Int32))) (L' := [(1, .inl (x1 + (1 : Int32))), (0, .inr (.inr (.inl x0)))]) X d_M_themselves_39 1 rfl rfl (by decide) rfl ?_
        refine qx_goto X 6 d_M_themselves_42 (by decide) ?_
        refine qx_sub [1, 0] rfl ?_
        exact ih x0 (x1 + (1 : Int32)) h8 hw
      · have hw := hw.2 q7
        refine qx_iload_n (x := x1) X d_M_themselves_33 rfl 1 rfl ?_
        exact qx_iret X hw (Nat.le_refl 0) (Nat.le_refl 0) rfl d_M_themselves_34
set_option maxRecDepth 4000 in
theorem t_M_themselves {adK adV : Nat → Nat} (l : Launch) (D : va_G) (cy : Nat → ClassId) (b : Nat) (N : Nat) (x0 : Nat) (h : qH) (Q : Int32 → qH → Prop) (hw : w_M_themselves N x0 h Q) : Met l y_M_themselves (Cond.code y_M_themselves prog_14_method_90_code 2 (some .int) :: qT) (qrm 5 0 0 109) (qPc D cy b adK adV h [qr b x0]) (qQc D cy b qrI Q) 0 0 (qA b) := by
  refine qmet (L0 := [(0, .inr (.inr (.inl x0)))]) qm_M_themselves (plainFor_of_name (by decide)) [.inr (.inr (.inl x0))] rfl (Nat.le_of_ble_eq_true rfl) rfl (fun p e s m args below meth c X => ?_)
  unfold w_M_themselves at hw
  refine qx_aload_n (x := x0) X d_M_themselves_0 rfl 0 rfl ?_
  obtain ⟨g1, hw⟩ := hw
  refine qx_callVV (st := []) (As := []) X (t_M_copiesStill (adK := adK) (adV := adV) l D cy b N x0 h _ hw) qm_M_copiesStill wm_M_401 wi_M_copiesStill wl_M_copiesStill qcls12 g1 rfl rfl rfl ⟨Nat.le_of_ble_eq_true rfl, Nat.le_of_ble_eq_true rfl⟩ ⟨Nat.le_refl 0, Nat.le_refl 0⟩ (Nat.le_of_ble_eq_true rfl) rfl d_M_themselves_1 (fun h2 hw => ?_)
  refine qx_iconst (v := (0 : Int32)) X d_M_themselves_4 (by decide) ?_
  refine qx_istore_n (L' := [(1, .inl (0 : Int32)), (0, .inr (.inr (.inl x0)))]) X d_M_themselves_5 rfl (by decide) rfl ?_
  refine qx_sub [1, 0] rfl ?_
  exact t_M_themselves_6 X N N x0 (0 : Int32) h2 Q  hw 
set_option maxRecDepth 4000 in
theorem t_M_day_16 (X : qX p s m args meth c D cy b adK adV prog_14_method_91_code "CoatHangersModel" 3 (some .int) "day") (N k : Nat) (x0 : Nat) (x1 : Int32) (x2 : Int32) (h : qH) (Q : Int32 → qH → Prop)  (hw : w_M_day_16 N k x0 x1 x2 h Q ) : qW p l e (qrm 5 0 0 109) s m args below meth c D cy b 3 0 0 (MQ below (qQc D cy b qrI Q) args s 0 0 (qA b)) 16 [(0, .inr (.inr (.inl x0))), (1, .inl x1), (2, .inl x2)] [] h := by
  induction k generalizing x0 x1 x2 h with
  | zero => exact hw.elim
  | succ k ih =>
    refine qx_iload_n (x := x2) X d_M_day_16 rfl 2 rfl ?_
    refine qx_sipush (v := (240 : Int32)) X d_M_day_17 (by decide) ?_
    refine qx_icmp_gt X 48 d_M_day_20 (by decide) (fun q1 => ?_) (fun q1 => ?_)
    · have hw := hw.1 q1
      refine qx_bipush (v := (-2 : Int32)) X d_M_day_48 (by decide) ?_
      exact qx_iret X hw (Nat.le_refl 0) (Nat.le_refl 0) rfl d_M_day_50
    · have hw := hw.2 q1
      refine qx_aload_n (x := x0) X d_M_day_23 rfl 0 rfl ?_
      obtain ⟨g2, hw⟩ := hw
      refine qx_getR X qcls12 g2 50 (by decide) rfl wf_M_116 d_M_day_24 ?_
      refine qx_bipush (v := (12 : Int32)) X d_M_day_27 (by decide) ?_
      refine qx_iload_n (x := x1) X d_M_day_29 rfl 1 rfl ?_
      refine qx_iadd X d_M_day_30 ?_
      obtain ⟨g3, hw⟩ := hw
      refine qx_ild X g3 d_M_day_31 ?_
      refine qx_iload_n (x := x1) X d_M_day_32 rfl 1 rfl ?_
      refine qx_icmp_ne X 38 d_M_day_33 (by decide) (fun q4 => ?_) (fun q4 => ?_)
      · have hw := hw.1 q4
        refine qx_aload_n (x := x0) X d_M_day_38 rfl 0 rfl ?_
        refine qx_callVV (st := []) (As := []) X (t_M_nightGoes (adK := adK) (adV := adV) l D cy b N x0 h _ hw) qm_M_nightGoes wm_M_383 wi_M_nightGoes wl_M_nightGoes qcls12 g2 rfl rfl rfl ⟨Nat.le_of_ble_eq_true rfl, Nat.le_of_ble_eq_true rfl⟩ ⟨Nat.le_refl 0, Nat.le_refl 0⟩ (Nat.le_of_ble_eq_true rfl) rfl d_M_day_39 (fun h5 hw => ?_)
        refine qx_iinc (v := (x2 + (1 : Int32))) (L' := [(2, .inl (x2 + (1 : Int32))), (0, .inr (.inr (.inl x0))), (1, .inl x1)]) X d_M_day_42 2 rfl rfl (by decide) rfl ?_
        refine qx_goto X 16 d_M_day_45 (by decide) ?_
        refine qx_sub [1, 2, 0] rfl ?_
        exact ih x0 x1 (x2 + (1 : Int32)) h5 hw
      · have hw := hw.2 q4
        refine qx_iload_n (x := x2) X d_M_day_36 rfl 2 rfl ?_
        exact qx_iret X hw (Nat.le_refl 0) (Nat.le_refl 0) rfl d_M_day_37
set_option maxRecDepth 4000 in
theorem t_M_day {adK adV : Nat → Nat} (l : Launch) (D : va_G) (cy : Nat → ClassId) (b : Nat) (N : Nat) (x0 : Nat) (x1 : Int32) (h : qH) (Q : Int32 → qH → Prop) (hw : w_M_day N x0 x1 h Q) : Met l y_M_day (Cond.code y_M_day prog_14_method_91_code 3 (some .int) :: qT) (qrm 5 0 0 109) (qPc D cy b adK adV h [qr b x0, .int x1]) (qQc D cy b qrI Q) 0 0 (qA b) := by
  refine qmet (L0 := [(0, .inr (.inr (.inl x0))), (1, .inl x1)]) qm_M_day (plainFor_of_name (by decide)) [.inr (.inr (.inl x0)), .inl x1] rfl (Nat.le_of_ble_eq_true rfl) rfl (fun p e s m args below meth c X => ?_)
  unfold w_M_day at hw
  refine qx_aload_n (x := x0) X d_M_day_0 rfl 0 rfl ?_
  refine qx_iload_n (x := x1) X d_M_day_1 rfl 1 rfl ?_
  obtain ⟨g1, hw⟩ := hw
  refine qx_callVI (st := []) (As := [.int x1]) X (t_M_isPerson (adK := adK) (adV := adV) l D cy b N x0 x1 h _ hw) qm_M_isPerson wm_M_392 wi_M_isPerson wl_M_isPerson qcls12 g1 rfl rfl rfl ⟨Nat.le_of_ble_eq_true rfl, Nat.le_of_ble_eq_true rfl⟩ ⟨Nat.le_refl 0, Nat.le_refl 0⟩ (Nat.le_of_ble_eq_true rfl) rfl d_M_day_2 (fun r2 h3 hw => ?_)
  refine qx_if_ne X 10 d_M_day_5 (by decide) (fun q4 => ?_) (fun q4 => ?_)
  · have hw := hw.1 q4
    refine qx_aload_n (x := x0) X d_M_day_10 rfl 0 rfl ?_
    obtain ⟨g5, hw⟩ := hw
    refine qx_callVV (st := []) (As := []) X (t_M_copiesStill (adK := adK) (adV := adV) l D cy b N x0 h3 _ hw) qm_M_copiesStill wm_M_401 wi_M_copiesStill wl_M_copiesStill qcls12 g5 rfl rfl rfl ⟨Nat.le_of_ble_eq_true rfl, Nat.le_of_ble_eq_true rfl⟩ ⟨Nat.le_refl 0, Nat.le_refl 0⟩ (Nat.le_of_ble_eq_true rfl) rfl d_M_day_11 (fun h6 hw => ?_)
    refine qx_iconst (v := (0 : Int32)) X d_M_day_14 (by decide) ?_
    refine qx_istore_n (L' := [(2, .inl (0 : Int32)), (0, .inr (.inr (.inl x0))), (1, .inl x1)]) X d_M_day_15 rfl (by decide) rfl ?_
    refine qx_sub [1, 2, 0] rfl ?_
    exact t_M_day_16 X N N x0 x1 (0 : Int32) h6 Q  hw 
  · have hw := hw.2 q4
    refine qx_iconst (v := (-1 : Int32)) X d_M_day_8 (by decide) ?_
    exact qx_iret X hw (Nat.le_refl 0) (Nat.le_refl 0) rfl d_M_day_9
set_option maxRecDepth 4000 in
theorem t_M_areAsNow_2 (X : qX p s m args meth c D cy b adK adV prog_14_method_92_code "CoatHangersModel" 2 (some .boolean) "areAsNow") (N k : Nat) (x0 : Nat) (x1 : Int32) (h : qH) (Q : Int32 → qH → Prop)  (hw : w_M_areAsNow_2 N k x0 x1 h Q ) : qW p l e (qrm 0 0 0 0) s m args below meth c D cy b 2 0 0 (MQ below (qQc D cy b qrI Q) args s 0 0 (qA b)) 2 [(0, .inr (.inr (.inl x0))), (1, .inl x1)] [] h := by
  induction k generalizing x0 x1 h with
  | zero => exact hw.elim
  | succ k ih =>
    refine qx_iload_n (x := x1) X d_M_areAsNow_2 rfl 1 rfl ?_
    refine qx_aload_n (x := x0) X d_M_areAsNow_3 rfl 0 rfl ?_
    obtain ⟨g1, hw⟩ := hw
    refine qx_getR X qcls12 g1 26 (by decide) rfl wf_M_55 d_M_areAsNow_4 ?_
    refine qx_aload_n (x := x0) X d_M_areAsNow_7 rfl 0 rfl ?_
    refine qx_getI X qcls12 g1 18 (by decide) rfl wf_M_245 d_M_areAsNow_8 ?_
    obtain ⟨g2, hw⟩ := hw
    refine qx_ild X g2 d_M_areAsNow_11 ?_
    refine qx_icmp_ge X 44 d_M_areAsNow_12 (by decide) (fun q3 => ?_) (fun q3 => ?_)
    · have hw := hw.1 q3
      refine qx_iconst (v := (1 : Int32)) X d_M_areAsNow_44 (by decide) ?_
      exact qx_zret X hw (Nat.le_refl 0) (Nat.le_refl 0) rfl d_M_areAsNow_45
    · have hw := hw.2 q3
      refine qx_aload_n (x := x0) X d_M_areAsNow_15 rfl 0 rfl ?_
      refine qx_getR X qcls12 g1 50 (by decide) rfl wf_M_116 d_M_areAsNow_16 ?_
      refine qx_bipush (v := (12 : Int32)) X d_M_areAsNow_19 (by decide) ?_
      refine qx_iload_n (x := x1) X d_M_areAsNow_21 rfl 1 rfl ?_
      refine qx_iadd X d_M_areAsNow_22 ?_
      obtain ⟨g4, hw⟩ := hw
      refine qx_ild X g4 d_M_areAsNow_23 ?_
      refine qx_aload_n (x := x0) X d_M_areAsNow_24 rfl 0 rfl ?_
      refine qx_getR X qcls12 g1 49 (by decide) rfl wf_M_113 d_M_areAsNow_25 ?_
      refine qx_bipush (v := (12 : Int32)) X d_M_areAsNow_28 (by decide) ?_
      refine qx_iload_n (x := x1) X d_M_areAsNow_30 rfl 1 rfl ?_
      refine qx_iadd X d_M_areAsNow_31 ?_
      obtain ⟨g5, hw⟩ := hw
      refine qx_ild X g5 d_M_areAsNow_32 ?_
      refine qx_icmp_eq X 38 d_M_areAsNow_33 (by decide) (fun q6 => ?_) (fun q6 => ?_)
      · have hw := hw.1 q6
        refine qx_iinc (v := (x1 + (1 : Int32))) (L' := [(1, .inl (x1 + (1 : Int32))), (0, .inr (.inr (.inl x0)))]) X d_M_areAsNow_38 1 rfl rfl (by decide) rfl ?_
        refine qx_goto X 2 d_M_areAsNow_41 (by decide) ?_
        refine qx_sub [1, 0] rfl ?_
        exact ih x0 (x1 + (1 : Int32)) h hw
      · have hw := hw.2 q6
        refine qx_iconst (v := (0 : Int32)) X d_M_areAsNow_36 (by decide) ?_
        exact qx_zret X hw (Nat.le_refl 0) (Nat.le_refl 0) rfl d_M_areAsNow_37
set_option maxRecDepth 4000 in
theorem t_M_areAsNow {adK adV : Nat → Nat} (l : Launch) (D : va_G) (cy : Nat → ClassId) (b : Nat) (N : Nat) (x0 : Nat) (h : qH) (Q : Int32 → qH → Prop) (hw : w_M_areAsNow N x0 h Q) : Met l y_M_areAsNow (Cond.code y_M_areAsNow prog_14_method_92_code 2 (some .boolean) :: qT) (qrm 0 0 0 0) (qPc D cy b adK adV h [qr b x0]) (qQc D cy b qrI Q) 0 0 (qA b) := by
  refine qmet (L0 := [(0, .inr (.inr (.inl x0)))]) qm_M_areAsNow (plainFor_of_name (by decide)) [.inr (.inr (.inl x0))] rfl (Nat.le_of_ble_eq_true rfl) rfl (fun p e s m args below meth c X => ?_)
  unfold w_M_areAsNow at hw
  refine qx_iconst (v := (0 : Int32)) X d_M_areAsNow_0 (by decide) ?_
  refine qx_istore_n (L' := [(1, .inl (0 : Int32)), (0, .inr (.inr (.inl x0)))]) X d_M_areAsNow_1 rfl (by decide) rfl ?_
  refine qx_sub [1, 0] rfl ?_
  exact t_M_areAsNow_2 X N N x0 (0 : Int32) h Q  hw 
set_option maxRecDepth 4000 in
theorem t_M_round_6 (X : qX p s m args meth c D cy b adK adV prog_14_method_93_code "CoatHangersModel" 2 (some .int) "round") (N k : Nat) (x0 : Nat) (x1 : Int32) (h : qH) (Q : Int32 → qH → Prop)  (hw : w_M_round_6 N k x0 x1 h Q ) : qW p l e (qrm 5 0 0 109) s m args below meth c D cy b 2 0 0 (MQ below (qQc D cy b qrI Q) args s 0 0 (qA b)) 6 [(0, .inr (.inr (.inl x0))), (1, .inl x1)] [] h := by
  induction k generalizing x0 x1 h with
  | zero => exact hw.elim
  | succ k ih =>
    refine qx_iload_n (x := x1) X d_M_round_6 rfl 1 rfl ?_
    refine qx_sipush (v := (240 : Int32)) X d_M_round_7 (by decide) ?_
    refine qx_icmp_gt X 32 d_M_round_10 (by decide) (fun q1 => ?_) (fun q1 => ?_)
    · have hw := hw.1 q1
      refine qx_bipush (v := (-2 : Int32)) X d_M_round_32 (by decide) ?_
      exact qx_iret X hw (Nat.le_refl 0) (Nat.le_refl 0) rfl d_M_round_34
    · have hw := hw.2 q1
      refine qx_aload_n (x := x0) X d_M_round_13 rfl 0 rfl ?_
      obtain ⟨g2, hw⟩ := hw
      refine qx_callVV (st := []) (As := []) X (t_M_nightGoes (adK := adK) (adV := adV) l D cy b N x0 h _ hw) qm_M_nightGoes wm_M_383 wi_M_nightGoes wl_M_nightGoes qcls12 g2 rfl rfl rfl ⟨Nat.le_of_ble_eq_true rfl, Nat.le_of_ble_eq_true rfl⟩ ⟨Nat.le_refl 0, Nat.le_refl 0⟩ (Nat.le_of_ble_eq_true rfl) rfl d_M_round_14 (fun h3 hw => ?_)
      refine qx_aload_n (x := x0) X d_M_round_17 rfl 0 rfl ?_
      obtain ⟨g4, hw⟩ := hw
      refine qx_callVI (st := []) (As := []) X (t_M_areAsNow (adK := adK) (adV := adV) l D cy b N x0 h3 _ hw) qm_M_areAsNow wm_M_451 wi_M_areAsNow wl_M_areAsNow qcls12 g4 rfl rfl rfl ⟨Nat.le_of_ble_eq_true rfl, Nat.le_of_ble_eq_true rfl⟩ ⟨Nat.le_refl 0, Nat.le_refl 0⟩ (Nat.le_of_ble_eq_true rfl) rfl d_M_round_18 (fun r5 h6 hw => ?_)
      refine qx_if_eq X 26 d_M_round_21 (by decide) (fun q7 => ?_) (fun q7 => ?_)
      · have hw := hw.1 q7
        refine qx_iinc (v := (x1 + (1 : Int32))) (L' := [(1, .inl (x1 + (1 : Int32))), (0, .inr (.inr (.inl x0)))]) X d_M_round_26 1 rfl rfl (by decide) rfl ?_
        refine qx_goto X 6 d_M_round_29 (by decide) ?_
        refine qx_sub [1, 0] rfl ?_
        exact ih x0 (x1 + (1 : Int32)) h6 hw
      · have hw := hw.2 q7
        refine qx_iload_n (x := x1) X d_M_round_24 rfl 1 rfl ?_
        exact qx_iret X hw (Nat.le_refl 0) (Nat.le_refl 0) rfl d_M_round_25
set_option maxRecDepth 4000 in
theorem t_M_round {adK adV : Nat → Nat} (l : Launch) (D : va_G) (cy : Nat → ClassId) (b : Nat) (N : Nat) (x0 : Nat) (h : qH) (Q : Int32 → qH → Prop) (hw : w_M_round N x0 h Q) : Met l y_M_round (Cond.code y_M_round prog_14_method_93_code 2 (some .int) :: qT) (qrm 5 0 0 109) (qPc D cy b adK adV h [qr b x0]) (qQc D cy b qrI Q) 0 0 (qA b) := by
  refine qmet (L0 := [(0, .inr (.inr (.inl x0)))]) qm_M_round (plainFor_of_name (by decide)) [.inr (.inr (.inl x0))] rfl (Nat.le_of_ble_eq_true rfl) rfl (fun p e s m args below meth c X => ?_)
  unfold w_M_round at hw
  refine qx_aload_n (x := x0) X d_M_round_0 rfl 0 rfl ?_
  obtain ⟨g1, hw⟩ := hw
  refine qx_callVV (st := []) (As := []) X (t_M_copiesStill (adK := adK) (adV := adV) l D cy b N x0 h _ hw) qm_M_copiesStill wm_M_401 wi_M_copiesStill wl_M_copiesStill qcls12 g1 rfl rfl rfl ⟨Nat.le_of_ble_eq_true rfl, Nat.le_of_ble_eq_true rfl⟩ ⟨Nat.le_refl 0, Nat.le_refl 0⟩ (Nat.le_of_ble_eq_true rfl) rfl d_M_round_1 (fun h2 hw => ?_)
  refine qx_iconst (v := (1 : Int32)) X d_M_round_4 (by decide) ?_
  refine qx_istore_n (L' := [(1, .inl (1 : Int32)), (0, .inr (.inr (.inl x0)))]) X d_M_round_5 rfl (by decide) rfl ?_
  refine qx_sub [1, 0] rfl ?_
  exact t_M_round_6 X N N x0 (1 : Int32) h2 Q  hw 
set_option maxRecDepth 4000 in
theorem t_M_crossed_39 (X : qX p s m args meth c D cy b adK adV prog_14_method_94_code "CoatHangersModel" 6 (some .int) "crossed") (N k : Nat) (x0 : Nat) (x1 : Int32) (x2 : Int32) (x3 : Int32) (x4 : Int32) (x5 : Int32) (h : qH) (Q : Int32 → qH → Prop) (K108 : Nat → Int32 → Int32 → Int32 → Int32 → qH → Prop) (hw : w_M_crossed_39 N k x0 x1 x2 x3 x4 x5 h Q K108) (hK108 : ∀ (x0 : Nat) (x1 : Int32) (x2 : Int32) (x3 : Int32) (x4 : Int32) (h : qH), K108 x0 x1 x2 x3 x4 h → qW p l e (qrm 1 0 0 22) s m args below meth c D cy b 6 0 0 (MQ below (qQc D cy b qrI Q) args s 0 0 (qA b)) 108 [(0, .inr (.inr (.inl x0))), (1, .inl x1), (2, .inl x2), (3, .inl x3), (4, .inl x4)] [] h) : qW p l e (qrm 1 0 0 22) s m args below meth c D cy b 6 0 0 (MQ below (qQc D cy b qrI Q) args s 0 0 (qA b)) 39 [(0, .inr (.inr (.inl x0))), (1, .inl x1), (2, .inl x2), (3, .inl x3), (4, .inl x4), (5, .inl x5)] [] h := by
  induction k generalizing x0 x1 x2 x3 x4 x5 h with
  | zero => exact hw.elim
  | succ k ih =>
    refine qx_iload (x := x5) X d_M_crossed_39 5 rfl ?_
    refine qx_aload_n (x := x0) X d_M_crossed_41 rfl 0 rfl ?_
    obtain ⟨g1, hw⟩ := hw
    refine qx_getR X qcls12 g1 26 (by decide) rfl wf_M_55 d_M_crossed_42 ?_
    refine qx_aload_n (x := x0) X d_M_crossed_45 rfl 0 rfl ?_
    refine qx_getI X qcls12 g1 18 (by decide) rfl wf_M_245 d_M_crossed_46 ?_
    obtain ⟨g2, hw⟩ := hw
    refine qx_ild X g2 d_M_crossed_49 ?_
    refine qx_icmp_ge X 108 d_M_crossed_50 (by decide) (fun q3 => ?_) (fun q3 => ?_)
    · have hw := hw.1 q3
      refine qx_sub [0, 1, 2, 3, 4] rfl ?_
      exact hK108 x0 x1 x2 x3 x4 h hw
    · have hw := hw.2 q3
      refine qx_aload_n (x := x0) X d_M_crossed_53 rfl 0 rfl ?_
      refine qx_getR X qcls12 g1 49 (by decide) rfl wf_M_113 d_M_crossed_54 ?_
      refine qx_bipush (v := (12 : Int32)) X d_M_crossed_57 (by decide) ?_
      refine qx_iload (x := x4) X d_M_crossed_59 4 rfl ?_
      refine qx_iadd X d_M_crossed_61 ?_
      obtain ⟨g4, hw⟩ := hw
      refine qx_ild X g4 d_M_crossed_62 ?_
      refine qx_iload (x := x5) X d_M_crossed_63 5 rfl ?_
      refine qx_icmp_ne X 102 d_M_crossed_65 (by decide) (fun q5 => ?_) (fun q5 => ?_)
      · have hw := hw.1 q5
        refine qx_iinc (v := (x5 + (1 : Int32))) (L' := [(5, .inl (x5 + (1 : Int32))), (0, .inr (.inr (.inl x0))), (1, .inl x1), (2, .inl x2), (3, .inl x3), (4, .inl x4)]) X d_M_crossed_102 5 rfl rfl (by decide) rfl ?_
        refine qx_goto X 39 d_M_crossed_105 (by decide) ?_
        refine qx_sub [1, 2, 3, 4, 5, 0] rfl ?_
        exact ih x0 x1 x2 x3 x4 (x5 + (1 : Int32)) h hw
      · have hw := hw.2 q5
        refine qx_aload_n (x := x0) X d_M_crossed_68 rfl 0 rfl ?_
        refine qx_getR X qcls12 g1 49 (by decide) rfl wf_M_113 d_M_crossed_69 ?_
        refine qx_bipush (v := (12 : Int32)) X d_M_crossed_72 (by decide) ?_
        refine qx_iload (x := x5) X d_M_crossed_74 5 rfl ?_
        refine qx_iadd X d_M_crossed_76 ?_
        obtain ⟨g6, hw⟩ := hw
        refine qx_ild X g6 d_M_crossed_77 ?_
        refine qx_iload (x := x4) X d_M_crossed_78 4 rfl ?_
        refine qx_icmp_eq X 86 d_M_crossed_80 (by decide) (fun q7 => ?_) (fun q7 => ?_)
        · have hw := hw.1 q7
          refine qx_iload_n (x := x2) X d_M_crossed_86 rfl 2 rfl ?_
          refine qx_if_ne X 99 d_M_crossed_87 (by decide) (fun q8 => ?_) (fun q8 => ?_)
          · have hw := hw.1 q8
            refine qx_iinc (v := (x2 + (1 : Int32))) (L' := [(2, .inl (x2 + (1 : Int32))), (0, .inr (.inr (.inl x0))), (1, .inl x1), (3, .inl x3), (4, .inl x4), (5, .inl x5)]) X d_M_crossed_99 2 rfl rfl (by decide) rfl ?_
            refine qx_iinc (v := (x5 + (1 : Int32))) (L' := [(5, .inl (x5 + (1 : Int32))), (2, .inl (x2 + (1 : Int32))), (0, .inr (.inr (.inl x0))), (1, .inl x1), (3, .inl x3), (4, .inl x4)]) X d_M_crossed_102 5 rfl rfl (by decide) rfl ?_
            refine qx_goto X 39 d_M_crossed_105 (by decide) ?_
            refine qx_sub [2, 3, 1, 4, 5, 0] rfl ?_
            exact ih x0 x1 (x2 + (1 : Int32)) x3 x4 (x5 + (1 : Int32)) h hw
          · have hw := hw.2 q8
            refine qx_bipush (v := (10 : Int32)) X d_M_crossed_90 (by decide) ?_
            refine qx_iload (x := x4) X d_M_crossed_92 4 rfl ?_
            refine qx_imul X d_M_crossed_94 ?_
            refine qx_iload (x := x5) X d_M_crossed_95 5 rfl ?_
            refine qx_iadd X d_M_crossed_97 ?_
            refine qx_topi (fun y9 ey9 => ?_)
            have hw := hw y9 ey9
            refine qx_istore_n (L' := [(3, .inl y9), (0, .inr (.inr (.inl x0))), (1, .inl x1), (2, .inl x2), (4, .inl x4), (5, .inl x5)]) X d_M_crossed_98 rfl (by decide) rfl ?_
            refine qx_iinc (v := (x2 + (1 : Int32))) (L' := [(2, .inl (x2 + (1 : Int32))), (3, .inl y9), (0, .inr (.inr (.inl x0))), (1, .inl x1), (4, .inl x4), (5, .inl x5)]) X d_M_crossed_99 3 rfl rfl (by decide) rfl ?_
            refine qx_iinc (v := (x5 + (1 : Int32))) (L' := [(5, .inl (x5 + (1 : Int32))), (2, .inl (x2 + (1 : Int32))), (3, .inl y9), (0, .inr (.inr (.inl x0))), (1, .inl x1), (4, .inl x4)]) X d_M_crossed_102 5 rfl rfl (by decide) rfl ?_
            refine qx_goto X 39 d_M_crossed_105 (by decide) ?_
            refine qx_sub [3, 4, 1, 2, 5, 0] rfl ?_
            exact ih x0 x1 (x2 + (1 : Int32)) y9 x4 (x5 + (1 : Int32)) h hw
        · have hw := hw.2 q7
          refine qx_goto X 102 d_M_crossed_83 (by decide) ?_
          refine qx_iinc (v := (x5 + (1 : Int32))) (L' := [(5, .inl (x5 + (1 : Int32))), (0, .inr (.inr (.inl x0))), (1, .inl x1), (2, .inl x2), (3, .inl x3), (4, .inl x4)]) X d_M_crossed_102 5 rfl rfl (by decide) rfl ?_
          refine qx_goto X 39 d_M_crossed_105 (by decide) ?_
          refine qx_sub [1, 2, 3, 4, 5, 0] rfl ?_
          exact ih x0 x1 x2 x3 x4 (x5 + (1 : Int32)) h hw
set_option maxRecDepth 4000 in
theorem t_M_crossed_19 (X : qX p s m args meth c D cy b adK adV prog_14_method_94_code "CoatHangersModel" 6 (some .int) "crossed") (N k : Nat) (x0 : Nat) (x1 : Int32) (x2 : Int32) (x3 : Int32) (x4 : Int32) (h : qH) (Q : Int32 → qH → Prop)  (hw : w_M_crossed_19 N k x0 x1 x2 x3 x4 h Q ) : qW p l e (qrm 1 0 0 22) s m args below meth c D cy b 6 0 0 (MQ below (qQc D cy b qrI Q) args s 0 0 (qA b)) 19 [(0, .inr (.inr (.inl x0))), (1, .inl x1), (2, .inl x2), (3, .inl x3), (4, .inl x4)] [] h := by
  induction k generalizing x0 x1 x2 x3 x4 h with
  | zero => exact hw.elim
  | succ k ih =>
    refine qx_iload (x := x4) X d_M_crossed_19 4 rfl ?_
    refine qx_aload_n (x := x0) X d_M_crossed_21 rfl 0 rfl ?_
    obtain ⟨g1, hw⟩ := hw
    refine qx_getR X qcls12 g1 26 (by decide) rfl wf_M_55 d_M_crossed_22 ?_
    refine qx_aload_n (x := x0) X d_M_crossed_25 rfl 0 rfl ?_
    refine qx_getI X qcls12 g1 18 (by decide) rfl wf_M_245 d_M_crossed_26 ?_
    obtain ⟨g2, hw⟩ := hw
    refine qx_ild X g2 d_M_crossed_29 ?_
    refine qx_icmp_ge X 114 d_M_crossed_30 (by decide) (fun q3 => ?_) (fun q3 => ?_)
    · have hw := hw.1 q3
      refine qx_iload_n (x := x1) X d_M_crossed_114 rfl 1 rfl ?_
      refine qx_if_ne X 122 d_M_crossed_115 (by decide) (fun q4 => ?_) (fun q4 => ?_)
      · have hw := hw.1 q4
        refine qx_iload_n (x := x3) X d_M_crossed_122 rfl 3 rfl ?_
        exact qx_iret X hw (Nat.le_refl 0) (Nat.le_refl 0) rfl d_M_crossed_123
      · have hw := hw.2 q4
        refine qx_iload_n (x := x2) X d_M_crossed_118 rfl 2 rfl ?_
        refine qx_goto X 123 d_M_crossed_119 (by decide) ?_
        exact qx_iret X hw (Nat.le_refl 0) (Nat.le_refl 0) rfl d_M_crossed_123
    · have hw := hw.2 q3
      refine qx_iload (x := x4) X d_M_crossed_33 4 rfl ?_
      refine qx_iconst (v := (1 : Int32)) X d_M_crossed_35 (by decide) ?_
      refine qx_iadd X d_M_crossed_36 ?_
      refine qx_topi (fun y5 ey5 => ?_)
      have hw := hw y5 ey5
      refine qx_istore (L' := [(5, .inl y5), (0, .inr (.inr (.inl x0))), (1, .inl x1), (2, .inl x2), (3, .inl x3), (4, .inl x4)]) X d_M_crossed_37 (by decide) rfl ?_
      refine qx_sub [1, 2, 3, 4, 5, 0] rfl ?_
      refine t_M_crossed_39 X N N x0 x1 x2 x3 x4 y5 h Q _ hw (fun x6 x7 x8 x9 x10 h11 hw => ?_)
      refine qx_iinc (v := (x10 + (1 : Int32))) (L' := [(4, .inl (x10 + (1 : Int32))), (0, .inr (.inr (.inl x6))), (1, .inl x7), (2, .inl x8), (3, .inl x9)]) X d_M_crossed_108 4 rfl rfl (by decide) rfl ?_
      refine qx_goto X 19 d_M_crossed_111 (by decide) ?_
      refine qx_sub [1, 2, 3, 4, 0] rfl ?_
      exact ih x6 x7 x8 x9 (x10 + (1 : Int32)) h11 hw
set_option maxRecDepth 4000 in
theorem t_M_crossed {adK adV : Nat → Nat} (l : Launch) (D : va_G) (cy : Nat → ClassId) (b : Nat) (N : Nat) (x0 : Nat) (x1 : Int32) (h : qH) (Q : Int32 → qH → Prop) (hw : w_M_crossed N x0 x1 h Q) : Met l y_M_crossed (Cond.code y_M_crossed prog_14_method_94_code 6 (some .int) :: qT) (qrm 1 0 0 22) (qPc D cy b adK adV h [qr b x0, .int x1]) (qQc D cy b qrI Q) 0 0 (qA b) := by
  refine qmet (L0 := [(0, .inr (.inr (.inl x0))), (1, .inl x1)]) qm_M_crossed (plainFor_of_name (by decide)) [.inr (.inr (.inl x0)), .inl x1] rfl (Nat.le_of_ble_eq_true rfl) rfl (fun p e s m args below meth c X => ?_)
  unfold w_M_crossed at hw
  refine qx_iload_n (x := x1) X d_M_crossed_0 rfl 1 rfl ?_
  refine qx_iconst (v := (0 : Int32)) X d_M_crossed_1 (by decide) ?_
  refine qx_iconst (v := (1 : Int32)) X d_M_crossed_2 (by decide) ?_
  refine qx_callSI (st := []) (As := [.int x1, .int (0 : Int32), .int (1 : Int32)]) X (t_M_in (adK := adK) (adV := adV) l D cy b N x1 (0 : Int32) (1 : Int32) h _ hw) qm_M_in wm_M_322 wi_M_in rfl rfl rfl ⟨Nat.le_of_ble_eq_true rfl, Nat.le_of_ble_eq_true rfl⟩ ⟨Nat.le_refl 0, Nat.le_refl 0⟩ (Nat.le_of_ble_eq_true rfl) rfl d_M_crossed_3 (fun r1 h2 hw => ?_)
  refine qx_if_ne X 11 d_M_crossed_6 (by decide) (fun q3 => ?_) (fun q3 => ?_)
  · have hw := hw.1 q3
    refine qx_iconst (v := (0 : Int32)) X d_M_crossed_11 (by decide) ?_
    refine qx_istore_n (L' := [(2, .inl (0 : Int32)), (0, .inr (.inr (.inl x0))), (1, .inl x1)]) X d_M_crossed_12 rfl (by decide) rfl ?_
    refine qx_bipush (v := (-2 : Int32)) X d_M_crossed_13 (by decide) ?_
    refine qx_istore_n (L' := [(3, .inl (-2 : Int32)), (2, .inl (0 : Int32)), (0, .inr (.inr (.inl x0))), (1, .inl x1)]) X d_M_crossed_15 rfl (by decide) rfl ?_
    refine qx_iconst (v := (0 : Int32)) X d_M_crossed_16 (by decide) ?_
    refine qx_istore (L' := [(4, .inl (0 : Int32)), (3, .inl (-2 : Int32)), (2, .inl (0 : Int32)), (0, .inr (.inr (.inl x0))), (1, .inl x1)]) X d_M_crossed_17 (by decide) rfl ?_
    refine qx_sub [3, 4, 2, 1, 0] rfl ?_
    exact t_M_crossed_19 X N N x0 x1 (0 : Int32) (-2 : Int32) (0 : Int32) h2 Q  hw 
  · have hw := hw.2 q3
    refine qx_iconst (v := (-1 : Int32)) X d_M_crossed_9 (by decide) ?_
    exact qx_iret X hw (Nat.le_refl 0) (Nat.le_refl 0) rfl d_M_crossed_10
set_option maxRecDepth 4000 in
theorem t_M_holder_12 (X : qX p s m args meth c D cy b adK adV prog_14_method_95_code "CoatHangersModel" 3 (some .int) "holder") (N k : Nat) (x0 : Nat) (x1 : Int32) (x2 : Int32) (h : qH) (Q : Int32 → qH → Prop)  (hw : w_M_holder_12 N k x0 x1 x2 h Q ) : qW p l e (qrm 2 0 0 43) s m args below meth c D cy b 3 0 0 (MQ below (qQc D cy b qrI Q) args s 0 0 (qA b)) 12 [(0, .inr (.inr (.inl x0))), (1, .inl x1), (2, .inl x2)] [] h := by
  induction k generalizing x0 x1 x2 h with
  | zero => exact hw.elim
  | succ k ih =>
    refine qx_iload_n (x := x2) X d_M_holder_12 rfl 2 rfl ?_
    refine qx_aload_n (x := x0) X d_M_holder_13 rfl 0 rfl ?_
    obtain ⟨g1, hw⟩ := hw
    refine qx_getR X qcls12 g1 26 (by decide) rfl wf_M_55 d_M_holder_14 ?_
    refine qx_aload_n (x := x0) X d_M_holder_17 rfl 0 rfl ?_
    refine qx_getI X qcls12 g1 18 (by decide) rfl wf_M_245 d_M_holder_18 ?_
    obtain ⟨g2, hw⟩ := hw
    refine qx_ild X g2 d_M_holder_21 ?_
    refine qx_icmp_ge X 46 d_M_holder_22 (by decide) (fun q3 => ?_) (fun q3 => ?_)
    · have hw := hw.1 q3
      refine qx_iconst (v := (-1 : Int32)) X d_M_holder_46 (by decide) ?_
      exact qx_iret X hw (Nat.le_refl 0) (Nat.le_refl 0) rfl d_M_holder_47
    · have hw := hw.2 q3
      refine qx_aload_n (x := x0) X d_M_holder_25 rfl 0 rfl ?_
      refine qx_getR X qcls12 g1 49 (by decide) rfl wf_M_113 d_M_holder_26 ?_
      refine qx_bipush (v := (12 : Int32)) X d_M_holder_29 (by decide) ?_
      refine qx_iload_n (x := x2) X d_M_holder_31 rfl 2 rfl ?_
      refine qx_iadd X d_M_holder_32 ?_
      obtain ⟨g4, hw⟩ := hw
      refine qx_ild X g4 d_M_holder_33 ?_
      refine qx_iload_n (x := x1) X d_M_holder_34 rfl 1 rfl ?_
      refine qx_icmp_ne X 40 d_M_holder_35 (by decide) (fun q5 => ?_) (fun q5 => ?_)
      · have hw := hw.1 q5
        refine qx_iinc (v := (x2 + (1 : Int32))) (L' := [(2, .inl (x2 + (1 : Int32))), (0, .inr (.inr (.inl x0))), (1, .inl x1)]) X d_M_holder_40 2 rfl rfl (by decide) rfl ?_
        refine qx_goto X 12 d_M_holder_43 (by decide) ?_
        refine qx_sub [1, 2, 0] rfl ?_
        exact ih x0 x1 (x2 + (1 : Int32)) h hw
      · have hw := hw.2 q5
        refine qx_iload_n (x := x2) X d_M_holder_38 rfl 2 rfl ?_
        exact qx_iret X hw (Nat.le_refl 0) (Nat.le_refl 0) rfl d_M_holder_39
set_option maxRecDepth 4000 in
theorem t_M_holder {adK adV : Nat → Nat} (l : Launch) (D : va_G) (cy : Nat → ClassId) (b : Nat) (N : Nat) (x0 : Nat) (x1 : Int32) (h : qH) (Q : Int32 → qH → Prop) (hw : w_M_holder N x0 x1 h Q) : Met l y_M_holder (Cond.code y_M_holder prog_14_method_95_code 3 (some .int) :: qT) (qrm 2 0 0 43) (qPc D cy b adK adV h [qr b x0, .int x1]) (qQc D cy b qrI Q) 0 0 (qA b) := by
  refine qmet (L0 := [(0, .inr (.inr (.inl x0))), (1, .inl x1)]) qm_M_holder (plainFor_of_name (by decide)) [.inr (.inr (.inl x0)), .inl x1] rfl (Nat.le_of_ble_eq_true rfl) rfl (fun p e s m args below meth c X => ?_)
  unfold w_M_holder at hw
  refine qx_aload_n (x := x0) X d_M_holder_0 rfl 0 rfl ?_
  refine qx_iload_n (x := x1) X d_M_holder_1 rfl 1 rfl ?_
  obtain ⟨g1, hw⟩ := hw
  refine qx_callVI (st := []) (As := [.int x1]) X (t_M_isPerson (adK := adK) (adV := adV) l D cy b N x0 x1 h _ hw) qm_M_isPerson wm_M_392 wi_M_isPerson wl_M_isPerson qcls12 g1 rfl rfl rfl ⟨Nat.le_of_ble_eq_true rfl, Nat.le_of_ble_eq_true rfl⟩ ⟨Nat.le_refl 0, Nat.le_refl 0⟩ (Nat.le_of_ble_eq_true rfl) rfl d_M_holder_2 (fun r2 h3 hw => ?_)
  refine qx_if_ne X 10 d_M_holder_5 (by decide) (fun q4 => ?_) (fun q4 => ?_)
  · have hw := hw.1 q4
    refine qx_iconst (v := (0 : Int32)) X d_M_holder_10 (by decide) ?_
    refine qx_istore_n (L' := [(2, .inl (0 : Int32)), (0, .inr (.inr (.inl x0))), (1, .inl x1)]) X d_M_holder_11 rfl (by decide) rfl ?_
    refine qx_sub [1, 2, 0] rfl ?_
    exact t_M_holder_12 X N N x0 x1 (0 : Int32) h3 Q  hw 
  · have hw := hw.2 q4
    refine qx_iconst (v := (-1 : Int32)) X d_M_holder_8 (by decide) ?_
    exact qx_iret X hw (Nat.le_refl 0) (Nat.le_refl 0) rfl d_M_holder_9
set_option maxRecDepth 4000 in
theorem t_M_fit_29 (X : qX p s m args meth c D cy b adK adV prog_14_method_96_code "CoatHangersModel" 5 (some .int) "fit") (N k : Nat) (x0 : Nat) (x1 : Int32) (x2 : Int32) (x3 : Int32) (x4 : Int32) (h : qH) (Q : Int32 → qH → Prop) (K72 : Nat → Int32 → Int32 → Int32 → qH → Prop) (hw : w_M_fit_29 N k x0 x1 x2 x3 x4 h Q K72) (hK72 : ∀ (x0 : Nat) (x1 : Int32) (x2 : Int32) (x3 : Int32) (h : qH), K72 x0 x1 x2 x3 h → qW p l e (qrm 3 0 0 75) s m args below meth c D cy b 5 0 0 (MQ below (qQc D cy b qrI Q) args s 0 0 (qA b)) 72 [(0, .inr (.inr (.inl x0))), (1, .inl x1), (2, .inl x2), (3, .inl x3)] [] h) : qW p l e (qrm 3 0 0 75) s m args below meth c D cy b 5 0 0 (MQ below (qQc D cy b qrI Q) args s 0 0 (qA b)) 29 [(0, .inr (.inr (.inl x0))), (1, .inl x1), (2, .inl x2), (3, .inl x3), (4, .inl x4)] [] h := by
  induction k generalizing x0 x1 x2 x3 x4 h with
  | zero => exact hw.elim
  | succ k ih =>
    refine qx_iload (x := x4) X d_M_fit_29 4 rfl ?_
    refine qx_aload_n (x := x0) X d_M_fit_31 rfl 0 rfl ?_
    obtain ⟨g1, hw⟩ := hw
    refine qx_getR X qcls12 g1 23 (by decide) rfl wf_M_46 d_M_fit_32 ?_
    refine qx_aload_n (x := x0) X d_M_fit_35 rfl 0 rfl ?_
    refine qx_getI X qcls12 g1 18 (by decide) rfl wf_M_245 d_M_fit_36 ?_
    obtain ⟨g2, hw⟩ := hw
    refine qx_ild X g2 d_M_fit_39 ?_
    refine qx_icmp_ge X 72 d_M_fit_40 (by decide) (fun q3 => ?_) (fun q3 => ?_)
    · have hw := hw.1 q3
      refine qx_sub [0, 1, 2, 3] rfl ?_
      exact hK72 x0 x1 x2 x3 h hw
    · have hw := hw.2 q3
      refine qx_iload_n (x := x3) X d_M_fit_43 rfl 3 rfl ?_
      refine qx_if_lt X 63 d_M_fit_44 (by decide) (fun q4 => ?_) (fun q4 => ?_)
      · have hw := hw.1 q4
        refine qx_iload (x := x4) X d_M_fit_63 4 rfl ?_
        refine qx_istore_n (L' := [(3, .inl x4), (0, .inr (.inr (.inl x0))), (1, .inl x1), (2, .inl x2), (4, .inl x4)]) X d_M_fit_65 rfl (by decide) rfl ?_
        refine qx_iinc (v := (x4 + (1 : Int32))) (L' := [(4, .inl (x4 + (1 : Int32))), (3, .inl x4), (0, .inr (.inr (.inl x0))), (1, .inl x1), (2, .inl x2)]) X d_M_fit_66 4 rfl rfl (by decide) rfl ?_
        refine qx_goto X 29 d_M_fit_69 (by decide) ?_
        refine qx_sub [2, 3, 4, 1, 0] rfl ?_
        exact ih x0 x1 x2 x4 (x4 + (1 : Int32)) h hw
      · have hw := hw.2 q4
        refine qx_aload_n (x := x0) X d_M_fit_47 rfl 0 rfl ?_
        refine qx_iload_n (x := x1) X d_M_fit_48 rfl 1 rfl ?_
        refine qx_iload (x := x4) X d_M_fit_49 4 rfl ?_
        refine qx_callVI (st := []) (As := [.int x1, .int x4]) X (t_M_costsAt (adK := adK) (adV := adV) l D cy b N x0 x1 x4 h _ hw) qm_M_costsAt wm_M_417 wi_M_costsAt wl_M_costsAt qcls12 g1 rfl rfl rfl ⟨Nat.le_of_ble_eq_true rfl, Nat.le_of_ble_eq_true rfl⟩ ⟨Nat.le_refl 0, Nat.le_refl 0⟩ (Nat.le_of_ble_eq_true rfl) rfl d_M_fit_51 (fun r5 h6 hw => ?_)
        refine qx_aload_n (x := x0) X d_M_fit_54 rfl 0 rfl ?_
        refine qx_iload_n (x := x1) X d_M_fit_55 rfl 1 rfl ?_
        refine qx_iload_n (x := x3) X d_M_fit_56 rfl 3 rfl ?_
        obtain ⟨g7, hw⟩ := hw
        refine qx_callVI (st := [.int r5]) (As := [.int x1, .int x3]) X (t_M_costsAt (adK := adK) (adV := adV) l D cy b N x0 x1 x3 h6 _ hw) qm_M_costsAt wm_M_417 wi_M_costsAt wl_M_costsAt qcls12 g7 rfl rfl rfl ⟨Nat.le_of_ble_eq_true rfl, Nat.le_of_ble_eq_true rfl⟩ ⟨Nat.le_refl 0, Nat.le_refl 0⟩ (Nat.le_of_ble_eq_true rfl) rfl d_M_fit_57 (fun r8 h9 hw => ?_)
        refine qx_icmp_ge X 66 d_M_fit_60 (by decide) (fun q10 => ?_) (fun q10 => ?_)
        · have hw := hw.1 q10
          refine qx_iinc (v := (x4 + (1 : Int32))) (L' := [(4, .inl (x4 + (1 : Int32))), (0, .inr (.inr (.inl x0))), (1, .inl x1), (2, .inl x2), (3, .inl x3)]) X d_M_fit_66 4 rfl rfl (by decide) rfl ?_
          refine qx_goto X 29 d_M_fit_69 (by decide) ?_
          refine qx_sub [1, 2, 3, 4, 0] rfl ?_
          exact ih x0 x1 x2 x3 (x4 + (1 : Int32)) h9 hw
        · have hw := hw.2 q10
          refine qx_iload (x := x4) X d_M_fit_63 4 rfl ?_
          refine qx_istore_n (L' := [(3, .inl x4), (0, .inr (.inr (.inl x0))), (1, .inl x1), (2, .inl x2), (4, .inl x4)]) X d_M_fit_65 rfl (by decide) rfl ?_
          refine qx_iinc (v := (x4 + (1 : Int32))) (L' := [(4, .inl (x4 + (1 : Int32))), (3, .inl x4), (0, .inr (.inr (.inl x0))), (1, .inl x1), (2, .inl x2)]) X d_M_fit_66 4 rfl rfl (by decide) rfl ?_
          refine qx_goto X 29 d_M_fit_69 (by decide) ?_
          refine qx_sub [2, 3, 4, 1, 0] rfl ?_
          exact ih x0 x1 x2 x4 (x4 + (1 : Int32)) h9 hw
set_option maxRecDepth 4000 in
theorem t_M_fit {adK adV : Nat → Nat} (l : Launch) (D : va_G) (cy : Nat → ClassId) (b : Nat) (N : Nat) (x0 : Nat) (x1 : Int32) (x2 : Int32) (h : qH) (Q : Int32 → qH → Prop) (hw : w_M_fit N x0 x1 x2 h Q) : Met l y_M_fit (Cond.code y_M_fit prog_14_method_96_code 5 (some .int) :: qT) (qrm 3 0 0 75) (qPc D cy b adK adV h [qr b x0, .int x1, .int x2]) (qQc D cy b qrI Q) 0 0 (qA b) := by
  refine qmet (L0 := [(0, .inr (.inr (.inl x0))), (1, .inl x1), (2, .inl x2)]) qm_M_fit (plainFor_of_name (by decide)) [.inr (.inr (.inl x0)), .inl x1, .inl x2] rfl (Nat.le_of_ble_eq_true rfl) rfl (fun p e s m args below meth c X => ?_)
  unfold w_M_fit at hw
  refine qx_aload_n (x := x0) X d_M_fit_0 rfl 0 rfl ?_
  refine qx_iload_n (x := x1) X d_M_fit_1 rfl 1 rfl ?_
  obtain ⟨g1, hw⟩ := hw
  refine qx_callVI (st := []) (As := [.int x1]) X (t_M_isPerson (adK := adK) (adV := adV) l D cy b N x0 x1 h _ hw) qm_M_isPerson wm_M_392 wi_M_isPerson wl_M_isPerson qcls12 g1 rfl rfl rfl ⟨Nat.le_of_ble_eq_true rfl, Nat.le_of_ble_eq_true rfl⟩ ⟨Nat.le_refl 0, Nat.le_refl 0⟩ (Nat.le_of_ble_eq_true rfl) rfl d_M_fit_2 (fun r2 h3 hw => ?_)
  refine qx_if_eq X 17 d_M_fit_5 (by decide) (fun q4 => ?_) (fun q4 => ?_)
  · have hw := hw.1 q4
    refine qx_iconst (v := (-1 : Int32)) X d_M_fit_17 (by decide) ?_
    exact qx_iret X hw (Nat.le_refl 0) (Nat.le_refl 0) rfl d_M_fit_18
  · have hw := hw.2 q4
    refine qx_iload_n (x := x2) X d_M_fit_8 rfl 2 rfl ?_
    refine qx_iconst (v := (0 : Int32)) X d_M_fit_9 (by decide) ?_
    refine qx_iconst (v := (1 : Int32)) X d_M_fit_10 (by decide) ?_
    refine qx_callSI (st := []) (As := [.int x2, .int (0 : Int32), .int (1 : Int32)]) X (t_M_in (adK := adK) (adV := adV) l D cy b N x2 (0 : Int32) (1 : Int32) h3 _ hw) qm_M_in wm_M_322 wi_M_in rfl rfl rfl ⟨Nat.le_of_ble_eq_true rfl, Nat.le_of_ble_eq_true rfl⟩ ⟨Nat.le_refl 0, Nat.le_refl 0⟩ (Nat.le_of_ble_eq_true rfl) rfl d_M_fit_11 (fun r5 h6 hw => ?_)
    refine qx_if_ne X 19 d_M_fit_14 (by decide) (fun q7 => ?_) (fun q7 => ?_)
    · have hw := hw.1 q7
      refine qx_aload_n (x := x0) X d_M_fit_19 rfl 0 rfl ?_
      obtain ⟨g8, hw⟩ := hw
      refine qx_callVV (st := []) (As := []) X (t_M_copies (adK := adK) (adV := adV) l D cy b N x0 h6 _ hw) qm_M_copies wm_M_332 wi_M_copies wl_M_copies qcls12 g8 rfl rfl rfl ⟨Nat.le_of_ble_eq_true rfl, Nat.le_of_ble_eq_true rfl⟩ ⟨Nat.le_refl 0, Nat.le_refl 0⟩ (Nat.le_of_ble_eq_true rfl) rfl d_M_fit_20 (fun h9 hw => ?_)
      refine qx_bipush (v := (-2 : Int32)) X d_M_fit_23 (by decide) ?_
      refine qx_istore_n (L' := [(3, .inl (-2 : Int32)), (0, .inr (.inr (.inl x0))), (1, .inl x1), (2, .inl x2)]) X d_M_fit_25 rfl (by decide) rfl ?_
      refine qx_iconst (v := (0 : Int32)) X d_M_fit_26 (by decide) ?_
      refine qx_istore (L' := [(4, .inl (0 : Int32)), (3, .inl (-2 : Int32)), (0, .inr (.inr (.inl x0))), (1, .inl x1), (2, .inl x2)]) X d_M_fit_27 (by decide) rfl ?_
      refine qx_sub [2, 3, 4, 1, 0] rfl ?_
      refine t_M_fit_29 X N N x0 x1 x2 (-2 : Int32) (0 : Int32) h9 Q _ hw (fun x10 x11 x12 x13 h14 hw => ?_)
      refine qx_iload_n (x := x13) X d_M_fit_72 rfl 3 rfl ?_
      refine qx_if_lt X 80 d_M_fit_73 (by decide) (fun q15 => ?_) (fun q15 => ?_)
      · have hw := hw.1 q15
        refine qx_iload_n (x := x13) X d_M_fit_80 rfl 3 rfl ?_
        refine qx_goto X 90 d_M_fit_81 (by decide) ?_
        exact qx_iret X hw (Nat.le_refl 0) (Nat.le_refl 0) rfl d_M_fit_90
      · have hw := hw.2 q15
        refine qx_iload_n (x := x12) X d_M_fit_76 rfl 2 rfl ?_
        refine qx_if_ne X 84 d_M_fit_77 (by decide) (fun q16 => ?_) (fun q16 => ?_)
        · have hw := hw.1 q16
          refine qx_aload_n (x := x10) X d_M_fit_84 rfl 0 rfl ?_
          refine qx_iload_n (x := x11) X d_M_fit_85 rfl 1 rfl ?_
          refine qx_iload_n (x := x13) X d_M_fit_86 rfl 3 rfl ?_
          obtain ⟨g17, hw⟩ := hw
          refine qx_callVI (st := []) (As := [.int x11, .int x13]) X (t_M_costsAt (adK := adK) (adV := adV) l D cy b N x10 x11 x13 h14 _ hw) qm_M_costsAt wm_M_417 wi_M_costsAt wl_M_costsAt qcls12 g17 rfl rfl rfl ⟨Nat.le_of_ble_eq_true rfl, Nat.le_of_ble_eq_true rfl⟩ ⟨Nat.le_refl 0, Nat.le_refl 0⟩ (Nat.le_of_ble_eq_true rfl) rfl d_M_fit_87 (fun r18 h19 hw => ?_)
          exact qx_iret X hw (Nat.le_refl 0) (Nat.le_refl 0) rfl d_M_fit_90
        · have hw := hw.2 q16
          refine qx_iload_n (x := x13) X d_M_fit_80 rfl 3 rfl ?_
          refine qx_goto X 90 d_M_fit_81 (by decide) ?_
          exact qx_iret X hw (Nat.le_refl 0) (Nat.le_refl 0) rfl d_M_fit_90
    · have hw := hw.2 q7
      refine qx_iconst (v := (-1 : Int32)) X d_M_fit_17 (by decide) ?_
      exact qx_iret X hw (Nat.le_refl 0) (Nat.le_refl 0) rfl d_M_fit_18
end QG
